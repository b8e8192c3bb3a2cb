/-! methods: X12_makePart, X12_glyph, X1_fillIn, X3_glyphsHold, X4_findFault, X5_vectorCodes, X5_singlePointCodes -/
theorem dX12_makePart_0 : decode cX12_makePart 0 = .ok (.aload_n 0, 1) := by decide +kernel
theorem dX12_makePart_1 : decode cX12_makePart 1 = .ok (.getfield 807, 3) := by decide +kernel
theorem dX12_makePart_4 : decode cX12_makePart 4 = .ok (.bipush 60, 2) := by decide +kernel
theorem dX12_makePart_6 : decode cX12_makePart 6 = .ok (.if_icmp .ne 10, 3) := by decide +kernel
theorem dX12_makePart_9 : decode cX12_makePart 9 = .ok (.aload_n 0, 1) := by decide +kernel
theorem dX12_makePart_10 : decode cX12_makePart 10 = .ok (.bipush 12, 2) := by decide +kernel
theorem dX12_makePart_12 : decode cX12_makePart 12 = .ok (.invokevirtual 795, 3) := by decide +kernel
theorem dX12_makePart_15 : decode cX12_makePart 15 = .ok (.return_, 1) := by decide +kernel
theorem dX12_makePart_16 : decode cX12_makePart 16 = .ok (.aload_n 0, 1) := by decide +kernel
theorem dX12_makePart_17 : decode cX12_makePart 17 = .ok (.dup, 1) := by decide +kernel
theorem dX12_makePart_18 : decode cX12_makePart 18 = .ok (.getfield 807, 3) := by decide +kernel
theorem dX12_makePart_21 : decode cX12_makePart 21 = .ok (.iconst 1, 1) := by decide +kernel
theorem dX12_makePart_22 : decode cX12_makePart 22 = .ok (.iadd, 1) := by decide +kernel
theorem dX12_makePart_23 : decode cX12_makePart 23 = .ok (.putfield 807, 3) := by decide +kernel
theorem dX12_makePart_26 : decode cX12_makePart 26 = .ok (.aload_n 0, 1) := by decide +kernel
theorem dX12_makePart_27 : decode cX12_makePart 27 = .ok (.iload_n 1, 1) := by decide +kernel
theorem dX12_makePart_28 : decode cX12_makePart 28 = .ok (.invokevirtual 278, 3) := by decide +kernel
theorem dX12_makePart_31 : decode cX12_makePart 31 = .ok (.istore 4, 2) := by decide +kernel
theorem dX12_makePart_33 : decode cX12_makePart 33 = .ok (.aload_n 0, 1) := by decide +kernel
theorem dX12_makePart_34 : decode cX12_makePart 34 = .ok (.getfield 45, 3) := by decide +kernel
theorem dX12_makePart_37 : decode cX12_makePart 37 = .ok (.iload_n 2, 1) := by decide +kernel
theorem dX12_makePart_38 : decode cX12_makePart 38 = .ok (.iaload, 1) := by decide +kernel
theorem dX12_makePart_39 : decode cX12_makePart 39 = .ok (.istore 5, 2) := by decide +kernel
theorem dX12_makePart_41 : decode cX12_makePart 41 = .ok (.aload_n 0, 1) := by decide +kernel
theorem dX12_makePart_42 : decode cX12_makePart 42 = .ok (.iload 5, 2) := by decide +kernel
theorem dX12_makePart_44 : decode cX12_makePart 44 = .ok (.iload_n 3, 1) := by decide +kernel
theorem dX12_makePart_45 : decode cX12_makePart 45 = .ok (.iconst 1, 1) := by decide +kernel
theorem dX12_makePart_46 : decode cX12_makePart 46 = .ok (.iadd, 1) := by decide +kernel
theorem dX12_makePart_47 : decode cX12_makePart 47 = .ok (.invokevirtual 810, 3) := by decide +kernel
theorem dX12_makePart_50 : decode cX12_makePart 50 = .ok (.aload_n 0, 1) := by decide +kernel
theorem dX12_makePart_51 : decode cX12_makePart 51 = .ok (.iload_n 1, 1) := by decide +kernel
theorem dX12_makePart_52 : decode cX12_makePart 52 = .ok (.invokevirtual 278, 3) := by decide +kernel
theorem dX12_makePart_55 : decode cX12_makePart 55 = .ok (.istore 4, 2) := by decide +kernel
theorem dX12_makePart_57 : decode cX12_makePart 57 = .ok (.aload_n 0, 1) := by decide +kernel
theorem dX12_makePart_58 : decode cX12_makePart 58 = .ok (.getfield 409, 3) := by decide +kernel
theorem dX12_makePart_61 : decode cX12_makePart 61 = .ok (.ifCond .le 4, 3) := by decide +kernel
theorem dX12_makePart_64 : decode cX12_makePart 64 = .ok (.return_, 1) := by decide +kernel
theorem dX12_makePart_65 : decode cX12_makePart 65 = .ok (.bipush 102, 2) := by decide +kernel
theorem dX12_makePart_67 : decode cX12_makePart 67 = .ok (.iload_n 3, 1) := by decide +kernel
theorem dX12_makePart_68 : decode cX12_makePart 68 = .ok (.imul, 1) := by decide +kernel
theorem dX12_makePart_69 : decode cX12_makePart 69 = .ok (.istore 6, 2) := by decide +kernel
theorem dX12_makePart_71 : decode cX12_makePart 71 = .ok (.iload 6, 2) := by decide +kernel
theorem dX12_makePart_73 : decode cX12_makePart 73 = .ok (.bipush 102, 2) := by decide +kernel
theorem dX12_makePart_75 : decode cX12_makePart 75 = .ok (.iadd, 1) := by decide +kernel
theorem dX12_makePart_76 : decode cX12_makePart 76 = .ok (.istore 7, 2) := by decide +kernel
theorem dX12_makePart_78 : decode cX12_makePart 78 = .ok (.aload_n 0, 1) := by decide +kernel
theorem dX12_makePart_79 : decode cX12_makePart 79 = .ok (.getfield 146, 3) := by decide +kernel
theorem dX12_makePart_82 : decode cX12_makePart 82 = .ok (.iload_n 3, 1) := by decide +kernel
theorem dX12_makePart_83 : decode cX12_makePart 83 = .ok (.iaload, 1) := by decide +kernel
theorem dX12_makePart_84 : decode cX12_makePart 84 = .ok (.istore 8, 2) := by decide +kernel
theorem dX12_makePart_86 : decode cX12_makePart 86 = .ok (.aload_n 0, 1) := by decide +kernel
theorem dX12_makePart_87 : decode cX12_makePart 87 = .ok (.getfield 146, 3) := by decide +kernel
theorem dX12_makePart_90 : decode cX12_makePart 90 = .ok (.iload_n 3, 1) := by decide +kernel
theorem dX12_makePart_91 : decode cX12_makePart 91 = .ok (.iconst 1, 1) := by decide +kernel
theorem dX12_makePart_92 : decode cX12_makePart 92 = .ok (.iadd, 1) := by decide +kernel
theorem dX12_makePart_93 : decode cX12_makePart 93 = .ok (.iaload, 1) := by decide +kernel
theorem dX12_makePart_94 : decode cX12_makePart 94 = .ok (.istore 9, 2) := by decide +kernel
theorem dX12_makePart_96 : decode cX12_makePart 96 = .ok (.iload 8, 2) := by decide +kernel
theorem dX12_makePart_98 : decode cX12_makePart 98 = .ok (.iload 9, 2) := by decide +kernel
theorem dX12_makePart_100 : decode cX12_makePart 100 = .ok (.iadd, 1) := by decide +kernel
theorem dX12_makePart_101 : decode cX12_makePart 101 = .ok (.bipush 100, 2) := by decide +kernel
theorem dX12_makePart_103 : decode cX12_makePart 103 = .ok (.if_icmp .gt 23, 3) := by decide +kernel
theorem dX12_makePart_106 : decode cX12_makePart 106 = .ok (.aload_n 0, 1) := by decide +kernel
theorem dX12_makePart_107 : decode cX12_makePart 107 = .ok (.getfield 149, 3) := by decide +kernel
theorem dX12_makePart_110 : decode cX12_makePart 110 = .ok (.iload_n 3, 1) := by decide +kernel
theorem dX12_makePart_111 : decode cX12_makePart 111 = .ok (.iaload, 1) := by decide +kernel
theorem dX12_makePart_112 : decode cX12_makePart 112 = .ok (.aload_n 0, 1) := by decide +kernel
theorem dX12_makePart_113 : decode cX12_makePart 113 = .ok (.getfield 149, 3) := by decide +kernel
theorem dX12_makePart_116 : decode cX12_makePart 116 = .ok (.iload_n 3, 1) := by decide +kernel
theorem dX12_makePart_117 : decode cX12_makePart 117 = .ok (.iconst 1, 1) := by decide +kernel
theorem dX12_makePart_118 : decode cX12_makePart 118 = .ok (.iadd, 1) := by decide +kernel
theorem dX12_makePart_119 : decode cX12_makePart 119 = .ok (.iaload, 1) := by decide +kernel
theorem dX12_makePart_120 : decode cX12_makePart 120 = .ok (.iadd, 1) := by decide +kernel
theorem dX12_makePart_121 : decode cX12_makePart 121 = .ok (.bipush 20, 2) := by decide +kernel
theorem dX12_makePart_123 : decode cX12_makePart 123 = .ok (.if_icmp .le 10, 3) := by decide +kernel
theorem dX12_makePart_126 : decode cX12_makePart 126 = .ok (.aload_n 0, 1) := by decide +kernel
theorem dX12_makePart_127 : decode cX12_makePart 127 = .ok (.bipush 12, 2) := by decide +kernel
theorem dX12_makePart_129 : decode cX12_makePart 129 = .ok (.invokevirtual 795, 3) := by decide +kernel
theorem dX12_makePart_132 : decode cX12_makePart 132 = .ok (.return_, 1) := by decide +kernel
theorem dX12_makePart_133 : decode cX12_makePart 133 = .ok (.aload_n 0, 1) := by decide +kernel
theorem dX12_makePart_134 : decode cX12_makePart 134 = .ok (.getfield 54, 3) := by decide +kernel
theorem dX12_makePart_137 : decode cX12_makePart 137 = .ok (.iconst 4, 1) := by decide +kernel
theorem dX12_makePart_138 : decode cX12_makePart 138 = .ok (.iload_n 2, 1) := by decide +kernel
theorem dX12_makePart_139 : decode cX12_makePart 139 = .ok (.imul, 1) := by decide +kernel
theorem dX12_makePart_140 : decode cX12_makePart 140 = .ok (.iaload, 1) := by decide +kernel
theorem dX12_makePart_141 : decode cX12_makePart 141 = .ok (.i2l, 1) := by decide +kernel
theorem dX12_makePart_142 : decode cX12_makePart 142 = .ok (.lstore 10, 2) := by decide +kernel
theorem dX12_makePart_144 : decode cX12_makePart 144 = .ok (.aload_n 0, 1) := by decide +kernel
theorem dX12_makePart_145 : decode cX12_makePart 145 = .ok (.getfield 54, 3) := by decide +kernel
theorem dX12_makePart_148 : decode cX12_makePart 148 = .ok (.iconst 4, 1) := by decide +kernel
theorem dX12_makePart_149 : decode cX12_makePart 149 = .ok (.iload_n 2, 1) := by decide +kernel
theorem dX12_makePart_150 : decode cX12_makePart 150 = .ok (.imul, 1) := by decide +kernel
theorem dX12_makePart_151 : decode cX12_makePart 151 = .ok (.iconst 1, 1) := by decide +kernel
theorem dX12_makePart_152 : decode cX12_makePart 152 = .ok (.iadd, 1) := by decide +kernel
theorem dX12_makePart_153 : decode cX12_makePart 153 = .ok (.iaload, 1) := by decide +kernel
theorem dX12_makePart_154 : decode cX12_makePart 154 = .ok (.i2l, 1) := by decide +kernel
theorem dX12_makePart_155 : decode cX12_makePart 155 = .ok (.lstore 12, 2) := by decide +kernel
theorem dX12_makePart_157 : decode cX12_makePart 157 = .ok (.aload_n 0, 1) := by decide +kernel
theorem dX12_makePart_158 : decode cX12_makePart 158 = .ok (.getfield 54, 3) := by decide +kernel
theorem dX12_makePart_161 : decode cX12_makePart 161 = .ok (.iconst 4, 1) := by decide +kernel
theorem dX12_makePart_162 : decode cX12_makePart 162 = .ok (.iload_n 2, 1) := by decide +kernel
theorem dX12_makePart_163 : decode cX12_makePart 163 = .ok (.imul, 1) := by decide +kernel
theorem dX12_makePart_164 : decode cX12_makePart 164 = .ok (.iconst 2, 1) := by decide +kernel
theorem dX12_makePart_165 : decode cX12_makePart 165 = .ok (.iadd, 1) := by decide +kernel
theorem dX12_makePart_166 : decode cX12_makePart 166 = .ok (.iaload, 1) := by decide +kernel
theorem dX12_makePart_167 : decode cX12_makePart 167 = .ok (.i2l, 1) := by decide +kernel
theorem dX12_makePart_168 : decode cX12_makePart 168 = .ok (.lstore 14, 2) := by decide +kernel
theorem dX12_makePart_170 : decode cX12_makePart 170 = .ok (.aload_n 0, 1) := by decide +kernel
theorem dX12_makePart_171 : decode cX12_makePart 171 = .ok (.getfield 54, 3) := by decide +kernel
theorem dX12_makePart_174 : decode cX12_makePart 174 = .ok (.iconst 4, 1) := by decide +kernel
theorem dX12_makePart_175 : decode cX12_makePart 175 = .ok (.iload_n 2, 1) := by decide +kernel
theorem dX12_makePart_176 : decode cX12_makePart 176 = .ok (.imul, 1) := by decide +kernel
theorem dX12_makePart_177 : decode cX12_makePart 177 = .ok (.iconst 3, 1) := by decide +kernel
theorem dX12_makePart_178 : decode cX12_makePart 178 = .ok (.iadd, 1) := by decide +kernel
theorem dX12_makePart_179 : decode cX12_makePart 179 = .ok (.iaload, 1) := by decide +kernel
theorem dX12_makePart_180 : decode cX12_makePart 180 = .ok (.i2l, 1) := by decide +kernel
theorem dX12_makePart_181 : decode cX12_makePart 181 = .ok (.lstore 16, 2) := by decide +kernel
theorem dX12_makePart_183 : decode cX12_makePart 183 = .ok (.iconst 0, 1) := by decide +kernel
theorem dX12_makePart_184 : decode cX12_makePart 184 = .ok (.istore 18, 2) := by decide +kernel
theorem dX12_makePart_186 : decode cX12_makePart 186 = .ok (.iload 18, 2) := by decide +kernel
theorem dX12_makePart_188 : decode cX12_makePart 188 = .ok (.iload 9, 2) := by decide +kernel
theorem dX12_makePart_190 : decode cX12_makePart 190 = .ok (.if_icmp .ge 120, 3) := by decide +kernel
theorem dX12_makePart_193 : decode cX12_makePart 193 = .ok (.aload_n 0, 1) := by decide +kernel
theorem dX12_makePart_194 : decode cX12_makePart 194 = .ok (.getfield 152, 3) := by decide +kernel
theorem dX12_makePart_197 : decode cX12_makePart 197 = .ok (.iload 7, 2) := by decide +kernel
theorem dX12_makePart_199 : decode cX12_makePart 199 = .ok (.iload 18, 2) := by decide +kernel
theorem dX12_makePart_201 : decode cX12_makePart 201 = .ok (.iadd, 1) := by decide +kernel
theorem dX12_makePart_202 : decode cX12_makePart 202 = .ok (.iaload, 1) := by decide +kernel
theorem dX12_makePart_203 : decode cX12_makePart 203 = .ok (.i2l, 1) := by decide +kernel
theorem dX12_makePart_204 : decode cX12_makePart 204 = .ok (.lstore 19, 2) := by decide +kernel
theorem dX12_makePart_206 : decode cX12_makePart 206 = .ok (.aload_n 0, 1) := by decide +kernel
theorem dX12_makePart_207 : decode cX12_makePart 207 = .ok (.getfield 155, 3) := by decide +kernel
theorem dX12_makePart_210 : decode cX12_makePart 210 = .ok (.iload 7, 2) := by decide +kernel
theorem dX12_makePart_212 : decode cX12_makePart 212 = .ok (.iload 18, 2) := by decide +kernel
theorem dX12_makePart_214 : decode cX12_makePart 214 = .ok (.iadd, 1) := by decide +kernel
theorem dX12_makePart_215 : decode cX12_makePart 215 = .ok (.iaload, 1) := by decide +kernel
theorem dX12_makePart_216 : decode cX12_makePart 216 = .ok (.i2l, 1) := by decide +kernel
theorem dX12_makePart_217 : decode cX12_makePart 217 = .ok (.lstore 21, 2) := by decide +kernel
theorem dX12_makePart_219 : decode cX12_makePart 219 = .ok (.aload_n 0, 1) := by decide +kernel
theorem dX12_makePart_220 : decode cX12_makePart 220 = .ok (.getfield 152, 3) := by decide +kernel
theorem dX12_makePart_223 : decode cX12_makePart 223 = .ok (.iload 6, 2) := by decide +kernel
theorem dX12_makePart_225 : decode cX12_makePart 225 = .ok (.iload 8, 2) := by decide +kernel
theorem dX12_makePart_227 : decode cX12_makePart 227 = .ok (.iadd, 1) := by decide +kernel
theorem dX12_makePart_228 : decode cX12_makePart 228 = .ok (.iload 18, 2) := by decide +kernel
theorem dX12_makePart_230 : decode cX12_makePart 230 = .ok (.iadd, 1) := by decide +kernel
theorem dX12_makePart_231 : decode cX12_makePart 231 = .ok (.lload 19, 2) := by decide +kernel
theorem dX12_makePart_233 : decode cX12_makePart 233 = .ok (.lload 10, 2) := by decide +kernel
theorem dX12_makePart_235 : decode cX12_makePart 235 = .ok (.lmul, 1) := by decide +kernel
theorem dX12_makePart_236 : decode cX12_makePart 236 = .ok (.lload 21, 2) := by decide +kernel
theorem dX12_makePart_238 : decode cX12_makePart 238 = .ok (.lload 14, 2) := by decide +kernel
theorem dX12_makePart_240 : decode cX12_makePart 240 = .ok (.lmul, 1) := by decide +kernel
theorem dX12_makePart_241 : decode cX12_makePart 241 = .ok (.ladd, 1) := by decide +kernel
theorem dX12_makePart_242 : decode cX12_makePart 242 = .ok (.ldc2_w 310, 3) := by decide +kernel
theorem dX12_makePart_245 : decode cX12_makePart 245 = .ok (.invokestatic 517, 3) := by decide +kernel
theorem dX12_makePart_248 : decode cX12_makePart 248 = .ok (.l2i, 1) := by decide +kernel
theorem dX12_makePart_249 : decode cX12_makePart 249 = .ok (.iastore, 1) := by decide +kernel
theorem dX12_makePart_250 : decode cX12_makePart 250 = .ok (.aload_n 0, 1) := by decide +kernel
theorem dX12_makePart_251 : decode cX12_makePart 251 = .ok (.getfield 155, 3) := by decide +kernel
theorem dX12_makePart_254 : decode cX12_makePart 254 = .ok (.iload 6, 2) := by decide +kernel
theorem dX12_makePart_256 : decode cX12_makePart 256 = .ok (.iload 8, 2) := by decide +kernel
theorem dX12_makePart_258 : decode cX12_makePart 258 = .ok (.iadd, 1) := by decide +kernel
theorem dX12_makePart_259 : decode cX12_makePart 259 = .ok (.iload 18, 2) := by decide +kernel
theorem dX12_makePart_261 : decode cX12_makePart 261 = .ok (.iadd, 1) := by decide +kernel
theorem dX12_makePart_262 : decode cX12_makePart 262 = .ok (.lload 19, 2) := by decide +kernel
theorem dX12_makePart_264 : decode cX12_makePart 264 = .ok (.lload 12, 2) := by decide +kernel
theorem dX12_makePart_266 : decode cX12_makePart 266 = .ok (.lmul, 1) := by decide +kernel
theorem dX12_makePart_267 : decode cX12_makePart 267 = .ok (.lload 21, 2) := by decide +kernel
theorem dX12_makePart_269 : decode cX12_makePart 269 = .ok (.lload 16, 2) := by decide +kernel
theorem dX12_makePart_271 : decode cX12_makePart 271 = .ok (.lmul, 1) := by decide +kernel
theorem dX12_makePart_272 : decode cX12_makePart 272 = .ok (.ladd, 1) := by decide +kernel
theorem dX12_makePart_273 : decode cX12_makePart 273 = .ok (.ldc2_w 310, 3) := by decide +kernel
theorem dX12_makePart_276 : decode cX12_makePart 276 = .ok (.invokestatic 517, 3) := by decide +kernel
theorem dX12_makePart_279 : decode cX12_makePart 279 = .ok (.l2i, 1) := by decide +kernel
theorem dX12_makePart_280 : decode cX12_makePart 280 = .ok (.iastore, 1) := by decide +kernel
theorem dX12_makePart_281 : decode cX12_makePart 281 = .ok (.aload_n 0, 1) := by decide +kernel
theorem dX12_makePart_282 : decode cX12_makePart 282 = .ok (.getfield 158, 3) := by decide +kernel
theorem dX12_makePart_285 : decode cX12_makePart 285 = .ok (.iload 6, 2) := by decide +kernel
theorem dX12_makePart_287 : decode cX12_makePart 287 = .ok (.iload 8, 2) := by decide +kernel
theorem dX12_makePart_289 : decode cX12_makePart 289 = .ok (.iadd, 1) := by decide +kernel
theorem dX12_makePart_290 : decode cX12_makePart 290 = .ok (.iload 18, 2) := by decide +kernel
theorem dX12_makePart_292 : decode cX12_makePart 292 = .ok (.iadd, 1) := by decide +kernel
theorem dX12_makePart_293 : decode cX12_makePart 293 = .ok (.aload_n 0, 1) := by decide +kernel
theorem dX12_makePart_294 : decode cX12_makePart 294 = .ok (.getfield 158, 3) := by decide +kernel
theorem dX12_makePart_297 : decode cX12_makePart 297 = .ok (.iload 7, 2) := by decide +kernel
theorem dX12_makePart_299 : decode cX12_makePart 299 = .ok (.iload 18, 2) := by decide +kernel
theorem dX12_makePart_301 : decode cX12_makePart 301 = .ok (.iadd, 1) := by decide +kernel
theorem dX12_makePart_302 : decode cX12_makePart 302 = .ok (.baload, 1) := by decide +kernel
theorem dX12_makePart_303 : decode cX12_makePart 303 = .ok (.bastore, 1) := by decide +kernel
theorem dX12_makePart_304 : decode cX12_makePart 304 = .ok (.iinc 18 1, 3) := by decide +kernel
theorem dX12_makePart_307 : decode cX12_makePart 307 = .ok (.goto (-121), 3) := by decide +kernel
theorem dX12_makePart_310 : decode cX12_makePart 310 = .ok (.iconst 0, 1) := by decide +kernel
theorem dX12_makePart_311 : decode cX12_makePart 311 = .ok (.istore 18, 2) := by decide +kernel
theorem dX12_makePart_313 : decode cX12_makePart 313 = .ok (.iconst 0, 1) := by decide +kernel
theorem dX12_makePart_314 : decode cX12_makePart 314 = .ok (.istore 19, 2) := by decide +kernel
theorem dX12_makePart_316 : decode cX12_makePart 316 = .ok (.aload_n 0, 1) := by decide +kernel
theorem dX12_makePart_317 : decode cX12_makePart 317 = .ok (.getfield 42, 3) := by decide +kernel
theorem dX12_makePart_320 : decode cX12_makePart 320 = .ok (.iload_n 2, 1) := by decide +kernel
theorem dX12_makePart_321 : decode cX12_makePart 321 = .ok (.iaload, 1) := by decide +kernel
theorem dX12_makePart_322 : decode cX12_makePart 322 = .ok (.iconst 2, 1) := by decide +kernel
theorem dX12_makePart_323 : decode cX12_makePart 323 = .ok (.iand, 1) := by decide +kernel
theorem dX12_makePart_324 : decode cX12_makePart 324 = .ok (.ifCond .eq 80, 3) := by decide +kernel
theorem dX12_makePart_327 : decode cX12_makePart 327 = .ok (.aload_n 0, 1) := by decide +kernel
theorem dX12_makePart_328 : decode cX12_makePart 328 = .ok (.aload_n 0, 1) := by decide +kernel
theorem dX12_makePart_329 : decode cX12_makePart 329 = .ok (.getfield 48, 3) := by decide +kernel
theorem dX12_makePart_332 : decode cX12_makePart 332 = .ok (.iload_n 2, 1) := by decide +kernel
theorem dX12_makePart_333 : decode cX12_makePart 333 = .ok (.iaload, 1) := by decide +kernel
theorem dX12_makePart_334 : decode cX12_makePart 334 = .ok (.i2l, 1) := by decide +kernel
theorem dX12_makePart_335 : decode cX12_makePart 335 = .ok (.invokevirtual 611, 3) := by decide +kernel
theorem dX12_makePart_338 : decode cX12_makePart 338 = .ok (.istore 18, 2) := by decide +kernel
theorem dX12_makePart_340 : decode cX12_makePart 340 = .ok (.aload_n 0, 1) := by decide +kernel
theorem dX12_makePart_341 : decode cX12_makePart 341 = .ok (.aload_n 0, 1) := by decide +kernel
theorem dX12_makePart_342 : decode cX12_makePart 342 = .ok (.getfield 51, 3) := by decide +kernel
theorem dX12_makePart_345 : decode cX12_makePart 345 = .ok (.iload_n 2, 1) := by decide +kernel
theorem dX12_makePart_346 : decode cX12_makePart 346 = .ok (.iaload, 1) := by decide +kernel
theorem dX12_makePart_347 : decode cX12_makePart 347 = .ok (.i2l, 1) := by decide +kernel
theorem dX12_makePart_348 : decode cX12_makePart 348 = .ok (.invokevirtual 611, 3) := by decide +kernel
theorem dX12_makePart_351 : decode cX12_makePart 351 = .ok (.istore 19, 2) := by decide +kernel
theorem dX12_makePart_353 : decode cX12_makePart 353 = .ok (.aload_n 0, 1) := by decide +kernel
theorem dX12_makePart_354 : decode cX12_makePart 354 = .ok (.getfield 42, 3) := by decide +kernel
theorem dX12_makePart_357 : decode cX12_makePart 357 = .ok (.iload_n 2, 1) := by decide +kernel
theorem dX12_makePart_358 : decode cX12_makePart 358 = .ok (.iaload, 1) := by decide +kernel
theorem dX12_makePart_359 : decode cX12_makePart 359 = .ok (.iconst 4, 1) := by decide +kernel
theorem dX12_makePart_360 : decode cX12_makePart 360 = .ok (.iand, 1) := by decide +kernel
theorem dX12_makePart_361 : decode cX12_makePart 361 = .ok (.ifCond .eq 12, 3) := by decide +kernel
theorem dX12_makePart_364 : decode cX12_makePart 364 = .ok (.iload 18, 2) := by decide +kernel
theorem dX12_makePart_366 : decode cX12_makePart 366 = .ok (.i2l, 1) := by decide +kernel
theorem dX12_makePart_367 : decode cX12_makePart 367 = .ok (.invokestatic 813, 3) := by decide +kernel
theorem dX12_makePart_370 : decode cX12_makePart 370 = .ok (.goto 5, 3) := by decide +kernel
theorem dX12_makePart_373 : decode cX12_makePart 373 = .ok (.iload 18, 2) := by decide +kernel
theorem dX12_makePart_375 : decode cX12_makePart 375 = .ok (.istore 18, 2) := by decide +kernel
theorem dX12_makePart_377 : decode cX12_makePart 377 = .ok (.aload_n 0, 1) := by decide +kernel
theorem dX12_makePart_378 : decode cX12_makePart 378 = .ok (.getfield 42, 3) := by decide +kernel
theorem dX12_makePart_381 : decode cX12_makePart 381 = .ok (.iload_n 2, 1) := by decide +kernel
theorem dX12_makePart_382 : decode cX12_makePart 382 = .ok (.iaload, 1) := by decide +kernel
theorem dX12_makePart_383 : decode cX12_makePart 383 = .ok (.iconst 4, 1) := by decide +kernel
theorem dX12_makePart_384 : decode cX12_makePart 384 = .ok (.iand, 1) := by decide +kernel
theorem dX12_makePart_385 : decode cX12_makePart 385 = .ok (.ifCond .eq 12, 3) := by decide +kernel
theorem dX12_makePart_388 : decode cX12_makePart 388 = .ok (.iload 19, 2) := by decide +kernel
theorem dX12_makePart_390 : decode cX12_makePart 390 = .ok (.i2l, 1) := by decide +kernel
theorem dX12_makePart_391 : decode cX12_makePart 391 = .ok (.invokestatic 813, 3) := by decide +kernel
theorem dX12_makePart_394 : decode cX12_makePart 394 = .ok (.goto 5, 3) := by decide +kernel
theorem dX12_makePart_397 : decode cX12_makePart 397 = .ok (.iload 19, 2) := by decide +kernel
theorem dX12_makePart_399 : decode cX12_makePart 399 = .ok (.istore 19, 2) := by decide +kernel
theorem dX12_makePart_401 : decode cX12_makePart 401 = .ok (.goto 117, 3) := by decide +kernel
theorem dX12_makePart_404 : decode cX12_makePart 404 = .ok (.aload_n 0, 1) := by decide +kernel
theorem dX12_makePart_405 : decode cX12_makePart 405 = .ok (.getfield 48, 3) := by decide +kernel
theorem dX12_makePart_408 : decode cX12_makePart 408 = .ok (.iload_n 2, 1) := by decide +kernel
theorem dX12_makePart_409 : decode cX12_makePart 409 = .ok (.iaload, 1) := by decide +kernel
theorem dX12_makePart_410 : decode cX12_makePart 410 = .ok (.ifCond .lt 34, 3) := by decide +kernel
theorem dX12_makePart_413 : decode cX12_makePart 413 = .ok (.aload_n 0, 1) := by decide +kernel
theorem dX12_makePart_414 : decode cX12_makePart 414 = .ok (.getfield 48, 3) := by decide +kernel
theorem dX12_makePart_417 : decode cX12_makePart 417 = .ok (.iload_n 2, 1) := by decide +kernel
theorem dX12_makePart_418 : decode cX12_makePart 418 = .ok (.iaload, 1) := by decide +kernel
theorem dX12_makePart_419 : decode cX12_makePart 419 = .ok (.iload 8, 2) := by decide +kernel
theorem dX12_makePart_421 : decode cX12_makePart 421 = .ok (.if_icmp .ge 23, 3) := by decide +kernel
theorem dX12_makePart_424 : decode cX12_makePart 424 = .ok (.aload_n 0, 1) := by decide +kernel
theorem dX12_makePart_425 : decode cX12_makePart 425 = .ok (.getfield 51, 3) := by decide +kernel
theorem dX12_makePart_428 : decode cX12_makePart 428 = .ok (.iload_n 2, 1) := by decide +kernel
theorem dX12_makePart_429 : decode cX12_makePart 429 = .ok (.iaload, 1) := by decide +kernel
theorem dX12_makePart_430 : decode cX12_makePart 430 = .ok (.ifCond .lt 14, 3) := by decide +kernel
theorem dX12_makePart_433 : decode cX12_makePart 433 = .ok (.aload_n 0, 1) := by decide +kernel
theorem dX12_makePart_434 : decode cX12_makePart 434 = .ok (.getfield 51, 3) := by decide +kernel
theorem dX12_makePart_437 : decode cX12_makePart 437 = .ok (.iload_n 2, 1) := by decide +kernel
theorem dX12_makePart_438 : decode cX12_makePart 438 = .ok (.iaload, 1) := by decide +kernel
theorem dX12_makePart_439 : decode cX12_makePart 439 = .ok (.iload 9, 2) := by decide +kernel
theorem dX12_makePart_441 : decode cX12_makePart 441 = .ok (.if_icmp .lt 9, 3) := by decide +kernel
theorem dX12_makePart_444 : decode cX12_makePart 444 = .ok (.aload_n 0, 1) := by decide +kernel
theorem dX12_makePart_445 : decode cX12_makePart 445 = .ok (.iconst 5, 1) := by decide +kernel
theorem dX12_makePart_446 : decode cX12_makePart 446 = .ok (.invokevirtual 795, 3) := by decide +kernel
theorem dX12_makePart_449 : decode cX12_makePart 449 = .ok (.return_, 1) := by decide +kernel
theorem dX12_makePart_450 : decode cX12_makePart 450 = .ok (.aload_n 0, 1) := by decide +kernel
theorem dX12_makePart_451 : decode cX12_makePart 451 = .ok (.getfield 152, 3) := by decide +kernel
theorem dX12_makePart_454 : decode cX12_makePart 454 = .ok (.iload 6, 2) := by decide +kernel
theorem dX12_makePart_456 : decode cX12_makePart 456 = .ok (.aload_n 0, 1) := by decide +kernel
theorem dX12_makePart_457 : decode cX12_makePart 457 = .ok (.getfield 48, 3) := by decide +kernel
theorem dX12_makePart_460 : decode cX12_makePart 460 = .ok (.iload_n 2, 1) := by decide +kernel
theorem dX12_makePart_461 : decode cX12_makePart 461 = .ok (.iaload, 1) := by decide +kernel
theorem dX12_makePart_462 : decode cX12_makePart 462 = .ok (.iadd, 1) := by decide +kernel
theorem dX12_makePart_463 : decode cX12_makePart 463 = .ok (.iaload, 1) := by decide +kernel
theorem dX12_makePart_464 : decode cX12_makePart 464 = .ok (.aload_n 0, 1) := by decide +kernel
theorem dX12_makePart_465 : decode cX12_makePart 465 = .ok (.getfield 152, 3) := by decide +kernel
theorem dX12_makePart_468 : decode cX12_makePart 468 = .ok (.iload 6, 2) := by decide +kernel
theorem dX12_makePart_470 : decode cX12_makePart 470 = .ok (.iload 8, 2) := by decide +kernel
theorem dX12_makePart_472 : decode cX12_makePart 472 = .ok (.iadd, 1) := by decide +kernel
theorem dX12_makePart_473 : decode cX12_makePart 473 = .ok (.aload_n 0, 1) := by decide +kernel
theorem dX12_makePart_474 : decode cX12_makePart 474 = .ok (.getfield 51, 3) := by decide +kernel
theorem dX12_makePart_477 : decode cX12_makePart 477 = .ok (.iload_n 2, 1) := by decide +kernel
theorem dX12_makePart_478 : decode cX12_makePart 478 = .ok (.iaload, 1) := by decide +kernel
theorem dX12_makePart_479 : decode cX12_makePart 479 = .ok (.iadd, 1) := by decide +kernel
theorem dX12_makePart_480 : decode cX12_makePart 480 = .ok (.iaload, 1) := by decide +kernel
theorem dX12_makePart_481 : decode cX12_makePart 481 = .ok (.isub, 1) := by decide +kernel
theorem dX12_makePart_482 : decode cX12_makePart 482 = .ok (.istore 18, 2) := by decide +kernel
theorem dX12_makePart_484 : decode cX12_makePart 484 = .ok (.aload_n 0, 1) := by decide +kernel
theorem dX12_makePart_485 : decode cX12_makePart 485 = .ok (.getfield 155, 3) := by decide +kernel
theorem dX12_makePart_488 : decode cX12_makePart 488 = .ok (.iload 6, 2) := by decide +kernel
theorem dX12_makePart_490 : decode cX12_makePart 490 = .ok (.aload_n 0, 1) := by decide +kernel
theorem dX12_makePart_491 : decode cX12_makePart 491 = .ok (.getfield 48, 3) := by decide +kernel
theorem dX12_makePart_494 : decode cX12_makePart 494 = .ok (.iload_n 2, 1) := by decide +kernel
theorem dX12_makePart_495 : decode cX12_makePart 495 = .ok (.iaload, 1) := by decide +kernel
theorem dX12_makePart_496 : decode cX12_makePart 496 = .ok (.iadd, 1) := by decide +kernel
theorem dX12_makePart_497 : decode cX12_makePart 497 = .ok (.iaload, 1) := by decide +kernel
theorem dX12_makePart_498 : decode cX12_makePart 498 = .ok (.aload_n 0, 1) := by decide +kernel
theorem dX12_makePart_499 : decode cX12_makePart 499 = .ok (.getfield 155, 3) := by decide +kernel
theorem dX12_makePart_502 : decode cX12_makePart 502 = .ok (.iload 6, 2) := by decide +kernel
theorem dX12_makePart_504 : decode cX12_makePart 504 = .ok (.iload 8, 2) := by decide +kernel
theorem dX12_makePart_506 : decode cX12_makePart 506 = .ok (.iadd, 1) := by decide +kernel
theorem dX12_makePart_507 : decode cX12_makePart 507 = .ok (.aload_n 0, 1) := by decide +kernel
theorem dX12_makePart_508 : decode cX12_makePart 508 = .ok (.getfield 51, 3) := by decide +kernel
theorem dX12_makePart_511 : decode cX12_makePart 511 = .ok (.iload_n 2, 1) := by decide +kernel
theorem dX12_makePart_512 : decode cX12_makePart 512 = .ok (.iaload, 1) := by decide +kernel
theorem dX12_makePart_513 : decode cX12_makePart 513 = .ok (.iadd, 1) := by decide +kernel
theorem dX12_makePart_514 : decode cX12_makePart 514 = .ok (.iaload, 1) := by decide +kernel
theorem dX12_makePart_515 : decode cX12_makePart 515 = .ok (.isub, 1) := by decide +kernel
theorem dX12_makePart_516 : decode cX12_makePart 516 = .ok (.istore 19, 2) := by decide +kernel
theorem dX12_makePart_518 : decode cX12_makePart 518 = .ok (.iload 6, 2) := by decide +kernel
theorem dX12_makePart_520 : decode cX12_makePart 520 = .ok (.iload 8, 2) := by decide +kernel
theorem dX12_makePart_522 : decode cX12_makePart 522 = .ok (.iadd, 1) := by decide +kernel
theorem dX12_makePart_523 : decode cX12_makePart 523 = .ok (.istore 20, 2) := by decide +kernel
theorem dX12_makePart_525 : decode cX12_makePart 525 = .ok (.iload 20, 2) := by decide +kernel
theorem dX12_makePart_527 : decode cX12_makePart 527 = .ok (.iload 6, 2) := by decide +kernel
theorem dX12_makePart_529 : decode cX12_makePart 529 = .ok (.iload 8, 2) := by decide +kernel
theorem dX12_makePart_531 : decode cX12_makePart 531 = .ok (.iadd, 1) := by decide +kernel
theorem dX12_makePart_532 : decode cX12_makePart 532 = .ok (.iload 9, 2) := by decide +kernel
theorem dX12_makePart_534 : decode cX12_makePart 534 = .ok (.iadd, 1) := by decide +kernel
theorem dX12_makePart_535 : decode cX12_makePart 535 = .ok (.if_icmp .ge 33, 3) := by decide +kernel
theorem dX12_makePart_538 : decode cX12_makePart 538 = .ok (.aload_n 0, 1) := by decide +kernel
theorem dX12_makePart_539 : decode cX12_makePart 539 = .ok (.getfield 152, 3) := by decide +kernel
theorem dX12_makePart_542 : decode cX12_makePart 542 = .ok (.iload 20, 2) := by decide +kernel
theorem dX12_makePart_544 : decode cX12_makePart 544 = .ok (.dup2, 1) := by decide +kernel
theorem dX12_makePart_545 : decode cX12_makePart 545 = .ok (.iaload, 1) := by decide +kernel
theorem dX12_makePart_546 : decode cX12_makePart 546 = .ok (.iload 18, 2) := by decide +kernel
theorem dX12_makePart_548 : decode cX12_makePart 548 = .ok (.iadd, 1) := by decide +kernel
theorem dX12_makePart_549 : decode cX12_makePart 549 = .ok (.iastore, 1) := by decide +kernel
theorem dX12_makePart_550 : decode cX12_makePart 550 = .ok (.aload_n 0, 1) := by decide +kernel
theorem dX12_makePart_551 : decode cX12_makePart 551 = .ok (.getfield 155, 3) := by decide +kernel
theorem dX12_makePart_554 : decode cX12_makePart 554 = .ok (.iload 20, 2) := by decide +kernel
theorem dX12_makePart_556 : decode cX12_makePart 556 = .ok (.dup2, 1) := by decide +kernel
theorem dX12_makePart_557 : decode cX12_makePart 557 = .ok (.iaload, 1) := by decide +kernel
theorem dX12_makePart_558 : decode cX12_makePart 558 = .ok (.iload 19, 2) := by decide +kernel
theorem dX12_makePart_560 : decode cX12_makePart 560 = .ok (.iadd, 1) := by decide +kernel
theorem dX12_makePart_561 : decode cX12_makePart 561 = .ok (.iastore, 1) := by decide +kernel
theorem dX12_makePart_562 : decode cX12_makePart 562 = .ok (.iinc 20 1, 3) := by decide +kernel
theorem dX12_makePart_565 : decode cX12_makePart 565 = .ok (.goto (-40), 3) := by decide +kernel
theorem dX12_makePart_568 : decode cX12_makePart 568 = .ok (.iconst 0, 1) := by decide +kernel
theorem dX12_makePart_569 : decode cX12_makePart 569 = .ok (.istore 20, 2) := by decide +kernel
theorem dX12_makePart_571 : decode cX12_makePart 571 = .ok (.iload 20, 2) := by decide +kernel
theorem dX12_makePart_573 : decode cX12_makePart 573 = .ok (.aload_n 0, 1) := by decide +kernel
theorem dX12_makePart_574 : decode cX12_makePart 574 = .ok (.getfield 149, 3) := by decide +kernel
theorem dX12_makePart_577 : decode cX12_makePart 577 = .ok (.iload_n 3, 1) := by decide +kernel
theorem dX12_makePart_578 : decode cX12_makePart 578 = .ok (.iconst 1, 1) := by decide +kernel
theorem dX12_makePart_579 : decode cX12_makePart 579 = .ok (.iadd, 1) := by decide +kernel
theorem dX12_makePart_580 : decode cX12_makePart 580 = .ok (.iaload, 1) := by decide +kernel
theorem dX12_makePart_581 : decode cX12_makePart 581 = .ok (.if_icmp .ge 46, 3) := by decide +kernel
theorem dX12_makePart_584 : decode cX12_makePart 584 = .ok (.aload_n 0, 1) := by decide +kernel
theorem dX12_makePart_585 : decode cX12_makePart 585 = .ok (.getfield 161, 3) := by decide +kernel
theorem dX12_makePart_588 : decode cX12_makePart 588 = .ok (.bipush 20, 2) := by decide +kernel
theorem dX12_makePart_590 : decode cX12_makePart 590 = .ok (.iload_n 3, 1) := by decide +kernel
theorem dX12_makePart_591 : decode cX12_makePart 591 = .ok (.imul, 1) := by decide +kernel
theorem dX12_makePart_592 : decode cX12_makePart 592 = .ok (.aload_n 0, 1) := by decide +kernel
theorem dX12_makePart_593 : decode cX12_makePart 593 = .ok (.getfield 149, 3) := by decide +kernel
theorem dX12_makePart_596 : decode cX12_makePart 596 = .ok (.iload_n 3, 1) := by decide +kernel
theorem dX12_makePart_597 : decode cX12_makePart 597 = .ok (.iaload, 1) := by decide +kernel
theorem dX12_makePart_598 : decode cX12_makePart 598 = .ok (.iadd, 1) := by decide +kernel
theorem dX12_makePart_599 : decode cX12_makePart 599 = .ok (.iload 20, 2) := by decide +kernel
theorem dX12_makePart_601 : decode cX12_makePart 601 = .ok (.iadd, 1) := by decide +kernel
theorem dX12_makePart_602 : decode cX12_makePart 602 = .ok (.iload 8, 2) := by decide +kernel
theorem dX12_makePart_604 : decode cX12_makePart 604 = .ok (.aload_n 0, 1) := by decide +kernel
theorem dX12_makePart_605 : decode cX12_makePart 605 = .ok (.getfield 161, 3) := by decide +kernel
theorem dX12_makePart_608 : decode cX12_makePart 608 = .ok (.bipush 20, 2) := by decide +kernel
theorem dX12_makePart_610 : decode cX12_makePart 610 = .ok (.iload_n 3, 1) := by decide +kernel
theorem dX12_makePart_611 : decode cX12_makePart 611 = .ok (.imul, 1) := by decide +kernel
theorem dX12_makePart_612 : decode cX12_makePart 612 = .ok (.bipush 20, 2) := by decide +kernel
theorem dX12_makePart_614 : decode cX12_makePart 614 = .ok (.iadd, 1) := by decide +kernel
theorem dX12_makePart_615 : decode cX12_makePart 615 = .ok (.iload 20, 2) := by decide +kernel
theorem dX12_makePart_617 : decode cX12_makePart 617 = .ok (.iadd, 1) := by decide +kernel
theorem dX12_makePart_618 : decode cX12_makePart 618 = .ok (.iaload, 1) := by decide +kernel
theorem dX12_makePart_619 : decode cX12_makePart 619 = .ok (.iadd, 1) := by decide +kernel
theorem dX12_makePart_620 : decode cX12_makePart 620 = .ok (.iastore, 1) := by decide +kernel
theorem dX12_makePart_621 : decode cX12_makePart 621 = .ok (.iinc 20 1, 3) := by decide +kernel
theorem dX12_makePart_624 : decode cX12_makePart 624 = .ok (.goto (-53), 3) := by decide +kernel
theorem dX12_makePart_627 : decode cX12_makePart 627 = .ok (.aload_n 0, 1) := by decide +kernel
theorem dX12_makePart_628 : decode cX12_makePart 628 = .ok (.getfield 146, 3) := by decide +kernel
theorem dX12_makePart_631 : decode cX12_makePart 631 = .ok (.iload_n 3, 1) := by decide +kernel
theorem dX12_makePart_632 : decode cX12_makePart 632 = .ok (.dup2, 1) := by decide +kernel
theorem dX12_makePart_633 : decode cX12_makePart 633 = .ok (.iaload, 1) := by decide +kernel
theorem dX12_makePart_634 : decode cX12_makePart 634 = .ok (.iload 9, 2) := by decide +kernel
theorem dX12_makePart_636 : decode cX12_makePart 636 = .ok (.iadd, 1) := by decide +kernel
theorem dX12_makePart_637 : decode cX12_makePart 637 = .ok (.iastore, 1) := by decide +kernel
theorem dX12_makePart_638 : decode cX12_makePart 638 = .ok (.aload_n 0, 1) := by decide +kernel
theorem dX12_makePart_639 : decode cX12_makePart 639 = .ok (.getfield 149, 3) := by decide +kernel
theorem dX12_makePart_642 : decode cX12_makePart 642 = .ok (.iload_n 3, 1) := by decide +kernel
theorem dX12_makePart_643 : decode cX12_makePart 643 = .ok (.dup2, 1) := by decide +kernel
theorem dX12_makePart_644 : decode cX12_makePart 644 = .ok (.iaload, 1) := by decide +kernel
theorem dX12_makePart_645 : decode cX12_makePart 645 = .ok (.aload_n 0, 1) := by decide +kernel
theorem dX12_makePart_646 : decode cX12_makePart 646 = .ok (.getfield 149, 3) := by decide +kernel
theorem dX12_makePart_649 : decode cX12_makePart 649 = .ok (.iload_n 3, 1) := by decide +kernel
theorem dX12_makePart_650 : decode cX12_makePart 650 = .ok (.iconst 1, 1) := by decide +kernel
theorem dX12_makePart_651 : decode cX12_makePart 651 = .ok (.iadd, 1) := by decide +kernel
theorem dX12_makePart_652 : decode cX12_makePart 652 = .ok (.iaload, 1) := by decide +kernel
theorem dX12_makePart_653 : decode cX12_makePart 653 = .ok (.iadd, 1) := by decide +kernel
theorem dX12_makePart_654 : decode cX12_makePart 654 = .ok (.iastore, 1) := by decide +kernel
theorem dX12_makePart_655 : decode cX12_makePart 655 = .ok (.aload_n 0, 1) := by decide +kernel
theorem dX12_makePart_656 : decode cX12_makePart 656 = .ok (.getfield 42, 3) := by decide +kernel
theorem dX12_makePart_659 : decode cX12_makePart 659 = .ok (.iload_n 2, 1) := by decide +kernel
theorem dX12_makePart_660 : decode cX12_makePart 660 = .ok (.iaload, 1) := by decide +kernel
theorem dX12_makePart_661 : decode cX12_makePart 661 = .ok (.sipush 512, 3) := by decide +kernel
theorem dX12_makePart_664 : decode cX12_makePart 664 = .ok (.iand, 1) := by decide +kernel
theorem dX12_makePart_665 : decode cX12_makePart 665 = .ok (.ifCond .eq 42, 3) := by decide +kernel
theorem dX12_makePart_668 : decode cX12_makePart 668 = .ok (.iconst 0, 1) := by decide +kernel
theorem dX12_makePart_669 : decode cX12_makePart 669 = .ok (.istore 20, 2) := by decide +kernel
theorem dX12_makePart_671 : decode cX12_makePart 671 = .ok (.iload 20, 2) := by decide +kernel
theorem dX12_makePart_673 : decode cX12_makePart 673 = .ok (.iconst 4, 1) := by decide +kernel
theorem dX12_makePart_674 : decode cX12_makePart 674 = .ok (.if_icmp .ge 33, 3) := by decide +kernel
theorem dX12_makePart_677 : decode cX12_makePart 677 = .ok (.aload_n 0, 1) := by decide +kernel
theorem dX12_makePart_678 : decode cX12_makePart 678 = .ok (.getfield 164, 3) := by decide +kernel
theorem dX12_makePart_681 : decode cX12_makePart 681 = .ok (.iconst 4, 1) := by decide +kernel
theorem dX12_makePart_682 : decode cX12_makePart 682 = .ok (.iload_n 3, 1) := by decide +kernel
theorem dX12_makePart_683 : decode cX12_makePart 683 = .ok (.imul, 1) := by decide +kernel
theorem dX12_makePart_684 : decode cX12_makePart 684 = .ok (.iload 20, 2) := by decide +kernel
theorem dX12_makePart_686 : decode cX12_makePart 686 = .ok (.iadd, 1) := by decide +kernel
theorem dX12_makePart_687 : decode cX12_makePart 687 = .ok (.aload_n 0, 1) := by decide +kernel
theorem dX12_makePart_688 : decode cX12_makePart 688 = .ok (.getfield 164, 3) := by decide +kernel
theorem dX12_makePart_691 : decode cX12_makePart 691 = .ok (.iconst 4, 1) := by decide +kernel
theorem dX12_makePart_692 : decode cX12_makePart 692 = .ok (.iload_n 3, 1) := by decide +kernel
theorem dX12_makePart_693 : decode cX12_makePart 693 = .ok (.imul, 1) := by decide +kernel
theorem dX12_makePart_694 : decode cX12_makePart 694 = .ok (.iconst 4, 1) := by decide +kernel
theorem dX12_makePart_695 : decode cX12_makePart 695 = .ok (.iadd, 1) := by decide +kernel
theorem dX12_makePart_696 : decode cX12_makePart 696 = .ok (.iload 20, 2) := by decide +kernel
theorem dX12_makePart_698 : decode cX12_makePart 698 = .ok (.iadd, 1) := by decide +kernel
theorem dX12_makePart_699 : decode cX12_makePart 699 = .ok (.iaload, 1) := by decide +kernel
theorem dX12_makePart_700 : decode cX12_makePart 700 = .ok (.iastore, 1) := by decide +kernel
theorem dX12_makePart_701 : decode cX12_makePart 701 = .ok (.iinc 20 1, 3) := by decide +kernel
theorem dX12_makePart_704 : decode cX12_makePart 704 = .ok (.goto (-33), 3) := by decide +kernel
theorem dX12_makePart_707 : decode cX12_makePart 707 = .ok (.return_, 1) := by decide +kernel
def B_X12_makePart_126 (N : Nat) (kb : Int32 → Int32 → sv_V → Option sv_V)   (V : sv_V) : Option sv_V := (F_X12_failOutside (12 : Int32) V).bind (fun V1 => some V1)
set_option maxRecDepth 20000 in
theorem tB_X12_makePart_126 {g : sx_G} (hG : sx_Go g) {P : Option Value → sv_V → Prop} {Vr : sv_V} (hP : P none Vr) {N : Nat} {D : Nat} {kb : Int32 → Int32 → sv_V → Option sv_V} (hkb : ∀ (l1 : Int32) (l2 : Int32) (V : sv_V) (Wr : sv_V), kb l1 l2 V = some Wr → ∀ P : Option Value → sv_V → Prop, P none Wr → sv_N g qX12_makeGlyph (30 + 2 * D) 0 [(0, .ref 146), (1, .int l1), (2, .int l2)] [] V P)    {V : sv_V} (h : B_X12_makePart_126 N kb   V = some Vr) : sv_N g qX12_makePart (30 + 2 * D + 1) 126 [(0, .ref 146)] [] V P := by
  unfold B_X12_makePart_126 at h
  refine sx_aload_n (pc := 126) dX12_makePart_126 sx_m0 ?_
  refine sx_bipush (pc := 127) (v := 12) dX12_makePart_127 (by decide) ?_
  obtain ⟨V1, g2, h⟩ := sx_bnd h
  refine sv_cV (pc := 129) (y := qX12_failOutside) (o := none) (as := [.int (12 : Int32)]) (V1 := V1) hG dX12_makePart_129 l_X12_795 y0X12_failOutside yvX12_failOutside rfl (Nat.le_of_ble_eq_true rfl) lay_146 kr_12 (by omega) (Nat.le_of_ble_eq_true rfl) rfl rfl rfl (t_X12_failOutside hG ⟨rfl, rfl⟩ g2) ?_
  exact sv_vret (pc := 132) dX12_makePart_132 rfl h hP
def B_X12_makePart_671 (N : Nat) (kb : Int32 → Int32 → sv_V → Option sv_V) (k671 : Int32 → Int32 → sv_V → Option sv_V) (l3 : Int32) (l20 : Int32) (V : sv_V) : Option sv_V := if (4 : Int32) ≤ l20 then (some V) else (if sx_in ((((4 : Int32) * l3) + (4 : Int32)) + l20) 24 = true then if sx_in (((4 : Int32) * l3) + l20) 24 = true then sx_let (sv_I V 196 (((4 : Int32) * l3) + l20).toNatClampNeg (V.1 196 ((((4 : Int32) * l3) + (4 : Int32)) + l20).toNatClampNeg)) (fun V6 => sx_let (l20 + 1) (fun x7 => k671 l3 x7 V6)) else none else none)
set_option maxRecDepth 20000 in
theorem tB_X12_makePart_671 {g : sx_G} (hG : sx_Go g) {P : Option Value → sv_V → Prop} {Vr : sv_V} (hP : P none Vr) {N : Nat} {D : Nat} {kb : Int32 → Int32 → sv_V → Option sv_V} (hkb : ∀ (l1 : Int32) (l2 : Int32) (V : sv_V) (Wr : sv_V), kb l1 l2 V = some Wr → ∀ P : Option Value → sv_V → Prop, P none Wr → sv_N g qX12_makeGlyph (30 + 2 * D) 0 [(0, .ref 146), (1, .int l1), (2, .int l2)] [] V P) {k671 : Int32 → Int32 → sv_V → Option sv_V} (hk671 : ∀ (l3 : Int32) (l20 : Int32) (V : sv_V), k671 l3 l20 V = some Vr → sv_N g qX12_makePart (30 + 2 * D + 1) 671 [(0, .ref 146), (3, .int l3), (20, .int l20)] [] V P) {l3 : Int32} {l20 : Int32} {V : sv_V} (h : B_X12_makePart_671 N kb k671 l3 l20 V = some Vr) : sv_N g qX12_makePart (30 + 2 * D + 1) 671 [(0, .ref 146), (3, .int l3), (20, .int l20)] [] V P := by
  unfold B_X12_makePart_671 at h
  refine sx_iload (pc := 671) dX12_makePart_671 sx_m2 ?_
  refine sx_iconst (pc := 673) (v := 4) dX12_makePart_673 (by decide) ?_
  refine sx_icmp_ge (pc := 674) (tgt := 707) dX12_makePart_674 (by decide) (fun c3 => ?_) (fun c3 => ?_)
  · have h := sx_pos c3 h
    exact sv_vret (pc := 707) dX12_makePart_707 rfl h hP
  · have h := sx_neg c3 h
    refine sx_aload_n (pc := 677) dX12_makePart_677 sx_m0 ?_
    refine sv_getA (pc := 678) hG dX12_makePart_678 f_12_164 lay_146 rfl cr_146_124 ?_
    refine sx_iconst (pc := 681) (v := 4) dX12_makePart_681 (by decide) ?_
    refine sx_iload_n (pc := 682) dX12_makePart_682 sx_m1 ?_
    refine sx_imul (pc := 683) dX12_makePart_683 ?_
    refine sx_iload (pc := 684) dX12_makePart_684 sx_m2 ?_
    refine sx_iadd (pc := 686) dX12_makePart_686 ?_
    refine sx_aload_n (pc := 687) dX12_makePart_687 sx_m0 ?_
    refine sv_getA (pc := 688) hG dX12_makePart_688 f_12_164 lay_146 rfl cr_146_124 ?_
    refine sx_iconst (pc := 691) (v := 4) dX12_makePart_691 (by decide) ?_
    refine sx_iload_n (pc := 692) dX12_makePart_692 sx_m1 ?_
    refine sx_imul (pc := 693) dX12_makePart_693 ?_
    refine sx_iconst (pc := 694) (v := 4) dX12_makePart_694 (by decide) ?_
    refine sx_iadd (pc := 695) dX12_makePart_695 ?_
    refine sx_iload (pc := 696) dX12_makePart_696 sx_m2 ?_
    refine sx_iadd (pc := 698) dX12_makePart_698 ?_
    obtain ⟨g4, h⟩ := sx_grd h
    refine sv_iald (pc := 699) hG dX12_makePart_699 lay_196 g4 ?_
    obtain ⟨g5, h⟩ := sx_grd h
    obtain ⟨V6, hV6⟩ : ∃ z : sv_V, z = sv_I V 196 (((4 : Int32) * l3) + l20).toNatClampNeg (V.1 196 ((((4 : Int32) * l3) + (4 : Int32)) + l20).toNatClampNeg) := ⟨_, rfl⟩
    have h := sx_letE hV6 h
    refine sv_iast (pc := 700) hG dX12_makePart_700 lay_196 g5 hV6 ?_
    obtain ⟨x7, hx7⟩ : ∃ z : Int32, z = l20 + 1 := ⟨_, rfl⟩
    have h := sx_letE hx7 h
    refine sx_iinc (pc := 701) (v := x7) (lo' := [(20, .int x7), (0, .ref 146), (3, .int l3)]) dX12_makePart_701 sx_m2 (by rw [hx7]; rfl) (by decide) rfl ?_
    refine sx_goto (pc := 704) (tgt := 671) dX12_makePart_704 (by decide) ?_
    refine sx_wk (sx_s1 sx_m1 (sx_s1 sx_m2 (sx_s1 sx_m0 sx_s0))) ?_
    exact hk671 _ _ _ h
theorem tL_X12_makePart_671 {g : sx_G} (hG : sx_Go g) {P : Option Value → sv_V → Prop} {Vr : sv_V} (hP : P none Vr) {N : Nat} {D : Nat} {kb : Int32 → Int32 → sv_V → Option sv_V} (hkb : ∀ (l1 : Int32) (l2 : Int32) (V : sv_V) (Wr : sv_V), kb l1 l2 V = some Wr → ∀ P : Option Value → sv_V → Prop, P none Wr → sv_N g qX12_makeGlyph (30 + 2 * D) 0 [(0, .ref 146), (1, .int l1), (2, .int l2)] [] V P)   : ∀ (n : Nat) (l3 : Int32) (l20 : Int32) (V : sv_V), sx_lp3 (B_X12_makePart_671 N kb ) n l3 l20 V = some Vr → sv_N g qX12_makePart (30 + 2 * D + 1) 671 [(0, .ref 146), (3, .int l3), (20, .int l20)] [] V P :=
  sx_lp3_ind (fun k0 ih _ _ V h => tB_X12_makePart_671 hG hP hkb ih h)
def B_X12_makePart_571 (N : Nat) (kb : Int32 → Int32 → sv_V → Option sv_V) (k571 : Int32 → Int32 → Int32 → Int32 → Int32 → sv_V → Option sv_V) (l2 : Int32) (l3 : Int32) (l8 : Int32) (l9 : Int32) (l20 : Int32) (V : sv_V) : Option sv_V := if sx_in (l3 + (1 : Int32)) 6 = true then if (V.1 191 (l3 + (1 : Int32)).toNatClampNeg) ≤ l20 then (if sx_in l3 6 = true then if sx_in l3 6 = true then sx_let (sv_I V 190 l3.toNatClampNeg ((V.1 190 l3.toNatClampNeg) + l9)) (fun V12 => if sx_in l3 6 = true then if sx_in (l3 + (1 : Int32)) 6 = true then if sx_in l3 6 = true then sx_let (sv_I V12 191 l3.toNatClampNeg ((V12.1 191 l3.toNatClampNeg) + (V12.1 191 (l3 + (1 : Int32)).toNatClampNeg))) (fun V16 => if sx_in l2 8 = true then if ((V16.1 157 l2.toNatClampNeg) &&& (512 : Int32)) = 0 then (some V16) else (sx_lp3 (B_X12_makePart_671 N kb ) N l3 (0 : Int32) V16) else none) else none else none else none) else none else none) else (if sx_in l3 6 = true then if sx_in ((((20 : Int32) * l3) + (20 : Int32)) + l20) 120 = true then if sx_in ((((20 : Int32) * l3) + (V.1 191 l3.toNatClampNeg)) + l20) 120 = true then sx_let (sv_I V 195 ((((20 : Int32) * l3) + (V.1 191 l3.toNatClampNeg)) + l20).toNatClampNeg (l8 + (V.1 195 ((((20 : Int32) * l3) + (20 : Int32)) + l20).toNatClampNeg))) (fun V22 => sx_let (l20 + 1) (fun x23 => k571 l2 l3 l8 l9 x23 V22)) else none else none else none) else none
set_option maxRecDepth 20000 in
theorem tB_X12_makePart_571 {g : sx_G} (hG : sx_Go g) {P : Option Value → sv_V → Prop} {Vr : sv_V} (hP : P none Vr) {N : Nat} {D : Nat} {kb : Int32 → Int32 → sv_V → Option sv_V} (hkb : ∀ (l1 : Int32) (l2 : Int32) (V : sv_V) (Wr : sv_V), kb l1 l2 V = some Wr → ∀ P : Option Value → sv_V → Prop, P none Wr → sv_N g qX12_makeGlyph (30 + 2 * D) 0 [(0, .ref 146), (1, .int l1), (2, .int l2)] [] V P) {k571 : Int32 → Int32 → Int32 → Int32 → Int32 → sv_V → Option sv_V} (hk571 : ∀ (l2 : Int32) (l3 : Int32) (l8 : Int32) (l9 : Int32) (l20 : Int32) (V : sv_V), k571 l2 l3 l8 l9 l20 V = some Vr → sv_N g qX12_makePart (30 + 2 * D + 1) 571 [(0, .ref 146), (2, .int l2), (3, .int l3), (8, .int l8), (9, .int l9), (20, .int l20)] [] V P) {l2 : Int32} {l3 : Int32} {l8 : Int32} {l9 : Int32} {l20 : Int32} {V : sv_V} (h : B_X12_makePart_571 N kb k571 l2 l3 l8 l9 l20 V = some Vr) : sv_N g qX12_makePart (30 + 2 * D + 1) 571 [(0, .ref 146), (2, .int l2), (3, .int l3), (8, .int l8), (9, .int l9), (20, .int l20)] [] V P := by
  unfold B_X12_makePart_571 at h
  refine sx_iload (pc := 571) dX12_makePart_571 sx_m5 ?_
  refine sx_aload_n (pc := 573) dX12_makePart_573 sx_m0 ?_
  refine sv_getA (pc := 574) hG dX12_makePart_574 f_12_149 lay_146 rfl cr_146_119 ?_
  refine sx_iload_n (pc := 577) dX12_makePart_577 sx_m2 ?_
  refine sx_iconst (pc := 578) (v := 1) dX12_makePart_578 (by decide) ?_
  refine sx_iadd (pc := 579) dX12_makePart_579 ?_
  obtain ⟨g8, h⟩ := sx_grd h
  refine sv_iald (pc := 580) hG dX12_makePart_580 lay_191 g8 ?_
  refine sx_icmp_ge (pc := 581) (tgt := 627) dX12_makePart_581 (by decide) (fun c9 => ?_) (fun c9 => ?_)
  · have h := sx_pos c9 h
    refine sx_aload_n (pc := 627) dX12_makePart_627 sx_m0 ?_
    refine sv_getA (pc := 628) hG dX12_makePart_628 f_12_146 lay_146 rfl cr_146_118 ?_
    refine sx_iload_n (pc := 631) dX12_makePart_631 sx_m2 ?_
    refine sx_dup2 (pc := 632) dX12_makePart_632 rfl rfl ?_
    obtain ⟨g10, h⟩ := sx_grd h
    refine sv_iald (pc := 633) hG dX12_makePart_633 lay_190 g10 ?_
    refine sx_iload (pc := 634) dX12_makePart_634 sx_m4 ?_
    refine sx_iadd (pc := 636) dX12_makePart_636 ?_
    obtain ⟨g11, h⟩ := sx_grd h
    obtain ⟨V12, hV12⟩ : ∃ z : sv_V, z = sv_I V 190 l3.toNatClampNeg ((V.1 190 l3.toNatClampNeg) + l9) := ⟨_, rfl⟩
    have h := sx_letE hV12 h
    refine sv_iast (pc := 637) hG dX12_makePart_637 lay_190 g11 hV12 ?_
    refine sx_aload_n (pc := 638) dX12_makePart_638 sx_m0 ?_
    refine sv_getA (pc := 639) hG dX12_makePart_639 f_12_149 lay_146 rfl cr_146_119 ?_
    refine sx_iload_n (pc := 642) dX12_makePart_642 sx_m2 ?_
    refine sx_dup2 (pc := 643) dX12_makePart_643 rfl rfl ?_
    obtain ⟨g13, h⟩ := sx_grd h
    refine sv_iald (pc := 644) hG dX12_makePart_644 lay_191 g13 ?_
    refine sx_aload_n (pc := 645) dX12_makePart_645 sx_m0 ?_
    refine sv_getA (pc := 646) hG dX12_makePart_646 f_12_149 lay_146 rfl cr_146_119 ?_
    refine sx_iload_n (pc := 649) dX12_makePart_649 sx_m2 ?_
    refine sx_iconst (pc := 650) (v := 1) dX12_makePart_650 (by decide) ?_
    refine sx_iadd (pc := 651) dX12_makePart_651 ?_
    obtain ⟨g14, h⟩ := sx_grd h
    refine sv_iald (pc := 652) hG dX12_makePart_652 lay_191 g14 ?_
    refine sx_iadd (pc := 653) dX12_makePart_653 ?_
    obtain ⟨g15, h⟩ := sx_grd h
    obtain ⟨V16, hV16⟩ : ∃ z : sv_V, z = sv_I V12 191 l3.toNatClampNeg ((V12.1 191 l3.toNatClampNeg) + (V12.1 191 (l3 + (1 : Int32)).toNatClampNeg)) := ⟨_, rfl⟩
    have h := sx_letE hV16 h
    refine sv_iast (pc := 654) hG dX12_makePart_654 lay_191 g15 hV16 ?_
    refine sx_aload_n (pc := 655) dX12_makePart_655 sx_m0 ?_
    refine sv_getA (pc := 656) hG dX12_makePart_656 f_12_42 lay_146 rfl cr_146_37 ?_
    refine sx_iload_n (pc := 659) dX12_makePart_659 sx_m1 ?_
    obtain ⟨g17, h⟩ := sx_grd h
    refine sv_iald (pc := 660) hG dX12_makePart_660 lay_157 g17 ?_
    refine sx_sipush (pc := 661) (v := 512) dX12_makePart_661 (by decide) ?_
    refine sx_iand (pc := 664) dX12_makePart_664 ?_
    refine sx_if_eq (pc := 665) (tgt := 707) dX12_makePart_665 (by decide) (fun c18 => ?_) (fun c18 => ?_)
    · have h := sx_pos c18 h
      exact sv_vret (pc := 707) dX12_makePart_707 rfl h hP
    · have h := sx_neg c18 h
      refine sx_iconst (pc := 668) (v := 0) dX12_makePart_668 (by decide) ?_
      refine sx_istore (pc := 669) (lo' := [(20, .int (0 : Int32)), (0, .ref 146), (2, .int l2), (3, .int l3), (8, .int l8), (9, .int l9)]) dX12_makePart_669 (by decide) rfl ?_
      refine sx_wk (sx_s1 sx_m1 (sx_s1 sx_m3 (sx_s1 sx_m0 sx_s0))) ?_
      exact tL_X12_makePart_671 hG hP hkb  N _ _ _ h
  · have h := sx_neg c9 h
    refine sx_aload_n (pc := 584) dX12_makePart_584 sx_m0 ?_
    refine sv_getA (pc := 585) hG dX12_makePart_585 f_12_161 lay_146 rfl cr_146_123 ?_
    refine sx_bipush (pc := 588) (v := 20) dX12_makePart_588 (by decide) ?_
    refine sx_iload_n (pc := 590) dX12_makePart_590 sx_m2 ?_
    refine sx_imul (pc := 591) dX12_makePart_591 ?_
    refine sx_aload_n (pc := 592) dX12_makePart_592 sx_m0 ?_
    refine sv_getA (pc := 593) hG dX12_makePart_593 f_12_149 lay_146 rfl cr_146_119 ?_
    refine sx_iload_n (pc := 596) dX12_makePart_596 sx_m2 ?_
    obtain ⟨g19, h⟩ := sx_grd h
    refine sv_iald (pc := 597) hG dX12_makePart_597 lay_191 g19 ?_
    refine sx_iadd (pc := 598) dX12_makePart_598 ?_
    refine sx_iload (pc := 599) dX12_makePart_599 sx_m5 ?_
    refine sx_iadd (pc := 601) dX12_makePart_601 ?_
    refine sx_iload (pc := 602) dX12_makePart_602 sx_m3 ?_
    refine sx_aload_n (pc := 604) dX12_makePart_604 sx_m0 ?_
    refine sv_getA (pc := 605) hG dX12_makePart_605 f_12_161 lay_146 rfl cr_146_123 ?_
    refine sx_bipush (pc := 608) (v := 20) dX12_makePart_608 (by decide) ?_
    refine sx_iload_n (pc := 610) dX12_makePart_610 sx_m2 ?_
    refine sx_imul (pc := 611) dX12_makePart_611 ?_
    refine sx_bipush (pc := 612) (v := 20) dX12_makePart_612 (by decide) ?_
    refine sx_iadd (pc := 614) dX12_makePart_614 ?_
    refine sx_iload (pc := 615) dX12_makePart_615 sx_m5 ?_
    refine sx_iadd (pc := 617) dX12_makePart_617 ?_
    obtain ⟨g20, h⟩ := sx_grd h
    refine sv_iald (pc := 618) hG dX12_makePart_618 lay_195 g20 ?_
    refine sx_iadd (pc := 619) dX12_makePart_619 ?_
    obtain ⟨g21, h⟩ := sx_grd h
    obtain ⟨V22, hV22⟩ : ∃ z : sv_V, z = sv_I V 195 ((((20 : Int32) * l3) + (V.1 191 l3.toNatClampNeg)) + l20).toNatClampNeg (l8 + (V.1 195 ((((20 : Int32) * l3) + (20 : Int32)) + l20).toNatClampNeg)) := ⟨_, rfl⟩
    have h := sx_letE hV22 h
    refine sv_iast (pc := 620) hG dX12_makePart_620 lay_195 g21 hV22 ?_
    obtain ⟨x23, hx23⟩ : ∃ z : Int32, z = l20 + 1 := ⟨_, rfl⟩
    have h := sx_letE hx23 h
    refine sx_iinc (pc := 621) (v := x23) (lo' := [(20, .int x23), (0, .ref 146), (2, .int l2), (3, .int l3), (8, .int l8), (9, .int l9)]) dX12_makePart_621 sx_m5 (by rw [hx23]; rfl) (by decide) rfl ?_
    refine sx_goto (pc := 624) (tgt := 571) dX12_makePart_624 (by decide) ?_
    refine sx_wk (sx_s1 sx_m1 (sx_s1 sx_m2 (sx_s1 sx_m3 (sx_s1 sx_m4 (sx_s1 sx_m5 (sx_s1 sx_m0 sx_s0)))))) ?_
    exact hk571 _ _ _ _ _ _ h
theorem tL_X12_makePart_571 {g : sx_G} (hG : sx_Go g) {P : Option Value → sv_V → Prop} {Vr : sv_V} (hP : P none Vr) {N : Nat} {D : Nat} {kb : Int32 → Int32 → sv_V → Option sv_V} (hkb : ∀ (l1 : Int32) (l2 : Int32) (V : sv_V) (Wr : sv_V), kb l1 l2 V = some Wr → ∀ P : Option Value → sv_V → Prop, P none Wr → sv_N g qX12_makeGlyph (30 + 2 * D) 0 [(0, .ref 146), (1, .int l1), (2, .int l2)] [] V P)   : ∀ (n : Nat) (l2 : Int32) (l3 : Int32) (l8 : Int32) (l9 : Int32) (l20 : Int32) (V : sv_V), sx_lp6 (B_X12_makePart_571 N kb ) n l2 l3 l8 l9 l20 V = some Vr → sv_N g qX12_makePart (30 + 2 * D + 1) 571 [(0, .ref 146), (2, .int l2), (3, .int l3), (8, .int l8), (9, .int l9), (20, .int l20)] [] V P :=
  sx_lp6_ind (fun k0 ih _ _ _ _ _ V h => tB_X12_makePart_571 hG hP hkb ih h)
def B_X12_makePart_525 (N : Nat) (kb : Int32 → Int32 → sv_V → Option sv_V) (k525 : Int32 → Int32 → Int32 → Int32 → Int32 → Int32 → Int32 → Int32 → sv_V → Option sv_V) (l2 : Int32) (l3 : Int32) (l6 : Int32) (l8 : Int32) (l9 : Int32) (l18 : Int32) (l19 : Int32) (l20 : Int32) (V : sv_V) : Option sv_V := if ((l6 + l8) + l9) ≤ l20 then (sx_lp6 (B_X12_makePart_571 N kb ) N l2 l3 l8 l9 (0 : Int32) V) else (if sx_in l20 612 = true then if sx_in l20 612 = true then sx_let (sv_I V 192 l20.toNatClampNeg ((V.1 192 l20.toNatClampNeg) + l18)) (fun V27 => if sx_in l20 612 = true then if sx_in l20 612 = true then sx_let (sv_I V27 193 l20.toNatClampNeg ((V27.1 193 l20.toNatClampNeg) + l19)) (fun V30 => sx_let (l20 + 1) (fun x31 => k525 l2 l3 l6 l8 l9 l18 l19 x31 V30)) else none else none) else none else none)
set_option maxRecDepth 20000 in
theorem tB_X12_makePart_525 {g : sx_G} (hG : sx_Go g) {P : Option Value → sv_V → Prop} {Vr : sv_V} (hP : P none Vr) {N : Nat} {D : Nat} {kb : Int32 → Int32 → sv_V → Option sv_V} (hkb : ∀ (l1 : Int32) (l2 : Int32) (V : sv_V) (Wr : sv_V), kb l1 l2 V = some Wr → ∀ P : Option Value → sv_V → Prop, P none Wr → sv_N g qX12_makeGlyph (30 + 2 * D) 0 [(0, .ref 146), (1, .int l1), (2, .int l2)] [] V P) {k525 : Int32 → Int32 → Int32 → Int32 → Int32 → Int32 → Int32 → Int32 → sv_V → Option sv_V} (hk525 : ∀ (l2 : Int32) (l3 : Int32) (l6 : Int32) (l8 : Int32) (l9 : Int32) (l18 : Int32) (l19 : Int32) (l20 : Int32) (V : sv_V), k525 l2 l3 l6 l8 l9 l18 l19 l20 V = some Vr → sv_N g qX12_makePart (30 + 2 * D + 1) 525 [(0, .ref 146), (2, .int l2), (3, .int l3), (6, .int l6), (8, .int l8), (9, .int l9), (18, .int l18), (19, .int l19), (20, .int l20)] [] V P) {l2 : Int32} {l3 : Int32} {l6 : Int32} {l8 : Int32} {l9 : Int32} {l18 : Int32} {l19 : Int32} {l20 : Int32} {V : sv_V} (h : B_X12_makePart_525 N kb k525 l2 l3 l6 l8 l9 l18 l19 l20 V = some Vr) : sv_N g qX12_makePart (30 + 2 * D + 1) 525 [(0, .ref 146), (2, .int l2), (3, .int l3), (6, .int l6), (8, .int l8), (9, .int l9), (18, .int l18), (19, .int l19), (20, .int l20)] [] V P := by
  unfold B_X12_makePart_525 at h
  refine sx_iload (pc := 525) dX12_makePart_525 sx_m8 ?_
  refine sx_iload (pc := 527) dX12_makePart_527 sx_m3 ?_
  refine sx_iload (pc := 529) dX12_makePart_529 sx_m4 ?_
  refine sx_iadd (pc := 531) dX12_makePart_531 ?_
  refine sx_iload (pc := 532) dX12_makePart_532 sx_m5 ?_
  refine sx_iadd (pc := 534) dX12_makePart_534 ?_
  refine sx_icmp_ge (pc := 535) (tgt := 568) dX12_makePart_535 (by decide) (fun c24 => ?_) (fun c24 => ?_)
  · have h := sx_pos c24 h
    refine sx_iconst (pc := 568) (v := 0) dX12_makePart_568 (by decide) ?_
    refine sx_istore (pc := 569) (lo' := [(20, .int (0 : Int32)), (0, .ref 146), (2, .int l2), (3, .int l3), (6, .int l6), (8, .int l8), (9, .int l9), (18, .int l18), (19, .int l19)]) dX12_makePart_569 (by decide) rfl ?_
    refine sx_wk (sx_s1 sx_m1 (sx_s1 sx_m2 (sx_s1 sx_m3 (sx_s1 sx_m5 (sx_s1 sx_m6 (sx_s1 sx_m0 sx_s0)))))) ?_
    exact tL_X12_makePart_571 hG hP hkb  N _ _ _ _ _ _ h
  · have h := sx_neg c24 h
    refine sx_aload_n (pc := 538) dX12_makePart_538 sx_m0 ?_
    refine sv_getA (pc := 539) hG dX12_makePart_539 f_12_152 lay_146 rfl cr_146_120 ?_
    refine sx_iload (pc := 542) dX12_makePart_542 sx_m8 ?_
    refine sx_dup2 (pc := 544) dX12_makePart_544 rfl rfl ?_
    obtain ⟨g25, h⟩ := sx_grd h
    refine sv_iald (pc := 545) hG dX12_makePart_545 lay_192 g25 ?_
    refine sx_iload (pc := 546) dX12_makePart_546 sx_m6 ?_
    refine sx_iadd (pc := 548) dX12_makePart_548 ?_
    obtain ⟨g26, h⟩ := sx_grd h
    obtain ⟨V27, hV27⟩ : ∃ z : sv_V, z = sv_I V 192 l20.toNatClampNeg ((V.1 192 l20.toNatClampNeg) + l18) := ⟨_, rfl⟩
    have h := sx_letE hV27 h
    refine sv_iast (pc := 549) hG dX12_makePart_549 lay_192 g26 hV27 ?_
    refine sx_aload_n (pc := 550) dX12_makePart_550 sx_m0 ?_
    refine sv_getA (pc := 551) hG dX12_makePart_551 f_12_155 lay_146 rfl cr_146_121 ?_
    refine sx_iload (pc := 554) dX12_makePart_554 sx_m8 ?_
    refine sx_dup2 (pc := 556) dX12_makePart_556 rfl rfl ?_
    obtain ⟨g28, h⟩ := sx_grd h
    refine sv_iald (pc := 557) hG dX12_makePart_557 lay_193 g28 ?_
    refine sx_iload (pc := 558) dX12_makePart_558 sx_m7 ?_
    refine sx_iadd (pc := 560) dX12_makePart_560 ?_
    obtain ⟨g29, h⟩ := sx_grd h
    obtain ⟨V30, hV30⟩ : ∃ z : sv_V, z = sv_I V27 193 l20.toNatClampNeg ((V27.1 193 l20.toNatClampNeg) + l19) := ⟨_, rfl⟩
    have h := sx_letE hV30 h
    refine sv_iast (pc := 561) hG dX12_makePart_561 lay_193 g29 hV30 ?_
    obtain ⟨x31, hx31⟩ : ∃ z : Int32, z = l20 + 1 := ⟨_, rfl⟩
    have h := sx_letE hx31 h
    refine sx_iinc (pc := 562) (v := x31) (lo' := [(20, .int x31), (0, .ref 146), (2, .int l2), (3, .int l3), (6, .int l6), (8, .int l8), (9, .int l9), (18, .int l18), (19, .int l19)]) dX12_makePart_562 sx_m8 (by rw [hx31]; rfl) (by decide) rfl ?_
    refine sx_goto (pc := 565) (tgt := 525) dX12_makePart_565 (by decide) ?_
    refine sx_wk (sx_s1 sx_m1 (sx_s1 sx_m2 (sx_s1 sx_m3 (sx_s1 sx_m4 (sx_s1 sx_m5 (sx_s1 sx_m6 (sx_s1 sx_m7 (sx_s1 sx_m8 (sx_s1 sx_m0 sx_s0))))))))) ?_
    exact hk525 _ _ _ _ _ _ _ _ _ h
theorem tL_X12_makePart_525 {g : sx_G} (hG : sx_Go g) {P : Option Value → sv_V → Prop} {Vr : sv_V} (hP : P none Vr) {N : Nat} {D : Nat} {kb : Int32 → Int32 → sv_V → Option sv_V} (hkb : ∀ (l1 : Int32) (l2 : Int32) (V : sv_V) (Wr : sv_V), kb l1 l2 V = some Wr → ∀ P : Option Value → sv_V → Prop, P none Wr → sv_N g qX12_makeGlyph (30 + 2 * D) 0 [(0, .ref 146), (1, .int l1), (2, .int l2)] [] V P)   : ∀ (n : Nat) (l2 : Int32) (l3 : Int32) (l6 : Int32) (l8 : Int32) (l9 : Int32) (l18 : Int32) (l19 : Int32) (l20 : Int32) (V : sv_V), sx_lp9 (B_X12_makePart_525 N kb ) n l2 l3 l6 l8 l9 l18 l19 l20 V = some Vr → sv_N g qX12_makePart (30 + 2 * D + 1) 525 [(0, .ref 146), (2, .int l2), (3, .int l3), (6, .int l6), (8, .int l8), (9, .int l9), (18, .int l18), (19, .int l19), (20, .int l20)] [] V P :=
  sx_lp9_ind (fun k0 ih _ _ _ _ _ _ _ _ V h => tB_X12_makePart_525 hG hP hkb ih h)
def B_X12_makePart_518 (N : Nat) (kb : Int32 → Int32 → sv_V → Option sv_V)  (l2 : Int32) (l3 : Int32) (l6 : Int32) (l8 : Int32) (l9 : Int32) (l18 : Int32) (l19 : Int32) (V : sv_V) : Option sv_V := sx_let (l6 + l8) (fun x32 => sx_lp9 (B_X12_makePart_525 N kb ) N l2 l3 l6 l8 l9 l18 l19 x32 V)
set_option maxRecDepth 20000 in
theorem tB_X12_makePart_518 {g : sx_G} (hG : sx_Go g) {P : Option Value → sv_V → Prop} {Vr : sv_V} (hP : P none Vr) {N : Nat} {D : Nat} {kb : Int32 → Int32 → sv_V → Option sv_V} (hkb : ∀ (l1 : Int32) (l2 : Int32) (V : sv_V) (Wr : sv_V), kb l1 l2 V = some Wr → ∀ P : Option Value → sv_V → Prop, P none Wr → sv_N g qX12_makeGlyph (30 + 2 * D) 0 [(0, .ref 146), (1, .int l1), (2, .int l2)] [] V P)   {l2 : Int32} {l3 : Int32} {l6 : Int32} {l8 : Int32} {l9 : Int32} {l18 : Int32} {l19 : Int32} {V : sv_V} (h : B_X12_makePart_518 N kb  l2 l3 l6 l8 l9 l18 l19 V = some Vr) : sv_N g qX12_makePart (30 + 2 * D + 1) 518 [(0, .ref 146), (2, .int l2), (3, .int l3), (6, .int l6), (8, .int l8), (9, .int l9), (18, .int l18), (19, .int l19)] [] V P := by
  unfold B_X12_makePart_518 at h
  refine sx_iload (pc := 518) dX12_makePart_518 sx_m3 ?_
  refine sx_iload (pc := 520) dX12_makePart_520 sx_m4 ?_
  refine sx_iadd (pc := 522) dX12_makePart_522 ?_
  refine sv_tI (fun x32 hx32 => ?_)
  have h := sx_letE hx32 h
  refine sx_istore (pc := 523) (lo' := [(20, .int x32), (0, .ref 146), (2, .int l2), (3, .int l3), (6, .int l6), (8, .int l8), (9, .int l9), (18, .int l18), (19, .int l19)]) dX12_makePart_523 (by decide) rfl ?_
  refine sx_wk (sx_s1 sx_m1 (sx_s1 sx_m2 (sx_s1 sx_m3 (sx_s1 sx_m4 (sx_s1 sx_m5 (sx_s1 sx_m6 (sx_s1 sx_m7 (sx_s1 sx_m8 (sx_s1 sx_m0 sx_s0))))))))) ?_
  exact tL_X12_makePart_525 hG hP hkb  N _ _ _ _ _ _ _ _ _ h
def B_X12_makePart_399 (N : Nat) (kb : Int32 → Int32 → sv_V → Option sv_V)  (l2 : Int32) (l3 : Int32) (l6 : Int32) (l8 : Int32) (l9 : Int32) (l18 : Int32) (s0 : Int32) (V : sv_V) : Option sv_V := B_X12_makePart_518 N kb  l2 l3 l6 l8 l9 l18 s0 V
set_option maxRecDepth 20000 in
theorem tB_X12_makePart_399 {g : sx_G} (hG : sx_Go g) {P : Option Value → sv_V → Prop} {Vr : sv_V} (hP : P none Vr) {N : Nat} {D : Nat} {kb : Int32 → Int32 → sv_V → Option sv_V} (hkb : ∀ (l1 : Int32) (l2 : Int32) (V : sv_V) (Wr : sv_V), kb l1 l2 V = some Wr → ∀ P : Option Value → sv_V → Prop, P none Wr → sv_N g qX12_makeGlyph (30 + 2 * D) 0 [(0, .ref 146), (1, .int l1), (2, .int l2)] [] V P)   {l2 : Int32} {l3 : Int32} {l6 : Int32} {l8 : Int32} {l9 : Int32} {l18 : Int32} {s0 : Int32} {V : sv_V} (h : B_X12_makePart_399 N kb  l2 l3 l6 l8 l9 l18 s0 V = some Vr) : sv_N g qX12_makePart (30 + 2 * D + 1) 399 [(0, .ref 146), (2, .int l2), (3, .int l3), (6, .int l6), (8, .int l8), (9, .int l9), (18, .int l18)] [.int s0] V P := by
  unfold B_X12_makePart_399 at h
  refine sx_istore (pc := 399) (lo' := [(19, .int s0), (0, .ref 146), (2, .int l2), (3, .int l3), (6, .int l6), (8, .int l8), (9, .int l9), (18, .int l18)]) dX12_makePart_399 (by decide) rfl ?_
  refine sx_goto (pc := 401) (tgt := 518) dX12_makePart_401 (by decide) ?_
  refine sx_wk (sx_s1 sx_m1 (sx_s1 sx_m2 (sx_s1 sx_m3 (sx_s1 sx_m4 (sx_s1 sx_m5 (sx_s1 sx_m6 (sx_s1 sx_m7 (sx_s1 sx_m0 sx_s0)))))))) ?_
  exact tB_X12_makePart_518 hG hP hkb  h
def B_X12_makePart_375 (N : Nat) (kb : Int32 → Int32 → sv_V → Option sv_V)  (l2 : Int32) (l3 : Int32) (l6 : Int32) (l8 : Int32) (l9 : Int32) (l19 : Int32) (s0 : Int32) (V : sv_V) : Option sv_V := if sx_in l2 8 = true then if ((V.1 157 l2.toNatClampNeg) &&& (4 : Int32)) = 0 then (B_X12_makePart_399 N kb  l2 l3 l6 l8 l9 s0 l19 V) else ((F_X12_toPixel l19.toInt64 V).bind (fun (x37, V35) => B_X12_makePart_399 N kb  l2 l3 l6 l8 l9 s0 x37 V35)) else none
set_option maxRecDepth 20000 in
theorem tB_X12_makePart_375 {g : sx_G} (hG : sx_Go g) {P : Option Value → sv_V → Prop} {Vr : sv_V} (hP : P none Vr) {N : Nat} {D : Nat} {kb : Int32 → Int32 → sv_V → Option sv_V} (hkb : ∀ (l1 : Int32) (l2 : Int32) (V : sv_V) (Wr : sv_V), kb l1 l2 V = some Wr → ∀ P : Option Value → sv_V → Prop, P none Wr → sv_N g qX12_makeGlyph (30 + 2 * D) 0 [(0, .ref 146), (1, .int l1), (2, .int l2)] [] V P)   {l2 : Int32} {l3 : Int32} {l6 : Int32} {l8 : Int32} {l9 : Int32} {l19 : Int32} {s0 : Int32} {V : sv_V} (h : B_X12_makePart_375 N kb  l2 l3 l6 l8 l9 l19 s0 V = some Vr) : sv_N g qX12_makePart (30 + 2 * D + 1) 375 [(0, .ref 146), (2, .int l2), (3, .int l3), (6, .int l6), (8, .int l8), (9, .int l9), (19, .int l19)] [.int s0] V P := by
  unfold B_X12_makePart_375 at h
  refine sx_istore (pc := 375) (lo' := [(18, .int s0), (0, .ref 146), (2, .int l2), (3, .int l3), (6, .int l6), (8, .int l8), (9, .int l9), (19, .int l19)]) dX12_makePart_375 (by decide) rfl ?_
  refine sx_aload_n (pc := 377) dX12_makePart_377 sx_m1 ?_
  refine sv_getA (pc := 378) hG dX12_makePart_378 f_12_42 lay_146 rfl cr_146_37 ?_
  refine sx_iload_n (pc := 381) dX12_makePart_381 sx_m2 ?_
  obtain ⟨g33, h⟩ := sx_grd h
  refine sv_iald (pc := 382) hG dX12_makePart_382 lay_157 g33 ?_
  refine sx_iconst (pc := 383) (v := 4) dX12_makePart_383 (by decide) ?_
  refine sx_iand (pc := 384) dX12_makePart_384 ?_
  refine sx_if_eq (pc := 385) (tgt := 397) dX12_makePart_385 (by decide) (fun c34 => ?_) (fun c34 => ?_)
  · have h := sx_pos c34 h
    refine sx_iload (pc := 397) dX12_makePart_397 sx_m7 ?_
    refine sx_wk (sx_s1 sx_m1 (sx_s1 sx_m2 (sx_s1 sx_m3 (sx_s1 sx_m4 (sx_s1 sx_m5 (sx_s1 sx_m6 (sx_s1 sx_m0 sx_s0))))))) ?_
    exact tB_X12_makePart_399 hG hP hkb  h
  · have h := sx_neg c34 h
    refine sx_iload (pc := 388) dX12_makePart_388 sx_m7 ?_
    refine sx_i2l (pc := 390) dX12_makePart_390 ?_
    obtain ⟨⟨x37, V35⟩, g36, h⟩ := sx_bnd h
    refine sv_cS (pc := 391) (y := qX12_toPixel) (o := (some (.int x37))) (as := [.long l19.toInt64]) (V1 := V35) dX12_makePart_391 l_X12_813 y0X12_toPixel ysX12_toPixel rfl (Nat.le_of_ble_eq_true rfl) (by omega) (Nat.le_of_ble_eq_true rfl) rfl rfl rfl (t_X12_toPixel hG ⟨rfl, rfl⟩ g36) ?_
    refine sx_goto (pc := 394) (tgt := 399) dX12_makePart_394 (by decide) ?_
    refine sx_wk (sx_s1 sx_m1 (sx_s1 sx_m2 (sx_s1 sx_m3 (sx_s1 sx_m4 (sx_s1 sx_m5 (sx_s1 sx_m6 (sx_s1 sx_m0 sx_s0))))))) ?_
    exact tB_X12_makePart_399 hG hP hkb  h
def B_X12_makePart_444 (N : Nat) (kb : Int32 → Int32 → sv_V → Option sv_V)   (V : sv_V) : Option sv_V := (F_X12_failOutside (5 : Int32) V).bind (fun V38 => some V38)
set_option maxRecDepth 20000 in
theorem tB_X12_makePart_444 {g : sx_G} (hG : sx_Go g) {P : Option Value → sv_V → Prop} {Vr : sv_V} (hP : P none Vr) {N : Nat} {D : Nat} {kb : Int32 → Int32 → sv_V → Option sv_V} (hkb : ∀ (l1 : Int32) (l2 : Int32) (V : sv_V) (Wr : sv_V), kb l1 l2 V = some Wr → ∀ P : Option Value → sv_V → Prop, P none Wr → sv_N g qX12_makeGlyph (30 + 2 * D) 0 [(0, .ref 146), (1, .int l1), (2, .int l2)] [] V P)    {V : sv_V} (h : B_X12_makePart_444 N kb   V = some Vr) : sv_N g qX12_makePart (30 + 2 * D + 1) 444 [(0, .ref 146)] [] V P := by
  unfold B_X12_makePart_444 at h
  refine sx_aload_n (pc := 444) dX12_makePart_444 sx_m0 ?_
  refine sx_iconst (pc := 445) (v := 5) dX12_makePart_445 (by decide) ?_
  obtain ⟨V38, g39, h⟩ := sx_bnd h
  refine sv_cV (pc := 446) (y := qX12_failOutside) (o := none) (as := [.int (5 : Int32)]) (V1 := V38) hG dX12_makePart_446 l_X12_795 y0X12_failOutside yvX12_failOutside rfl (Nat.le_of_ble_eq_true rfl) lay_146 kr_12 (by omega) (Nat.le_of_ble_eq_true rfl) rfl rfl rfl (t_X12_failOutside hG ⟨rfl, rfl⟩ g39) ?_
  exact sv_vret (pc := 449) dX12_makePart_449 rfl h hP
def B_X12_makePart_186 (N : Nat) (kb : Int32 → Int32 → sv_V → Option sv_V) (k186 : Int32 → Int32 → Int32 → Int32 → Int32 → Int32 → Int64 → Int64 → Int64 → Int64 → Int32 → sv_V → Option sv_V) (l2 : Int32) (l3 : Int32) (l6 : Int32) (l7 : Int32) (l8 : Int32) (l9 : Int32) (l10 : Int64) (l12 : Int64) (l14 : Int64) (l16 : Int64) (l18 : Int32) (V : sv_V) : Option sv_V := if l9 ≤ l18 then (if sx_in l2 8 = true then if ((V.1 157 l2.toNatClampNeg) &&& (2 : Int32)) = 0 then (if sx_in l2 8 = true then if (V.1 159 l2.toNatClampNeg) < 0 then (B_X12_makePart_444 N kb   V) else (if sx_in l2 8 = true then if l8 ≤ (V.1 159 l2.toNatClampNeg) then (B_X12_makePart_444 N kb   V) else (if sx_in l2 8 = true then if (V.1 160 l2.toNatClampNeg) < 0 then (B_X12_makePart_444 N kb   V) else (if sx_in l2 8 = true then if (V.1 160 l2.toNatClampNeg) < l9 then (if sx_in l2 8 = true then if sx_in (l6 + (V.1 159 l2.toNatClampNeg)) 612 = true then if sx_in l2 8 = true then if sx_in ((l6 + l8) + (V.1 160 l2.toNatClampNeg)) 612 = true then sx_let ((V.1 192 (l6 + (V.1 159 l2.toNatClampNeg)).toNatClampNeg) - (V.1 192 ((l6 + l8) + (V.1 160 l2.toNatClampNeg)).toNatClampNeg)) (fun x55 => if sx_in l2 8 = true then if sx_in (l6 + (V.1 159 l2.toNatClampNeg)) 612 = true then if sx_in l2 8 = true then if sx_in ((l6 + l8) + (V.1 160 l2.toNatClampNeg)) 612 = true then sx_let ((V.1 193 (l6 + (V.1 159 l2.toNatClampNeg)).toNatClampNeg) - (V.1 193 ((l6 + l8) + (V.1 160 l2.toNatClampNeg)).toNatClampNeg)) (fun x60 => B_X12_makePart_518 N kb  l2 l3 l6 l8 l9 x55 x60 V) else none else none else none else none) else none else none else none else none) else (B_X12_makePart_444 N kb   V) else none) else none) else none) else none) else (if sx_in l2 8 = true then (F_X12_scaled ((V.1 159 l2.toNatClampNeg).toInt64) V).bind (fun (x64, V62) => if sx_in l2 8 = true then (F_X12_scaled ((V62.1 160 l2.toNatClampNeg).toInt64) V62).bind (fun (x68, V66) => if sx_in l2 8 = true then if ((V66.1 157 l2.toNatClampNeg) &&& (4 : Int32)) = 0 then (B_X12_makePart_375 N kb  l2 l3 l6 l8 l9 x68 x64 V66) else ((F_X12_toPixel x64.toInt64 V66).bind (fun (x73, V71) => B_X12_makePart_375 N kb  l2 l3 l6 l8 l9 x68 x73 V71)) else none) else none) else none) else none) else (if sx_in (l7 + l18) 612 = true then sx_let ((V.1 192 (l7 + l18).toNatClampNeg).toInt64) (fun x75 => if sx_in (l7 + l18) 612 = true then sx_let ((V.1 193 (l7 + l18).toNatClampNeg).toInt64) (fun x77 => (F_X12_over ((x75 * l10) + (x77 * l14)) (16384 : Int64) V).bind (fun (x80, V78) => if sx_in ((l6 + l8) + l18) 612 = true then sx_let (sv_I V78 192 ((l6 + l8) + l18).toNatClampNeg x80.toInt32) (fun V82 => (F_X12_over ((x75 * l12) + (x77 * l16)) (16384 : Int64) V82).bind (fun (x85, V83) => if sx_in ((l6 + l8) + l18) 612 = true then sx_let (sv_I V83 193 ((l6 + l8) + l18).toNatClampNeg x85.toInt32) (fun V87 => if sx_in (l7 + l18) 612 = true then if sx_in ((l6 + l8) + l18) 612 = true then if sv_bl (V87.1 194 (l7 + l18).toNatClampNeg) = true then sx_let (sv_I V87 194 ((l6 + l8) + l18).toNatClampNeg (V87.1 194 (l7 + l18).toNatClampNeg)) (fun V91 => sx_let (l18 + 1) (fun x92 => k186 l2 l3 l6 l7 l8 l9 l10 l12 l14 l16 x92 V91)) else none else none else none) else none)) else none)) else none) else none)
set_option maxRecDepth 20000 in
theorem tB_X12_makePart_186 {g : sx_G} (hG : sx_Go g) {P : Option Value → sv_V → Prop} {Vr : sv_V} (hP : P none Vr) {N : Nat} {D : Nat} {kb : Int32 → Int32 → sv_V → Option sv_V} (hkb : ∀ (l1 : Int32) (l2 : Int32) (V : sv_V) (Wr : sv_V), kb l1 l2 V = some Wr → ∀ P : Option Value → sv_V → Prop, P none Wr → sv_N g qX12_makeGlyph (30 + 2 * D) 0 [(0, .ref 146), (1, .int l1), (2, .int l2)] [] V P) {k186 : Int32 → Int32 → Int32 → Int32 → Int32 → Int32 → Int64 → Int64 → Int64 → Int64 → Int32 → sv_V → Option sv_V} (hk186 : ∀ (l2 : Int32) (l3 : Int32) (l6 : Int32) (l7 : Int32) (l8 : Int32) (l9 : Int32) (l10 : Int64) (l12 : Int64) (l14 : Int64) (l16 : Int64) (l18 : Int32) (V : sv_V), k186 l2 l3 l6 l7 l8 l9 l10 l12 l14 l16 l18 V = some Vr → sv_N g qX12_makePart (30 + 2 * D + 1) 186 [(0, .ref 146), (2, .int l2), (3, .int l3), (6, .int l6), (7, .int l7), (8, .int l8), (9, .int l9), (10, .long l10), (12, .long l12), (14, .long l14), (16, .long l16), (18, .int l18)] [] V P) {l2 : Int32} {l3 : Int32} {l6 : Int32} {l7 : Int32} {l8 : Int32} {l9 : Int32} {l10 : Int64} {l12 : Int64} {l14 : Int64} {l16 : Int64} {l18 : Int32} {V : sv_V} (h : B_X12_makePart_186 N kb k186 l2 l3 l6 l7 l8 l9 l10 l12 l14 l16 l18 V = some Vr) : sv_N g qX12_makePart (30 + 2 * D + 1) 186 [(0, .ref 146), (2, .int l2), (3, .int l3), (6, .int l6), (7, .int l7), (8, .int l8), (9, .int l9), (10, .long l10), (12, .long l12), (14, .long l14), (16, .long l16), (18, .int l18)] [] V P := by
  unfold B_X12_makePart_186 at h
  refine sx_iload (pc := 186) dX12_makePart_186 sx_m11 ?_
  refine sx_iload (pc := 188) dX12_makePart_188 sx_m6 ?_
  refine sx_icmp_ge (pc := 190) (tgt := 310) dX12_makePart_190 (by decide) (fun c40 => ?_) (fun c40 => ?_)
  · have h := sx_pos c40 h
    refine sx_iconst (pc := 310) (v := 0) dX12_makePart_310 (by decide) ?_
    refine sx_istore (pc := 311) (lo' := [(18, .int (0 : Int32)), (0, .ref 146), (2, .int l2), (3, .int l3), (6, .int l6), (7, .int l7), (8, .int l8), (9, .int l9), (10, .long l10), (12, .long l12), (14, .long l14), (16, .long l16)]) dX12_makePart_311 (by decide) rfl ?_
    refine sx_iconst (pc := 313) (v := 0) dX12_makePart_313 (by decide) ?_
    refine sx_istore (pc := 314) (lo' := [(19, .int (0 : Int32)), (18, .int (0 : Int32)), (0, .ref 146), (2, .int l2), (3, .int l3), (6, .int l6), (7, .int l7), (8, .int l8), (9, .int l9), (10, .long l10), (12, .long l12), (14, .long l14), (16, .long l16)]) dX12_makePart_314 (by decide) rfl ?_
    refine sx_aload_n (pc := 316) dX12_makePart_316 sx_m2 ?_
    refine sv_getA (pc := 317) hG dX12_makePart_317 f_12_42 lay_146 rfl cr_146_37 ?_
    refine sx_iload_n (pc := 320) dX12_makePart_320 sx_m3 ?_
    obtain ⟨g41, h⟩ := sx_grd h
    refine sv_iald (pc := 321) hG dX12_makePart_321 lay_157 g41 ?_
    refine sx_iconst (pc := 322) (v := 2) dX12_makePart_322 (by decide) ?_
    refine sx_iand (pc := 323) dX12_makePart_323 ?_
    refine sx_if_eq (pc := 324) (tgt := 404) dX12_makePart_324 (by decide) (fun c42 => ?_) (fun c42 => ?_)
    · have h := sx_pos c42 h
      refine sx_aload_n (pc := 404) dX12_makePart_404 sx_m2 ?_
      refine sv_getA (pc := 405) hG dX12_makePart_405 f_12_48 lay_146 rfl cr_146_39 ?_
      refine sx_iload_n (pc := 408) dX12_makePart_408 sx_m3 ?_
      obtain ⟨g43, h⟩ := sx_grd h
      refine sv_iald (pc := 409) hG dX12_makePart_409 lay_159 g43 ?_
      refine sx_if_lt (pc := 410) (tgt := 444) dX12_makePart_410 (by decide) (fun c44 => ?_) (fun c44 => ?_)
      · have h := sx_pos c44 h
        refine sx_wk (sx_s1 sx_m2 sx_s0) ?_
        exact tB_X12_makePart_444 hG hP hkb  h
      · have h := sx_neg c44 h
        refine sx_aload_n (pc := 413) dX12_makePart_413 sx_m2 ?_
        refine sv_getA (pc := 414) hG dX12_makePart_414 f_12_48 lay_146 rfl cr_146_39 ?_
        refine sx_iload_n (pc := 417) dX12_makePart_417 sx_m3 ?_
        obtain ⟨g45, h⟩ := sx_grd h
        refine sv_iald (pc := 418) hG dX12_makePart_418 lay_159 g45 ?_
        refine sx_iload (pc := 419) dX12_makePart_419 sx_m7 ?_
        refine sx_icmp_ge (pc := 421) (tgt := 444) dX12_makePart_421 (by decide) (fun c46 => ?_) (fun c46 => ?_)
        · have h := sx_pos c46 h
          refine sx_wk (sx_s1 sx_m2 sx_s0) ?_
          exact tB_X12_makePart_444 hG hP hkb  h
        · have h := sx_neg c46 h
          refine sx_aload_n (pc := 424) dX12_makePart_424 sx_m2 ?_
          refine sv_getA (pc := 425) hG dX12_makePart_425 f_12_51 lay_146 rfl cr_146_40 ?_
          refine sx_iload_n (pc := 428) dX12_makePart_428 sx_m3 ?_
          obtain ⟨g47, h⟩ := sx_grd h
          refine sv_iald (pc := 429) hG dX12_makePart_429 lay_160 g47 ?_
          refine sx_if_lt (pc := 430) (tgt := 444) dX12_makePart_430 (by decide) (fun c48 => ?_) (fun c48 => ?_)
          · have h := sx_pos c48 h
            refine sx_wk (sx_s1 sx_m2 sx_s0) ?_
            exact tB_X12_makePart_444 hG hP hkb  h
          · have h := sx_neg c48 h
            refine sx_aload_n (pc := 433) dX12_makePart_433 sx_m2 ?_
            refine sv_getA (pc := 434) hG dX12_makePart_434 f_12_51 lay_146 rfl cr_146_40 ?_
            refine sx_iload_n (pc := 437) dX12_makePart_437 sx_m3 ?_
            obtain ⟨g49, h⟩ := sx_grd h
            refine sv_iald (pc := 438) hG dX12_makePart_438 lay_160 g49 ?_
            refine sx_iload (pc := 439) dX12_makePart_439 sx_m8 ?_
            refine sx_icmp_lt (pc := 441) (tgt := 450) dX12_makePart_441 (by decide) (fun c50 => ?_) (fun c50 => ?_)
            · have h := sx_pos c50 h
              refine sx_aload_n (pc := 450) dX12_makePart_450 sx_m2 ?_
              refine sv_getA (pc := 451) hG dX12_makePart_451 f_12_152 lay_146 rfl cr_146_120 ?_
              refine sx_iload (pc := 454) dX12_makePart_454 sx_m5 ?_
              refine sx_aload_n (pc := 456) dX12_makePart_456 sx_m2 ?_
              refine sv_getA (pc := 457) hG dX12_makePart_457 f_12_48 lay_146 rfl cr_146_39 ?_
              refine sx_iload_n (pc := 460) dX12_makePart_460 sx_m3 ?_
              obtain ⟨g51, h⟩ := sx_grd h
              refine sv_iald (pc := 461) hG dX12_makePart_461 lay_159 g51 ?_
              refine sx_iadd (pc := 462) dX12_makePart_462 ?_
              obtain ⟨g52, h⟩ := sx_grd h
              refine sv_iald (pc := 463) hG dX12_makePart_463 lay_192 g52 ?_
              refine sx_aload_n (pc := 464) dX12_makePart_464 sx_m2 ?_
              refine sv_getA (pc := 465) hG dX12_makePart_465 f_12_152 lay_146 rfl cr_146_120 ?_
              refine sx_iload (pc := 468) dX12_makePart_468 sx_m5 ?_
              refine sx_iload (pc := 470) dX12_makePart_470 sx_m7 ?_
              refine sx_iadd (pc := 472) dX12_makePart_472 ?_
              refine sx_aload_n (pc := 473) dX12_makePart_473 sx_m2 ?_
              refine sv_getA (pc := 474) hG dX12_makePart_474 f_12_51 lay_146 rfl cr_146_40 ?_
              refine sx_iload_n (pc := 477) dX12_makePart_477 sx_m3 ?_
              obtain ⟨g53, h⟩ := sx_grd h
              refine sv_iald (pc := 478) hG dX12_makePart_478 lay_160 g53 ?_
              refine sx_iadd (pc := 479) dX12_makePart_479 ?_
              obtain ⟨g54, h⟩ := sx_grd h
              refine sv_iald (pc := 480) hG dX12_makePart_480 lay_192 g54 ?_
              refine sx_isub (pc := 481) dX12_makePart_481 ?_
              refine sv_tI (fun x55 hx55 => ?_)
              have h := sx_letE hx55 h
              refine sx_istore (pc := 482) (lo' := [(18, .int x55), (19, .int (0 : Int32)), (0, .ref 146), (2, .int l2), (3, .int l3), (6, .int l6), (7, .int l7), (8, .int l8), (9, .int l9), (10, .long l10), (12, .long l12), (14, .long l14), (16, .long l16)]) dX12_makePart_482 (by decide) rfl ?_
              refine sx_aload_n (pc := 484) dX12_makePart_484 sx_m2 ?_
              refine sv_getA (pc := 485) hG dX12_makePart_485 f_12_155 lay_146 rfl cr_146_121 ?_
              refine sx_iload (pc := 488) dX12_makePart_488 sx_m5 ?_
              refine sx_aload_n (pc := 490) dX12_makePart_490 sx_m2 ?_
              refine sv_getA (pc := 491) hG dX12_makePart_491 f_12_48 lay_146 rfl cr_146_39 ?_
              refine sx_iload_n (pc := 494) dX12_makePart_494 sx_m3 ?_
              obtain ⟨g56, h⟩ := sx_grd h
              refine sv_iald (pc := 495) hG dX12_makePart_495 lay_159 g56 ?_
              refine sx_iadd (pc := 496) dX12_makePart_496 ?_
              obtain ⟨g57, h⟩ := sx_grd h
              refine sv_iald (pc := 497) hG dX12_makePart_497 lay_193 g57 ?_
              refine sx_aload_n (pc := 498) dX12_makePart_498 sx_m2 ?_
              refine sv_getA (pc := 499) hG dX12_makePart_499 f_12_155 lay_146 rfl cr_146_121 ?_
              refine sx_iload (pc := 502) dX12_makePart_502 sx_m5 ?_
              refine sx_iload (pc := 504) dX12_makePart_504 sx_m7 ?_
              refine sx_iadd (pc := 506) dX12_makePart_506 ?_
              refine sx_aload_n (pc := 507) dX12_makePart_507 sx_m2 ?_
              refine sv_getA (pc := 508) hG dX12_makePart_508 f_12_51 lay_146 rfl cr_146_40 ?_
              refine sx_iload_n (pc := 511) dX12_makePart_511 sx_m3 ?_
              obtain ⟨g58, h⟩ := sx_grd h
              refine sv_iald (pc := 512) hG dX12_makePart_512 lay_160 g58 ?_
              refine sx_iadd (pc := 513) dX12_makePart_513 ?_
              obtain ⟨g59, h⟩ := sx_grd h
              refine sv_iald (pc := 514) hG dX12_makePart_514 lay_193 g59 ?_
              refine sx_isub (pc := 515) dX12_makePart_515 ?_
              refine sv_tI (fun x60 hx60 => ?_)
              have h := sx_letE hx60 h
              refine sx_istore (pc := 516) (lo' := [(19, .int x60), (18, .int x55), (0, .ref 146), (2, .int l2), (3, .int l3), (6, .int l6), (7, .int l7), (8, .int l8), (9, .int l9), (10, .long l10), (12, .long l12), (14, .long l14), (16, .long l16)]) dX12_makePart_516 (by decide) rfl ?_
              refine sx_wk (sx_s1 sx_m2 (sx_s1 sx_m3 (sx_s1 sx_m4 (sx_s1 sx_m5 (sx_s1 sx_m7 (sx_s1 sx_m8 (sx_s1 sx_m1 (sx_s1 sx_m0 sx_s0)))))))) ?_
              exact tB_X12_makePart_518 hG hP hkb  h
            · have h := sx_neg c50 h
              refine sx_wk (sx_s1 sx_m2 sx_s0) ?_
              exact tB_X12_makePart_444 hG hP hkb  h
    · have h := sx_neg c42 h
      refine sx_aload_n (pc := 327) dX12_makePart_327 sx_m2 ?_
      refine sx_aload_n (pc := 328) dX12_makePart_328 sx_m2 ?_
      refine sv_getA (pc := 329) hG dX12_makePart_329 f_12_48 lay_146 rfl cr_146_39 ?_
      refine sx_iload_n (pc := 332) dX12_makePart_332 sx_m3 ?_
      obtain ⟨g61, h⟩ := sx_grd h
      refine sv_iald (pc := 333) hG dX12_makePart_333 lay_159 g61 ?_
      refine sx_i2l (pc := 334) dX12_makePart_334 ?_
      obtain ⟨⟨x64, V62⟩, g63, h⟩ := sx_bnd h
      refine sv_cV (pc := 335) (y := qX12_scaled) (o := (some (.int x64))) (as := [.long ((V.1 159 l2.toNatClampNeg).toInt64)]) (V1 := V62) hG dX12_makePart_335 l_X12_611 y0X12_scaled yvX12_scaled rfl (Nat.le_of_ble_eq_true rfl) lay_146 kr_12 (by omega) (Nat.le_of_ble_eq_true rfl) rfl rfl rfl (t_X12_scaled hG ⟨rfl, rfl⟩ g63) ?_
      refine sx_istore (pc := 338) (lo' := [(18, .int x64), (19, .int (0 : Int32)), (0, .ref 146), (2, .int l2), (3, .int l3), (6, .int l6), (7, .int l7), (8, .int l8), (9, .int l9), (10, .long l10), (12, .long l12), (14, .long l14), (16, .long l16)]) dX12_makePart_338 (by decide) rfl ?_
      refine sx_aload_n (pc := 340) dX12_makePart_340 sx_m2 ?_
      refine sx_aload_n (pc := 341) dX12_makePart_341 sx_m2 ?_
      refine sv_getA (pc := 342) hG dX12_makePart_342 f_12_51 lay_146 rfl cr_146_40 ?_
      refine sx_iload_n (pc := 345) dX12_makePart_345 sx_m3 ?_
      obtain ⟨g65, h⟩ := sx_grd h
      refine sv_iald (pc := 346) hG dX12_makePart_346 lay_160 g65 ?_
      refine sx_i2l (pc := 347) dX12_makePart_347 ?_
      obtain ⟨⟨x68, V66⟩, g67, h⟩ := sx_bnd h
      refine sv_cV (pc := 348) (y := qX12_scaled) (o := (some (.int x68))) (as := [.long ((V62.1 160 l2.toNatClampNeg).toInt64)]) (V1 := V66) hG dX12_makePart_348 l_X12_611 y0X12_scaled yvX12_scaled rfl (Nat.le_of_ble_eq_true rfl) lay_146 kr_12 (by omega) (Nat.le_of_ble_eq_true rfl) rfl rfl rfl (t_X12_scaled hG ⟨rfl, rfl⟩ g67) ?_
      refine sx_istore (pc := 351) (lo' := [(19, .int x68), (18, .int x64), (0, .ref 146), (2, .int l2), (3, .int l3), (6, .int l6), (7, .int l7), (8, .int l8), (9, .int l9), (10, .long l10), (12, .long l12), (14, .long l14), (16, .long l16)]) dX12_makePart_351 (by decide) rfl ?_
      refine sx_aload_n (pc := 353) dX12_makePart_353 sx_m2 ?_
      refine sv_getA (pc := 354) hG dX12_makePart_354 f_12_42 lay_146 rfl cr_146_37 ?_
      refine sx_iload_n (pc := 357) dX12_makePart_357 sx_m3 ?_
      obtain ⟨g69, h⟩ := sx_grd h
      refine sv_iald (pc := 358) hG dX12_makePart_358 lay_157 g69 ?_
      refine sx_iconst (pc := 359) (v := 4) dX12_makePart_359 (by decide) ?_
      refine sx_iand (pc := 360) dX12_makePart_360 ?_
      refine sx_if_eq (pc := 361) (tgt := 373) dX12_makePart_361 (by decide) (fun c70 => ?_) (fun c70 => ?_)
      · have h := sx_pos c70 h
        refine sx_iload (pc := 373) dX12_makePart_373 sx_m1 ?_
        refine sx_wk (sx_s1 sx_m2 (sx_s1 sx_m3 (sx_s1 sx_m4 (sx_s1 sx_m5 (sx_s1 sx_m7 (sx_s1 sx_m8 (sx_s1 sx_m0 sx_s0))))))) ?_
        exact tB_X12_makePart_375 hG hP hkb  h
      · have h := sx_neg c70 h
        refine sx_iload (pc := 364) dX12_makePart_364 sx_m1 ?_
        refine sx_i2l (pc := 366) dX12_makePart_366 ?_
        obtain ⟨⟨x73, V71⟩, g72, h⟩ := sx_bnd h
        refine sv_cS (pc := 367) (y := qX12_toPixel) (o := (some (.int x73))) (as := [.long x64.toInt64]) (V1 := V71) dX12_makePart_367 l_X12_813 y0X12_toPixel ysX12_toPixel rfl (Nat.le_of_ble_eq_true rfl) (by omega) (Nat.le_of_ble_eq_true rfl) rfl rfl rfl (t_X12_toPixel hG ⟨rfl, rfl⟩ g72) ?_
        refine sx_goto (pc := 370) (tgt := 375) dX12_makePart_370 (by decide) ?_
        refine sx_wk (sx_s1 sx_m2 (sx_s1 sx_m3 (sx_s1 sx_m4 (sx_s1 sx_m5 (sx_s1 sx_m7 (sx_s1 sx_m8 (sx_s1 sx_m0 sx_s0))))))) ?_
        exact tB_X12_makePart_375 hG hP hkb  h
  · have h := sx_neg c40 h
    refine sx_aload_n (pc := 193) dX12_makePart_193 sx_m0 ?_
    refine sv_getA (pc := 194) hG dX12_makePart_194 f_12_152 lay_146 rfl cr_146_120 ?_
    refine sx_iload (pc := 197) dX12_makePart_197 sx_m4 ?_
    refine sx_iload (pc := 199) dX12_makePart_199 sx_m11 ?_
    refine sx_iadd (pc := 201) dX12_makePart_201 ?_
    obtain ⟨g74, h⟩ := sx_grd h
    refine sv_iald (pc := 202) hG dX12_makePart_202 lay_192 g74 ?_
    refine sx_i2l (pc := 203) dX12_makePart_203 ?_
    refine sv_tJ (fun x75 hx75 => ?_)
    have h := sx_letE hx75 h
    refine sx_lstore (pc := 204) (lo' := [(19, .long x75), (0, .ref 146), (2, .int l2), (3, .int l3), (6, .int l6), (7, .int l7), (8, .int l8), (9, .int l9), (10, .long l10), (12, .long l12), (14, .long l14), (16, .long l16), (18, .int l18)]) dX12_makePart_204 (by decide) rfl ?_
    refine sx_aload_n (pc := 206) dX12_makePart_206 sx_m1 ?_
    refine sv_getA (pc := 207) hG dX12_makePart_207 f_12_155 lay_146 rfl cr_146_121 ?_
    refine sx_iload (pc := 210) dX12_makePart_210 sx_m5 ?_
    refine sx_iload (pc := 212) dX12_makePart_212 sx_m12 ?_
    refine sx_iadd (pc := 214) dX12_makePart_214 ?_
    obtain ⟨g76, h⟩ := sx_grd h
    refine sv_iald (pc := 215) hG dX12_makePart_215 lay_193 g76 ?_
    refine sx_i2l (pc := 216) dX12_makePart_216 ?_
    refine sv_tJ (fun x77 hx77 => ?_)
    have h := sx_letE hx77 h
    refine sx_lstore (pc := 217) (lo' := [(21, .long x77), (19, .long x75), (0, .ref 146), (2, .int l2), (3, .int l3), (6, .int l6), (7, .int l7), (8, .int l8), (9, .int l9), (10, .long l10), (12, .long l12), (14, .long l14), (16, .long l16), (18, .int l18)]) dX12_makePart_217 (by decide) rfl ?_
    refine sx_aload_n (pc := 219) dX12_makePart_219 sx_m2 ?_
    refine sv_getA (pc := 220) hG dX12_makePart_220 f_12_152 lay_146 rfl cr_146_120 ?_
    refine sx_iload (pc := 223) dX12_makePart_223 sx_m5 ?_
    refine sx_iload (pc := 225) dX12_makePart_225 sx_m7 ?_
    refine sx_iadd (pc := 227) dX12_makePart_227 ?_
    refine sx_iload (pc := 228) dX12_makePart_228 sx_m13 ?_
    refine sx_iadd (pc := 230) dX12_makePart_230 ?_
    refine sx_lload (pc := 231) dX12_makePart_231 sx_m1 ?_
    refine sx_lload (pc := 233) dX12_makePart_233 sx_m9 ?_
    refine sx_lmul (pc := 235) dX12_makePart_235 ?_
    refine sx_lload (pc := 236) dX12_makePart_236 sx_m0 ?_
    refine sx_lload (pc := 238) dX12_makePart_238 sx_m11 ?_
    refine sx_lmul (pc := 240) dX12_makePart_240 ?_
    refine sx_ladd (pc := 241) dX12_makePart_241 ?_
    refine sx_ldc2 (pc := 242) dX12_makePart_242 k_X12_310 ?_
    obtain ⟨⟨x80, V78⟩, g79, h⟩ := sx_bnd h
    refine sv_cS (pc := 245) (y := qX12_over) (o := (some (.long x80))) (as := [.long ((x75 * l10) + (x77 * l14)), .long (16384 : Int64)]) (V1 := V78) dX12_makePart_245 l_X12_517 y0X12_over ysX12_over rfl (Nat.le_of_ble_eq_true rfl) (by omega) (Nat.le_of_ble_eq_true rfl) rfl rfl rfl (t_X12_over hG ⟨rfl, rfl⟩ g79) ?_
    refine sx_l2i (pc := 248) dX12_makePart_248 ?_
    obtain ⟨g81, h⟩ := sx_grd h
    obtain ⟨V82, hV82⟩ : ∃ z : sv_V, z = sv_I V78 192 ((l6 + l8) + l18).toNatClampNeg x80.toInt32 := ⟨_, rfl⟩
    have h := sx_letE hV82 h
    refine sv_iast (pc := 249) hG dX12_makePart_249 lay_192 g81 hV82 ?_
    refine sx_aload_n (pc := 250) dX12_makePart_250 sx_m2 ?_
    refine sv_getA (pc := 251) hG dX12_makePart_251 f_12_155 lay_146 rfl cr_146_121 ?_
    refine sx_iload (pc := 254) dX12_makePart_254 sx_m5 ?_
    refine sx_iload (pc := 256) dX12_makePart_256 sx_m7 ?_
    refine sx_iadd (pc := 258) dX12_makePart_258 ?_
    refine sx_iload (pc := 259) dX12_makePart_259 sx_m13 ?_
    refine sx_iadd (pc := 261) dX12_makePart_261 ?_
    refine sx_lload (pc := 262) dX12_makePart_262 sx_m1 ?_
    refine sx_lload (pc := 264) dX12_makePart_264 sx_m10 ?_
    refine sx_lmul (pc := 266) dX12_makePart_266 ?_
    refine sx_lload (pc := 267) dX12_makePart_267 sx_m0 ?_
    refine sx_lload (pc := 269) dX12_makePart_269 sx_m12 ?_
    refine sx_lmul (pc := 271) dX12_makePart_271 ?_
    refine sx_ladd (pc := 272) dX12_makePart_272 ?_
    refine sx_ldc2 (pc := 273) dX12_makePart_273 k_X12_310 ?_
    obtain ⟨⟨x85, V83⟩, g84, h⟩ := sx_bnd h
    refine sv_cS (pc := 276) (y := qX12_over) (o := (some (.long x85))) (as := [.long ((x75 * l12) + (x77 * l16)), .long (16384 : Int64)]) (V1 := V83) dX12_makePart_276 l_X12_517 y0X12_over ysX12_over rfl (Nat.le_of_ble_eq_true rfl) (by omega) (Nat.le_of_ble_eq_true rfl) rfl rfl rfl (t_X12_over hG ⟨rfl, rfl⟩ g84) ?_
    refine sx_l2i (pc := 279) dX12_makePart_279 ?_
    obtain ⟨g86, h⟩ := sx_grd h
    obtain ⟨V87, hV87⟩ : ∃ z : sv_V, z = sv_I V83 193 ((l6 + l8) + l18).toNatClampNeg x85.toInt32 := ⟨_, rfl⟩
    have h := sx_letE hV87 h
    refine sv_iast (pc := 280) hG dX12_makePart_280 lay_193 g86 hV87 ?_
    refine sx_aload_n (pc := 281) dX12_makePart_281 sx_m2 ?_
    refine sv_getA (pc := 282) hG dX12_makePart_282 f_12_158 lay_146 rfl cr_146_122 ?_
    refine sx_iload (pc := 285) dX12_makePart_285 sx_m5 ?_
    refine sx_iload (pc := 287) dX12_makePart_287 sx_m7 ?_
    refine sx_iadd (pc := 289) dX12_makePart_289 ?_
    refine sx_iload (pc := 290) dX12_makePart_290 sx_m13 ?_
    refine sx_iadd (pc := 292) dX12_makePart_292 ?_
    refine sx_aload_n (pc := 293) dX12_makePart_293 sx_m2 ?_
    refine sv_getA (pc := 294) hG dX12_makePart_294 f_12_158 lay_146 rfl cr_146_122 ?_
    refine sx_iload (pc := 297) dX12_makePart_297 sx_m6 ?_
    refine sx_iload (pc := 299) dX12_makePart_299 sx_m13 ?_
    refine sx_iadd (pc := 301) dX12_makePart_301 ?_
    obtain ⟨g88, h⟩ := sx_grd h
    refine sv_zald (pc := 302) hG dX12_makePart_302 lay_194 g88 ?_
    obtain ⟨g89, h⟩ := sx_grd h
    obtain ⟨g90, h⟩ := sx_grd h
    obtain ⟨V91, hV91⟩ : ∃ z : sv_V, z = sv_I V87 194 ((l6 + l8) + l18).toNatClampNeg (V87.1 194 (l7 + l18).toNatClampNeg) := ⟨_, rfl⟩
    have h := sx_letE hV91 h
    refine sv_zast (pc := 303) hG dX12_makePart_303 lay_194 g89 g90 hV91 ?_
    obtain ⟨x92, hx92⟩ : ∃ z : Int32, z = l18 + 1 := ⟨_, rfl⟩
    have h := sx_letE hx92 h
    refine sx_iinc (pc := 304) (v := x92) (lo' := [(18, .int x92), (21, .long x77), (19, .long x75), (0, .ref 146), (2, .int l2), (3, .int l3), (6, .int l6), (7, .int l7), (8, .int l8), (9, .int l9), (10, .long l10), (12, .long l12), (14, .long l14), (16, .long l16)]) dX12_makePart_304 sx_m13 (by rw [hx92]; rfl) (by decide) rfl ?_
    refine sx_goto (pc := 307) (tgt := 186) dX12_makePart_307 (by decide) ?_
    refine sx_wk (sx_s1 sx_m3 (sx_s1 sx_m4 (sx_s1 sx_m5 (sx_s1 sx_m6 (sx_s1 sx_m7 (sx_s1 sx_m8 (sx_s1 sx_m9 (sx_s1 sx_m10 (sx_s1 sx_m11 (sx_s1 sx_m12 (sx_s1 sx_m13 (sx_s1 sx_m0 sx_s0)))))))))))) ?_
    exact hk186 _ _ _ _ _ _ _ _ _ _ _ _ h
theorem tL_X12_makePart_186 {g : sx_G} (hG : sx_Go g) {P : Option Value → sv_V → Prop} {Vr : sv_V} (hP : P none Vr) {N : Nat} {D : Nat} {kb : Int32 → Int32 → sv_V → Option sv_V} (hkb : ∀ (l1 : Int32) (l2 : Int32) (V : sv_V) (Wr : sv_V), kb l1 l2 V = some Wr → ∀ P : Option Value → sv_V → Prop, P none Wr → sv_N g qX12_makeGlyph (30 + 2 * D) 0 [(0, .ref 146), (1, .int l1), (2, .int l2)] [] V P)   : ∀ (n : Nat) (l2 : Int32) (l3 : Int32) (l6 : Int32) (l7 : Int32) (l8 : Int32) (l9 : Int32) (l10 : Int64) (l12 : Int64) (l14 : Int64) (l16 : Int64) (l18 : Int32) (V : sv_V), sx_lp12 (B_X12_makePart_186 N kb ) n l2 l3 l6 l7 l8 l9 l10 l12 l14 l16 l18 V = some Vr → sv_N g qX12_makePart (30 + 2 * D + 1) 186 [(0, .ref 146), (2, .int l2), (3, .int l3), (6, .int l6), (7, .int l7), (8, .int l8), (9, .int l9), (10, .long l10), (12, .long l12), (14, .long l14), (16, .long l16), (18, .int l18)] [] V P :=
  sx_lp12_ind (fun k0 ih _ _ _ _ _ _ _ _ _ _ _ V h => tB_X12_makePart_186 hG hP hkb ih h)
def F_X12_makePart (N : Nat) (kb : Int32 → Int32 → sv_V → Option sv_V) (l1 : Int32) (l2 : Int32) (l3 : Int32) (V : sv_V) : Option sv_V := if (V.1 146 125) = (60 : Int32) then ((F_X12_failOutside (12 : Int32) V).bind (fun V124 => some V124)) else (sx_let (sv_I V 146 125 ((V.1 146 125) + (1 : Int32))) (fun V94 => (F_X12_isGlyph N l1 V94).bind (fun (x97, V95) => if sx_in l2 8 = true then sx_let (V95.1 158 l2.toNatClampNeg) (fun x99 => (kb x99 (l3 + (1 : Int32)) V95).bind (fun V100 => (F_X12_isGlyph N l1 V100).bind (fun (x104, V102) => if (V102.1 146 59) ≤ 0 then (sx_let ((102 : Int32) * l3) (fun x106 => sx_let (x106 + (102 : Int32)) (fun x107 => if sx_in l3 6 = true then sx_let (V102.1 190 l3.toNatClampNeg) (fun x109 => if sx_in (l3 + (1 : Int32)) 6 = true then sx_let (V102.1 190 (l3 + (1 : Int32)).toNatClampNeg) (fun x111 => if (100 : Int32) < (x109 + x111) then (B_X12_makePart_126 N kb   V102) else (if sx_in l3 6 = true then if sx_in (l3 + (1 : Int32)) 6 = true then if ((V102.1 191 l3.toNatClampNeg) + (V102.1 191 (l3 + (1 : Int32)).toNatClampNeg)) ≤ (20 : Int32) then (if sx_in ((4 : Int32) * l2) 32 = true then sx_let ((V102.1 161 ((4 : Int32) * l2).toNatClampNeg).toInt64) (fun x117 => if sx_in (((4 : Int32) * l2) + (1 : Int32)) 32 = true then sx_let ((V102.1 161 (((4 : Int32) * l2) + (1 : Int32)).toNatClampNeg).toInt64) (fun x119 => if sx_in (((4 : Int32) * l2) + (2 : Int32)) 32 = true then sx_let ((V102.1 161 (((4 : Int32) * l2) + (2 : Int32)).toNatClampNeg).toInt64) (fun x121 => if sx_in (((4 : Int32) * l2) + (3 : Int32)) 32 = true then sx_let ((V102.1 161 (((4 : Int32) * l2) + (3 : Int32)).toNatClampNeg).toInt64) (fun x123 => sx_lp12 (B_X12_makePart_186 N kb ) N l2 l3 x106 x107 x109 x111 x117 x119 x121 x123 (0 : Int32) V102) else none) else none) else none) else none) else (B_X12_makePart_126 N kb   V102) else none else none)) else none) else none))) else (some V102)))) else none)))
set_option maxRecDepth 20000 in
theorem t_X12_makePart {g : sx_G} (hG : sx_Go g) {P : Option Value → sv_V → Prop} {Vr : sv_V} (hP : P none Vr) {N : Nat} {D : Nat} {kb : Int32 → Int32 → sv_V → Option sv_V} (hkb : ∀ (l1 : Int32) (l2 : Int32) (V : sv_V) (Wr : sv_V), kb l1 l2 V = some Wr → ∀ P : Option Value → sv_V → Prop, P none Wr → sv_N g qX12_makeGlyph (30 + 2 * D) 0 [(0, .ref 146), (1, .int l1), (2, .int l2)] [] V P) {l1 : Int32} {l2 : Int32} {l3 : Int32} {V : sv_V} (h : F_X12_makePart N kb l1 l2 l3 V = some Vr) : sv_N g qX12_makePart (30 + 2 * D + 1) 0 [(0, .ref 146), (1, .int l1), (2, .int l2), (3, .int l3)] [] V P := by
  unfold F_X12_makePart at h
  refine sx_aload_n (pc := 0) dX12_makePart_0 sx_m0 ?_
  refine sv_getI (pc := 1) hG dX12_makePart_1 f_12_807 lay_146 rfl ?_
  refine sx_bipush (pc := 4) (v := 60) dX12_makePart_4 (by decide) ?_
  refine sx_icmp_ne (pc := 6) (tgt := 16) dX12_makePart_6 (by decide) (fun c93 => ?_) (fun c93 => ?_)
  · have h := sx_neg c93 h
    refine sx_aload_n (pc := 16) dX12_makePart_16 sx_m0 ?_
    refine sx_dup (pc := 17) dX12_makePart_17 rfl ?_
    refine sv_getI (pc := 18) hG dX12_makePart_18 f_12_807 lay_146 rfl ?_
    refine sx_iconst (pc := 21) (v := 1) dX12_makePart_21 (by decide) ?_
    refine sx_iadd (pc := 22) dX12_makePart_22 ?_
    obtain ⟨V94, hV94⟩ : ∃ z : sv_V, z = sv_I V 146 125 ((V.1 146 125) + (1 : Int32)) := ⟨_, rfl⟩
    have h := sx_letE hV94 h
    refine sv_putI (pc := 23) hG dX12_makePart_23 f_12_807 lay_146 rfl hV94 ?_
    refine sx_aload_n (pc := 26) dX12_makePart_26 sx_m0 ?_
    refine sx_iload_n (pc := 27) dX12_makePart_27 sx_m1 ?_
    obtain ⟨⟨x97, V95⟩, g96, h⟩ := sx_bnd h
    refine sv_cV (pc := 28) (y := qX12_isGlyph) (o := (some (.int x97))) (as := [.int l1]) (V1 := V95) hG dX12_makePart_28 l_X12_278 y0X12_isGlyph yvX12_isGlyph rfl (Nat.le_of_ble_eq_true rfl) lay_146 kr_12 (by omega) (Nat.le_of_ble_eq_true rfl) rfl rfl rfl (t_X12_isGlyph hG ⟨rfl, rfl⟩ g96) ?_
    refine sx_istore (pc := 31) (lo' := [(4, .int x97), (0, .ref 146), (1, .int l1), (2, .int l2), (3, .int l3)]) dX12_makePart_31 (by decide) rfl ?_
    refine sx_aload_n (pc := 33) dX12_makePart_33 sx_m1 ?_
    refine sv_getA (pc := 34) hG dX12_makePart_34 f_12_45 lay_146 rfl cr_146_38 ?_
    refine sx_iload_n (pc := 37) dX12_makePart_37 sx_m3 ?_
    obtain ⟨g98, h⟩ := sx_grd h
    refine sv_iald (pc := 38) hG dX12_makePart_38 lay_158 g98 ?_
    refine sv_tI (fun x99 hx99 => ?_)
    have h := sx_letE hx99 h
    refine sx_istore (pc := 39) (lo' := [(5, .int x99), (4, .int x97), (0, .ref 146), (1, .int l1), (2, .int l2), (3, .int l3)]) dX12_makePart_39 (by decide) rfl ?_
    refine sx_aload_n (pc := 41) dX12_makePart_41 sx_m2 ?_
    refine sx_iload (pc := 42) dX12_makePart_42 sx_m0 ?_
    refine sx_iload_n (pc := 44) dX12_makePart_44 sx_m5 ?_
    refine sx_iconst (pc := 45) (v := 1) dX12_makePart_45 (by decide) ?_
    refine sx_iadd (pc := 46) dX12_makePart_46 ?_
    obtain ⟨V100, g101, h⟩ := sx_bnd h
    refine sv_cV (pc := 47) (y := qX12_makeGlyph) (o := none) (as := [.int x99, .int (l3 + (1 : Int32))]) (V1 := V100) hG dX12_makePart_47 l_X12_810 y0X12_makeGlyph yvX12_makeGlyph rfl (Nat.le_of_ble_eq_true rfl) lay_146 kr_12 (by omega) (Nat.le_of_ble_eq_true rfl) rfl rfl rfl (hkb _ _  _ _ g101 _ ⟨rfl, rfl⟩) ?_
    refine sx_aload_n (pc := 50) dX12_makePart_50 sx_m2 ?_
    refine sx_iload_n (pc := 51) dX12_makePart_51 sx_m3 ?_
    obtain ⟨⟨x104, V102⟩, g103, h⟩ := sx_bnd h
    refine sv_cV (pc := 52) (y := qX12_isGlyph) (o := (some (.int x104))) (as := [.int l1]) (V1 := V102) hG dX12_makePart_52 l_X12_278 y0X12_isGlyph yvX12_isGlyph rfl (Nat.le_of_ble_eq_true rfl) lay_146 kr_12 (by omega) (Nat.le_of_ble_eq_true rfl) rfl rfl rfl (t_X12_isGlyph hG ⟨rfl, rfl⟩ g103) ?_
    refine sx_istore (pc := 55) (lo' := [(4, .int x104), (5, .int x99), (0, .ref 146), (1, .int l1), (2, .int l2), (3, .int l3)]) dX12_makePart_55 (by decide) rfl ?_
    refine sx_aload_n (pc := 57) dX12_makePart_57 sx_m2 ?_
    refine sv_getI (pc := 58) hG dX12_makePart_58 f_12_409 lay_146 rfl ?_
    refine sx_if_le (pc := 61) (tgt := 65) dX12_makePart_61 (by decide) (fun c105 => ?_) (fun c105 => ?_)
    · have h := sx_pos c105 h
      refine sx_bipush (pc := 65) (v := 102) dX12_makePart_65 (by decide) ?_
      refine sx_iload_n (pc := 67) dX12_makePart_67 sx_m5 ?_
      refine sx_imul (pc := 68) dX12_makePart_68 ?_
      refine sv_tI (fun x106 hx106 => ?_)
      have h := sx_letE hx106 h
      refine sx_istore (pc := 69) (lo' := [(6, .int x106), (4, .int x104), (5, .int x99), (0, .ref 146), (1, .int l1), (2, .int l2), (3, .int l3)]) dX12_makePart_69 (by decide) rfl ?_
      refine sx_iload (pc := 71) dX12_makePart_71 sx_m0 ?_
      refine sx_bipush (pc := 73) (v := 102) dX12_makePart_73 (by decide) ?_
      refine sx_iadd (pc := 75) dX12_makePart_75 ?_
      refine sv_tI (fun x107 hx107 => ?_)
      have h := sx_letE hx107 h
      refine sx_istore (pc := 76) (lo' := [(7, .int x107), (6, .int x106), (4, .int x104), (5, .int x99), (0, .ref 146), (1, .int l1), (2, .int l2), (3, .int l3)]) dX12_makePart_76 (by decide) rfl ?_
      refine sx_aload_n (pc := 78) dX12_makePart_78 sx_m4 ?_
      refine sv_getA (pc := 79) hG dX12_makePart_79 f_12_146 lay_146 rfl cr_146_118 ?_
      refine sx_iload_n (pc := 82) dX12_makePart_82 sx_m7 ?_
      obtain ⟨g108, h⟩ := sx_grd h
      refine sv_iald (pc := 83) hG dX12_makePart_83 lay_190 g108 ?_
      refine sv_tI (fun x109 hx109 => ?_)
      have h := sx_letE hx109 h
      refine sx_istore (pc := 84) (lo' := [(8, .int x109), (7, .int x107), (6, .int x106), (4, .int x104), (5, .int x99), (0, .ref 146), (1, .int l1), (2, .int l2), (3, .int l3)]) dX12_makePart_84 (by decide) rfl ?_
      refine sx_aload_n (pc := 86) dX12_makePart_86 sx_m5 ?_
      refine sv_getA (pc := 87) hG dX12_makePart_87 f_12_146 lay_146 rfl cr_146_118 ?_
      refine sx_iload_n (pc := 90) dX12_makePart_90 sx_m8 ?_
      refine sx_iconst (pc := 91) (v := 1) dX12_makePart_91 (by decide) ?_
      refine sx_iadd (pc := 92) dX12_makePart_92 ?_
      obtain ⟨g110, h⟩ := sx_grd h
      refine sv_iald (pc := 93) hG dX12_makePart_93 lay_190 g110 ?_
      refine sv_tI (fun x111 hx111 => ?_)
      have h := sx_letE hx111 h
      refine sx_istore (pc := 94) (lo' := [(9, .int x111), (8, .int x109), (7, .int x107), (6, .int x106), (4, .int x104), (5, .int x99), (0, .ref 146), (1, .int l1), (2, .int l2), (3, .int l3)]) dX12_makePart_94 (by decide) rfl ?_
      refine sx_iload (pc := 96) dX12_makePart_96 sx_m1 ?_
      refine sx_iload (pc := 98) dX12_makePart_98 sx_m0 ?_
      refine sx_iadd (pc := 100) dX12_makePart_100 ?_
      refine sx_bipush (pc := 101) (v := 100) dX12_makePart_101 (by decide) ?_
      refine sx_icmp_gt (pc := 103) (tgt := 126) dX12_makePart_103 (by decide) (fun c112 => ?_) (fun c112 => ?_)
      · have h := sx_pos c112 h
        refine sx_wk (sx_s1 sx_m6 sx_s0) ?_
        exact tB_X12_makePart_126 hG hP hkb  h
      · have h := sx_neg c112 h
        refine sx_aload_n (pc := 106) dX12_makePart_106 sx_m6 ?_
        refine sv_getA (pc := 107) hG dX12_makePart_107 f_12_149 lay_146 rfl cr_146_119 ?_
        refine sx_iload_n (pc := 110) dX12_makePart_110 sx_m9 ?_
        obtain ⟨g113, h⟩ := sx_grd h
        refine sv_iald (pc := 111) hG dX12_makePart_111 lay_191 g113 ?_
        refine sx_aload_n (pc := 112) dX12_makePart_112 sx_m6 ?_
        refine sv_getA (pc := 113) hG dX12_makePart_113 f_12_149 lay_146 rfl cr_146_119 ?_
        refine sx_iload_n (pc := 116) dX12_makePart_116 sx_m9 ?_
        refine sx_iconst (pc := 117) (v := 1) dX12_makePart_117 (by decide) ?_
        refine sx_iadd (pc := 118) dX12_makePart_118 ?_
        obtain ⟨g114, h⟩ := sx_grd h
        refine sv_iald (pc := 119) hG dX12_makePart_119 lay_191 g114 ?_
        refine sx_iadd (pc := 120) dX12_makePart_120 ?_
        refine sx_bipush (pc := 121) (v := 20) dX12_makePart_121 (by decide) ?_
        refine sx_icmp_le (pc := 123) (tgt := 133) dX12_makePart_123 (by decide) (fun c115 => ?_) (fun c115 => ?_)
        · have h := sx_pos c115 h
          refine sx_aload_n (pc := 133) dX12_makePart_133 sx_m6 ?_
          refine sv_getA (pc := 134) hG dX12_makePart_134 f_12_54 lay_146 rfl cr_146_41 ?_
          refine sx_iconst (pc := 137) (v := 4) dX12_makePart_137 (by decide) ?_
          refine sx_iload_n (pc := 138) dX12_makePart_138 sx_m8 ?_
          refine sx_imul (pc := 139) dX12_makePart_139 ?_
          obtain ⟨g116, h⟩ := sx_grd h
          refine sv_iald (pc := 140) hG dX12_makePart_140 lay_161 g116 ?_
          refine sx_i2l (pc := 141) dX12_makePart_141 ?_
          refine sv_tJ (fun x117 hx117 => ?_)
          have h := sx_letE hx117 h
          refine sx_lstore (pc := 142) (lo' := [(10, .long x117), (9, .int x111), (8, .int x109), (7, .int x107), (6, .int x106), (4, .int x104), (5, .int x99), (0, .ref 146), (1, .int l1), (2, .int l2), (3, .int l3)]) dX12_makePart_142 (by decide) rfl ?_
          refine sx_aload_n (pc := 144) dX12_makePart_144 sx_m7 ?_
          refine sv_getA (pc := 145) hG dX12_makePart_145 f_12_54 lay_146 rfl cr_146_41 ?_
          refine sx_iconst (pc := 148) (v := 4) dX12_makePart_148 (by decide) ?_
          refine sx_iload_n (pc := 149) dX12_makePart_149 sx_m9 ?_
          refine sx_imul (pc := 150) dX12_makePart_150 ?_
          refine sx_iconst (pc := 151) (v := 1) dX12_makePart_151 (by decide) ?_
          refine sx_iadd (pc := 152) dX12_makePart_152 ?_
          obtain ⟨g118, h⟩ := sx_grd h
          refine sv_iald (pc := 153) hG dX12_makePart_153 lay_161 g118 ?_
          refine sx_i2l (pc := 154) dX12_makePart_154 ?_
          refine sv_tJ (fun x119 hx119 => ?_)
          have h := sx_letE hx119 h
          refine sx_lstore (pc := 155) (lo' := [(12, .long x119), (10, .long x117), (9, .int x111), (8, .int x109), (7, .int x107), (6, .int x106), (4, .int x104), (5, .int x99), (0, .ref 146), (1, .int l1), (2, .int l2), (3, .int l3)]) dX12_makePart_155 (by decide) rfl ?_
          refine sx_aload_n (pc := 157) dX12_makePart_157 sx_m8 ?_
          refine sv_getA (pc := 158) hG dX12_makePart_158 f_12_54 lay_146 rfl cr_146_41 ?_
          refine sx_iconst (pc := 161) (v := 4) dX12_makePart_161 (by decide) ?_
          refine sx_iload_n (pc := 162) dX12_makePart_162 sx_m10 ?_
          refine sx_imul (pc := 163) dX12_makePart_163 ?_
          refine sx_iconst (pc := 164) (v := 2) dX12_makePart_164 (by decide) ?_
          refine sx_iadd (pc := 165) dX12_makePart_165 ?_
          obtain ⟨g120, h⟩ := sx_grd h
          refine sv_iald (pc := 166) hG dX12_makePart_166 lay_161 g120 ?_
          refine sx_i2l (pc := 167) dX12_makePart_167 ?_
          refine sv_tJ (fun x121 hx121 => ?_)
          have h := sx_letE hx121 h
          refine sx_lstore (pc := 168) (lo' := [(14, .long x121), (12, .long x119), (10, .long x117), (9, .int x111), (8, .int x109), (7, .int x107), (6, .int x106), (4, .int x104), (5, .int x99), (0, .ref 146), (1, .int l1), (2, .int l2), (3, .int l3)]) dX12_makePart_168 (by decide) rfl ?_
          refine sx_aload_n (pc := 170) dX12_makePart_170 sx_m9 ?_
          refine sv_getA (pc := 171) hG dX12_makePart_171 f_12_54 lay_146 rfl cr_146_41 ?_
          refine sx_iconst (pc := 174) (v := 4) dX12_makePart_174 (by decide) ?_
          refine sx_iload_n (pc := 175) dX12_makePart_175 sx_m11 ?_
          refine sx_imul (pc := 176) dX12_makePart_176 ?_
          refine sx_iconst (pc := 177) (v := 3) dX12_makePart_177 (by decide) ?_
          refine sx_iadd (pc := 178) dX12_makePart_178 ?_
          obtain ⟨g122, h⟩ := sx_grd h
          refine sv_iald (pc := 179) hG dX12_makePart_179 lay_161 g122 ?_
          refine sx_i2l (pc := 180) dX12_makePart_180 ?_
          refine sv_tJ (fun x123 hx123 => ?_)
          have h := sx_letE hx123 h
          refine sx_lstore (pc := 181) (lo' := [(16, .long x123), (14, .long x121), (12, .long x119), (10, .long x117), (9, .int x111), (8, .int x109), (7, .int x107), (6, .int x106), (4, .int x104), (5, .int x99), (0, .ref 146), (1, .int l1), (2, .int l2), (3, .int l3)]) dX12_makePart_181 (by decide) rfl ?_
          refine sx_iconst (pc := 183) (v := 0) dX12_makePart_183 (by decide) ?_
          refine sx_istore (pc := 184) (lo' := [(18, .int (0 : Int32)), (16, .long x123), (14, .long x121), (12, .long x119), (10, .long x117), (9, .int x111), (8, .int x109), (7, .int x107), (6, .int x106), (4, .int x104), (5, .int x99), (0, .ref 146), (1, .int l1), (2, .int l2), (3, .int l3)]) dX12_makePart_184 (by decide) rfl ?_
          refine sx_wk (sx_s1 sx_m11 (sx_s1 sx_m13 (sx_s1 sx_m14 (sx_s1 sx_m8 (sx_s1 sx_m7 (sx_s1 sx_m6 (sx_s1 sx_m5 (sx_s1 sx_m4 (sx_s1 sx_m3 (sx_s1 sx_m2 (sx_s1 sx_m1 (sx_s1 sx_m0 sx_s0)))))))))))) ?_
          exact tL_X12_makePart_186 hG hP hkb  N _ _ _ _ _ _ _ _ _ _ _ _ h
        · have h := sx_neg c115 h
          refine sx_wk (sx_s1 sx_m6 sx_s0) ?_
          exact tB_X12_makePart_126 hG hP hkb  h
    · have h := sx_neg c105 h
      exact sv_vret (pc := 64) dX12_makePart_64 rfl h hP
  · have h := sx_pos c93 h
    refine sx_aload_n (pc := 9) dX12_makePart_9 sx_m0 ?_
    refine sx_bipush (pc := 10) (v := 12) dX12_makePart_10 (by decide) ?_
    obtain ⟨V124, g125, h⟩ := sx_bnd h
    refine sv_cV (pc := 12) (y := qX12_failOutside) (o := none) (as := [.int (12 : Int32)]) (V1 := V124) hG dX12_makePart_12 l_X12_795 y0X12_failOutside yvX12_failOutside rfl (Nat.le_of_ble_eq_true rfl) lay_146 kr_12 (by omega) (Nat.le_of_ble_eq_true rfl) rfl rfl rfl (t_X12_failOutside hG ⟨rfl, rfl⟩ g125) ?_
    exact sv_vret (pc := 15) dX12_makePart_15 rfl h hP
theorem dX12_glyph_0 : decode cX12_glyph 0 = .ok (.aload_n 0, 1) := by decide +kernel
theorem dX12_glyph_1 : decode cX12_glyph 1 = .ok (.getfield 759, 3) := by decide +kernel
theorem dX12_glyph_4 : decode cX12_glyph 4 = .ok (.ifCond .ne 6, 3) := by decide +kernel
theorem dX12_glyph_7 : decode cX12_glyph 7 = .ok (.bipush (-3), 2) := by decide +kernel
theorem dX12_glyph_9 : decode cX12_glyph 9 = .ok (.ireturn, 1) := by decide +kernel
theorem dX12_glyph_10 : decode cX12_glyph 10 = .ok (.iload_n 1, 1) := by decide +kernel
theorem dX12_glyph_11 : decode cX12_glyph 11 = .ok (.i2l, 1) := by decide +kernel
theorem dX12_glyph_12 : decode cX12_glyph 12 = .ok (.lconst 0, 1) := by decide +kernel
theorem dX12_glyph_13 : decode cX12_glyph 13 = .ok (.aload_n 0, 1) := by decide +kernel
theorem dX12_glyph_14 : decode cX12_glyph 14 = .ok (.getfield 260, 3) := by decide +kernel
theorem dX12_glyph_17 : decode cX12_glyph 17 = .ok (.iconst 1, 1) := by decide +kernel
theorem dX12_glyph_18 : decode cX12_glyph 18 = .ok (.isub, 1) := by decide +kernel
theorem dX12_glyph_19 : decode cX12_glyph 19 = .ok (.i2l, 1) := by decide +kernel
theorem dX12_glyph_20 : decode cX12_glyph 20 = .ok (.invokestatic 263, 3) := by decide +kernel
theorem dX12_glyph_23 : decode cX12_glyph 23 = .ok (.ifCond .ne 5, 3) := by decide +kernel
theorem dX12_glyph_26 : decode cX12_glyph 26 = .ok (.iconst (-1), 1) := by decide +kernel
theorem dX12_glyph_27 : decode cX12_glyph 27 = .ok (.ireturn, 1) := by decide +kernel
theorem dX12_glyph_28 : decode cX12_glyph 28 = .ok (.aload_n 0, 1) := by decide +kernel
theorem dX12_glyph_29 : decode cX12_glyph 29 = .ok (.iload_n 1, 1) := by decide +kernel
theorem dX12_glyph_30 : decode cX12_glyph 30 = .ok (.invokevirtual 278, 3) := by decide +kernel
theorem dX12_glyph_33 : decode cX12_glyph 33 = .ok (.istore_n 3, 1) := by decide +kernel
theorem dX12_glyph_34 : decode cX12_glyph 34 = .ok (.iload_n 2, 1) := by decide +kernel
theorem dX12_glyph_35 : decode cX12_glyph 35 = .ok (.tableswitch 93 0 7 #[45, 51, 57, 67, 72, 78, 83, 88], 45) := by decide +kernel
theorem dX12_glyph_80 : decode cX12_glyph 80 = .ok (.aload_n 0, 1) := by decide +kernel
theorem dX12_glyph_81 : decode cX12_glyph 81 = .ok (.iload_n 1, 1) := by decide +kernel
theorem dX12_glyph_82 : decode cX12_glyph 82 = .ok (.invokevirtual 785, 3) := by decide +kernel
theorem dX12_glyph_85 : decode cX12_glyph 85 = .ok (.ireturn, 1) := by decide +kernel
theorem dX12_glyph_86 : decode cX12_glyph 86 = .ok (.aload_n 0, 1) := by decide +kernel
theorem dX12_glyph_87 : decode cX12_glyph 87 = .ok (.iload_n 1, 1) := by decide +kernel
theorem dX12_glyph_88 : decode cX12_glyph 88 = .ok (.invokevirtual 782, 3) := by decide +kernel
theorem dX12_glyph_91 : decode cX12_glyph 91 = .ok (.ireturn, 1) := by decide +kernel
theorem dX12_glyph_92 : decode cX12_glyph 92 = .ok (.aload_n 0, 1) := by decide +kernel
theorem dX12_glyph_93 : decode cX12_glyph 93 = .ok (.getfield 345, 3) := by decide +kernel
theorem dX12_glyph_96 : decode cX12_glyph 96 = .ok (.aload_n 0, 1) := by decide +kernel
theorem dX12_glyph_97 : decode cX12_glyph 97 = .ok (.getfield 342, 3) := by decide +kernel
theorem dX12_glyph_100 : decode cX12_glyph 100 = .ok (.isub, 1) := by decide +kernel
theorem dX12_glyph_101 : decode cX12_glyph 101 = .ok (.ireturn, 1) := by decide +kernel
theorem dX12_glyph_102 : decode cX12_glyph 102 = .ok (.aload_n 0, 1) := by decide +kernel
theorem dX12_glyph_103 : decode cX12_glyph 103 = .ok (.getfield 348, 3) := by decide +kernel
theorem dX12_glyph_106 : decode cX12_glyph 106 = .ok (.ireturn, 1) := by decide +kernel
theorem dX12_glyph_107 : decode cX12_glyph 107 = .ok (.aload_n 0, 1) := by decide +kernel
theorem dX12_glyph_108 : decode cX12_glyph 108 = .ok (.iload_n 1, 1) := by decide +kernel
theorem dX12_glyph_109 : decode cX12_glyph 109 = .ok (.invokevirtual 779, 3) := by decide +kernel
theorem dX12_glyph_112 : decode cX12_glyph 112 = .ok (.ireturn, 1) := by decide +kernel
theorem dX12_glyph_113 : decode cX12_glyph 113 = .ok (.aload_n 0, 1) := by decide +kernel
theorem dX12_glyph_114 : decode cX12_glyph 114 = .ok (.getfield 351, 3) := by decide +kernel
theorem dX12_glyph_117 : decode cX12_glyph 117 = .ok (.ireturn, 1) := by decide +kernel
theorem dX12_glyph_118 : decode cX12_glyph 118 = .ok (.aload_n 0, 1) := by decide +kernel
theorem dX12_glyph_119 : decode cX12_glyph 119 = .ok (.getfield 354, 3) := by decide +kernel
theorem dX12_glyph_122 : decode cX12_glyph 122 = .ok (.ireturn, 1) := by decide +kernel
theorem dX12_glyph_123 : decode cX12_glyph 123 = .ok (.aload_n 0, 1) := by decide +kernel
theorem dX12_glyph_124 : decode cX12_glyph 124 = .ok (.getfield 360, 3) := by decide +kernel
theorem dX12_glyph_127 : decode cX12_glyph 127 = .ok (.ireturn, 1) := by decide +kernel
theorem dX12_glyph_128 : decode cX12_glyph 128 = .ok (.bipush (-2), 2) := by decide +kernel
theorem dX12_glyph_130 : decode cX12_glyph 130 = .ok (.ireturn, 1) := by decide +kernel
def F_X12_glyph (N : Nat) (l1 : Int32) (l2 : Int32) (V : sv_V) : Option (Int32 × sv_V) := if (V.1 146 4) = 0 then (some ((-3 : Int32), V)) else ((F_X12_in l1.toInt64 (0 : Int64) (((V.1 146 12) - (1 : Int32)).toInt64) V).bind (fun (x4, V2) => if x4 = 0 then (some ((-1 : Int32), V2)) else ((F_X12_isGlyph N l1 V2).bind (fun (x8, V6) => if l2 = 0 then ((F_X12_advanceOf N l1 V6).bind (fun (x12, V10) => some (x12, V10))) else (if l2 = 1 then ((F_X12_bearingOf N l1 V6).bind (fun (x16, V14) => some (x16, V14))) else (if l2 = 2 then (some ((V6.1 146 27) - (V6.1 146 26), V6)) else (if l2 = 3 then (some (V6.1 146 28, V6)) else (if l2 = 4 then ((F_X12_leftOf N l1 V6).bind (fun (x22, V20) => some (x22, V20))) else (if l2 = 5 then (some (V6.1 146 29, V6)) else (if l2 = 6 then (some (V6.1 146 30, V6)) else (if l2 = 7 then (some (V6.1 146 32, V6)) else (some ((-2 : Int32), V6)))))))))))))
set_option maxRecDepth 20000 in
theorem t_X12_glyph {g : sx_G} (hG : sx_Go g) {P : Option Value → sv_V → Prop} {r : Int32} {Vr : sv_V} (hP : P (some (.int r)) Vr) {N : Nat} {l1 : Int32} {l2 : Int32} {V : sv_V} (h : F_X12_glyph N l1 l2 V = some (r, Vr)) : sv_N g qX12_glyph 6 0 [(0, .ref 146), (1, .int l1), (2, .int l2)] [] V P := by
  unfold F_X12_glyph at h
  refine sx_aload_n (pc := 0) dX12_glyph_0 sx_m0 ?_
  refine sv_getZ (pc := 1) hG dX12_glyph_1 f_12_759 lay_146 rfl ?_
  refine sx_if_ne (pc := 4) (tgt := 10) dX12_glyph_4 (by decide) (fun c1 => ?_) (fun c1 => ?_)
  · have h := sx_neg c1 h
    refine sx_iload_n (pc := 10) dX12_glyph_10 sx_m1 ?_
    refine sx_i2l (pc := 11) dX12_glyph_11 ?_
    refine sx_lconst (pc := 12) (v := 0) dX12_glyph_12 rfl ?_
    refine sx_aload_n (pc := 13) dX12_glyph_13 sx_m0 ?_
    refine sv_getI (pc := 14) hG dX12_glyph_14 f_12_260 lay_146 rfl ?_
    refine sx_iconst (pc := 17) (v := 1) dX12_glyph_17 (by decide) ?_
    refine sx_isub (pc := 18) dX12_glyph_18 ?_
    refine sx_i2l (pc := 19) dX12_glyph_19 ?_
    obtain ⟨⟨x4, V2⟩, g3, h⟩ := sx_bnd h
    refine sv_cS (pc := 20) (y := qX12_in) (o := (some (.int x4))) (as := [.long l1.toInt64, .long (0 : Int64), .long (((V.1 146 12) - (1 : Int32)).toInt64)]) (V1 := V2) dX12_glyph_20 l_X12_263 y0X12_in ysX12_in rfl (Nat.le_of_ble_eq_true rfl) (by decide) (Nat.le_of_ble_eq_true rfl) rfl rfl rfl (t_X12_in hG ⟨rfl, rfl⟩ g3) ?_
    refine sx_if_ne (pc := 23) (tgt := 28) dX12_glyph_23 (by decide) (fun c5 => ?_) (fun c5 => ?_)
    · have h := sx_neg c5 h
      refine sx_aload_n (pc := 28) dX12_glyph_28 sx_m0 ?_
      refine sx_iload_n (pc := 29) dX12_glyph_29 sx_m1 ?_
      obtain ⟨⟨x8, V6⟩, g7, h⟩ := sx_bnd h
      refine sv_cV (pc := 30) (y := qX12_isGlyph) (o := (some (.int x8))) (as := [.int l1]) (V1 := V6) hG dX12_glyph_30 l_X12_278 y0X12_isGlyph yvX12_isGlyph rfl (Nat.le_of_ble_eq_true rfl) lay_146 kr_12 (by decide) (Nat.le_of_ble_eq_true rfl) rfl rfl rfl (t_X12_isGlyph hG ⟨rfl, rfl⟩ g7) ?_
      refine sx_istore_n (pc := 33) (lo' := [(3, .int x8), (0, .ref 146), (1, .int l1), (2, .int l2)]) dX12_glyph_33 (by decide) rfl ?_
      refine sx_iload_n (pc := 34) dX12_glyph_34 sx_m3 ?_
      by_cases c9 : l2 = 0
      · have h := sx_pos c9 h
        refine sx_tabI (pc := 35) (off := 45) (tgt := 80) dX12_glyph_35 (by rw [c9]; decide) (by rw [c9]; decide) (by rw [c9]; rfl) (by decide) ?_
        refine sx_aload_n (pc := 80) dX12_glyph_80 sx_m1 ?_
        refine sx_iload_n (pc := 81) dX12_glyph_81 sx_m2 ?_
        obtain ⟨⟨x12, V10⟩, g11, h⟩ := sx_bnd h
        refine sv_cV (pc := 82) (y := qX12_advanceOf) (o := (some (.int x12))) (as := [.int l1]) (V1 := V10) hG dX12_glyph_82 l_X12_785 y0X12_advanceOf yvX12_advanceOf rfl (Nat.le_of_ble_eq_true rfl) lay_146 kr_12 (by decide) (Nat.le_of_ble_eq_true rfl) rfl rfl rfl (t_X12_advanceOf hG ⟨rfl, rfl⟩ g11) ?_
        exact sv_iret (pc := 85) dX12_glyph_85 rfl h hP
      have h := sx_neg c9 h
      by_cases c13 : l2 = 1
      · have h := sx_pos c13 h
        refine sx_tabI (pc := 35) (off := 51) (tgt := 86) dX12_glyph_35 (by rw [c13]; decide) (by rw [c13]; decide) (by rw [c13]; rfl) (by decide) ?_
        refine sx_aload_n (pc := 86) dX12_glyph_86 sx_m1 ?_
        refine sx_iload_n (pc := 87) dX12_glyph_87 sx_m2 ?_
        obtain ⟨⟨x16, V14⟩, g15, h⟩ := sx_bnd h
        refine sv_cV (pc := 88) (y := qX12_bearingOf) (o := (some (.int x16))) (as := [.int l1]) (V1 := V14) hG dX12_glyph_88 l_X12_782 y0X12_bearingOf yvX12_bearingOf rfl (Nat.le_of_ble_eq_true rfl) lay_146 kr_12 (by decide) (Nat.le_of_ble_eq_true rfl) rfl rfl rfl (t_X12_bearingOf hG ⟨rfl, rfl⟩ g15) ?_
        exact sv_iret (pc := 91) dX12_glyph_91 rfl h hP
      have h := sx_neg c13 h
      by_cases c17 : l2 = 2
      · have h := sx_pos c17 h
        refine sx_tabI (pc := 35) (off := 57) (tgt := 92) dX12_glyph_35 (by rw [c17]; decide) (by rw [c17]; decide) (by rw [c17]; rfl) (by decide) ?_
        refine sx_aload_n (pc := 92) dX12_glyph_92 sx_m1 ?_
        refine sv_getI (pc := 93) hG dX12_glyph_93 f_12_345 lay_146 rfl ?_
        refine sx_aload_n (pc := 96) dX12_glyph_96 sx_m1 ?_
        refine sv_getI (pc := 97) hG dX12_glyph_97 f_12_342 lay_146 rfl ?_
        refine sx_isub (pc := 100) dX12_glyph_100 ?_
        exact sv_iret (pc := 101) dX12_glyph_101 rfl h hP
      have h := sx_neg c17 h
      by_cases c18 : l2 = 3
      · have h := sx_pos c18 h
        refine sx_tabI (pc := 35) (off := 67) (tgt := 102) dX12_glyph_35 (by rw [c18]; decide) (by rw [c18]; decide) (by rw [c18]; rfl) (by decide) ?_
        refine sx_aload_n (pc := 102) dX12_glyph_102 sx_m1 ?_
        refine sv_getI (pc := 103) hG dX12_glyph_103 f_12_348 lay_146 rfl ?_
        exact sv_iret (pc := 106) dX12_glyph_106 rfl h hP
      have h := sx_neg c18 h
      by_cases c19 : l2 = 4
      · have h := sx_pos c19 h
        refine sx_tabI (pc := 35) (off := 72) (tgt := 107) dX12_glyph_35 (by rw [c19]; decide) (by rw [c19]; decide) (by rw [c19]; rfl) (by decide) ?_
        refine sx_aload_n (pc := 107) dX12_glyph_107 sx_m1 ?_
        refine sx_iload_n (pc := 108) dX12_glyph_108 sx_m2 ?_
        obtain ⟨⟨x22, V20⟩, g21, h⟩ := sx_bnd h
        refine sv_cV (pc := 109) (y := qX12_leftOf) (o := (some (.int x22))) (as := [.int l1]) (V1 := V20) hG dX12_glyph_109 l_X12_779 y0X12_leftOf yvX12_leftOf rfl (Nat.le_of_ble_eq_true rfl) lay_146 kr_12 (by decide) (Nat.le_of_ble_eq_true rfl) rfl rfl rfl (t_X12_leftOf hG ⟨rfl, rfl⟩ g21) ?_
        exact sv_iret (pc := 112) dX12_glyph_112 rfl h hP
      have h := sx_neg c19 h
      by_cases c23 : l2 = 5
      · have h := sx_pos c23 h
        refine sx_tabI (pc := 35) (off := 78) (tgt := 113) dX12_glyph_35 (by rw [c23]; decide) (by rw [c23]; decide) (by rw [c23]; rfl) (by decide) ?_
        refine sx_aload_n (pc := 113) dX12_glyph_113 sx_m1 ?_
        refine sv_getI (pc := 114) hG dX12_glyph_114 f_12_351 lay_146 rfl ?_
        exact sv_iret (pc := 117) dX12_glyph_117 rfl h hP
      have h := sx_neg c23 h
      by_cases c24 : l2 = 6
      · have h := sx_pos c24 h
        refine sx_tabI (pc := 35) (off := 83) (tgt := 118) dX12_glyph_35 (by rw [c24]; decide) (by rw [c24]; decide) (by rw [c24]; rfl) (by decide) ?_
        refine sx_aload_n (pc := 118) dX12_glyph_118 sx_m1 ?_
        refine sv_getI (pc := 119) hG dX12_glyph_119 f_12_354 lay_146 rfl ?_
        exact sv_iret (pc := 122) dX12_glyph_122 rfl h hP
      have h := sx_neg c24 h
      by_cases c25 : l2 = 7
      · have h := sx_pos c25 h
        refine sx_tabI (pc := 35) (off := 88) (tgt := 123) dX12_glyph_35 (by rw [c25]; decide) (by rw [c25]; decide) (by rw [c25]; rfl) (by decide) ?_
        refine sx_aload_n (pc := 123) dX12_glyph_123 sx_m1 ?_
        refine sv_getI (pc := 124) hG dX12_glyph_124 f_12_360 lay_146 rfl ?_
        exact sv_iret (pc := 127) dX12_glyph_127 rfl h hP
      have h := sx_neg c25 h
      refine sx_tabO (pc := 35) (tgt := 128) dX12_glyph_35 (by have ec9 := lv_neT (a := 0) c9 rfl; have ec13 := lv_neT (a := 1) c13 rfl; have ec17 := lv_neT (a := 2) c17 rfl; have ec18 := lv_neT (a := 3) c18 rfl; have ec19 := lv_neT (a := 4) c19 rfl; have ec23 := lv_neT (a := 5) c23 rfl; have ec24 := lv_neT (a := 6) c24 rfl; have ec25 := lv_neT (a := 7) c25 rfl; omega) (by decide) ?_
      refine sx_bipush (pc := 128) (v := (-2)) dX12_glyph_128 (by decide) ?_
      exact sv_iret (pc := 130) dX12_glyph_130 rfl h hP
    · have h := sx_pos c5 h
      refine sx_iconst (pc := 26) (v := (-1)) dX12_glyph_26 (by decide) ?_
      exact sv_iret (pc := 27) dX12_glyph_27 rfl h hP
  · have h := sx_pos c1 h
    refine sx_bipush (pc := 7) (v := (-3)) dX12_glyph_7 (by decide) ?_
    exact sv_iret (pc := 9) dX12_glyph_9 rfl h hP
theorem dX1_fillIn_0 : decode cX1_fillIn 0 = .ok (.iconst 0, 1) := by decide +kernel
theorem dX1_fillIn_1 : decode cX1_fillIn 1 = .ok (.istore 4, 2) := by decide +kernel
theorem dX1_fillIn_3 : decode cX1_fillIn 3 = .ok (.iconst 0, 1) := by decide +kernel
theorem dX1_fillIn_4 : decode cX1_fillIn 4 = .ok (.istore 5, 2) := by decide +kernel
theorem dX1_fillIn_6 : decode cX1_fillIn 6 = .ok (.iload 5, 2) := by decide +kernel
theorem dX1_fillIn_8 : decode cX1_fillIn 8 = .ok (.aload_n 0, 1) := by decide +kernel
theorem dX1_fillIn_9 : decode cX1_fillIn 9 = .ok (.getfield 19, 3) := by decide +kernel
theorem dX1_fillIn_12 : decode cX1_fillIn 12 = .ok (.if_icmp .ge 120, 3) := by decide +kernel
theorem dX1_fillIn_15 : decode cX1_fillIn 15 = .ok (.iconst 2, 1) := by decide +kernel
theorem dX1_fillIn_16 : decode cX1_fillIn 16 = .ok (.bipush 64, 2) := by decide +kernel
theorem dX1_fillIn_18 : decode cX1_fillIn 18 = .ok (.iload 5, 2) := by decide +kernel
theorem dX1_fillIn_20 : decode cX1_fillIn 20 = .ok (.imul, 1) := by decide +kernel
theorem dX1_fillIn_21 : decode cX1_fillIn 21 = .ok (.bipush 32, 2) := by decide +kernel
theorem dX1_fillIn_23 : decode cX1_fillIn 23 = .ok (.iadd, 1) := by decide +kernel
theorem dX1_fillIn_24 : decode cX1_fillIn 24 = .ok (.iload_n 3, 1) := by decide +kernel
theorem dX1_fillIn_25 : decode cX1_fillIn 25 = .ok (.isub, 1) := by decide +kernel
theorem dX1_fillIn_26 : decode cX1_fillIn 26 = .ok (.imul, 1) := by decide +kernel
theorem dX1_fillIn_27 : decode cX1_fillIn 27 = .ok (.istore 6, 2) := by decide +kernel
theorem dX1_fillIn_29 : decode cX1_fillIn 29 = .ok (.aload_n 1, 1) := by decide +kernel
theorem dX1_fillIn_30 : decode cX1_fillIn 30 = .ok (.iload 6, 2) := by decide +kernel
theorem dX1_fillIn_32 : decode cX1_fillIn 32 = .ok (.invokevirtual 28, 3) := by decide +kernel
theorem dX1_fillIn_35 : decode cX1_fillIn 35 = .ok (.iconst 0, 1) := by decide +kernel
theorem dX1_fillIn_36 : decode cX1_fillIn 36 = .ok (.istore 7, 2) := by decide +kernel
theorem dX1_fillIn_38 : decode cX1_fillIn 38 = .ok (.iload 7, 2) := by decide +kernel
theorem dX1_fillIn_40 : decode cX1_fillIn 40 = .ok (.aload_n 0, 1) := by decide +kernel
theorem dX1_fillIn_41 : decode cX1_fillIn 41 = .ok (.getfield 15, 3) := by decide +kernel
theorem dX1_fillIn_44 : decode cX1_fillIn 44 = .ok (.if_icmp .ge 82, 3) := by decide +kernel
theorem dX1_fillIn_47 : decode cX1_fillIn 47 = .ok (.aload_n 1, 1) := by decide +kernel
theorem dX1_fillIn_48 : decode cX1_fillIn 48 = .ok (.invokevirtual 34, 3) := by decide +kernel
theorem dX1_fillIn_51 : decode cX1_fillIn 51 = .ok (.ifCond .eq 75, 3) := by decide +kernel
theorem dX1_fillIn_54 : decode cX1_fillIn 54 = .ok (.iconst 2, 1) := by decide +kernel
theorem dX1_fillIn_55 : decode cX1_fillIn 55 = .ok (.bipush 64, 2) := by decide +kernel
theorem dX1_fillIn_57 : decode cX1_fillIn 57 = .ok (.iload 7, 2) := by decide +kernel
theorem dX1_fillIn_59 : decode cX1_fillIn 59 = .ok (.imul, 1) := by decide +kernel
theorem dX1_fillIn_60 : decode cX1_fillIn 60 = .ok (.bipush 32, 2) := by decide +kernel
theorem dX1_fillIn_62 : decode cX1_fillIn 62 = .ok (.iadd, 1) := by decide +kernel
theorem dX1_fillIn_63 : decode cX1_fillIn 63 = .ok (.iload_n 2, 1) := by decide +kernel
theorem dX1_fillIn_64 : decode cX1_fillIn 64 = .ok (.isub, 1) := by decide +kernel
theorem dX1_fillIn_65 : decode cX1_fillIn 65 = .ok (.imul, 1) := by decide +kernel
theorem dX1_fillIn_66 : decode cX1_fillIn 66 = .ok (.istore 8, 2) := by decide +kernel
theorem dX1_fillIn_68 : decode cX1_fillIn 68 = .ok (.iload 5, 2) := by decide +kernel
theorem dX1_fillIn_70 : decode cX1_fillIn 70 = .ok (.sipush 128, 3) := by decide +kernel
theorem dX1_fillIn_73 : decode cX1_fillIn 73 = .ok (.imul, 1) := by decide +kernel
theorem dX1_fillIn_74 : decode cX1_fillIn 74 = .ok (.iload 7, 2) := by decide +kernel
theorem dX1_fillIn_76 : decode cX1_fillIn 76 = .ok (.iadd, 1) := by decide +kernel
theorem dX1_fillIn_77 : decode cX1_fillIn 77 = .ok (.istore 9, 2) := by decide +kernel
theorem dX1_fillIn_79 : decode cX1_fillIn 79 = .ok (.aload_n 0, 1) := by decide +kernel
theorem dX1_fillIn_80 : decode cX1_fillIn 80 = .ok (.getfield 11, 3) := by decide +kernel
theorem dX1_fillIn_83 : decode cX1_fillIn 83 = .ok (.iload 9, 2) := by decide +kernel
theorem dX1_fillIn_85 : decode cX1_fillIn 85 = .ok (.baload, 1) := by decide +kernel
theorem dX1_fillIn_86 : decode cX1_fillIn 86 = .ok (.ifCond .ne 34, 3) := by decide +kernel
theorem dX1_fillIn_89 : decode cX1_fillIn 89 = .ok (.aload_n 1, 1) := by decide +kernel
theorem dX1_fillIn_90 : decode cX1_fillIn 90 = .ok (.iload 8, 2) := by decide +kernel
theorem dX1_fillIn_92 : decode cX1_fillIn 92 = .ok (.invokevirtual 38, 3) := by decide +kernel
theorem dX1_fillIn_95 : decode cX1_fillIn 95 = .ok (.ifCond .eq 25, 3) := by decide +kernel
theorem dX1_fillIn_98 : decode cX1_fillIn 98 = .ok (.aload_n 1, 1) := by decide +kernel
theorem dX1_fillIn_99 : decode cX1_fillIn 99 = .ok (.iload 8, 2) := by decide +kernel
theorem dX1_fillIn_101 : decode cX1_fillIn 101 = .ok (.iload 6, 2) := by decide +kernel
theorem dX1_fillIn_103 : decode cX1_fillIn 103 = .ok (.invokevirtual 42, 3) := by decide +kernel
theorem dX1_fillIn_106 : decode cX1_fillIn 106 = .ok (.ifCond .eq 14, 3) := by decide +kernel
theorem dX1_fillIn_109 : decode cX1_fillIn 109 = .ok (.aload_n 0, 1) := by decide +kernel
theorem dX1_fillIn_110 : decode cX1_fillIn 110 = .ok (.getfield 11, 3) := by decide +kernel
theorem dX1_fillIn_113 : decode cX1_fillIn 113 = .ok (.iload 9, 2) := by decide +kernel
theorem dX1_fillIn_115 : decode cX1_fillIn 115 = .ok (.iconst 1, 1) := by decide +kernel
theorem dX1_fillIn_116 : decode cX1_fillIn 116 = .ok (.bastore, 1) := by decide +kernel
theorem dX1_fillIn_117 : decode cX1_fillIn 117 = .ok (.iinc 4 1, 3) := by decide +kernel
theorem dX1_fillIn_120 : decode cX1_fillIn 120 = .ok (.iinc 7 1, 3) := by decide +kernel
theorem dX1_fillIn_123 : decode cX1_fillIn 123 = .ok (.goto (-85), 3) := by decide +kernel
theorem dX1_fillIn_126 : decode cX1_fillIn 126 = .ok (.iinc 5 1, 3) := by decide +kernel
theorem dX1_fillIn_129 : decode cX1_fillIn 129 = .ok (.goto (-123), 3) := by decide +kernel
theorem dX1_fillIn_132 : decode cX1_fillIn 132 = .ok (.iload 4, 2) := by decide +kernel
theorem dX1_fillIn_134 : decode cX1_fillIn 134 = .ok (.ireturn, 1) := by decide +kernel
def B_X1_fillIn_120 (N : Nat) (k6 : Int32 → Int32 → Int32 → Int32 → sv_V → Option (Int32 × sv_V)) (k38 : Int32 → Int32 → Int32 → Int32 → Int32 → Int32 → sv_V → Option (Int32 × sv_V)) (l2 : Int32) (l3 : Int32) (l4 : Int32) (l5 : Int32) (l6 : Int32) (l7 : Int32) (V : sv_V) : Option (Int32 × sv_V) := sx_let (l7 + 1) (fun x1 => k38 l2 l3 l4 l5 l6 x1 V)
set_option maxRecDepth 20000 in
theorem tB_X1_fillIn_120 {g : sx_G} (hG : sx_Go g) {P : Option Value → sv_V → Prop} {r : Int32} {Vr : sv_V} (hP : P (some (.int r)) Vr) {N : Nat} {k6 : Int32 → Int32 → Int32 → Int32 → sv_V → Option (Int32 × sv_V)} {k38 : Int32 → Int32 → Int32 → Int32 → Int32 → Int32 → sv_V → Option (Int32 × sv_V)} (hk6 : ∀ (l2 : Int32) (l3 : Int32) (l4 : Int32) (l5 : Int32) (V : sv_V), k6 l2 l3 l4 l5 V = some (r, Vr) → sv_N g qX1_fillIn 4 6 [(0, .ref 143), (1, .ref 60), (2, .int l2), (3, .int l3), (4, .int l4), (5, .int l5)] [] V P) (hk38 : ∀ (l2 : Int32) (l3 : Int32) (l4 : Int32) (l5 : Int32) (l6 : Int32) (l7 : Int32) (V : sv_V), k38 l2 l3 l4 l5 l6 l7 V = some (r, Vr) → sv_N g qX1_fillIn 4 38 [(0, .ref 143), (1, .ref 60), (2, .int l2), (3, .int l3), (4, .int l4), (5, .int l5), (6, .int l6), (7, .int l7)] [] V P) {l2 : Int32} {l3 : Int32} {l4 : Int32} {l5 : Int32} {l6 : Int32} {l7 : Int32} {V : sv_V} (h : B_X1_fillIn_120 N k6 k38 l2 l3 l4 l5 l6 l7 V = some (r, Vr)) : sv_N g qX1_fillIn 4 120 [(0, .ref 143), (1, .ref 60), (2, .int l2), (3, .int l3), (4, .int l4), (5, .int l5), (6, .int l6), (7, .int l7)] [] V P := by
  unfold B_X1_fillIn_120 at h
  obtain ⟨x1, hx1⟩ : ∃ z : Int32, z = l7 + 1 := ⟨_, rfl⟩
  have h := sx_letE hx1 h
  refine sx_iinc (pc := 120) (v := x1) (lo' := [(7, .int x1), (0, .ref 143), (1, .ref 60), (2, .int l2), (3, .int l3), (4, .int l4), (5, .int l5), (6, .int l6)]) dX1_fillIn_120 sx_m7 (by rw [hx1]; rfl) (by decide) rfl ?_
  refine sx_goto (pc := 123) (tgt := 38) dX1_fillIn_123 (by decide) ?_
  refine sx_wk (sx_s1 sx_m1 (sx_s1 sx_m2 (sx_s1 sx_m3 (sx_s1 sx_m4 (sx_s1 sx_m5 (sx_s1 sx_m6 (sx_s1 sx_m7 (sx_s1 sx_m0 sx_s0)))))))) ?_
  exact hk38 _ _ _ _ _ _ _ h
def B_X1_fillIn_126 (N : Nat) (k6 : Int32 → Int32 → Int32 → Int32 → sv_V → Option (Int32 × sv_V)) (l2 : Int32) (l3 : Int32) (l4 : Int32) (l5 : Int32) (V : sv_V) : Option (Int32 × sv_V) := sx_let (l5 + 1) (fun x2 => k6 l2 l3 l4 x2 V)
set_option maxRecDepth 20000 in
theorem tB_X1_fillIn_126 {g : sx_G} (hG : sx_Go g) {P : Option Value → sv_V → Prop} {r : Int32} {Vr : sv_V} (hP : P (some (.int r)) Vr) {N : Nat} {k6 : Int32 → Int32 → Int32 → Int32 → sv_V → Option (Int32 × sv_V)} (hk6 : ∀ (l2 : Int32) (l3 : Int32) (l4 : Int32) (l5 : Int32) (V : sv_V), k6 l2 l3 l4 l5 V = some (r, Vr) → sv_N g qX1_fillIn 4 6 [(0, .ref 143), (1, .ref 60), (2, .int l2), (3, .int l3), (4, .int l4), (5, .int l5)] [] V P) {l2 : Int32} {l3 : Int32} {l4 : Int32} {l5 : Int32} {V : sv_V} (h : B_X1_fillIn_126 N k6 l2 l3 l4 l5 V = some (r, Vr)) : sv_N g qX1_fillIn 4 126 [(0, .ref 143), (1, .ref 60), (2, .int l2), (3, .int l3), (4, .int l4), (5, .int l5)] [] V P := by
  unfold B_X1_fillIn_126 at h
  obtain ⟨x2, hx2⟩ : ∃ z : Int32, z = l5 + 1 := ⟨_, rfl⟩
  have h := sx_letE hx2 h
  refine sx_iinc (pc := 126) (v := x2) (lo' := [(5, .int x2), (0, .ref 143), (1, .ref 60), (2, .int l2), (3, .int l3), (4, .int l4)]) dX1_fillIn_126 sx_m5 (by rw [hx2]; rfl) (by decide) rfl ?_
  refine sx_goto (pc := 129) (tgt := 6) dX1_fillIn_129 (by decide) ?_
  refine sx_wk (sx_s1 sx_m1 (sx_s1 sx_m2 (sx_s1 sx_m3 (sx_s1 sx_m4 (sx_s1 sx_m5 (sx_s1 sx_m0 sx_s0)))))) ?_
  exact hk6 _ _ _ _ _ h
def B_X1_fillIn_38 (N : Nat) (k6 : Int32 → Int32 → Int32 → Int32 → sv_V → Option (Int32 × sv_V)) (k38 : Int32 → Int32 → Int32 → Int32 → Int32 → Int32 → sv_V → Option (Int32 × sv_V)) (l2 : Int32) (l3 : Int32) (l4 : Int32) (l5 : Int32) (l6 : Int32) (l7 : Int32) (V : sv_V) : Option (Int32 × sv_V) := if (V.1 143 1) ≤ l7 then (B_X1_fillIn_126 N k6 l2 l3 l4 l5 V) else ((F_X10_hasRow  V).bind (fun (x6, V4) => if x6 = 0 then (B_X1_fillIn_126 N k6 l2 l3 l4 l5 V4) else (sx_let ((2 : Int32) * ((((64 : Int32) * l7) + (32 : Int32)) - l2)) (fun x8 => sx_let ((l5 * (128 : Int32)) + l7) (fun x9 => if sx_in x9 16384 = true then if (V4.1 144 x9.toNatClampNeg) = 0 then ((F_X10_spans x8 V4).bind (fun (x14, V12) => if x14 = 0 then (B_X1_fillIn_120 N k6 k38 l2 l3 l4 l5 l6 l7 V12) else ((F_X10_holds N x8 l6 V12).bind (fun (x18, V16) => if x18 = 0 then (B_X1_fillIn_120 N k6 k38 l2 l3 l4 l5 l6 l7 V16) else (if sx_in x9 16384 = true then sx_let (sv_I V16 144 x9.toNatClampNeg (1 : Int32).toInt8.toInt32) (fun V21 => sx_let (l4 + 1) (fun x22 => B_X1_fillIn_120 N k6 k38 l2 l3 x22 l5 l6 l7 V21)) else none))))) else (B_X1_fillIn_120 N k6 k38 l2 l3 l4 l5 l6 l7 V4) else none)))))
set_option maxRecDepth 20000 in
theorem tB_X1_fillIn_38 {g : sx_G} (hG : sx_Go g) {P : Option Value → sv_V → Prop} {r : Int32} {Vr : sv_V} (hP : P (some (.int r)) Vr) {N : Nat} {k6 : Int32 → Int32 → Int32 → Int32 → sv_V → Option (Int32 × sv_V)} {k38 : Int32 → Int32 → Int32 → Int32 → Int32 → Int32 → sv_V → Option (Int32 × sv_V)} (hk6 : ∀ (l2 : Int32) (l3 : Int32) (l4 : Int32) (l5 : Int32) (V : sv_V), k6 l2 l3 l4 l5 V = some (r, Vr) → sv_N g qX1_fillIn 4 6 [(0, .ref 143), (1, .ref 60), (2, .int l2), (3, .int l3), (4, .int l4), (5, .int l5)] [] V P) (hk38 : ∀ (l2 : Int32) (l3 : Int32) (l4 : Int32) (l5 : Int32) (l6 : Int32) (l7 : Int32) (V : sv_V), k38 l2 l3 l4 l5 l6 l7 V = some (r, Vr) → sv_N g qX1_fillIn 4 38 [(0, .ref 143), (1, .ref 60), (2, .int l2), (3, .int l3), (4, .int l4), (5, .int l5), (6, .int l6), (7, .int l7)] [] V P) {l2 : Int32} {l3 : Int32} {l4 : Int32} {l5 : Int32} {l6 : Int32} {l7 : Int32} {V : sv_V} (h : B_X1_fillIn_38 N k6 k38 l2 l3 l4 l5 l6 l7 V = some (r, Vr)) : sv_N g qX1_fillIn 4 38 [(0, .ref 143), (1, .ref 60), (2, .int l2), (3, .int l3), (4, .int l4), (5, .int l5), (6, .int l6), (7, .int l7)] [] V P := by
  unfold B_X1_fillIn_38 at h
  refine sx_iload (pc := 38) dX1_fillIn_38 sx_m7 ?_
  refine sx_aload_n (pc := 40) dX1_fillIn_40 sx_m0 ?_
  refine sv_getI (pc := 41) hG dX1_fillIn_41 f_1_15 lay_143 rfl ?_
  refine sx_icmp_ge (pc := 44) (tgt := 126) dX1_fillIn_44 (by decide) (fun c3 => ?_) (fun c3 => ?_)
  · have h := sx_pos c3 h
    refine sx_wk (sx_s1 sx_m0 (sx_s1 sx_m1 (sx_s1 sx_m2 (sx_s1 sx_m3 (sx_s1 sx_m4 (sx_s1 sx_m5 sx_s0)))))) ?_
    exact tB_X1_fillIn_126 hG hP hk6 h
  · have h := sx_neg c3 h
    refine sx_aload_n (pc := 47) dX1_fillIn_47 sx_m1 ?_
    obtain ⟨⟨x6, V4⟩, g5, h⟩ := sx_bnd h
    refine sv_cV (pc := 48) (y := qX10_hasRow) (o := (some (.int x6))) (as := []) (V1 := V4) hG dX1_fillIn_48 l_X1_34 y0X10_hasRow yvX10_hasRow rfl (Nat.le_of_ble_eq_true rfl) lay_60 kr_10 (by decide) (Nat.le_of_ble_eq_true rfl) rfl rfl rfl (t_X10_hasRow hG ⟨rfl, rfl⟩ g5) ?_
    refine sx_if_eq (pc := 51) (tgt := 126) dX1_fillIn_51 (by decide) (fun c7 => ?_) (fun c7 => ?_)
    · have h := sx_pos c7 h
      refine sx_wk (sx_s1 sx_m0 (sx_s1 sx_m1 (sx_s1 sx_m2 (sx_s1 sx_m3 (sx_s1 sx_m4 (sx_s1 sx_m5 sx_s0)))))) ?_
      exact tB_X1_fillIn_126 hG hP hk6 h
    · have h := sx_neg c7 h
      refine sx_iconst (pc := 54) (v := 2) dX1_fillIn_54 (by decide) ?_
      refine sx_bipush (pc := 55) (v := 64) dX1_fillIn_55 (by decide) ?_
      refine sx_iload (pc := 57) dX1_fillIn_57 sx_m7 ?_
      refine sx_imul (pc := 59) dX1_fillIn_59 ?_
      refine sx_bipush (pc := 60) (v := 32) dX1_fillIn_60 (by decide) ?_
      refine sx_iadd (pc := 62) dX1_fillIn_62 ?_
      refine sx_iload_n (pc := 63) dX1_fillIn_63 sx_m2 ?_
      refine sx_isub (pc := 64) dX1_fillIn_64 ?_
      refine sx_imul (pc := 65) dX1_fillIn_65 ?_
      refine sv_tI (fun x8 hx8 => ?_)
      have h := sx_letE hx8 h
      refine sx_istore (pc := 66) (lo' := [(8, .int x8), (0, .ref 143), (1, .ref 60), (2, .int l2), (3, .int l3), (4, .int l4), (5, .int l5), (6, .int l6), (7, .int l7)]) dX1_fillIn_66 (by decide) rfl ?_
      refine sx_iload (pc := 68) dX1_fillIn_68 sx_m6 ?_
      refine sx_sipush (pc := 70) (v := 128) dX1_fillIn_70 (by decide) ?_
      refine sx_imul (pc := 73) dX1_fillIn_73 ?_
      refine sx_iload (pc := 74) dX1_fillIn_74 sx_m8 ?_
      refine sx_iadd (pc := 76) dX1_fillIn_76 ?_
      refine sv_tI (fun x9 hx9 => ?_)
      have h := sx_letE hx9 h
      refine sx_istore (pc := 77) (lo' := [(9, .int x9), (8, .int x8), (0, .ref 143), (1, .ref 60), (2, .int l2), (3, .int l3), (4, .int l4), (5, .int l5), (6, .int l6), (7, .int l7)]) dX1_fillIn_77 (by decide) rfl ?_
      refine sx_aload_n (pc := 79) dX1_fillIn_79 sx_m2 ?_
      refine sv_getA (pc := 80) hG dX1_fillIn_80 f_1_11 lay_143 rfl cr_143_0 ?_
      refine sx_iload (pc := 83) dX1_fillIn_83 sx_m0 ?_
      obtain ⟨g10, h⟩ := sx_grd h
      refine sv_bald (pc := 85) hG dX1_fillIn_85 lay_144 g10 ?_
      refine sx_if_ne (pc := 86) (tgt := 120) dX1_fillIn_86 (by decide) (fun c11 => ?_) (fun c11 => ?_)
      · have h := sx_neg c11 h
        refine sx_wk (sx_s1 sx_m2 (sx_s1 sx_m3 (sx_s1 sx_m4 (sx_s1 sx_m5 (sx_s1 sx_m6 (sx_s1 sx_m7 (sx_s1 sx_m8 (sx_s1 sx_m9 sx_s0)))))))) ?_
        exact tB_X1_fillIn_120 hG hP hk6 hk38 h
      · have h := sx_pos c11 h
        refine sx_aload_n (pc := 89) dX1_fillIn_89 sx_m3 ?_
        refine sx_iload (pc := 90) dX1_fillIn_90 sx_m1 ?_
        obtain ⟨⟨x14, V12⟩, g13, h⟩ := sx_bnd h
        refine sv_cV (pc := 92) (y := qX10_spans) (o := (some (.int x14))) (as := [.int x8]) (V1 := V12) hG dX1_fillIn_92 l_X1_38 y0X10_spans yvX10_spans rfl (Nat.le_of_ble_eq_true rfl) lay_60 kr_10 (by decide) (Nat.le_of_ble_eq_true rfl) rfl rfl rfl (t_X10_spans hG ⟨rfl, rfl⟩ g13) ?_
        refine sx_if_eq (pc := 95) (tgt := 120) dX1_fillIn_95 (by decide) (fun c15 => ?_) (fun c15 => ?_)
        · have h := sx_pos c15 h
          refine sx_wk (sx_s1 sx_m2 (sx_s1 sx_m3 (sx_s1 sx_m4 (sx_s1 sx_m5 (sx_s1 sx_m6 (sx_s1 sx_m7 (sx_s1 sx_m8 (sx_s1 sx_m9 sx_s0)))))))) ?_
          exact tB_X1_fillIn_120 hG hP hk6 hk38 h
        · have h := sx_neg c15 h
          refine sx_aload_n (pc := 98) dX1_fillIn_98 sx_m3 ?_
          refine sx_iload (pc := 99) dX1_fillIn_99 sx_m1 ?_
          refine sx_iload (pc := 101) dX1_fillIn_101 sx_m8 ?_
          obtain ⟨⟨x18, V16⟩, g17, h⟩ := sx_bnd h
          refine sv_cV (pc := 103) (y := qX10_holds) (o := (some (.int x18))) (as := [.int x8, .int l6]) (V1 := V16) hG dX1_fillIn_103 l_X1_42 y0X10_holds yvX10_holds rfl (Nat.le_of_ble_eq_true rfl) lay_60 kr_10 (by decide) (Nat.le_of_ble_eq_true rfl) rfl rfl rfl (t_X10_holds hG ⟨rfl, rfl⟩ g17) ?_
          refine sx_if_eq (pc := 106) (tgt := 120) dX1_fillIn_106 (by decide) (fun c19 => ?_) (fun c19 => ?_)
          · have h := sx_pos c19 h
            refine sx_wk (sx_s1 sx_m2 (sx_s1 sx_m3 (sx_s1 sx_m4 (sx_s1 sx_m5 (sx_s1 sx_m6 (sx_s1 sx_m7 (sx_s1 sx_m8 (sx_s1 sx_m9 sx_s0)))))))) ?_
            exact tB_X1_fillIn_120 hG hP hk6 hk38 h
          · have h := sx_neg c19 h
            refine sx_aload_n (pc := 109) dX1_fillIn_109 sx_m2 ?_
            refine sv_getA (pc := 110) hG dX1_fillIn_110 f_1_11 lay_143 rfl cr_143_0 ?_
            refine sx_iload (pc := 113) dX1_fillIn_113 sx_m0 ?_
            refine sx_iconst (pc := 115) (v := 1) dX1_fillIn_115 (by decide) ?_
            obtain ⟨g20, h⟩ := sx_grd h
            obtain ⟨V21, hV21⟩ : ∃ z : sv_V, z = sv_I V16 144 x9.toNatClampNeg (1 : Int32).toInt8.toInt32 := ⟨_, rfl⟩
            have h := sx_letE hV21 h
            refine sv_bast (pc := 116) hG dX1_fillIn_116 lay_144 g20 hV21 ?_
            obtain ⟨x22, hx22⟩ : ∃ z : Int32, z = l4 + 1 := ⟨_, rfl⟩
            have h := sx_letE hx22 h
            refine sx_iinc (pc := 117) (v := x22) (lo' := [(4, .int x22), (9, .int x9), (8, .int x8), (0, .ref 143), (1, .ref 60), (2, .int l2), (3, .int l3), (5, .int l5), (6, .int l6), (7, .int l7)]) dX1_fillIn_117 sx_m6 (by rw [hx22]; rfl) (by decide) rfl ?_
            refine sx_wk (sx_s1 sx_m3 (sx_s1 sx_m4 (sx_s1 sx_m5 (sx_s1 sx_m6 (sx_s1 sx_m0 (sx_s1 sx_m7 (sx_s1 sx_m8 (sx_s1 sx_m9 sx_s0)))))))) ?_
            exact tB_X1_fillIn_120 hG hP hk6 hk38 h
theorem tL_X1_fillIn_38 {g : sx_G} (hG : sx_Go g) {P : Option Value → sv_V → Prop} {r : Int32} {Vr : sv_V} (hP : P (some (.int r)) Vr) {N : Nat} {k6 : Int32 → Int32 → Int32 → Int32 → sv_V → Option (Int32 × sv_V)} (hk6 : ∀ (l2 : Int32) (l3 : Int32) (l4 : Int32) (l5 : Int32) (V : sv_V), k6 l2 l3 l4 l5 V = some (r, Vr) → sv_N g qX1_fillIn 4 6 [(0, .ref 143), (1, .ref 60), (2, .int l2), (3, .int l3), (4, .int l4), (5, .int l5)] [] V P) : ∀ (n : Nat) (l2 : Int32) (l3 : Int32) (l4 : Int32) (l5 : Int32) (l6 : Int32) (l7 : Int32) (V : sv_V), sx_lp7 (B_X1_fillIn_38 N k6) n l2 l3 l4 l5 l6 l7 V = some (r, Vr) → sv_N g qX1_fillIn 4 38 [(0, .ref 143), (1, .ref 60), (2, .int l2), (3, .int l3), (4, .int l4), (5, .int l5), (6, .int l6), (7, .int l7)] [] V P :=
  sx_lp7_ind (fun k0 ih _ _ _ _ _ _ V h => tB_X1_fillIn_38 hG hP hk6 ih h)
def B_X1_fillIn_6 (N : Nat) (k6 : Int32 → Int32 → Int32 → Int32 → sv_V → Option (Int32 × sv_V)) (l2 : Int32) (l3 : Int32) (l4 : Int32) (l5 : Int32) (V : sv_V) : Option (Int32 × sv_V) := if (V.1 143 2) ≤ l5 then (some (l4, V)) else (sx_let ((2 : Int32) * ((((64 : Int32) * l5) + (32 : Int32)) - l3)) (fun x24 => (F_X10_chooseRow N x24 V).bind (fun V25 => sx_lp7 (B_X1_fillIn_38 N k6) N l2 l3 l4 l5 x24 (0 : Int32) V25)))
set_option maxRecDepth 20000 in
theorem tB_X1_fillIn_6 {g : sx_G} (hG : sx_Go g) {P : Option Value → sv_V → Prop} {r : Int32} {Vr : sv_V} (hP : P (some (.int r)) Vr) {N : Nat} {k6 : Int32 → Int32 → Int32 → Int32 → sv_V → Option (Int32 × sv_V)} (hk6 : ∀ (l2 : Int32) (l3 : Int32) (l4 : Int32) (l5 : Int32) (V : sv_V), k6 l2 l3 l4 l5 V = some (r, Vr) → sv_N g qX1_fillIn 4 6 [(0, .ref 143), (1, .ref 60), (2, .int l2), (3, .int l3), (4, .int l4), (5, .int l5)] [] V P) {l2 : Int32} {l3 : Int32} {l4 : Int32} {l5 : Int32} {V : sv_V} (h : B_X1_fillIn_6 N k6 l2 l3 l4 l5 V = some (r, Vr)) : sv_N g qX1_fillIn 4 6 [(0, .ref 143), (1, .ref 60), (2, .int l2), (3, .int l3), (4, .int l4), (5, .int l5)] [] V P := by
  unfold B_X1_fillIn_6 at h
  refine sx_iload (pc := 6) dX1_fillIn_6 sx_m5 ?_
  refine sx_aload_n (pc := 8) dX1_fillIn_8 sx_m0 ?_
  refine sv_getI (pc := 9) hG dX1_fillIn_9 f_1_19 lay_143 rfl ?_
  refine sx_icmp_ge (pc := 12) (tgt := 132) dX1_fillIn_12 (by decide) (fun c23 => ?_) (fun c23 => ?_)
  · have h := sx_pos c23 h
    refine sx_iload (pc := 132) dX1_fillIn_132 sx_m4 ?_
    exact sv_iret (pc := 134) dX1_fillIn_134 rfl h hP
  · have h := sx_neg c23 h
    refine sx_iconst (pc := 15) (v := 2) dX1_fillIn_15 (by decide) ?_
    refine sx_bipush (pc := 16) (v := 64) dX1_fillIn_16 (by decide) ?_
    refine sx_iload (pc := 18) dX1_fillIn_18 sx_m5 ?_
    refine sx_imul (pc := 20) dX1_fillIn_20 ?_
    refine sx_bipush (pc := 21) (v := 32) dX1_fillIn_21 (by decide) ?_
    refine sx_iadd (pc := 23) dX1_fillIn_23 ?_
    refine sx_iload_n (pc := 24) dX1_fillIn_24 sx_m3 ?_
    refine sx_isub (pc := 25) dX1_fillIn_25 ?_
    refine sx_imul (pc := 26) dX1_fillIn_26 ?_
    refine sv_tI (fun x24 hx24 => ?_)
    have h := sx_letE hx24 h
    refine sx_istore (pc := 27) (lo' := [(6, .int x24), (0, .ref 143), (1, .ref 60), (2, .int l2), (3, .int l3), (4, .int l4), (5, .int l5)]) dX1_fillIn_27 (by decide) rfl ?_
    refine sx_aload_n (pc := 29) dX1_fillIn_29 sx_m2 ?_
    refine sx_iload (pc := 30) dX1_fillIn_30 sx_m0 ?_
    obtain ⟨V25, g26, h⟩ := sx_bnd h
    refine sv_cV (pc := 32) (y := qX10_chooseRow) (o := none) (as := [.int x24]) (V1 := V25) hG dX1_fillIn_32 l_X1_28 y0X10_chooseRow yvX10_chooseRow rfl (Nat.le_of_ble_eq_true rfl) lay_60 kr_10 (by decide) (Nat.le_of_ble_eq_true rfl) rfl rfl rfl (t_X10_chooseRow hG ⟨rfl, rfl⟩ g26) ?_
    refine sx_iconst (pc := 35) (v := 0) dX1_fillIn_35 (by decide) ?_
    refine sx_istore (pc := 36) (lo' := [(7, .int (0 : Int32)), (6, .int x24), (0, .ref 143), (1, .ref 60), (2, .int l2), (3, .int l3), (4, .int l4), (5, .int l5)]) dX1_fillIn_36 (by decide) rfl ?_
    refine sx_wk (sx_s1 sx_m2 (sx_s1 sx_m3 (sx_s1 sx_m4 (sx_s1 sx_m5 (sx_s1 sx_m6 (sx_s1 sx_m7 (sx_s1 sx_m1 (sx_s1 sx_m0 sx_s0)))))))) ?_
    exact tL_X1_fillIn_38 hG hP hk6 N _ _ _ _ _ _ _ h
theorem tL_X1_fillIn_6 {g : sx_G} (hG : sx_Go g) {P : Option Value → sv_V → Prop} {r : Int32} {Vr : sv_V} (hP : P (some (.int r)) Vr) {N : Nat}   : ∀ (n : Nat) (l2 : Int32) (l3 : Int32) (l4 : Int32) (l5 : Int32) (V : sv_V), sx_lp5 (B_X1_fillIn_6 N ) n l2 l3 l4 l5 V = some (r, Vr) → sv_N g qX1_fillIn 4 6 [(0, .ref 143), (1, .ref 60), (2, .int l2), (3, .int l3), (4, .int l4), (5, .int l5)] [] V P :=
  sx_lp5_ind (fun k0 ih _ _ _ _ V h => tB_X1_fillIn_6 hG hP ih h)
def F_X1_fillIn (N : Nat) (l2 : Int32) (l3 : Int32) (V : sv_V) : Option (Int32 × sv_V) := sx_lp5 (B_X1_fillIn_6 N ) N l2 l3 (0 : Int32) (0 : Int32) V
set_option maxRecDepth 20000 in
theorem t_X1_fillIn {g : sx_G} (hG : sx_Go g) {P : Option Value → sv_V → Prop} {r : Int32} {Vr : sv_V} (hP : P (some (.int r)) Vr) {N : Nat} {l2 : Int32} {l3 : Int32} {V : sv_V} (h : F_X1_fillIn N l2 l3 V = some (r, Vr)) : sv_N g qX1_fillIn 4 0 [(0, .ref 143), (1, .ref 60), (2, .int l2), (3, .int l3)] [] V P := by
  unfold F_X1_fillIn at h
  refine sx_iconst (pc := 0) (v := 0) dX1_fillIn_0 (by decide) ?_
  refine sx_istore (pc := 1) (lo' := [(4, .int (0 : Int32)), (0, .ref 143), (1, .ref 60), (2, .int l2), (3, .int l3)]) dX1_fillIn_1 (by decide) rfl ?_
  refine sx_iconst (pc := 3) (v := 0) dX1_fillIn_3 (by decide) ?_
  refine sx_istore (pc := 4) (lo' := [(5, .int (0 : Int32)), (4, .int (0 : Int32)), (0, .ref 143), (1, .ref 60), (2, .int l2), (3, .int l3)]) dX1_fillIn_4 (by decide) rfl ?_
  refine sx_wk (sx_s1 sx_m2 (sx_s1 sx_m3 (sx_s1 sx_m4 (sx_s1 sx_m5 (sx_s1 sx_m1 (sx_s1 sx_m0 sx_s0)))))) ?_
  exact tL_X1_fillIn_6 hG hP  N _ _ _ _ _ h
theorem dX3_glyphsHold_0 : decode cX3_glyphsHold 0 = .ok (.iconst 0, 1) := by decide +kernel
theorem dX3_glyphsHold_1 : decode cX3_glyphsHold 1 = .ok (.istore_n 1, 1) := by decide +kernel
theorem dX3_glyphsHold_2 : decode cX3_glyphsHold 2 = .ok (.iload_n 1, 1) := by decide +kernel
theorem dX3_glyphsHold_3 : decode cX3_glyphsHold 3 = .ok (.aload_n 0, 1) := by decide +kernel
theorem dX3_glyphsHold_4 : decode cX3_glyphsHold 4 = .ok (.getfield 27, 3) := by decide +kernel
theorem dX3_glyphsHold_7 : decode cX3_glyphsHold 7 = .ok (.getfield 31, 3) := by decide +kernel
theorem dX3_glyphsHold_10 : decode cX3_glyphsHold 10 = .ok (.if_icmp .ge 19, 3) := by decide +kernel
theorem dX3_glyphsHold_13 : decode cX3_glyphsHold 13 = .ok (.aload_n 0, 1) := by decide +kernel
theorem dX3_glyphsHold_14 : decode cX3_glyphsHold 14 = .ok (.iload_n 1, 1) := by decide +kernel
theorem dX3_glyphsHold_15 : decode cX3_glyphsHold 15 = .ok (.invokevirtual 37, 3) := by decide +kernel
theorem dX3_glyphsHold_18 : decode cX3_glyphsHold 18 = .ok (.ifCond .ne 5, 3) := by decide +kernel
theorem dX3_glyphsHold_21 : decode cX3_glyphsHold 21 = .ok (.iconst 0, 1) := by decide +kernel
theorem dX3_glyphsHold_22 : decode cX3_glyphsHold 22 = .ok (.ireturn, 1) := by decide +kernel
theorem dX3_glyphsHold_23 : decode cX3_glyphsHold 23 = .ok (.iinc 1 1, 3) := by decide +kernel
theorem dX3_glyphsHold_26 : decode cX3_glyphsHold 26 = .ok (.goto (-24), 3) := by decide +kernel
theorem dX3_glyphsHold_29 : decode cX3_glyphsHold 29 = .ok (.aload_n 0, 1) := by decide +kernel
theorem dX3_glyphsHold_30 : decode cX3_glyphsHold 30 = .ok (.invokevirtual 41, 3) := by decide +kernel
theorem dX3_glyphsHold_33 : decode cX3_glyphsHold 33 = .ok (.ireturn, 1) := by decide +kernel
def B_X3_glyphsHold_2 (N : Nat) (k2 : Int32 → sv_V → Option (Int32 × sv_V)) (l1 : Int32) (V : sv_V) : Option (Int32 × sv_V) := if (V.1 2 7) ≤ l1 then ((F_X3_depthsHold N  V).bind (fun (x4, V2) => if sv_bl x4 = true then some (x4, V2) else none)) else ((F_X3_glyphHolds N l1 V).bind (fun (x8, V6) => if x8 = 0 then (some ((0 : Int32), V6)) else (sx_let (l1 + 1) (fun x10 => k2 x10 V6))))
set_option maxRecDepth 20000 in
theorem tB_X3_glyphsHold_2 {g : sx_G} (hG : sx_Go g) {P : Option Value → sv_V → Prop} {r : Int32} {Vr : sv_V} (hP : P (some (.int r)) Vr) {N : Nat} {k2 : Int32 → sv_V → Option (Int32 × sv_V)} (hk2 : ∀ (l1 : Int32) (V : sv_V), k2 l1 V = some (r, Vr) → sv_N g qX3_glyphsHold 5 2 [(0, .ref 16), (1, .int l1)] [] V P) {l1 : Int32} {V : sv_V} (h : B_X3_glyphsHold_2 N k2 l1 V = some (r, Vr)) : sv_N g qX3_glyphsHold 5 2 [(0, .ref 16), (1, .int l1)] [] V P := by
  unfold B_X3_glyphsHold_2 at h
  refine sx_iload_n (pc := 2) dX3_glyphsHold_2 sx_m1 ?_
  refine sx_aload_n (pc := 3) dX3_glyphsHold_3 sx_m0 ?_
  refine sv_getO (pc := 4) hG dX3_glyphsHold_4 f_3_27 lay_16 rfl cr_16_0 ?_
  refine sv_getI (pc := 7) hG dX3_glyphsHold_7 f_3_31 lay_2 rfl ?_
  refine sx_icmp_ge (pc := 10) (tgt := 29) dX3_glyphsHold_10 (by decide) (fun c1 => ?_) (fun c1 => ?_)
  · have h := sx_pos c1 h
    refine sx_aload_n (pc := 29) dX3_glyphsHold_29 sx_m0 ?_
    obtain ⟨⟨x4, V2⟩, g3, h⟩ := sx_bnd h
    refine sv_cV (pc := 30) (y := qX3_depthsHold) (o := (some (.int x4))) (as := []) (V1 := V2) hG dX3_glyphsHold_30 l_X3_41 y0X3_depthsHold yvX3_depthsHold rfl (Nat.le_of_ble_eq_true rfl) lay_16 kr_3 (by decide) (Nat.le_of_ble_eq_true rfl) rfl rfl rfl (t_X3_depthsHold hG ⟨rfl, rfl⟩ g3) ?_
    obtain ⟨g5, h⟩ := sx_grd h
    exact sv_zret (pc := 33) dX3_glyphsHold_33 rfl g5 h hP
  · have h := sx_neg c1 h
    refine sx_aload_n (pc := 13) dX3_glyphsHold_13 sx_m0 ?_
    refine sx_iload_n (pc := 14) dX3_glyphsHold_14 sx_m1 ?_
    obtain ⟨⟨x8, V6⟩, g7, h⟩ := sx_bnd h
    refine sv_cV (pc := 15) (y := qX3_glyphHolds) (o := (some (.int x8))) (as := [.int l1]) (V1 := V6) hG dX3_glyphsHold_15 l_X3_37 y0X3_glyphHolds yvX3_glyphHolds rfl (Nat.le_of_ble_eq_true rfl) lay_16 kr_3 (by decide) (Nat.le_of_ble_eq_true rfl) rfl rfl rfl (t_X3_glyphHolds hG ⟨rfl, rfl⟩ g7) ?_
    refine sx_if_ne (pc := 18) (tgt := 23) dX3_glyphsHold_18 (by decide) (fun c9 => ?_) (fun c9 => ?_)
    · have h := sx_neg c9 h
      obtain ⟨x10, hx10⟩ : ∃ z : Int32, z = l1 + 1 := ⟨_, rfl⟩
      have h := sx_letE hx10 h
      refine sx_iinc (pc := 23) (v := x10) (lo' := [(1, .int x10), (0, .ref 16)]) dX3_glyphsHold_23 sx_m1 (by rw [hx10]; rfl) (by decide) rfl ?_
      refine sx_goto (pc := 26) (tgt := 2) dX3_glyphsHold_26 (by decide) ?_
      refine sx_wk (sx_s1 sx_m1 (sx_s1 sx_m0 sx_s0)) ?_
      exact hk2 _ _ h
    · have h := sx_pos c9 h
      refine sx_iconst (pc := 21) (v := 0) dX3_glyphsHold_21 (by decide) ?_
      exact sv_zret (pc := 22) dX3_glyphsHold_22 rfl rfl h hP
theorem tL_X3_glyphsHold_2 {g : sx_G} (hG : sx_Go g) {P : Option Value → sv_V → Prop} {r : Int32} {Vr : sv_V} (hP : P (some (.int r)) Vr) {N : Nat}   : ∀ (n : Nat) (l1 : Int32) (V : sv_V), sx_lp2 (B_X3_glyphsHold_2 N ) n l1 V = some (r, Vr) → sv_N g qX3_glyphsHold 5 2 [(0, .ref 16), (1, .int l1)] [] V P :=
  sx_lp2_ind (fun k0 ih _ V h => tB_X3_glyphsHold_2 hG hP ih h)
def F_X3_glyphsHold (N : Nat)  (V : sv_V) : Option (Int32 × sv_V) := sx_lp2 (B_X3_glyphsHold_2 N ) N (0 : Int32) V
set_option maxRecDepth 20000 in
theorem t_X3_glyphsHold {g : sx_G} (hG : sx_Go g) {P : Option Value → sv_V → Prop} {r : Int32} {Vr : sv_V} (hP : P (some (.int r)) Vr) {N : Nat}  {V : sv_V} (h : F_X3_glyphsHold N  V = some (r, Vr)) : sv_N g qX3_glyphsHold 5 0 [(0, .ref 16)] [] V P := by
  unfold F_X3_glyphsHold at h
  refine sx_iconst (pc := 0) (v := 0) dX3_glyphsHold_0 (by decide) ?_
  refine sx_istore_n (pc := 1) (lo' := [(1, .int (0 : Int32)), (0, .ref 16)]) dX3_glyphsHold_1 (by decide) rfl ?_
  refine sx_wk (sx_s1 sx_m1 (sx_s1 sx_m0 sx_s0)) ?_
  exact tL_X3_glyphsHold_2 hG hP  N _ _ h
theorem dX4_findFault_0 : decode cX4_findFault 0 = .ok (.aload_n 0, 1) := by decide +kernel
theorem dX4_findFault_1 : decode cX4_findFault 1 = .ok (.invokevirtual 19, 3) := by decide +kernel
theorem dX4_findFault_4 : decode cX4_findFault 4 = .ok (.ifCond .ne 5, 3) := by decide +kernel
theorem dX4_findFault_7 : decode cX4_findFault 7 = .ok (.iconst 1, 1) := by decide +kernel
theorem dX4_findFault_8 : decode cX4_findFault 8 = .ok (.ireturn, 1) := by decide +kernel
theorem dX4_findFault_9 : decode cX4_findFault 9 = .ok (.aload_n 0, 1) := by decide +kernel
theorem dX4_findFault_10 : decode cX4_findFault 10 = .ok (.invokevirtual 23, 3) := by decide +kernel
theorem dX4_findFault_13 : decode cX4_findFault 13 = .ok (.ifCond .ne 5, 3) := by decide +kernel
theorem dX4_findFault_16 : decode cX4_findFault 16 = .ok (.iconst 2, 1) := by decide +kernel
theorem dX4_findFault_17 : decode cX4_findFault 17 = .ok (.ireturn, 1) := by decide +kernel
theorem dX4_findFault_18 : decode cX4_findFault 18 = .ok (.aload_n 0, 1) := by decide +kernel
theorem dX4_findFault_19 : decode cX4_findFault 19 = .ok (.invokevirtual 26, 3) := by decide +kernel
theorem dX4_findFault_22 : decode cX4_findFault 22 = .ok (.ifCond .ne 5, 3) := by decide +kernel
theorem dX4_findFault_25 : decode cX4_findFault 25 = .ok (.iconst 3, 1) := by decide +kernel
theorem dX4_findFault_26 : decode cX4_findFault 26 = .ok (.ireturn, 1) := by decide +kernel
theorem dX4_findFault_27 : decode cX4_findFault 27 = .ok (.aload_n 0, 1) := by decide +kernel
theorem dX4_findFault_28 : decode cX4_findFault 28 = .ok (.invokevirtual 29, 3) := by decide +kernel
theorem dX4_findFault_31 : decode cX4_findFault 31 = .ok (.ifCond .ne 5, 3) := by decide +kernel
theorem dX4_findFault_34 : decode cX4_findFault 34 = .ok (.iconst 4, 1) := by decide +kernel
theorem dX4_findFault_35 : decode cX4_findFault 35 = .ok (.ireturn, 1) := by decide +kernel
theorem dX4_findFault_36 : decode cX4_findFault 36 = .ok (.aload_n 0, 1) := by decide +kernel
theorem dX4_findFault_37 : decode cX4_findFault 37 = .ok (.invokevirtual 32, 3) := by decide +kernel
theorem dX4_findFault_40 : decode cX4_findFault 40 = .ok (.ifCond .ne 5, 3) := by decide +kernel
theorem dX4_findFault_43 : decode cX4_findFault 43 = .ok (.iconst 5, 1) := by decide +kernel
theorem dX4_findFault_44 : decode cX4_findFault 44 = .ok (.ireturn, 1) := by decide +kernel
theorem dX4_findFault_45 : decode cX4_findFault 45 = .ok (.aload_n 0, 1) := by decide +kernel
theorem dX4_findFault_46 : decode cX4_findFault 46 = .ok (.invokevirtual 35, 3) := by decide +kernel
theorem dX4_findFault_49 : decode cX4_findFault 49 = .ok (.ifCond .ne 6, 3) := by decide +kernel
theorem dX4_findFault_52 : decode cX4_findFault 52 = .ok (.bipush 6, 2) := by decide +kernel
theorem dX4_findFault_54 : decode cX4_findFault 54 = .ok (.ireturn, 1) := by decide +kernel
theorem dX4_findFault_55 : decode cX4_findFault 55 = .ok (.aload_n 0, 1) := by decide +kernel
theorem dX4_findFault_56 : decode cX4_findFault 56 = .ok (.invokevirtual 38, 3) := by decide +kernel
theorem dX4_findFault_59 : decode cX4_findFault 59 = .ok (.ifCond .ne 6, 3) := by decide +kernel
theorem dX4_findFault_62 : decode cX4_findFault 62 = .ok (.bipush 7, 2) := by decide +kernel
theorem dX4_findFault_64 : decode cX4_findFault 64 = .ok (.ireturn, 1) := by decide +kernel
theorem dX4_findFault_65 : decode cX4_findFault 65 = .ok (.aload_n 0, 1) := by decide +kernel
theorem dX4_findFault_66 : decode cX4_findFault 66 = .ok (.invokevirtual 41, 3) := by decide +kernel
theorem dX4_findFault_69 : decode cX4_findFault 69 = .ok (.ifCond .ne 6, 3) := by decide +kernel
theorem dX4_findFault_72 : decode cX4_findFault 72 = .ok (.bipush 8, 2) := by decide +kernel
theorem dX4_findFault_74 : decode cX4_findFault 74 = .ok (.ireturn, 1) := by decide +kernel
theorem dX4_findFault_75 : decode cX4_findFault 75 = .ok (.aload_n 0, 1) := by decide +kernel
theorem dX4_findFault_76 : decode cX4_findFault 76 = .ok (.invokevirtual 44, 3) := by decide +kernel
theorem dX4_findFault_79 : decode cX4_findFault 79 = .ok (.ifCond .ne 6, 3) := by decide +kernel
theorem dX4_findFault_82 : decode cX4_findFault 82 = .ok (.bipush 9, 2) := by decide +kernel
theorem dX4_findFault_84 : decode cX4_findFault 84 = .ok (.ireturn, 1) := by decide +kernel
theorem dX4_findFault_85 : decode cX4_findFault 85 = .ok (.aload_n 0, 1) := by decide +kernel
theorem dX4_findFault_86 : decode cX4_findFault 86 = .ok (.invokevirtual 47, 3) := by decide +kernel
theorem dX4_findFault_89 : decode cX4_findFault 89 = .ok (.ifCond .ne 6, 3) := by decide +kernel
theorem dX4_findFault_92 : decode cX4_findFault 92 = .ok (.bipush 10, 2) := by decide +kernel
theorem dX4_findFault_94 : decode cX4_findFault 94 = .ok (.ireturn, 1) := by decide +kernel
theorem dX4_findFault_95 : decode cX4_findFault 95 = .ok (.aload_n 0, 1) := by decide +kernel
theorem dX4_findFault_96 : decode cX4_findFault 96 = .ok (.getfield 15, 3) := by decide +kernel
theorem dX4_findFault_99 : decode cX4_findFault 99 = .ok (.invokevirtual 50, 3) := by decide +kernel
theorem dX4_findFault_102 : decode cX4_findFault 102 = .ok (.ifCond .ne 6, 3) := by decide +kernel
theorem dX4_findFault_105 : decode cX4_findFault 105 = .ok (.bipush 11, 2) := by decide +kernel
theorem dX4_findFault_107 : decode cX4_findFault 107 = .ok (.ireturn, 1) := by decide +kernel
theorem dX4_findFault_108 : decode cX4_findFault 108 = .ok (.aload_n 0, 1) := by decide +kernel
theorem dX4_findFault_109 : decode cX4_findFault 109 = .ok (.invokevirtual 55, 3) := by decide +kernel
theorem dX4_findFault_112 : decode cX4_findFault 112 = .ok (.ifCond .ne 6, 3) := by decide +kernel
theorem dX4_findFault_115 : decode cX4_findFault 115 = .ok (.bipush 12, 2) := by decide +kernel
theorem dX4_findFault_117 : decode cX4_findFault 117 = .ok (.ireturn, 1) := by decide +kernel
theorem dX4_findFault_118 : decode cX4_findFault 118 = .ok (.aload_n 0, 1) := by decide +kernel
theorem dX4_findFault_119 : decode cX4_findFault 119 = .ok (.invokevirtual 58, 3) := by decide +kernel
theorem dX4_findFault_122 : decode cX4_findFault 122 = .ok (.ifCond .ne 6, 3) := by decide +kernel
theorem dX4_findFault_125 : decode cX4_findFault 125 = .ok (.bipush 13, 2) := by decide +kernel
theorem dX4_findFault_127 : decode cX4_findFault 127 = .ok (.ireturn, 1) := by decide +kernel
theorem dX4_findFault_128 : decode cX4_findFault 128 = .ok (.aload_n 0, 1) := by decide +kernel
theorem dX4_findFault_129 : decode cX4_findFault 129 = .ok (.invokevirtual 61, 3) := by decide +kernel
theorem dX4_findFault_132 : decode cX4_findFault 132 = .ok (.ifCond .eq 7, 3) := by decide +kernel
theorem dX4_findFault_135 : decode cX4_findFault 135 = .ok (.iconst 0, 1) := by decide +kernel
theorem dX4_findFault_136 : decode cX4_findFault 136 = .ok (.goto 5, 3) := by decide +kernel
theorem dX4_findFault_139 : decode cX4_findFault 139 = .ok (.bipush 14, 2) := by decide +kernel
theorem dX4_findFault_141 : decode cX4_findFault 141 = .ok (.ireturn, 1) := by decide +kernel
def F_X4_findFault (N : Nat)  (V : sv_V) : Option (Int32 × sv_V) := (F_X4_directoryHolds N  V).bind (fun (x3, V1) => if x3 = 0 then (some ((1 : Int32), V1)) else ((F_X4_tagsRise N  V1).bind (fun (x7, V5) => if x7 = 0 then (some ((2 : Int32), V5)) else ((F_X4_tablesLieRight N  V5).bind (fun (x11, V9) => if x11 = 0 then (some ((3 : Int32), V9)) else ((F_X4_sumsHold N  V9).bind (fun (x15, V13) => if x15 = 0 then (some ((4 : Int32), V13)) else ((F_X4_findTables N  V13).bind (fun (x19, V17) => if x19 = 0 then (some ((5 : Int32), V17)) else ((F_X4_headHolds N  V17).bind (fun (x23, V21) => if x23 = 0 then (some ((6 : Int32), V21)) else ((F_X4_maxpHolds N  V21).bind (fun (x27, V25) => if x27 = 0 then (some ((7 : Int32), V25)) else ((F_X4_hheaHolds  V25).bind (fun (x31, V29) => if x31 = 0 then (some ((8 : Int32), V29)) else ((F_X4_hmtxHolds  V29).bind (fun (x35, V33) => if x35 = 0 then (some ((9 : Int32), V33)) else ((F_X4_locaHolds N  V33).bind (fun (x39, V37) => if x39 = 0 then (some ((10 : Int32), V37)) else ((F_X3_glyphsHold N  V37).bind (fun (x43, V41) => if x43 = 0 then (some ((11 : Int32), V41)) else ((F_X4_cmapHolds N  V41).bind (fun (x47, V45) => if x47 = 0 then (some ((12 : Int32), V45)) else ((F_X4_kernHolds N  V45).bind (fun (x51, V49) => if x51 = 0 then (some ((13 : Int32), V49)) else ((F_X4_programsHold  V49).bind (fun (x55, V53) => if x55 = 0 then (some ((14 : Int32), V53)) else (some ((0 : Int32), V53)))))))))))))))))))))))))))))
set_option maxRecDepth 20000 in
theorem t_X4_findFault {g : sx_G} (hG : sx_Go g) {P : Option Value → sv_V → Prop} {r : Int32} {Vr : sv_V} (hP : P (some (.int r)) Vr) {N : Nat}  {V : sv_V} (h : F_X4_findFault N  V = some (r, Vr)) : sv_N g qX4_findFault 6 0 [(0, .ref 29)] [] V P := by
  unfold F_X4_findFault at h
  refine sx_aload_n (pc := 0) dX4_findFault_0 sx_m0 ?_
  obtain ⟨⟨x3, V1⟩, g2, h⟩ := sx_bnd h
  refine sv_cV (pc := 1) (y := qX4_directoryHolds) (o := (some (.int x3))) (as := []) (V1 := V1) hG dX4_findFault_1 l_X4_19 y0X4_directoryHolds yvX4_directoryHolds rfl (Nat.le_of_ble_eq_true rfl) lay_29 kr_4 (by decide) (Nat.le_of_ble_eq_true rfl) rfl rfl rfl (t_X4_directoryHolds hG ⟨rfl, rfl⟩ g2) ?_
  refine sx_if_ne (pc := 4) (tgt := 9) dX4_findFault_4 (by decide) (fun c4 => ?_) (fun c4 => ?_)
  · have h := sx_neg c4 h
    refine sx_aload_n (pc := 9) dX4_findFault_9 sx_m0 ?_
    obtain ⟨⟨x7, V5⟩, g6, h⟩ := sx_bnd h
    refine sv_cV (pc := 10) (y := qX4_tagsRise) (o := (some (.int x7))) (as := []) (V1 := V5) hG dX4_findFault_10 l_X4_23 y0X4_tagsRise yvX4_tagsRise rfl (Nat.le_of_ble_eq_true rfl) lay_29 kr_4 (by decide) (Nat.le_of_ble_eq_true rfl) rfl rfl rfl (t_X4_tagsRise hG ⟨rfl, rfl⟩ g6) ?_
    refine sx_if_ne (pc := 13) (tgt := 18) dX4_findFault_13 (by decide) (fun c8 => ?_) (fun c8 => ?_)
    · have h := sx_neg c8 h
      refine sx_aload_n (pc := 18) dX4_findFault_18 sx_m0 ?_
      obtain ⟨⟨x11, V9⟩, g10, h⟩ := sx_bnd h
      refine sv_cV (pc := 19) (y := qX4_tablesLieRight) (o := (some (.int x11))) (as := []) (V1 := V9) hG dX4_findFault_19 l_X4_26 y0X4_tablesLieRight yvX4_tablesLieRight rfl (Nat.le_of_ble_eq_true rfl) lay_29 kr_4 (by decide) (Nat.le_of_ble_eq_true rfl) rfl rfl rfl (t_X4_tablesLieRight hG ⟨rfl, rfl⟩ g10) ?_
      refine sx_if_ne (pc := 22) (tgt := 27) dX4_findFault_22 (by decide) (fun c12 => ?_) (fun c12 => ?_)
      · have h := sx_neg c12 h
        refine sx_aload_n (pc := 27) dX4_findFault_27 sx_m0 ?_
        obtain ⟨⟨x15, V13⟩, g14, h⟩ := sx_bnd h
        refine sv_cV (pc := 28) (y := qX4_sumsHold) (o := (some (.int x15))) (as := []) (V1 := V13) hG dX4_findFault_28 l_X4_29 y0X4_sumsHold yvX4_sumsHold rfl (Nat.le_of_ble_eq_true rfl) lay_29 kr_4 (by decide) (Nat.le_of_ble_eq_true rfl) rfl rfl rfl (t_X4_sumsHold hG ⟨rfl, rfl⟩ g14) ?_
        refine sx_if_ne (pc := 31) (tgt := 36) dX4_findFault_31 (by decide) (fun c16 => ?_) (fun c16 => ?_)
        · have h := sx_neg c16 h
          refine sx_aload_n (pc := 36) dX4_findFault_36 sx_m0 ?_
          obtain ⟨⟨x19, V17⟩, g18, h⟩ := sx_bnd h
          refine sv_cV (pc := 37) (y := qX4_findTables) (o := (some (.int x19))) (as := []) (V1 := V17) hG dX4_findFault_37 l_X4_32 y0X4_findTables yvX4_findTables rfl (Nat.le_of_ble_eq_true rfl) lay_29 kr_4 (by decide) (Nat.le_of_ble_eq_true rfl) rfl rfl rfl (t_X4_findTables hG ⟨rfl, rfl⟩ g18) ?_
          refine sx_if_ne (pc := 40) (tgt := 45) dX4_findFault_40 (by decide) (fun c20 => ?_) (fun c20 => ?_)
          · have h := sx_neg c20 h
            refine sx_aload_n (pc := 45) dX4_findFault_45 sx_m0 ?_
            obtain ⟨⟨x23, V21⟩, g22, h⟩ := sx_bnd h
            refine sv_cV (pc := 46) (y := qX4_headHolds) (o := (some (.int x23))) (as := []) (V1 := V21) hG dX4_findFault_46 l_X4_35 y0X4_headHolds yvX4_headHolds rfl (Nat.le_of_ble_eq_true rfl) lay_29 kr_4 (by decide) (Nat.le_of_ble_eq_true rfl) rfl rfl rfl (t_X4_headHolds hG ⟨rfl, rfl⟩ g22) ?_
            refine sx_if_ne (pc := 49) (tgt := 55) dX4_findFault_49 (by decide) (fun c24 => ?_) (fun c24 => ?_)
            · have h := sx_neg c24 h
              refine sx_aload_n (pc := 55) dX4_findFault_55 sx_m0 ?_
              obtain ⟨⟨x27, V25⟩, g26, h⟩ := sx_bnd h
              refine sv_cV (pc := 56) (y := qX4_maxpHolds) (o := (some (.int x27))) (as := []) (V1 := V25) hG dX4_findFault_56 l_X4_38 y0X4_maxpHolds yvX4_maxpHolds rfl (Nat.le_of_ble_eq_true rfl) lay_29 kr_4 (by decide) (Nat.le_of_ble_eq_true rfl) rfl rfl rfl (t_X4_maxpHolds hG ⟨rfl, rfl⟩ g26) ?_
              refine sx_if_ne (pc := 59) (tgt := 65) dX4_findFault_59 (by decide) (fun c28 => ?_) (fun c28 => ?_)
              · have h := sx_neg c28 h
                refine sx_aload_n (pc := 65) dX4_findFault_65 sx_m0 ?_
                obtain ⟨⟨x31, V29⟩, g30, h⟩ := sx_bnd h
                refine sv_cV (pc := 66) (y := qX4_hheaHolds) (o := (some (.int x31))) (as := []) (V1 := V29) hG dX4_findFault_66 l_X4_41 y0X4_hheaHolds yvX4_hheaHolds rfl (Nat.le_of_ble_eq_true rfl) lay_29 kr_4 (by decide) (Nat.le_of_ble_eq_true rfl) rfl rfl rfl (t_X4_hheaHolds hG ⟨rfl, rfl⟩ g30) ?_
                refine sx_if_ne (pc := 69) (tgt := 75) dX4_findFault_69 (by decide) (fun c32 => ?_) (fun c32 => ?_)
                · have h := sx_neg c32 h
                  refine sx_aload_n (pc := 75) dX4_findFault_75 sx_m0 ?_
                  obtain ⟨⟨x35, V33⟩, g34, h⟩ := sx_bnd h
                  refine sv_cV (pc := 76) (y := qX4_hmtxHolds) (o := (some (.int x35))) (as := []) (V1 := V33) hG dX4_findFault_76 l_X4_44 y0X4_hmtxHolds yvX4_hmtxHolds rfl (Nat.le_of_ble_eq_true rfl) lay_29 kr_4 (by decide) (Nat.le_of_ble_eq_true rfl) rfl rfl rfl (t_X4_hmtxHolds hG ⟨rfl, rfl⟩ g34) ?_
                  refine sx_if_ne (pc := 79) (tgt := 85) dX4_findFault_79 (by decide) (fun c36 => ?_) (fun c36 => ?_)
                  · have h := sx_neg c36 h
                    refine sx_aload_n (pc := 85) dX4_findFault_85 sx_m0 ?_
                    obtain ⟨⟨x39, V37⟩, g38, h⟩ := sx_bnd h
                    refine sv_cV (pc := 86) (y := qX4_locaHolds) (o := (some (.int x39))) (as := []) (V1 := V37) hG dX4_findFault_86 l_X4_47 y0X4_locaHolds yvX4_locaHolds rfl (Nat.le_of_ble_eq_true rfl) lay_29 kr_4 (by decide) (Nat.le_of_ble_eq_true rfl) rfl rfl rfl (t_X4_locaHolds hG ⟨rfl, rfl⟩ g38) ?_
                    refine sx_if_ne (pc := 89) (tgt := 95) dX4_findFault_89 (by decide) (fun c40 => ?_) (fun c40 => ?_)
                    · have h := sx_neg c40 h
                      refine sx_aload_n (pc := 95) dX4_findFault_95 sx_m0 ?_
                      refine sv_getO (pc := 96) hG dX4_findFault_96 f_4_15 lay_29 rfl cr_29_1 ?_
                      obtain ⟨⟨x43, V41⟩, g42, h⟩ := sx_bnd h
                      refine sv_cV (pc := 99) (y := qX3_glyphsHold) (o := (some (.int x43))) (as := []) (V1 := V41) hG dX4_findFault_99 l_X4_50 y0X3_glyphsHold yvX3_glyphsHold rfl (Nat.le_of_ble_eq_true rfl) lay_16 kr_3 (by decide) (Nat.le_of_ble_eq_true rfl) rfl rfl rfl (t_X3_glyphsHold hG ⟨rfl, rfl⟩ g42) ?_
                      refine sx_if_ne (pc := 102) (tgt := 108) dX4_findFault_102 (by decide) (fun c44 => ?_) (fun c44 => ?_)
                      · have h := sx_neg c44 h
                        refine sx_aload_n (pc := 108) dX4_findFault_108 sx_m0 ?_
                        obtain ⟨⟨x47, V45⟩, g46, h⟩ := sx_bnd h
                        refine sv_cV (pc := 109) (y := qX4_cmapHolds) (o := (some (.int x47))) (as := []) (V1 := V45) hG dX4_findFault_109 l_X4_55 y0X4_cmapHolds yvX4_cmapHolds rfl (Nat.le_of_ble_eq_true rfl) lay_29 kr_4 (by decide) (Nat.le_of_ble_eq_true rfl) rfl rfl rfl (t_X4_cmapHolds hG ⟨rfl, rfl⟩ g46) ?_
                        refine sx_if_ne (pc := 112) (tgt := 118) dX4_findFault_112 (by decide) (fun c48 => ?_) (fun c48 => ?_)
                        · have h := sx_neg c48 h
                          refine sx_aload_n (pc := 118) dX4_findFault_118 sx_m0 ?_
                          obtain ⟨⟨x51, V49⟩, g50, h⟩ := sx_bnd h
                          refine sv_cV (pc := 119) (y := qX4_kernHolds) (o := (some (.int x51))) (as := []) (V1 := V49) hG dX4_findFault_119 l_X4_58 y0X4_kernHolds yvX4_kernHolds rfl (Nat.le_of_ble_eq_true rfl) lay_29 kr_4 (by decide) (Nat.le_of_ble_eq_true rfl) rfl rfl rfl (t_X4_kernHolds hG ⟨rfl, rfl⟩ g50) ?_
                          refine sx_if_ne (pc := 122) (tgt := 128) dX4_findFault_122 (by decide) (fun c52 => ?_) (fun c52 => ?_)
                          · have h := sx_neg c52 h
                            refine sx_aload_n (pc := 128) dX4_findFault_128 sx_m0 ?_
                            obtain ⟨⟨x55, V53⟩, g54, h⟩ := sx_bnd h
                            refine sv_cV (pc := 129) (y := qX4_programsHold) (o := (some (.int x55))) (as := []) (V1 := V53) hG dX4_findFault_129 l_X4_61 y0X4_programsHold yvX4_programsHold rfl (Nat.le_of_ble_eq_true rfl) lay_29 kr_4 (by decide) (Nat.le_of_ble_eq_true rfl) rfl rfl rfl (t_X4_programsHold hG ⟨rfl, rfl⟩ g54) ?_
                            refine sx_if_eq (pc := 132) (tgt := 139) dX4_findFault_132 (by decide) (fun c56 => ?_) (fun c56 => ?_)
                            · have h := sx_pos c56 h
                              refine sx_bipush (pc := 139) (v := 14) dX4_findFault_139 (by decide) ?_
                              exact sv_iret (pc := 141) dX4_findFault_141 rfl h hP
                            · have h := sx_neg c56 h
                              refine sx_iconst (pc := 135) (v := 0) dX4_findFault_135 (by decide) ?_
                              refine sx_goto (pc := 136) (tgt := 141) dX4_findFault_136 (by decide) ?_
                              exact sv_iret (pc := 141) dX4_findFault_141 rfl h hP
                          · have h := sx_pos c52 h
                            refine sx_bipush (pc := 125) (v := 13) dX4_findFault_125 (by decide) ?_
                            exact sv_iret (pc := 127) dX4_findFault_127 rfl h hP
                        · have h := sx_pos c48 h
                          refine sx_bipush (pc := 115) (v := 12) dX4_findFault_115 (by decide) ?_
                          exact sv_iret (pc := 117) dX4_findFault_117 rfl h hP
                      · have h := sx_pos c44 h
                        refine sx_bipush (pc := 105) (v := 11) dX4_findFault_105 (by decide) ?_
                        exact sv_iret (pc := 107) dX4_findFault_107 rfl h hP
                    · have h := sx_pos c40 h
                      refine sx_bipush (pc := 92) (v := 10) dX4_findFault_92 (by decide) ?_
                      exact sv_iret (pc := 94) dX4_findFault_94 rfl h hP
                  · have h := sx_pos c36 h
                    refine sx_bipush (pc := 82) (v := 9) dX4_findFault_82 (by decide) ?_
                    exact sv_iret (pc := 84) dX4_findFault_84 rfl h hP
                · have h := sx_pos c32 h
                  refine sx_bipush (pc := 72) (v := 8) dX4_findFault_72 (by decide) ?_
                  exact sv_iret (pc := 74) dX4_findFault_74 rfl h hP
              · have h := sx_pos c28 h
                refine sx_bipush (pc := 62) (v := 7) dX4_findFault_62 (by decide) ?_
                exact sv_iret (pc := 64) dX4_findFault_64 rfl h hP
            · have h := sx_pos c24 h
              refine sx_bipush (pc := 52) (v := 6) dX4_findFault_52 (by decide) ?_
              exact sv_iret (pc := 54) dX4_findFault_54 rfl h hP
          · have h := sx_pos c20 h
            refine sx_iconst (pc := 43) (v := 5) dX4_findFault_43 (by decide) ?_
            exact sv_iret (pc := 44) dX4_findFault_44 rfl h hP
        · have h := sx_pos c16 h
          refine sx_iconst (pc := 34) (v := 4) dX4_findFault_34 (by decide) ?_
          exact sv_iret (pc := 35) dX4_findFault_35 rfl h hP
      · have h := sx_pos c12 h
        refine sx_iconst (pc := 25) (v := 3) dX4_findFault_25 (by decide) ?_
        exact sv_iret (pc := 26) dX4_findFault_26 rfl h hP
    · have h := sx_pos c8 h
      refine sx_iconst (pc := 16) (v := 2) dX4_findFault_16 (by decide) ?_
      exact sv_iret (pc := 17) dX4_findFault_17 rfl h hP
  · have h := sx_pos c4 h
    refine sx_iconst (pc := 7) (v := 1) dX4_findFault_7 (by decide) ?_
    exact sv_iret (pc := 8) dX4_findFault_8 rfl h hP
theorem dX5_vectorCodes_0 : decode cX5_vectorCodes 0 = .ok (.iload_n 1, 1) := by decide +kernel
theorem dX5_vectorCodes_1 : decode cX5_vectorCodes 1 = .ok (.lookupswitch 196 #[(6, 99), (7, 99), (8, 99), (9, 99), (10, 105), (11, 105), (12, 111), (13, 136), (14, 161), (134, 190), (135, 190)], 99) := by decide +kernel
theorem dX5_vectorCodes_100 : decode cX5_vectorCodes 100 = .ok (.aload_n 0, 1) := by decide +kernel
theorem dX5_vectorCodes_101 : decode cX5_vectorCodes 101 = .ok (.iload_n 1, 1) := by decide +kernel
theorem dX5_vectorCodes_102 : decode cX5_vectorCodes 102 = .ok (.invokevirtual 226, 3) := by decide +kernel
theorem dX5_vectorCodes_105 : decode cX5_vectorCodes 105 = .ok (.return_, 1) := by decide +kernel
theorem dX5_vectorCodes_106 : decode cX5_vectorCodes 106 = .ok (.aload_n 0, 1) := by decide +kernel
theorem dX5_vectorCodes_107 : decode cX5_vectorCodes 107 = .ok (.iload_n 1, 1) := by decide +kernel
theorem dX5_vectorCodes_108 : decode cX5_vectorCodes 108 = .ok (.invokevirtual 229, 3) := by decide +kernel
theorem dX5_vectorCodes_111 : decode cX5_vectorCodes 111 = .ok (.return_, 1) := by decide +kernel
theorem dX5_vectorCodes_112 : decode cX5_vectorCodes 112 = .ok (.aload_n 0, 1) := by decide +kernel
theorem dX5_vectorCodes_113 : decode cX5_vectorCodes 113 = .ok (.aload_n 0, 1) := by decide +kernel
theorem dX5_vectorCodes_114 : decode cX5_vectorCodes 114 = .ok (.getfield 12, 3) := by decide +kernel
theorem dX5_vectorCodes_117 : decode cX5_vectorCodes 117 = .ok (.getfield 184, 3) := by decide +kernel
theorem dX5_vectorCodes_120 : decode cX5_vectorCodes 120 = .ok (.i2l, 1) := by decide +kernel
theorem dX5_vectorCodes_121 : decode cX5_vectorCodes 121 = .ok (.invokevirtual 232, 3) := by decide +kernel
theorem dX5_vectorCodes_124 : decode cX5_vectorCodes 124 = .ok (.aload_n 0, 1) := by decide +kernel
theorem dX5_vectorCodes_125 : decode cX5_vectorCodes 125 = .ok (.aload_n 0, 1) := by decide +kernel
theorem dX5_vectorCodes_126 : decode cX5_vectorCodes 126 = .ok (.getfield 12, 3) := by decide +kernel
theorem dX5_vectorCodes_129 : decode cX5_vectorCodes 129 = .ok (.getfield 187, 3) := by decide +kernel
theorem dX5_vectorCodes_132 : decode cX5_vectorCodes 132 = .ok (.i2l, 1) := by decide +kernel
theorem dX5_vectorCodes_133 : decode cX5_vectorCodes 133 = .ok (.invokevirtual 232, 3) := by decide +kernel
theorem dX5_vectorCodes_136 : decode cX5_vectorCodes 136 = .ok (.return_, 1) := by decide +kernel
theorem dX5_vectorCodes_137 : decode cX5_vectorCodes 137 = .ok (.aload_n 0, 1) := by decide +kernel
theorem dX5_vectorCodes_138 : decode cX5_vectorCodes 138 = .ok (.aload_n 0, 1) := by decide +kernel
theorem dX5_vectorCodes_139 : decode cX5_vectorCodes 139 = .ok (.getfield 12, 3) := by decide +kernel
theorem dX5_vectorCodes_142 : decode cX5_vectorCodes 142 = .ok (.getfield 210, 3) := by decide +kernel
theorem dX5_vectorCodes_145 : decode cX5_vectorCodes 145 = .ok (.i2l, 1) := by decide +kernel
theorem dX5_vectorCodes_146 : decode cX5_vectorCodes 146 = .ok (.invokevirtual 232, 3) := by decide +kernel
theorem dX5_vectorCodes_149 : decode cX5_vectorCodes 149 = .ok (.aload_n 0, 1) := by decide +kernel
theorem dX5_vectorCodes_150 : decode cX5_vectorCodes 150 = .ok (.aload_n 0, 1) := by decide +kernel
theorem dX5_vectorCodes_151 : decode cX5_vectorCodes 151 = .ok (.getfield 12, 3) := by decide +kernel
theorem dX5_vectorCodes_154 : decode cX5_vectorCodes 154 = .ok (.getfield 213, 3) := by decide +kernel
theorem dX5_vectorCodes_157 : decode cX5_vectorCodes 157 = .ok (.i2l, 1) := by decide +kernel
theorem dX5_vectorCodes_158 : decode cX5_vectorCodes 158 = .ok (.invokevirtual 232, 3) := by decide +kernel
theorem dX5_vectorCodes_161 : decode cX5_vectorCodes 161 = .ok (.return_, 1) := by decide +kernel
theorem dX5_vectorCodes_162 : decode cX5_vectorCodes 162 = .ok (.aload_n 0, 1) := by decide +kernel
theorem dX5_vectorCodes_163 : decode cX5_vectorCodes 163 = .ok (.getfield 12, 3) := by decide +kernel
theorem dX5_vectorCodes_166 : decode cX5_vectorCodes 166 = .ok (.aload_n 0, 1) := by decide +kernel
theorem dX5_vectorCodes_167 : decode cX5_vectorCodes 167 = .ok (.getfield 12, 3) := by decide +kernel
theorem dX5_vectorCodes_170 : decode cX5_vectorCodes 170 = .ok (.getfield 184, 3) := by decide +kernel
theorem dX5_vectorCodes_173 : decode cX5_vectorCodes 173 = .ok (.putfield 210, 3) := by decide +kernel
theorem dX5_vectorCodes_176 : decode cX5_vectorCodes 176 = .ok (.aload_n 0, 1) := by decide +kernel
theorem dX5_vectorCodes_177 : decode cX5_vectorCodes 177 = .ok (.getfield 12, 3) := by decide +kernel
theorem dX5_vectorCodes_180 : decode cX5_vectorCodes 180 = .ok (.aload_n 0, 1) := by decide +kernel
theorem dX5_vectorCodes_181 : decode cX5_vectorCodes 181 = .ok (.getfield 12, 3) := by decide +kernel
theorem dX5_vectorCodes_184 : decode cX5_vectorCodes 184 = .ok (.getfield 187, 3) := by decide +kernel
theorem dX5_vectorCodes_187 : decode cX5_vectorCodes 187 = .ok (.putfield 213, 3) := by decide +kernel
theorem dX5_vectorCodes_190 : decode cX5_vectorCodes 190 = .ok (.return_, 1) := by decide +kernel
theorem dX5_vectorCodes_191 : decode cX5_vectorCodes 191 = .ok (.aload_n 0, 1) := by decide +kernel
theorem dX5_vectorCodes_192 : decode cX5_vectorCodes 192 = .ok (.iload_n 1, 1) := by decide +kernel
theorem dX5_vectorCodes_193 : decode cX5_vectorCodes 193 = .ok (.invokevirtual 236, 3) := by decide +kernel
theorem dX5_vectorCodes_196 : decode cX5_vectorCodes 196 = .ok (.return_, 1) := by decide +kernel
theorem dX5_vectorCodes_197 : decode cX5_vectorCodes 197 = .ok (.aload_n 0, 1) := by decide +kernel
theorem dX5_vectorCodes_198 : decode cX5_vectorCodes 198 = .ok (.getfield 12, 3) := by decide +kernel
theorem dX5_vectorCodes_201 : decode cX5_vectorCodes 201 = .ok (.iload_n 1, 1) := by decide +kernel
theorem dX5_vectorCodes_202 : decode cX5_vectorCodes 202 = .ok (.invokevirtual 239, 3) := by decide +kernel
theorem dX5_vectorCodes_205 : decode cX5_vectorCodes 205 = .ok (.return_, 1) := by decide +kernel
def B_X5_vectorCodes_100 (N : Nat)  (l1 : Int32) (V : sv_V) : Option sv_V := (F_X5_goAlongLine N l1 V).bind (fun V1 => some V1)
set_option maxRecDepth 20000 in
theorem tB_X5_vectorCodes_100 {g : sx_G} (hG : sx_Go g) {P : Option Value → sv_V → Prop} {Vr : sv_V} (hP : P none Vr) {N : Nat}   {l1 : Int32} {V : sv_V} (h : B_X5_vectorCodes_100 N  l1 V = some Vr) : sv_N g qX5_vectorCodes 3 100 [(0, .ref 69), (1, .int l1)] [] V P := by
  unfold B_X5_vectorCodes_100 at h
  refine sx_aload_n (pc := 100) dX5_vectorCodes_100 sx_m0 ?_
  refine sx_iload_n (pc := 101) dX5_vectorCodes_101 sx_m1 ?_
  obtain ⟨V1, g2, h⟩ := sx_bnd h
  refine sv_cV (pc := 102) (y := qX5_goAlongLine) (o := none) (as := [.int l1]) (V1 := V1) hG dX5_vectorCodes_102 l_X5_226 y0X5_goAlongLine yvX5_goAlongLine rfl (Nat.le_of_ble_eq_true rfl) lay_69 kr_5 (by decide) (Nat.le_of_ble_eq_true rfl) rfl rfl rfl (t_X5_goAlongLine hG ⟨rfl, rfl⟩ g2) ?_
  exact sv_vret (pc := 105) dX5_vectorCodes_105 rfl h hP
def B_X5_vectorCodes_106 (N : Nat)  (l1 : Int32) (V : sv_V) : Option sv_V := (F_X5_goAlongNumbers N l1 V).bind (fun V3 => some V3)
set_option maxRecDepth 20000 in
theorem tB_X5_vectorCodes_106 {g : sx_G} (hG : sx_Go g) {P : Option Value → sv_V → Prop} {Vr : sv_V} (hP : P none Vr) {N : Nat}   {l1 : Int32} {V : sv_V} (h : B_X5_vectorCodes_106 N  l1 V = some Vr) : sv_N g qX5_vectorCodes 3 106 [(0, .ref 69), (1, .int l1)] [] V P := by
  unfold B_X5_vectorCodes_106 at h
  refine sx_aload_n (pc := 106) dX5_vectorCodes_106 sx_m0 ?_
  refine sx_iload_n (pc := 107) dX5_vectorCodes_107 sx_m1 ?_
  obtain ⟨V3, g4, h⟩ := sx_bnd h
  refine sv_cV (pc := 108) (y := qX5_goAlongNumbers) (o := none) (as := [.int l1]) (V1 := V3) hG dX5_vectorCodes_108 l_X5_229 y0X5_goAlongNumbers yvX5_goAlongNumbers rfl (Nat.le_of_ble_eq_true rfl) lay_69 kr_5 (by decide) (Nat.le_of_ble_eq_true rfl) rfl rfl rfl (t_X5_goAlongNumbers hG ⟨rfl, rfl⟩ g4) ?_
  exact sv_vret (pc := 111) dX5_vectorCodes_111 rfl h hP
def B_X5_vectorCodes_191 (N : Nat)  (l1 : Int32) (V : sv_V) : Option sv_V := (F_X5_goAlongBothLines N l1 V).bind (fun V5 => some V5)
set_option maxRecDepth 20000 in
theorem tB_X5_vectorCodes_191 {g : sx_G} (hG : sx_Go g) {P : Option Value → sv_V → Prop} {Vr : sv_V} (hP : P none Vr) {N : Nat}   {l1 : Int32} {V : sv_V} (h : B_X5_vectorCodes_191 N  l1 V = some Vr) : sv_N g qX5_vectorCodes 3 191 [(0, .ref 69), (1, .int l1)] [] V P := by
  unfold B_X5_vectorCodes_191 at h
  refine sx_aload_n (pc := 191) dX5_vectorCodes_191 sx_m0 ?_
  refine sx_iload_n (pc := 192) dX5_vectorCodes_192 sx_m1 ?_
  obtain ⟨V5, g6, h⟩ := sx_bnd h
  refine sv_cV (pc := 193) (y := qX5_goAlongBothLines) (o := none) (as := [.int l1]) (V1 := V5) hG dX5_vectorCodes_193 l_X5_236 y0X5_goAlongBothLines yvX5_goAlongBothLines rfl (Nat.le_of_ble_eq_true rfl) lay_69 kr_5 (by decide) (Nat.le_of_ble_eq_true rfl) rfl rfl rfl (t_X5_goAlongBothLines hG ⟨rfl, rfl⟩ g6) ?_
  exact sv_vret (pc := 196) dX5_vectorCodes_196 rfl h hP
def F_X5_vectorCodes (N : Nat) (l1 : Int32) (V : sv_V) : Option sv_V := if l1 = 6 then (B_X5_vectorCodes_100 N  l1 V) else (if l1 = 7 then (B_X5_vectorCodes_100 N  l1 V) else (if l1 = 8 then (B_X5_vectorCodes_100 N  l1 V) else (if l1 = 9 then (B_X5_vectorCodes_100 N  l1 V) else (if l1 = 10 then (B_X5_vectorCodes_106 N  l1 V) else (if l1 = 11 then (B_X5_vectorCodes_106 N  l1 V) else (if l1 = 12 then ((F_X5_push ((V.1 70 2).toInt64) V).bind (fun V14 => (F_X5_push ((V14.1 70 3).toInt64) V14).bind (fun V16 => some V16))) else (if l1 = 13 then ((F_X5_push ((V.1 70 0).toInt64) V).bind (fun V19 => (F_X5_push ((V19.1 70 1).toInt64) V19).bind (fun V21 => some V21))) else (if l1 = 14 then (sx_let (sv_I V 70 0 (V.1 70 2)) (fun V24 => sx_let (sv_I V24 70 1 (V24.1 70 3)) (fun V25 => some V25))) else (if l1 = 134 then (B_X5_vectorCodes_191 N  l1 V) else (if l1 = 135 then (B_X5_vectorCodes_191 N  l1 V) else ((F_X9_goAlong l1 V).bind (fun V28 => some V28))))))))))))
set_option maxRecDepth 20000 in
theorem t_X5_vectorCodes {g : sx_G} (hG : sx_Go g) {P : Option Value → sv_V → Prop} {Vr : sv_V} (hP : P none Vr) {N : Nat} {l1 : Int32} {V : sv_V} (h : F_X5_vectorCodes N l1 V = some Vr) : sv_N g qX5_vectorCodes 3 0 [(0, .ref 69), (1, .int l1)] [] V P := by
  unfold F_X5_vectorCodes at h
  refine sx_iload_n (pc := 0) dX5_vectorCodes_0 sx_m1 ?_
  by_cases c7 : l1 = 6
  · have h := sx_pos c7 h
    refine sx_look (pc := 1) (off := 99) (tgt := 100) dX5_vectorCodes_1 (by decide) (by rw [c7]; rfl) (by decide) ?_
    refine sx_wk (sx_s1 sx_m0 (sx_s1 sx_m1 sx_s0)) ?_
    exact tB_X5_vectorCodes_100 hG hP  h
  have h := sx_neg c7 h
  by_cases c8 : l1 = 7
  · have h := sx_pos c8 h
    refine sx_look (pc := 1) (off := 99) (tgt := 100) dX5_vectorCodes_1 (by decide) (by rw [c8]; rfl) (by decide) ?_
    refine sx_wk (sx_s1 sx_m0 (sx_s1 sx_m1 sx_s0)) ?_
    exact tB_X5_vectorCodes_100 hG hP  h
  have h := sx_neg c8 h
  by_cases c9 : l1 = 8
  · have h := sx_pos c9 h
    refine sx_look (pc := 1) (off := 99) (tgt := 100) dX5_vectorCodes_1 (by decide) (by rw [c9]; rfl) (by decide) ?_
    refine sx_wk (sx_s1 sx_m0 (sx_s1 sx_m1 sx_s0)) ?_
    exact tB_X5_vectorCodes_100 hG hP  h
  have h := sx_neg c9 h
  by_cases c10 : l1 = 9
  · have h := sx_pos c10 h
    refine sx_look (pc := 1) (off := 99) (tgt := 100) dX5_vectorCodes_1 (by decide) (by rw [c10]; rfl) (by decide) ?_
    refine sx_wk (sx_s1 sx_m0 (sx_s1 sx_m1 sx_s0)) ?_
    exact tB_X5_vectorCodes_100 hG hP  h
  have h := sx_neg c10 h
  by_cases c11 : l1 = 10
  · have h := sx_pos c11 h
    refine sx_look (pc := 1) (off := 105) (tgt := 106) dX5_vectorCodes_1 (by decide) (by rw [c11]; rfl) (by decide) ?_
    refine sx_wk (sx_s1 sx_m0 (sx_s1 sx_m1 sx_s0)) ?_
    exact tB_X5_vectorCodes_106 hG hP  h
  have h := sx_neg c11 h
  by_cases c12 : l1 = 11
  · have h := sx_pos c12 h
    refine sx_look (pc := 1) (off := 105) (tgt := 106) dX5_vectorCodes_1 (by decide) (by rw [c12]; rfl) (by decide) ?_
    refine sx_wk (sx_s1 sx_m0 (sx_s1 sx_m1 sx_s0)) ?_
    exact tB_X5_vectorCodes_106 hG hP  h
  have h := sx_neg c12 h
  by_cases c13 : l1 = 12
  · have h := sx_pos c13 h
    refine sx_look (pc := 1) (off := 111) (tgt := 112) dX5_vectorCodes_1 (by decide) (by rw [c13]; rfl) (by decide) ?_
    refine sx_aload_n (pc := 112) dX5_vectorCodes_112 sx_m0 ?_
    refine sx_aload_n (pc := 113) dX5_vectorCodes_113 sx_m0 ?_
    refine sv_getO (pc := 114) hG dX5_vectorCodes_114 f_5_12 lay_69 rfl cr_69_1 ?_
    refine sv_getI (pc := 117) hG dX5_vectorCodes_117 f_5_184 lay_70 rfl ?_
    refine sx_i2l (pc := 120) dX5_vectorCodes_120 ?_
    obtain ⟨V14, g15, h⟩ := sx_bnd h
    refine sv_cV (pc := 121) (y := qX5_push) (o := none) (as := [.long ((V.1 70 2).toInt64)]) (V1 := V14) hG dX5_vectorCodes_121 l_X5_232 y0X5_push yvX5_push rfl (Nat.le_of_ble_eq_true rfl) lay_69 kr_5 (by decide) (Nat.le_of_ble_eq_true rfl) rfl rfl rfl (t_X5_push hG ⟨rfl, rfl⟩ g15) ?_
    refine sx_aload_n (pc := 124) dX5_vectorCodes_124 sx_m0 ?_
    refine sx_aload_n (pc := 125) dX5_vectorCodes_125 sx_m0 ?_
    refine sv_getO (pc := 126) hG dX5_vectorCodes_126 f_5_12 lay_69 rfl cr_69_1 ?_
    refine sv_getI (pc := 129) hG dX5_vectorCodes_129 f_5_187 lay_70 rfl ?_
    refine sx_i2l (pc := 132) dX5_vectorCodes_132 ?_
    obtain ⟨V16, g17, h⟩ := sx_bnd h
    refine sv_cV (pc := 133) (y := qX5_push) (o := none) (as := [.long ((V14.1 70 3).toInt64)]) (V1 := V16) hG dX5_vectorCodes_133 l_X5_232 y0X5_push yvX5_push rfl (Nat.le_of_ble_eq_true rfl) lay_69 kr_5 (by decide) (Nat.le_of_ble_eq_true rfl) rfl rfl rfl (t_X5_push hG ⟨rfl, rfl⟩ g17) ?_
    exact sv_vret (pc := 136) dX5_vectorCodes_136 rfl h hP
  have h := sx_neg c13 h
  by_cases c18 : l1 = 13
  · have h := sx_pos c18 h
    refine sx_look (pc := 1) (off := 136) (tgt := 137) dX5_vectorCodes_1 (by decide) (by rw [c18]; rfl) (by decide) ?_
    refine sx_aload_n (pc := 137) dX5_vectorCodes_137 sx_m0 ?_
    refine sx_aload_n (pc := 138) dX5_vectorCodes_138 sx_m0 ?_
    refine sv_getO (pc := 139) hG dX5_vectorCodes_139 f_5_12 lay_69 rfl cr_69_1 ?_
    refine sv_getI (pc := 142) hG dX5_vectorCodes_142 f_5_210 lay_70 rfl ?_
    refine sx_i2l (pc := 145) dX5_vectorCodes_145 ?_
    obtain ⟨V19, g20, h⟩ := sx_bnd h
    refine sv_cV (pc := 146) (y := qX5_push) (o := none) (as := [.long ((V.1 70 0).toInt64)]) (V1 := V19) hG dX5_vectorCodes_146 l_X5_232 y0X5_push yvX5_push rfl (Nat.le_of_ble_eq_true rfl) lay_69 kr_5 (by decide) (Nat.le_of_ble_eq_true rfl) rfl rfl rfl (t_X5_push hG ⟨rfl, rfl⟩ g20) ?_
    refine sx_aload_n (pc := 149) dX5_vectorCodes_149 sx_m0 ?_
    refine sx_aload_n (pc := 150) dX5_vectorCodes_150 sx_m0 ?_
    refine sv_getO (pc := 151) hG dX5_vectorCodes_151 f_5_12 lay_69 rfl cr_69_1 ?_
    refine sv_getI (pc := 154) hG dX5_vectorCodes_154 f_5_213 lay_70 rfl ?_
    refine sx_i2l (pc := 157) dX5_vectorCodes_157 ?_
    obtain ⟨V21, g22, h⟩ := sx_bnd h
    refine sv_cV (pc := 158) (y := qX5_push) (o := none) (as := [.long ((V19.1 70 1).toInt64)]) (V1 := V21) hG dX5_vectorCodes_158 l_X5_232 y0X5_push yvX5_push rfl (Nat.le_of_ble_eq_true rfl) lay_69 kr_5 (by decide) (Nat.le_of_ble_eq_true rfl) rfl rfl rfl (t_X5_push hG ⟨rfl, rfl⟩ g22) ?_
    exact sv_vret (pc := 161) dX5_vectorCodes_161 rfl h hP
  have h := sx_neg c18 h
  by_cases c23 : l1 = 14
  · have h := sx_pos c23 h
    refine sx_look (pc := 1) (off := 161) (tgt := 162) dX5_vectorCodes_1 (by decide) (by rw [c23]; rfl) (by decide) ?_
    refine sx_aload_n (pc := 162) dX5_vectorCodes_162 sx_m0 ?_
    refine sv_getO (pc := 163) hG dX5_vectorCodes_163 f_5_12 lay_69 rfl cr_69_1 ?_
    refine sx_aload_n (pc := 166) dX5_vectorCodes_166 sx_m0 ?_
    refine sv_getO (pc := 167) hG dX5_vectorCodes_167 f_5_12 lay_69 rfl cr_69_1 ?_
    refine sv_getI (pc := 170) hG dX5_vectorCodes_170 f_5_184 lay_70 rfl ?_
    obtain ⟨V24, hV24⟩ : ∃ z : sv_V, z = sv_I V 70 0 (V.1 70 2) := ⟨_, rfl⟩
    have h := sx_letE hV24 h
    refine sv_putI (pc := 173) hG dX5_vectorCodes_173 f_5_210 lay_70 rfl hV24 ?_
    refine sx_aload_n (pc := 176) dX5_vectorCodes_176 sx_m0 ?_
    refine sv_getO (pc := 177) hG dX5_vectorCodes_177 f_5_12 lay_69 rfl cr_69_1 ?_
    refine sx_aload_n (pc := 180) dX5_vectorCodes_180 sx_m0 ?_
    refine sv_getO (pc := 181) hG dX5_vectorCodes_181 f_5_12 lay_69 rfl cr_69_1 ?_
    refine sv_getI (pc := 184) hG dX5_vectorCodes_184 f_5_187 lay_70 rfl ?_
    obtain ⟨V25, hV25⟩ : ∃ z : sv_V, z = sv_I V24 70 1 (V24.1 70 3) := ⟨_, rfl⟩
    have h := sx_letE hV25 h
    refine sv_putI (pc := 187) hG dX5_vectorCodes_187 f_5_213 lay_70 rfl hV25 ?_
    exact sv_vret (pc := 190) dX5_vectorCodes_190 rfl h hP
  have h := sx_neg c23 h
  by_cases c26 : l1 = 134
  · have h := sx_pos c26 h
    refine sx_look (pc := 1) (off := 190) (tgt := 191) dX5_vectorCodes_1 (by decide) (by rw [c26]; rfl) (by decide) ?_
    refine sx_wk (sx_s1 sx_m0 (sx_s1 sx_m1 sx_s0)) ?_
    exact tB_X5_vectorCodes_191 hG hP  h
  have h := sx_neg c26 h
  by_cases c27 : l1 = 135
  · have h := sx_pos c27 h
    refine sx_look (pc := 1) (off := 190) (tgt := 191) dX5_vectorCodes_1 (by decide) (by rw [c27]; rfl) (by decide) ?_
    refine sx_wk (sx_s1 sx_m0 (sx_s1 sx_m1 sx_s0)) ?_
    exact tB_X5_vectorCodes_191 hG hP  h
  have h := sx_neg c27 h
  refine sx_look (pc := 1) (off := 196) (tgt := 197) dX5_vectorCodes_1 (by decide) (by show Op.lookupswitch.offset [(6, 99), (7, 99), (8, 99), (9, 99), (10, 105), (11, 105), (12, 111), (13, 136), (14, 161), (134, 190), (135, 190)] 196 l1.toInt = 196; rw [lv_osw (a := 6) c7 rfl, lv_osw (a := 7) c8 rfl, lv_osw (a := 8) c9 rfl, lv_osw (a := 9) c10 rfl, lv_osw (a := 10) c11 rfl, lv_osw (a := 11) c12 rfl, lv_osw (a := 12) c13 rfl, lv_osw (a := 13) c18 rfl, lv_osw (a := 14) c23 rfl, lv_osw (a := 134) c26 rfl, lv_osw (a := 135) c27 rfl]; rfl) (by decide) ?_
  refine sx_aload_n (pc := 197) dX5_vectorCodes_197 sx_m0 ?_
  refine sv_getO (pc := 198) hG dX5_vectorCodes_198 f_5_12 lay_69 rfl cr_69_1 ?_
  refine sx_iload_n (pc := 201) dX5_vectorCodes_201 sx_m1 ?_
  obtain ⟨V28, g29, h⟩ := sx_bnd h
  refine sv_cV (pc := 202) (y := qX9_goAlong) (o := none) (as := [.int l1]) (V1 := V28) hG dX5_vectorCodes_202 l_X5_239 y0X9_goAlong yvX9_goAlong rfl (Nat.le_of_ble_eq_true rfl) lay_70 kr_9 (by decide) (Nat.le_of_ble_eq_true rfl) rfl rfl rfl (t_X9_goAlong hG ⟨rfl, rfl⟩ g29) ?_
  exact sv_vret (pc := 205) dX5_vectorCodes_205 rfl h hP
theorem dX5_singlePointCodes_0 : decode cX5_singlePointCodes 0 = .ok (.iload_n 1, 1) := by decide +kernel
theorem dX5_singlePointCodes_1 : decode cX5_singlePointCodes 1 = .ok (.tableswitch 232 39 74 #[159, 232, 164, 232, 232, 232, 232, 169, 169, 175, 195, 232, 232, 232, 232, 232, 232, 232, 232, 232, 232, 232, 232, 232, 232, 232, 232, 232, 232, 232, 232, 215, 215, 221, 226, 226], 159) := by decide +kernel
theorem dX5_singlePointCodes_160 : decode cX5_singlePointCodes 160 = .ok (.aload_n 0, 1) := by decide +kernel
theorem dX5_singlePointCodes_161 : decode cX5_singlePointCodes 161 = .ok (.invokevirtual 430, 3) := by decide +kernel
theorem dX5_singlePointCodes_164 : decode cX5_singlePointCodes 164 = .ok (.return_, 1) := by decide +kernel
theorem dX5_singlePointCodes_165 : decode cX5_singlePointCodes 165 = .ok (.aload_n 0, 1) := by decide +kernel
theorem dX5_singlePointCodes_166 : decode cX5_singlePointCodes 166 = .ok (.invokevirtual 433, 3) := by decide +kernel
theorem dX5_singlePointCodes_169 : decode cX5_singlePointCodes 169 = .ok (.return_, 1) := by decide +kernel
theorem dX5_singlePointCodes_170 : decode cX5_singlePointCodes 170 = .ok (.aload_n 0, 1) := by decide +kernel
theorem dX5_singlePointCodes_171 : decode cX5_singlePointCodes 171 = .ok (.iload_n 1, 1) := by decide +kernel
theorem dX5_singlePointCodes_172 : decode cX5_singlePointCodes 172 = .ok (.invokevirtual 436, 3) := by decide +kernel
theorem dX5_singlePointCodes_175 : decode cX5_singlePointCodes 175 = .ok (.return_, 1) := by decide +kernel
theorem dX5_singlePointCodes_176 : decode cX5_singlePointCodes 176 = .ok (.aload_n 0, 1) := by decide +kernel
theorem dX5_singlePointCodes_177 : decode cX5_singlePointCodes 177 = .ok (.aload_n 0, 1) := by decide +kernel
theorem dX5_singlePointCodes_178 : decode cX5_singlePointCodes 178 = .ok (.getfield 38, 3) := by decide +kernel
theorem dX5_singlePointCodes_181 : decode cX5_singlePointCodes 181 = .ok (.getfield 207, 3) := by decide +kernel
theorem dX5_singlePointCodes_184 : decode cX5_singlePointCodes 184 = .ok (.aload_n 0, 1) := by decide +kernel
theorem dX5_singlePointCodes_185 : decode cX5_singlePointCodes 185 = .ok (.getfield 38, 3) := by decide +kernel
theorem dX5_singlePointCodes_188 : decode cX5_singlePointCodes 188 = .ok (.getfield 201, 3) := by decide +kernel
theorem dX5_singlePointCodes_191 : decode cX5_singlePointCodes 191 = .ok (.iconst 2, 1) := by decide +kernel
theorem dX5_singlePointCodes_192 : decode cX5_singlePointCodes 192 = .ok (.invokevirtual 439, 3) := by decide +kernel
theorem dX5_singlePointCodes_195 : decode cX5_singlePointCodes 195 = .ok (.return_, 1) := by decide +kernel
theorem dX5_singlePointCodes_196 : decode cX5_singlePointCodes 196 = .ok (.aload_n 0, 1) := by decide +kernel
theorem dX5_singlePointCodes_197 : decode cX5_singlePointCodes 197 = .ok (.aload_n 0, 1) := by decide +kernel
theorem dX5_singlePointCodes_198 : decode cX5_singlePointCodes 198 = .ok (.getfield 38, 3) := by decide +kernel
theorem dX5_singlePointCodes_201 : decode cX5_singlePointCodes 201 = .ok (.getfield 204, 3) := by decide +kernel
theorem dX5_singlePointCodes_204 : decode cX5_singlePointCodes 204 = .ok (.aload_n 0, 1) := by decide +kernel
theorem dX5_singlePointCodes_205 : decode cX5_singlePointCodes 205 = .ok (.getfield 38, 3) := by decide +kernel
theorem dX5_singlePointCodes_208 : decode cX5_singlePointCodes 208 = .ok (.getfield 198, 3) := by decide +kernel
theorem dX5_singlePointCodes_211 : decode cX5_singlePointCodes 211 = .ok (.iconst 1, 1) := by decide +kernel
theorem dX5_singlePointCodes_212 : decode cX5_singlePointCodes 212 = .ok (.invokevirtual 439, 3) := by decide +kernel
theorem dX5_singlePointCodes_215 : decode cX5_singlePointCodes 215 = .ok (.return_, 1) := by decide +kernel
theorem dX5_singlePointCodes_216 : decode cX5_singlePointCodes 216 = .ok (.aload_n 0, 1) := by decide +kernel
theorem dX5_singlePointCodes_217 : decode cX5_singlePointCodes 217 = .ok (.iload_n 1, 1) := by decide +kernel
theorem dX5_singlePointCodes_218 : decode cX5_singlePointCodes 218 = .ok (.invokevirtual 443, 3) := by decide +kernel
theorem dX5_singlePointCodes_221 : decode cX5_singlePointCodes 221 = .ok (.return_, 1) := by decide +kernel
theorem dX5_singlePointCodes_222 : decode cX5_singlePointCodes 222 = .ok (.aload_n 0, 1) := by decide +kernel
theorem dX5_singlePointCodes_223 : decode cX5_singlePointCodes 223 = .ok (.invokevirtual 446, 3) := by decide +kernel
theorem dX5_singlePointCodes_226 : decode cX5_singlePointCodes 226 = .ok (.return_, 1) := by decide +kernel
theorem dX5_singlePointCodes_227 : decode cX5_singlePointCodes 227 = .ok (.aload_n 0, 1) := by decide +kernel
theorem dX5_singlePointCodes_228 : decode cX5_singlePointCodes 228 = .ok (.iload_n 1, 1) := by decide +kernel
theorem dX5_singlePointCodes_229 : decode cX5_singlePointCodes 229 = .ok (.invokevirtual 449, 3) := by decide +kernel
theorem dX5_singlePointCodes_232 : decode cX5_singlePointCodes 232 = .ok (.return_, 1) := by decide +kernel
theorem dX5_singlePointCodes_233 : decode cX5_singlePointCodes 233 = .ok (.aload_n 0, 1) := by decide +kernel
theorem dX5_singlePointCodes_234 : decode cX5_singlePointCodes 234 = .ok (.iload_n 1, 1) := by decide +kernel
theorem dX5_singlePointCodes_235 : decode cX5_singlePointCodes 235 = .ok (.invokevirtual 452, 3) := by decide +kernel
theorem dX5_singlePointCodes_238 : decode cX5_singlePointCodes 238 = .ok (.return_, 1) := by decide +kernel
def B_X5_singlePointCodes_170 (N : Nat)  (l1 : Int32) (V : sv_V) : Option sv_V := (F_X5_touchPoint l1 V).bind (fun V1 => some V1)
set_option maxRecDepth 20000 in
theorem tB_X5_singlePointCodes_170 {g : sx_G} (hG : sx_Go g) {P : Option Value → sv_V → Prop} {Vr : sv_V} (hP : P none Vr) {N : Nat}   {l1 : Int32} {V : sv_V} (h : B_X5_singlePointCodes_170 N  l1 V = some Vr) : sv_N g qX5_singlePointCodes 3 170 [(0, .ref 69), (1, .int l1)] [] V P := by
  unfold B_X5_singlePointCodes_170 at h
  refine sx_aload_n (pc := 170) dX5_singlePointCodes_170 sx_m0 ?_
  refine sx_iload_n (pc := 171) dX5_singlePointCodes_171 sx_m1 ?_
  obtain ⟨V1, g2, h⟩ := sx_bnd h
  refine sv_cV (pc := 172) (y := qX5_touchPoint) (o := none) (as := [.int l1]) (V1 := V1) hG dX5_singlePointCodes_172 l_X5_436 y0X5_touchPoint yvX5_touchPoint rfl (Nat.le_of_ble_eq_true rfl) lay_69 kr_5 (by decide) (Nat.le_of_ble_eq_true rfl) rfl rfl rfl (t_X5_touchPoint hG ⟨rfl, rfl⟩ g2) ?_
  exact sv_vret (pc := 175) dX5_singlePointCodes_175 rfl h hP
def B_X5_singlePointCodes_216 (N : Nat)  (l1 : Int32) (V : sv_V) : Option sv_V := (F_X5_tellLong l1 V).bind (fun V3 => some V3)
set_option maxRecDepth 20000 in
theorem tB_X5_singlePointCodes_216 {g : sx_G} (hG : sx_Go g) {P : Option Value → sv_V → Prop} {Vr : sv_V} (hP : P none Vr) {N : Nat}   {l1 : Int32} {V : sv_V} (h : B_X5_singlePointCodes_216 N  l1 V = some Vr) : sv_N g qX5_singlePointCodes 3 216 [(0, .ref 69), (1, .int l1)] [] V P := by
  unfold B_X5_singlePointCodes_216 at h
  refine sx_aload_n (pc := 216) dX5_singlePointCodes_216 sx_m0 ?_
  refine sx_iload_n (pc := 217) dX5_singlePointCodes_217 sx_m1 ?_
  obtain ⟨V3, g4, h⟩ := sx_bnd h
  refine sv_cV (pc := 218) (y := qX5_tellLong) (o := none) (as := [.int l1]) (V1 := V3) hG dX5_singlePointCodes_218 l_X5_443 y0X5_tellLong yvX5_tellLong rfl (Nat.le_of_ble_eq_true rfl) lay_69 kr_5 (by decide) (Nat.le_of_ble_eq_true rfl) rfl rfl rfl (t_X5_tellLong hG ⟨rfl, rfl⟩ g4) ?_
  exact sv_vret (pc := 221) dX5_singlePointCodes_221 rfl h hP
def B_X5_singlePointCodes_227 (N : Nat)  (l1 : Int32) (V : sv_V) : Option sv_V := (F_X5_tellDistance l1 V).bind (fun V5 => some V5)
set_option maxRecDepth 20000 in
theorem tB_X5_singlePointCodes_227 {g : sx_G} (hG : sx_Go g) {P : Option Value → sv_V → Prop} {Vr : sv_V} (hP : P none Vr) {N : Nat}   {l1 : Int32} {V : sv_V} (h : B_X5_singlePointCodes_227 N  l1 V = some Vr) : sv_N g qX5_singlePointCodes 3 227 [(0, .ref 69), (1, .int l1)] [] V P := by
  unfold B_X5_singlePointCodes_227 at h
  refine sx_aload_n (pc := 227) dX5_singlePointCodes_227 sx_m0 ?_
  refine sx_iload_n (pc := 228) dX5_singlePointCodes_228 sx_m1 ?_
  obtain ⟨V5, g6, h⟩ := sx_bnd h
  refine sv_cV (pc := 229) (y := qX5_tellDistance) (o := none) (as := [.int l1]) (V1 := V5) hG dX5_singlePointCodes_229 l_X5_449 y0X5_tellDistance yvX5_tellDistance rfl (Nat.le_of_ble_eq_true rfl) lay_69 kr_5 (by decide) (Nat.le_of_ble_eq_true rfl) rfl rfl rfl (t_X5_tellDistance hG ⟨rfl, rfl⟩ g6) ?_
  exact sv_vret (pc := 232) dX5_singlePointCodes_232 rfl h hP
def B_X5_singlePointCodes_233 (N : Nat)  (l1 : Int32) (V : sv_V) : Option sv_V := (F_X5_turnRange N l1 V).bind (fun V7 => some V7)
set_option maxRecDepth 20000 in
theorem tB_X5_singlePointCodes_233 {g : sx_G} (hG : sx_Go g) {P : Option Value → sv_V → Prop} {Vr : sv_V} (hP : P none Vr) {N : Nat}   {l1 : Int32} {V : sv_V} (h : B_X5_singlePointCodes_233 N  l1 V = some Vr) : sv_N g qX5_singlePointCodes 3 233 [(0, .ref 69), (1, .int l1)] [] V P := by
  unfold B_X5_singlePointCodes_233 at h
  refine sx_aload_n (pc := 233) dX5_singlePointCodes_233 sx_m0 ?_
  refine sx_iload_n (pc := 234) dX5_singlePointCodes_234 sx_m1 ?_
  obtain ⟨V7, g8, h⟩ := sx_bnd h
  refine sv_cV (pc := 235) (y := qX5_turnRange) (o := none) (as := [.int l1]) (V1 := V7) hG dX5_singlePointCodes_235 l_X5_452 y0X5_turnRange yvX5_turnRange rfl (Nat.le_of_ble_eq_true rfl) lay_69 kr_5 (by decide) (Nat.le_of_ble_eq_true rfl) rfl rfl rfl (t_X5_turnRange hG ⟨rfl, rfl⟩ g8) ?_
  exact sv_vret (pc := 238) dX5_singlePointCodes_238 rfl h hP
def F_X5_singlePointCodes (N : Nat) (l1 : Int32) (V : sv_V) : Option sv_V := if l1 = 39 then ((F_X5_alignPoints  V).bind (fun V10 => some V10)) else (if l1 = 40 then (B_X5_singlePointCodes_233 N  l1 V) else (if l1 = 41 then ((F_X5_untouchPoint  V).bind (fun V14 => some V14)) else (if l1 = 42 then (B_X5_singlePointCodes_233 N  l1 V) else (if l1 = 43 then (B_X5_singlePointCodes_233 N  l1 V) else (if l1 = 44 then (B_X5_singlePointCodes_233 N  l1 V) else (if l1 = 45 then (B_X5_singlePointCodes_233 N  l1 V) else (if l1 = 46 then (B_X5_singlePointCodes_170 N  l1 V) else (if l1 = 47 then (B_X5_singlePointCodes_170 N  l1 V) else (if l1 = 48 then ((V.2.2 69 7).bind (fun b23 => if lay b23 = .inl 8 then (cr b23 3).bind (fun b26 => (V.2.2 69 7).bind (fun b28 => if lay b28 = .inl 8 then (cr b28 1).bind (fun b31 => (F_X5_fillUntouched N b26 b31 (2 : Int32) V).bind (fun V33 => some V33)) else none)) else none)) else (if l1 = 49 then ((V.2.2 69 7).bind (fun b36 => if lay b36 = .inl 8 then (cr b36 2).bind (fun b39 => (V.2.2 69 7).bind (fun b41 => if lay b41 = .inl 8 then (cr b41 0).bind (fun b44 => (F_X5_fillUntouched N b39 b44 (1 : Int32) V).bind (fun V46 => some V46)) else none)) else none)) else (if l1 = 50 then (B_X5_singlePointCodes_233 N  l1 V) else (if l1 = 51 then (B_X5_singlePointCodes_233 N  l1 V) else (if l1 = 52 then (B_X5_singlePointCodes_233 N  l1 V) else (if l1 = 53 then (B_X5_singlePointCodes_233 N  l1 V) else (if l1 = 54 then (B_X5_singlePointCodes_233 N  l1 V) else (if l1 = 55 then (B_X5_singlePointCodes_233 N  l1 V) else (if l1 = 56 then (B_X5_singlePointCodes_233 N  l1 V) else (if l1 = 57 then (B_X5_singlePointCodes_233 N  l1 V) else (if l1 = 58 then (B_X5_singlePointCodes_233 N  l1 V) else (if l1 = 59 then (B_X5_singlePointCodes_233 N  l1 V) else (if l1 = 60 then (B_X5_singlePointCodes_233 N  l1 V) else (if l1 = 61 then (B_X5_singlePointCodes_233 N  l1 V) else (if l1 = 62 then (B_X5_singlePointCodes_233 N  l1 V) else (if l1 = 63 then (B_X5_singlePointCodes_233 N  l1 V) else (if l1 = 64 then (B_X5_singlePointCodes_233 N  l1 V) else (if l1 = 65 then (B_X5_singlePointCodes_233 N  l1 V) else (if l1 = 66 then (B_X5_singlePointCodes_233 N  l1 V) else (if l1 = 67 then (B_X5_singlePointCodes_233 N  l1 V) else (if l1 = 68 then (B_X5_singlePointCodes_233 N  l1 V) else (if l1 = 69 then (B_X5_singlePointCodes_233 N  l1 V) else (if l1 = 70 then (B_X5_singlePointCodes_216 N  l1 V) else (if l1 = 71 then (B_X5_singlePointCodes_216 N  l1 V) else (if l1 = 72 then ((F_X5_setLong  V).bind (fun V71 => some V71)) else (if l1 = 73 then (B_X5_singlePointCodes_227 N  l1 V) else (if l1 = 74 then (B_X5_singlePointCodes_227 N  l1 V) else (B_X5_singlePointCodes_233 N  l1 V))))))))))))))))))))))))))))))))))))
set_option maxRecDepth 20000 in
theorem t_X5_singlePointCodes {g : sx_G} (hG : sx_Go g) {P : Option Value → sv_V → Prop} {Vr : sv_V} (hP : P none Vr) {N : Nat} {l1 : Int32} {V : sv_V} (h : F_X5_singlePointCodes N l1 V = some Vr) : sv_N g qX5_singlePointCodes 3 0 [(0, .ref 69), (1, .int l1)] [] V P := by
  unfold F_X5_singlePointCodes at h
  refine sx_iload_n (pc := 0) dX5_singlePointCodes_0 sx_m1 ?_
  by_cases c9 : l1 = 39
  · have h := sx_pos c9 h
    refine sx_tabI (pc := 1) (off := 159) (tgt := 160) dX5_singlePointCodes_1 (by rw [c9]; decide) (by rw [c9]; decide) (by rw [c9]; rfl) (by decide) ?_
    refine sx_aload_n (pc := 160) dX5_singlePointCodes_160 sx_m0 ?_
    obtain ⟨V10, g11, h⟩ := sx_bnd h
    refine sv_cV (pc := 161) (y := qX5_alignPoints) (o := none) (as := []) (V1 := V10) hG dX5_singlePointCodes_161 l_X5_430 y0X5_alignPoints yvX5_alignPoints rfl (Nat.le_of_ble_eq_true rfl) lay_69 kr_5 (by decide) (Nat.le_of_ble_eq_true rfl) rfl rfl rfl (t_X5_alignPoints hG ⟨rfl, rfl⟩ g11) ?_
    exact sv_vret (pc := 164) dX5_singlePointCodes_164 rfl h hP
  have h := sx_neg c9 h
  by_cases c12 : l1 = 40
  · have h := sx_pos c12 h
    refine sx_tabI (pc := 1) (off := 232) (tgt := 233) dX5_singlePointCodes_1 (by rw [c12]; decide) (by rw [c12]; decide) (by rw [c12]; rfl) (by decide) ?_
    refine sx_wk (sx_s1 sx_m0 (sx_s1 sx_m1 sx_s0)) ?_
    exact tB_X5_singlePointCodes_233 hG hP  h
  have h := sx_neg c12 h
  by_cases c13 : l1 = 41
  · have h := sx_pos c13 h
    refine sx_tabI (pc := 1) (off := 164) (tgt := 165) dX5_singlePointCodes_1 (by rw [c13]; decide) (by rw [c13]; decide) (by rw [c13]; rfl) (by decide) ?_
    refine sx_aload_n (pc := 165) dX5_singlePointCodes_165 sx_m0 ?_
    obtain ⟨V14, g15, h⟩ := sx_bnd h
    refine sv_cV (pc := 166) (y := qX5_untouchPoint) (o := none) (as := []) (V1 := V14) hG dX5_singlePointCodes_166 l_X5_433 y0X5_untouchPoint yvX5_untouchPoint rfl (Nat.le_of_ble_eq_true rfl) lay_69 kr_5 (by decide) (Nat.le_of_ble_eq_true rfl) rfl rfl rfl (t_X5_untouchPoint hG ⟨rfl, rfl⟩ g15) ?_
    exact sv_vret (pc := 169) dX5_singlePointCodes_169 rfl h hP
  have h := sx_neg c13 h
  by_cases c16 : l1 = 42
  · have h := sx_pos c16 h
    refine sx_tabI (pc := 1) (off := 232) (tgt := 233) dX5_singlePointCodes_1 (by rw [c16]; decide) (by rw [c16]; decide) (by rw [c16]; rfl) (by decide) ?_
    refine sx_wk (sx_s1 sx_m0 (sx_s1 sx_m1 sx_s0)) ?_
    exact tB_X5_singlePointCodes_233 hG hP  h
  have h := sx_neg c16 h
  by_cases c17 : l1 = 43
  · have h := sx_pos c17 h
    refine sx_tabI (pc := 1) (off := 232) (tgt := 233) dX5_singlePointCodes_1 (by rw [c17]; decide) (by rw [c17]; decide) (by rw [c17]; rfl) (by decide) ?_
    refine sx_wk (sx_s1 sx_m0 (sx_s1 sx_m1 sx_s0)) ?_
    exact tB_X5_singlePointCodes_233 hG hP  h
  have h := sx_neg c17 h
  by_cases c18 : l1 = 44
  · have h := sx_pos c18 h
    refine sx_tabI (pc := 1) (off := 232) (tgt := 233) dX5_singlePointCodes_1 (by rw [c18]; decide) (by rw [c18]; decide) (by rw [c18]; rfl) (by decide) ?_
    refine sx_wk (sx_s1 sx_m0 (sx_s1 sx_m1 sx_s0)) ?_
    exact tB_X5_singlePointCodes_233 hG hP  h
  have h := sx_neg c18 h
  by_cases c19 : l1 = 45
  · have h := sx_pos c19 h
    refine sx_tabI (pc := 1) (off := 232) (tgt := 233) dX5_singlePointCodes_1 (by rw [c19]; decide) (by rw [c19]; decide) (by rw [c19]; rfl) (by decide) ?_
    refine sx_wk (sx_s1 sx_m0 (sx_s1 sx_m1 sx_s0)) ?_
    exact tB_X5_singlePointCodes_233 hG hP  h
  have h := sx_neg c19 h
  by_cases c20 : l1 = 46
  · have h := sx_pos c20 h
    refine sx_tabI (pc := 1) (off := 169) (tgt := 170) dX5_singlePointCodes_1 (by rw [c20]; decide) (by rw [c20]; decide) (by rw [c20]; rfl) (by decide) ?_
    refine sx_wk (sx_s1 sx_m0 (sx_s1 sx_m1 sx_s0)) ?_
    exact tB_X5_singlePointCodes_170 hG hP  h
  have h := sx_neg c20 h
  by_cases c21 : l1 = 47
  · have h := sx_pos c21 h
    refine sx_tabI (pc := 1) (off := 169) (tgt := 170) dX5_singlePointCodes_1 (by rw [c21]; decide) (by rw [c21]; decide) (by rw [c21]; rfl) (by decide) ?_
    refine sx_wk (sx_s1 sx_m0 (sx_s1 sx_m1 sx_s0)) ?_
    exact tB_X5_singlePointCodes_170 hG hP  h
  have h := sx_neg c21 h
  by_cases c22 : l1 = 48
  · have h := sx_pos c22 h
    refine sx_tabI (pc := 1) (off := 175) (tgt := 176) dX5_singlePointCodes_1 (by rw [c22]; decide) (by rw [c22]; decide) (by rw [c22]; rfl) (by decide) ?_
    refine sx_aload_n (pc := 176) dX5_singlePointCodes_176 sx_m0 ?_
    refine sx_aload_n (pc := 177) dX5_singlePointCodes_177 sx_m0 ?_
    obtain ⟨b23, g24, h⟩ := sx_bnd h
    refine sv_getV (pc := 178) hG dX5_singlePointCodes_178 f_5_38 lay_69 rfl rfl g24 ?_
    obtain ⟨g25, h⟩ := sx_grd h
    obtain ⟨b26, g27, h⟩ := sx_bnd h
    refine sv_getA (pc := 181) hG dX5_singlePointCodes_181 f_5_207 g25 rfl g27 ?_
    refine sx_aload_n (pc := 184) dX5_singlePointCodes_184 sx_m0 ?_
    obtain ⟨b28, g29, h⟩ := sx_bnd h
    refine sv_getV (pc := 185) hG dX5_singlePointCodes_185 f_5_38 lay_69 rfl rfl g29 ?_
    obtain ⟨g30, h⟩ := sx_grd h
    obtain ⟨b31, g32, h⟩ := sx_bnd h
    refine sv_getA (pc := 188) hG dX5_singlePointCodes_188 f_5_201 g30 rfl g32 ?_
    refine sx_iconst (pc := 191) (v := 2) dX5_singlePointCodes_191 (by decide) ?_
    obtain ⟨V33, g34, h⟩ := sx_bnd h
    refine sv_cV (pc := 192) (y := qX5_fillUntouched) (o := none) (as := [.ref b26, .ref b31, .int (2 : Int32)]) (V1 := V33) hG dX5_singlePointCodes_192 l_X5_439 y0X5_fillUntouched yvX5_fillUntouched rfl (Nat.le_of_ble_eq_true rfl) lay_69 kr_5 (by decide) (Nat.le_of_ble_eq_true rfl) rfl rfl rfl (t_X5_fillUntouched hG ⟨rfl, rfl⟩ g34) ?_
    exact sv_vret (pc := 195) dX5_singlePointCodes_195 rfl h hP
  have h := sx_neg c22 h
  by_cases c35 : l1 = 49
  · have h := sx_pos c35 h
    refine sx_tabI (pc := 1) (off := 195) (tgt := 196) dX5_singlePointCodes_1 (by rw [c35]; decide) (by rw [c35]; decide) (by rw [c35]; rfl) (by decide) ?_
    refine sx_aload_n (pc := 196) dX5_singlePointCodes_196 sx_m0 ?_
    refine sx_aload_n (pc := 197) dX5_singlePointCodes_197 sx_m0 ?_
    obtain ⟨b36, g37, h⟩ := sx_bnd h
    refine sv_getV (pc := 198) hG dX5_singlePointCodes_198 f_5_38 lay_69 rfl rfl g37 ?_
    obtain ⟨g38, h⟩ := sx_grd h
    obtain ⟨b39, g40, h⟩ := sx_bnd h
    refine sv_getA (pc := 201) hG dX5_singlePointCodes_201 f_5_204 g38 rfl g40 ?_
    refine sx_aload_n (pc := 204) dX5_singlePointCodes_204 sx_m0 ?_
    obtain ⟨b41, g42, h⟩ := sx_bnd h
    refine sv_getV (pc := 205) hG dX5_singlePointCodes_205 f_5_38 lay_69 rfl rfl g42 ?_
    obtain ⟨g43, h⟩ := sx_grd h
    obtain ⟨b44, g45, h⟩ := sx_bnd h
    refine sv_getA (pc := 208) hG dX5_singlePointCodes_208 f_5_198 g43 rfl g45 ?_
    refine sx_iconst (pc := 211) (v := 1) dX5_singlePointCodes_211 (by decide) ?_
    obtain ⟨V46, g47, h⟩ := sx_bnd h
    refine sv_cV (pc := 212) (y := qX5_fillUntouched) (o := none) (as := [.ref b39, .ref b44, .int (1 : Int32)]) (V1 := V46) hG dX5_singlePointCodes_212 l_X5_439 y0X5_fillUntouched yvX5_fillUntouched rfl (Nat.le_of_ble_eq_true rfl) lay_69 kr_5 (by decide) (Nat.le_of_ble_eq_true rfl) rfl rfl rfl (t_X5_fillUntouched hG ⟨rfl, rfl⟩ g47) ?_
    exact sv_vret (pc := 215) dX5_singlePointCodes_215 rfl h hP
  have h := sx_neg c35 h
  by_cases c48 : l1 = 50
  · have h := sx_pos c48 h
    refine sx_tabI (pc := 1) (off := 232) (tgt := 233) dX5_singlePointCodes_1 (by rw [c48]; decide) (by rw [c48]; decide) (by rw [c48]; rfl) (by decide) ?_
    refine sx_wk (sx_s1 sx_m0 (sx_s1 sx_m1 sx_s0)) ?_
    exact tB_X5_singlePointCodes_233 hG hP  h
  have h := sx_neg c48 h
  by_cases c49 : l1 = 51
  · have h := sx_pos c49 h
    refine sx_tabI (pc := 1) (off := 232) (tgt := 233) dX5_singlePointCodes_1 (by rw [c49]; decide) (by rw [c49]; decide) (by rw [c49]; rfl) (by decide) ?_
    refine sx_wk (sx_s1 sx_m0 (sx_s1 sx_m1 sx_s0)) ?_
    exact tB_X5_singlePointCodes_233 hG hP  h
  have h := sx_neg c49 h
  by_cases c50 : l1 = 52
  · have h := sx_pos c50 h
    refine sx_tabI (pc := 1) (off := 232) (tgt := 233) dX5_singlePointCodes_1 (by rw [c50]; decide) (by rw [c50]; decide) (by rw [c50]; rfl) (by decide) ?_
    refine sx_wk (sx_s1 sx_m0 (sx_s1 sx_m1 sx_s0)) ?_
    exact tB_X5_singlePointCodes_233 hG hP  h
  have h := sx_neg c50 h
  by_cases c51 : l1 = 53
  · have h := sx_pos c51 h
    refine sx_tabI (pc := 1) (off := 232) (tgt := 233) dX5_singlePointCodes_1 (by rw [c51]; decide) (by rw [c51]; decide) (by rw [c51]; rfl) (by decide) ?_
    refine sx_wk (sx_s1 sx_m0 (sx_s1 sx_m1 sx_s0)) ?_
    exact tB_X5_singlePointCodes_233 hG hP  h
  have h := sx_neg c51 h
  by_cases c52 : l1 = 54
  · have h := sx_pos c52 h
    refine sx_tabI (pc := 1) (off := 232) (tgt := 233) dX5_singlePointCodes_1 (by rw [c52]; decide) (by rw [c52]; decide) (by rw [c52]; rfl) (by decide) ?_
    refine sx_wk (sx_s1 sx_m0 (sx_s1 sx_m1 sx_s0)) ?_
    exact tB_X5_singlePointCodes_233 hG hP  h
  have h := sx_neg c52 h
  by_cases c53 : l1 = 55
  · have h := sx_pos c53 h
    refine sx_tabI (pc := 1) (off := 232) (tgt := 233) dX5_singlePointCodes_1 (by rw [c53]; decide) (by rw [c53]; decide) (by rw [c53]; rfl) (by decide) ?_
    refine sx_wk (sx_s1 sx_m0 (sx_s1 sx_m1 sx_s0)) ?_
    exact tB_X5_singlePointCodes_233 hG hP  h
  have h := sx_neg c53 h
  by_cases c54 : l1 = 56
  · have h := sx_pos c54 h
    refine sx_tabI (pc := 1) (off := 232) (tgt := 233) dX5_singlePointCodes_1 (by rw [c54]; decide) (by rw [c54]; decide) (by rw [c54]; rfl) (by decide) ?_
    refine sx_wk (sx_s1 sx_m0 (sx_s1 sx_m1 sx_s0)) ?_
    exact tB_X5_singlePointCodes_233 hG hP  h
  have h := sx_neg c54 h
  by_cases c55 : l1 = 57
  · have h := sx_pos c55 h
    refine sx_tabI (pc := 1) (off := 232) (tgt := 233) dX5_singlePointCodes_1 (by rw [c55]; decide) (by rw [c55]; decide) (by rw [c55]; rfl) (by decide) ?_
    refine sx_wk (sx_s1 sx_m0 (sx_s1 sx_m1 sx_s0)) ?_
    exact tB_X5_singlePointCodes_233 hG hP  h
  have h := sx_neg c55 h
  by_cases c56 : l1 = 58
  · have h := sx_pos c56 h
    refine sx_tabI (pc := 1) (off := 232) (tgt := 233) dX5_singlePointCodes_1 (by rw [c56]; decide) (by rw [c56]; decide) (by rw [c56]; rfl) (by decide) ?_
    refine sx_wk (sx_s1 sx_m0 (sx_s1 sx_m1 sx_s0)) ?_
    exact tB_X5_singlePointCodes_233 hG hP  h
  have h := sx_neg c56 h
  by_cases c57 : l1 = 59
  · have h := sx_pos c57 h
    refine sx_tabI (pc := 1) (off := 232) (tgt := 233) dX5_singlePointCodes_1 (by rw [c57]; decide) (by rw [c57]; decide) (by rw [c57]; rfl) (by decide) ?_
    refine sx_wk (sx_s1 sx_m0 (sx_s1 sx_m1 sx_s0)) ?_
    exact tB_X5_singlePointCodes_233 hG hP  h
  have h := sx_neg c57 h
  by_cases c58 : l1 = 60
  · have h := sx_pos c58 h
    refine sx_tabI (pc := 1) (off := 232) (tgt := 233) dX5_singlePointCodes_1 (by rw [c58]; decide) (by rw [c58]; decide) (by rw [c58]; rfl) (by decide) ?_
    refine sx_wk (sx_s1 sx_m0 (sx_s1 sx_m1 sx_s0)) ?_
    exact tB_X5_singlePointCodes_233 hG hP  h
  have h := sx_neg c58 h
  by_cases c59 : l1 = 61
  · have h := sx_pos c59 h
    refine sx_tabI (pc := 1) (off := 232) (tgt := 233) dX5_singlePointCodes_1 (by rw [c59]; decide) (by rw [c59]; decide) (by rw [c59]; rfl) (by decide) ?_
    refine sx_wk (sx_s1 sx_m0 (sx_s1 sx_m1 sx_s0)) ?_
    exact tB_X5_singlePointCodes_233 hG hP  h
  have h := sx_neg c59 h
  by_cases c60 : l1 = 62
  · have h := sx_pos c60 h
    refine sx_tabI (pc := 1) (off := 232) (tgt := 233) dX5_singlePointCodes_1 (by rw [c60]; decide) (by rw [c60]; decide) (by rw [c60]; rfl) (by decide) ?_
    refine sx_wk (sx_s1 sx_m0 (sx_s1 sx_m1 sx_s0)) ?_
    exact tB_X5_singlePointCodes_233 hG hP  h
  have h := sx_neg c60 h
  by_cases c61 : l1 = 63
  · have h := sx_pos c61 h
    refine sx_tabI (pc := 1) (off := 232) (tgt := 233) dX5_singlePointCodes_1 (by rw [c61]; decide) (by rw [c61]; decide) (by rw [c61]; rfl) (by decide) ?_
    refine sx_wk (sx_s1 sx_m0 (sx_s1 sx_m1 sx_s0)) ?_
    exact tB_X5_singlePointCodes_233 hG hP  h
  have h := sx_neg c61 h
  by_cases c62 : l1 = 64
  · have h := sx_pos c62 h
    refine sx_tabI (pc := 1) (off := 232) (tgt := 233) dX5_singlePointCodes_1 (by rw [c62]; decide) (by rw [c62]; decide) (by rw [c62]; rfl) (by decide) ?_
    refine sx_wk (sx_s1 sx_m0 (sx_s1 sx_m1 sx_s0)) ?_
    exact tB_X5_singlePointCodes_233 hG hP  h
  have h := sx_neg c62 h
  by_cases c63 : l1 = 65
  · have h := sx_pos c63 h
    refine sx_tabI (pc := 1) (off := 232) (tgt := 233) dX5_singlePointCodes_1 (by rw [c63]; decide) (by rw [c63]; decide) (by rw [c63]; rfl) (by decide) ?_
    refine sx_wk (sx_s1 sx_m0 (sx_s1 sx_m1 sx_s0)) ?_
    exact tB_X5_singlePointCodes_233 hG hP  h
  have h := sx_neg c63 h
  by_cases c64 : l1 = 66
  · have h := sx_pos c64 h
    refine sx_tabI (pc := 1) (off := 232) (tgt := 233) dX5_singlePointCodes_1 (by rw [c64]; decide) (by rw [c64]; decide) (by rw [c64]; rfl) (by decide) ?_
    refine sx_wk (sx_s1 sx_m0 (sx_s1 sx_m1 sx_s0)) ?_
    exact tB_X5_singlePointCodes_233 hG hP  h
  have h := sx_neg c64 h
  by_cases c65 : l1 = 67
  · have h := sx_pos c65 h
    refine sx_tabI (pc := 1) (off := 232) (tgt := 233) dX5_singlePointCodes_1 (by rw [c65]; decide) (by rw [c65]; decide) (by rw [c65]; rfl) (by decide) ?_
    refine sx_wk (sx_s1 sx_m0 (sx_s1 sx_m1 sx_s0)) ?_
    exact tB_X5_singlePointCodes_233 hG hP  h
  have h := sx_neg c65 h
  by_cases c66 : l1 = 68
  · have h := sx_pos c66 h
    refine sx_tabI (pc := 1) (off := 232) (tgt := 233) dX5_singlePointCodes_1 (by rw [c66]; decide) (by rw [c66]; decide) (by rw [c66]; rfl) (by decide) ?_
    refine sx_wk (sx_s1 sx_m0 (sx_s1 sx_m1 sx_s0)) ?_
    exact tB_X5_singlePointCodes_233 hG hP  h
  have h := sx_neg c66 h
  by_cases c67 : l1 = 69
  · have h := sx_pos c67 h
    refine sx_tabI (pc := 1) (off := 232) (tgt := 233) dX5_singlePointCodes_1 (by rw [c67]; decide) (by rw [c67]; decide) (by rw [c67]; rfl) (by decide) ?_
    refine sx_wk (sx_s1 sx_m0 (sx_s1 sx_m1 sx_s0)) ?_
    exact tB_X5_singlePointCodes_233 hG hP  h
  have h := sx_neg c67 h
  by_cases c68 : l1 = 70
  · have h := sx_pos c68 h
    refine sx_tabI (pc := 1) (off := 215) (tgt := 216) dX5_singlePointCodes_1 (by rw [c68]; decide) (by rw [c68]; decide) (by rw [c68]; rfl) (by decide) ?_
    refine sx_wk (sx_s1 sx_m0 (sx_s1 sx_m1 sx_s0)) ?_
    exact tB_X5_singlePointCodes_216 hG hP  h
  have h := sx_neg c68 h
  by_cases c69 : l1 = 71
  · have h := sx_pos c69 h
    refine sx_tabI (pc := 1) (off := 215) (tgt := 216) dX5_singlePointCodes_1 (by rw [c69]; decide) (by rw [c69]; decide) (by rw [c69]; rfl) (by decide) ?_
    refine sx_wk (sx_s1 sx_m0 (sx_s1 sx_m1 sx_s0)) ?_
    exact tB_X5_singlePointCodes_216 hG hP  h
  have h := sx_neg c69 h
  by_cases c70 : l1 = 72
  · have h := sx_pos c70 h
    refine sx_tabI (pc := 1) (off := 221) (tgt := 222) dX5_singlePointCodes_1 (by rw [c70]; decide) (by rw [c70]; decide) (by rw [c70]; rfl) (by decide) ?_
    refine sx_aload_n (pc := 222) dX5_singlePointCodes_222 sx_m0 ?_
    obtain ⟨V71, g72, h⟩ := sx_bnd h
    refine sv_cV (pc := 223) (y := qX5_setLong) (o := none) (as := []) (V1 := V71) hG dX5_singlePointCodes_223 l_X5_446 y0X5_setLong yvX5_setLong rfl (Nat.le_of_ble_eq_true rfl) lay_69 kr_5 (by decide) (Nat.le_of_ble_eq_true rfl) rfl rfl rfl (t_X5_setLong hG ⟨rfl, rfl⟩ g72) ?_
    exact sv_vret (pc := 226) dX5_singlePointCodes_226 rfl h hP
  have h := sx_neg c70 h
  by_cases c73 : l1 = 73
  · have h := sx_pos c73 h
    refine sx_tabI (pc := 1) (off := 226) (tgt := 227) dX5_singlePointCodes_1 (by rw [c73]; decide) (by rw [c73]; decide) (by rw [c73]; rfl) (by decide) ?_
    refine sx_wk (sx_s1 sx_m0 (sx_s1 sx_m1 sx_s0)) ?_
    exact tB_X5_singlePointCodes_227 hG hP  h
  have h := sx_neg c73 h
  by_cases c74 : l1 = 74
  · have h := sx_pos c74 h
    refine sx_tabI (pc := 1) (off := 226) (tgt := 227) dX5_singlePointCodes_1 (by rw [c74]; decide) (by rw [c74]; decide) (by rw [c74]; rfl) (by decide) ?_
    refine sx_wk (sx_s1 sx_m0 (sx_s1 sx_m1 sx_s0)) ?_
    exact tB_X5_singlePointCodes_227 hG hP  h
  have h := sx_neg c74 h
  refine sx_tabO (pc := 1) (tgt := 233) dX5_singlePointCodes_1 (by have ec9 := lv_neT (a := 39) c9 rfl; have ec12 := lv_neT (a := 40) c12 rfl; have ec13 := lv_neT (a := 41) c13 rfl; have ec16 := lv_neT (a := 42) c16 rfl; have ec17 := lv_neT (a := 43) c17 rfl; have ec18 := lv_neT (a := 44) c18 rfl; have ec19 := lv_neT (a := 45) c19 rfl; have ec20 := lv_neT (a := 46) c20 rfl; have ec21 := lv_neT (a := 47) c21 rfl; have ec22 := lv_neT (a := 48) c22 rfl; have ec35 := lv_neT (a := 49) c35 rfl; have ec48 := lv_neT (a := 50) c48 rfl; have ec49 := lv_neT (a := 51) c49 rfl; have ec50 := lv_neT (a := 52) c50 rfl; have ec51 := lv_neT (a := 53) c51 rfl; have ec52 := lv_neT (a := 54) c52 rfl; have ec53 := lv_neT (a := 55) c53 rfl; have ec54 := lv_neT (a := 56) c54 rfl; have ec55 := lv_neT (a := 57) c55 rfl; have ec56 := lv_neT (a := 58) c56 rfl; have ec57 := lv_neT (a := 59) c57 rfl; have ec58 := lv_neT (a := 60) c58 rfl; have ec59 := lv_neT (a := 61) c59 rfl; have ec60 := lv_neT (a := 62) c60 rfl; have ec61 := lv_neT (a := 63) c61 rfl; have ec62 := lv_neT (a := 64) c62 rfl; have ec63 := lv_neT (a := 65) c63 rfl; have ec64 := lv_neT (a := 66) c64 rfl; have ec65 := lv_neT (a := 67) c65 rfl; have ec66 := lv_neT (a := 68) c66 rfl; have ec67 := lv_neT (a := 69) c67 rfl; have ec68 := lv_neT (a := 70) c68 rfl; have ec69 := lv_neT (a := 71) c69 rfl; have ec70 := lv_neT (a := 72) c70 rfl; have ec73 := lv_neT (a := 73) c73 rfl; have ec74 := lv_neT (a := 74) c74 rfl; omega) (by decide) ?_
  refine sx_wk (sx_s1 sx_m0 (sx_s1 sx_m1 sx_s0)) ?_
  exact tB_X5_singlePointCodes_233 hG hP  h
