/-! methods: X12_likeReference, X12_inBetween, X12_toDistance, X12_settle, X12_deltas, X12_glyph, X5_vectorCodes, X12_checkGlyphs -/
theorem dX12_likeReference_0 : decode cX12_likeReference 0 = .ok (.iload_n 1, 1) := by decide +kernel
theorem dX12_likeReference_1 : decode cX12_likeReference 1 = .ok (.bipush 52, 2) := by decide +kernel
theorem dX12_likeReference_3 : decode cX12_likeReference 3 = .ok (.if_icmp .ge 10, 3) := by decide +kernel
theorem dX12_likeReference_6 : decode cX12_likeReference 6 = .ok (.aload_n 0, 1) := by decide +kernel
theorem dX12_likeReference_7 : decode cX12_likeReference 7 = .ok (.getfield 469, 3) := by decide +kernel
theorem dX12_likeReference_10 : decode cX12_likeReference 10 = .ok (.goto 4, 3) := by decide +kernel
theorem dX12_likeReference_13 : decode cX12_likeReference 13 = .ok (.iconst 1, 1) := by decide +kernel
theorem dX12_likeReference_14 : decode cX12_likeReference 14 = .ok (.istore_n 2, 1) := by decide +kernel
theorem dX12_likeReference_15 : decode cX12_likeReference 15 = .ok (.aload_n 0, 1) := by decide +kernel
theorem dX12_likeReference_16 : decode cX12_likeReference 16 = .ok (.iload_n 2, 1) := by decide +kernel
theorem dX12_likeReference_17 : decode cX12_likeReference 17 = .ok (.invokevirtual 576, 3) := by decide +kernel
theorem dX12_likeReference_20 : decode cX12_likeReference 20 = .ok (.ifCond .ne 4, 3) := by decide +kernel
theorem dX12_likeReference_23 : decode cX12_likeReference 23 = .ok (.return_, 1) := by decide +kernel
theorem dX12_likeReference_24 : decode cX12_likeReference 24 = .ok (.iload_n 1, 1) := by decide +kernel
theorem dX12_likeReference_25 : decode cX12_likeReference 25 = .ok (.iconst 2, 1) := by decide +kernel
theorem dX12_likeReference_26 : decode cX12_likeReference 26 = .ok (.irem, 1) := by decide +kernel
theorem dX12_likeReference_27 : decode cX12_likeReference 27 = .ok (.iconst 1, 1) := by decide +kernel
theorem dX12_likeReference_28 : decode cX12_likeReference 28 = .ok (.if_icmp .ne 7, 3) := by decide +kernel
theorem dX12_likeReference_31 : decode cX12_likeReference 31 = .ok (.iconst 1, 1) := by decide +kernel
theorem dX12_likeReference_32 : decode cX12_likeReference 32 = .ok (.goto 4, 3) := by decide +kernel
theorem dX12_likeReference_35 : decode cX12_likeReference 35 = .ok (.iconst 0, 1) := by decide +kernel
theorem dX12_likeReference_36 : decode cX12_likeReference 36 = .ok (.istore_n 3, 1) := by decide +kernel
theorem dX12_likeReference_37 : decode cX12_likeReference 37 = .ok (.iload_n 3, 1) := by decide +kernel
theorem dX12_likeReference_38 : decode cX12_likeReference 38 = .ok (.ifCond .eq 10, 3) := by decide +kernel
theorem dX12_likeReference_41 : decode cX12_likeReference 41 = .ok (.aload_n 0, 1) := by decide +kernel
theorem dX12_likeReference_42 : decode cX12_likeReference 42 = .ok (.getfield 460, 3) := by decide +kernel
theorem dX12_likeReference_45 : decode cX12_likeReference 45 = .ok (.goto 7, 3) := by decide +kernel
theorem dX12_likeReference_48 : decode cX12_likeReference 48 = .ok (.aload_n 0, 1) := by decide +kernel
theorem dX12_likeReference_49 : decode cX12_likeReference 49 = .ok (.getfield 463, 3) := by decide +kernel
theorem dX12_likeReference_52 : decode cX12_likeReference 52 = .ok (.istore 4, 2) := by decide +kernel
theorem dX12_likeReference_54 : decode cX12_likeReference 54 = .ok (.aload_n 0, 1) := by decide +kernel
theorem dX12_likeReference_55 : decode cX12_likeReference 55 = .ok (.iload 4, 2) := by decide +kernel
theorem dX12_likeReference_57 : decode cX12_likeReference 57 = .ok (.iload_n 3, 1) := by decide +kernel
theorem dX12_likeReference_58 : decode cX12_likeReference 58 = .ok (.ifCond .eq 10, 3) := by decide +kernel
theorem dX12_likeReference_61 : decode cX12_likeReference 61 = .ok (.aload_n 0, 1) := by decide +kernel
theorem dX12_likeReference_62 : decode cX12_likeReference 62 = .ok (.getfield 454, 3) := by decide +kernel
theorem dX12_likeReference_65 : decode cX12_likeReference 65 = .ok (.goto 7, 3) := by decide +kernel
theorem dX12_likeReference_68 : decode cX12_likeReference 68 = .ok (.aload_n 0, 1) := by decide +kernel
theorem dX12_likeReference_69 : decode cX12_likeReference 69 = .ok (.getfield 457, 3) := by decide +kernel
theorem dX12_likeReference_72 : decode cX12_likeReference 72 = .ok (.invokevirtual 582, 3) := by decide +kernel
theorem dX12_likeReference_75 : decode cX12_likeReference 75 = .ok (.istore 5, 2) := by decide +kernel
theorem dX12_likeReference_77 : decode cX12_likeReference 77 = .ok (.aload_n 0, 1) := by decide +kernel
theorem dX12_likeReference_78 : decode cX12_likeReference 78 = .ok (.getfield 409, 3) := by decide +kernel
theorem dX12_likeReference_81 : decode cX12_likeReference 81 = .ok (.ifCond .le 4, 3) := by decide +kernel
theorem dX12_likeReference_84 : decode cX12_likeReference 84 = .ok (.return_, 1) := by decide +kernel
theorem dX12_likeReference_85 : decode cX12_likeReference 85 = .ok (.aload_n 0, 1) := by decide +kernel
theorem dX12_likeReference_86 : decode cX12_likeReference 86 = .ok (.getfield 76, 3) := by decide +kernel
theorem dX12_likeReference_89 : decode cX12_likeReference 89 = .ok (.iload 5, 2) := by decide +kernel
theorem dX12_likeReference_91 : decode cX12_likeReference 91 = .ok (.iaload, 1) := by decide +kernel
theorem dX12_likeReference_92 : decode cX12_likeReference 92 = .ok (.aload_n 0, 1) := by decide +kernel
theorem dX12_likeReference_93 : decode cX12_likeReference 93 = .ok (.getfield 70, 3) := by decide +kernel
theorem dX12_likeReference_96 : decode cX12_likeReference 96 = .ok (.iload 5, 2) := by decide +kernel
theorem dX12_likeReference_98 : decode cX12_likeReference 98 = .ok (.iaload, 1) := by decide +kernel
theorem dX12_likeReference_99 : decode cX12_likeReference 99 = .ok (.isub, 1) := by decide +kernel
theorem dX12_likeReference_100 : decode cX12_likeReference 100 = .ok (.aload_n 0, 1) := by decide +kernel
theorem dX12_likeReference_101 : decode cX12_likeReference 101 = .ok (.getfield 79, 3) := by decide +kernel
theorem dX12_likeReference_104 : decode cX12_likeReference 104 = .ok (.iload 5, 2) := by decide +kernel
theorem dX12_likeReference_106 : decode cX12_likeReference 106 = .ok (.iaload, 1) := by decide +kernel
theorem dX12_likeReference_107 : decode cX12_likeReference 107 = .ok (.aload_n 0, 1) := by decide +kernel
theorem dX12_likeReference_108 : decode cX12_likeReference 108 = .ok (.getfield 73, 3) := by decide +kernel
theorem dX12_likeReference_111 : decode cX12_likeReference 111 = .ok (.iload 5, 2) := by decide +kernel
theorem dX12_likeReference_113 : decode cX12_likeReference 113 = .ok (.iaload, 1) := by decide +kernel
theorem dX12_likeReference_114 : decode cX12_likeReference 114 = .ok (.isub, 1) := by decide +kernel
theorem dX12_likeReference_115 : decode cX12_likeReference 115 = .ok (.aload_n 0, 1) := by decide +kernel
theorem dX12_likeReference_116 : decode cX12_likeReference 116 = .ok (.getfield 439, 3) := by decide +kernel
theorem dX12_likeReference_119 : decode cX12_likeReference 119 = .ok (.aload_n 0, 1) := by decide +kernel
theorem dX12_likeReference_120 : decode cX12_likeReference 120 = .ok (.getfield 442, 3) := by decide +kernel
theorem dX12_likeReference_123 : decode cX12_likeReference 123 = .ok (.invokestatic 520, 3) := by decide +kernel
theorem dX12_likeReference_126 : decode cX12_likeReference 126 = .ok (.istore 6, 2) := by decide +kernel
theorem dX12_likeReference_128 : decode cX12_likeReference 128 = .ok (.iload_n 1, 1) := by decide +kernel
theorem dX12_likeReference_129 : decode cX12_likeReference 129 = .ok (.bipush 52, 2) := by decide +kernel
theorem dX12_likeReference_131 : decode cX12_likeReference 131 = .ok (.if_icmp .ge 61, 3) := by decide +kernel
theorem dX12_likeReference_134 : decode cX12_likeReference 134 = .ok (.iconst 0, 1) := by decide +kernel
theorem dX12_likeReference_135 : decode cX12_likeReference 135 = .ok (.istore 7, 2) := by decide +kernel
theorem dX12_likeReference_137 : decode cX12_likeReference 137 = .ok (.iload 7, 2) := by decide +kernel
theorem dX12_likeReference_139 : decode cX12_likeReference 139 = .ok (.iload_n 2, 1) := by decide +kernel
theorem dX12_likeReference_140 : decode cX12_likeReference 140 = .ok (.if_icmp .ge 46, 3) := by decide +kernel
theorem dX12_likeReference_143 : decode cX12_likeReference 143 = .ok (.aload_n 0, 1) := by decide +kernel
theorem dX12_likeReference_144 : decode cX12_likeReference 144 = .ok (.getfield 409, 3) := by decide +kernel
theorem dX12_likeReference_147 : decode cX12_likeReference 147 = .ok (.ifCond .ne 39, 3) := by decide +kernel
theorem dX12_likeReference_150 : decode cX12_likeReference 150 = .ok (.aload_n 0, 1) := by decide +kernel
theorem dX12_likeReference_151 : decode cX12_likeReference 151 = .ok (.aload_n 0, 1) := by decide +kernel
theorem dX12_likeReference_152 : decode cX12_likeReference 152 = .ok (.getfield 466, 3) := by decide +kernel
theorem dX12_likeReference_155 : decode cX12_likeReference 155 = .ok (.aload_n 0, 1) := by decide +kernel
theorem dX12_likeReference_156 : decode cX12_likeReference 156 = .ok (.invokevirtual 579, 3) := by decide +kernel
theorem dX12_likeReference_159 : decode cX12_likeReference 159 = .ok (.invokevirtual 582, 3) := by decide +kernel
theorem dX12_likeReference_162 : decode cX12_likeReference 162 = .ok (.istore 8, 2) := by decide +kernel
theorem dX12_likeReference_164 : decode cX12_likeReference 164 = .ok (.aload_n 0, 1) := by decide +kernel
theorem dX12_likeReference_165 : decode cX12_likeReference 165 = .ok (.getfield 409, 3) := by decide +kernel
theorem dX12_likeReference_168 : decode cX12_likeReference 168 = .ok (.ifCond .ne 12, 3) := by decide +kernel
theorem dX12_likeReference_171 : decode cX12_likeReference 171 = .ok (.aload_n 0, 1) := by decide +kernel
theorem dX12_likeReference_172 : decode cX12_likeReference 172 = .ok (.iload 8, 2) := by decide +kernel
theorem dX12_likeReference_174 : decode cX12_likeReference 174 = .ok (.iload 6, 2) := by decide +kernel
theorem dX12_likeReference_176 : decode cX12_likeReference 176 = .ok (.i2l, 1) := by decide +kernel
theorem dX12_likeReference_177 : decode cX12_likeReference 177 = .ok (.invokevirtual 630, 3) := by decide +kernel
theorem dX12_likeReference_180 : decode cX12_likeReference 180 = .ok (.iinc 7 1, 3) := by decide +kernel
theorem dX12_likeReference_183 : decode cX12_likeReference 183 = .ok (.goto (-46), 3) := by decide +kernel
theorem dX12_likeReference_186 : decode cX12_likeReference 186 = .ok (.aload_n 0, 1) := by decide +kernel
theorem dX12_likeReference_187 : decode cX12_likeReference 187 = .ok (.iconst 1, 1) := by decide +kernel
theorem dX12_likeReference_188 : decode cX12_likeReference 188 = .ok (.putfield 469, 3) := by decide +kernel
theorem dX12_likeReference_191 : decode cX12_likeReference 191 = .ok (.return_, 1) := by decide +kernel
theorem dX12_likeReference_192 : decode cX12_likeReference 192 = .ok (.aload_n 0, 1) := by decide +kernel
theorem dX12_likeReference_193 : decode cX12_likeReference 193 = .ok (.invokevirtual 579, 3) := by decide +kernel
theorem dX12_likeReference_196 : decode cX12_likeReference 196 = .ok (.istore 7, 2) := by decide +kernel
theorem dX12_likeReference_198 : decode cX12_likeReference 198 = .ok (.iload_n 1, 1) := by decide +kernel
theorem dX12_likeReference_199 : decode cX12_likeReference 199 = .ok (.bipush 54, 2) := by decide +kernel
theorem dX12_likeReference_201 : decode cX12_likeReference 201 = .ok (.if_icmp .ge 94, 3) := by decide +kernel
theorem dX12_likeReference_204 : decode cX12_likeReference 204 = .ok (.aload_n 0, 1) := by decide +kernel
theorem dX12_likeReference_205 : decode cX12_likeReference 205 = .ok (.getfield 466, 3) := by decide +kernel
theorem dX12_likeReference_208 : decode cX12_likeReference 208 = .ok (.iconst 1, 1) := by decide +kernel
theorem dX12_likeReference_209 : decode cX12_likeReference 209 = .ok (.if_icmp .ne 17, 3) := by decide +kernel
theorem dX12_likeReference_212 : decode cX12_likeReference 212 = .ok (.iload 7, 2) := by decide +kernel
theorem dX12_likeReference_214 : decode cX12_likeReference 214 = .ok (.ifCond .lt 12, 3) := by decide +kernel
theorem dX12_likeReference_217 : decode cX12_likeReference 217 = .ok (.iload 7, 2) := by decide +kernel
theorem dX12_likeReference_219 : decode cX12_likeReference 219 = .ok (.aload_n 0, 1) := by decide +kernel
theorem dX12_likeReference_220 : decode cX12_likeReference 220 = .ok (.getfield 706, 3) := by decide +kernel
theorem dX12_likeReference_223 : decode cX12_likeReference 223 = .ok (.if_icmp .lt 9, 3) := by decide +kernel
theorem dX12_likeReference_226 : decode cX12_likeReference 226 = .ok (.aload_n 0, 1) := by decide +kernel
theorem dX12_likeReference_227 : decode cX12_likeReference 227 = .ok (.iconst 5, 1) := by decide +kernel
theorem dX12_likeReference_228 : decode cX12_likeReference 228 = .ok (.invokevirtual 421, 3) := by decide +kernel
theorem dX12_likeReference_231 : decode cX12_likeReference 231 = .ok (.return_, 1) := by decide +kernel
theorem dX12_likeReference_232 : decode cX12_likeReference 232 = .ok (.iload 7, 2) := by decide +kernel
theorem dX12_likeReference_234 : decode cX12_likeReference 234 = .ok (.ifCond .ne 7, 3) := by decide +kernel
theorem dX12_likeReference_237 : decode cX12_likeReference 237 = .ok (.iconst 0, 1) := by decide +kernel
theorem dX12_likeReference_238 : decode cX12_likeReference 238 = .ok (.goto 14, 3) := by decide +kernel
theorem dX12_likeReference_241 : decode cX12_likeReference 241 = .ok (.aload_n 0, 1) := by decide +kernel
theorem dX12_likeReference_242 : decode cX12_likeReference 242 = .ok (.getfield 88, 3) := by decide +kernel
theorem dX12_likeReference_245 : decode cX12_likeReference 245 = .ok (.iload 7, 2) := by decide +kernel
theorem dX12_likeReference_247 : decode cX12_likeReference 247 = .ok (.iconst 1, 1) := by decide +kernel
theorem dX12_likeReference_248 : decode cX12_likeReference 248 = .ok (.isub, 1) := by decide +kernel
theorem dX12_likeReference_249 : decode cX12_likeReference 249 = .ok (.iaload, 1) := by decide +kernel
theorem dX12_likeReference_250 : decode cX12_likeReference 250 = .ok (.iconst 1, 1) := by decide +kernel
theorem dX12_likeReference_251 : decode cX12_likeReference 251 = .ok (.iadd, 1) := by decide +kernel
theorem dX12_likeReference_252 : decode cX12_likeReference 252 = .ok (.istore 8, 2) := by decide +kernel
theorem dX12_likeReference_254 : decode cX12_likeReference 254 = .ok (.iload 8, 2) := by decide +kernel
theorem dX12_likeReference_256 : decode cX12_likeReference 256 = .ok (.aload_n 0, 1) := by decide +kernel
theorem dX12_likeReference_257 : decode cX12_likeReference 257 = .ok (.getfield 88, 3) := by decide +kernel
theorem dX12_likeReference_260 : decode cX12_likeReference 260 = .ok (.iload 7, 2) := by decide +kernel
theorem dX12_likeReference_262 : decode cX12_likeReference 262 = .ok (.iaload, 1) := by decide +kernel
theorem dX12_likeReference_263 : decode cX12_likeReference 263 = .ok (.if_icmp .gt 31, 3) := by decide +kernel
theorem dX12_likeReference_266 : decode cX12_likeReference 266 = .ok (.bipush 102, 2) := by decide +kernel
theorem dX12_likeReference_268 : decode cX12_likeReference 268 = .ok (.iload 8, 2) := by decide +kernel
theorem dX12_likeReference_270 : decode cX12_likeReference 270 = .ok (.iadd, 1) := by decide +kernel
theorem dX12_likeReference_271 : decode cX12_likeReference 271 = .ok (.iload 5, 2) := by decide +kernel
theorem dX12_likeReference_273 : decode cX12_likeReference 273 = .ok (.if_icmp .eq 15, 3) := by decide +kernel
theorem dX12_likeReference_276 : decode cX12_likeReference 276 = .ok (.aload_n 0, 1) := by decide +kernel
theorem dX12_likeReference_277 : decode cX12_likeReference 277 = .ok (.bipush 102, 2) := by decide +kernel
theorem dX12_likeReference_279 : decode cX12_likeReference 279 = .ok (.iload 8, 2) := by decide +kernel
theorem dX12_likeReference_281 : decode cX12_likeReference 281 = .ok (.iadd, 1) := by decide +kernel
theorem dX12_likeReference_282 : decode cX12_likeReference 282 = .ok (.iload 6, 2) := by decide +kernel
theorem dX12_likeReference_284 : decode cX12_likeReference 284 = .ok (.i2l, 1) := by decide +kernel
theorem dX12_likeReference_285 : decode cX12_likeReference 285 = .ok (.invokevirtual 630, 3) := by decide +kernel
theorem dX12_likeReference_288 : decode cX12_likeReference 288 = .ok (.iinc 8 1, 3) := by decide +kernel
theorem dX12_likeReference_291 : decode cX12_likeReference 291 = .ok (.goto (-37), 3) := by decide +kernel
theorem dX12_likeReference_294 : decode cX12_likeReference 294 = .ok (.return_, 1) := by decide +kernel
theorem dX12_likeReference_295 : decode cX12_likeReference 295 = .ok (.aload_n 0, 1) := by decide +kernel
theorem dX12_likeReference_296 : decode cX12_likeReference 296 = .ok (.iload 7, 2) := by decide +kernel
theorem dX12_likeReference_298 : decode cX12_likeReference 298 = .ok (.invokevirtual 624, 3) := by decide +kernel
theorem dX12_likeReference_301 : decode cX12_likeReference 301 = .ok (.ifCond .ne 9, 3) := by decide +kernel
theorem dX12_likeReference_304 : decode cX12_likeReference 304 = .ok (.aload_n 0, 1) := by decide +kernel
theorem dX12_likeReference_305 : decode cX12_likeReference 305 = .ok (.iconst 5, 1) := by decide +kernel
theorem dX12_likeReference_306 : decode cX12_likeReference 306 = .ok (.invokevirtual 421, 3) := by decide +kernel
theorem dX12_likeReference_309 : decode cX12_likeReference 309 = .ok (.return_, 1) := by decide +kernel
theorem dX12_likeReference_310 : decode cX12_likeReference 310 = .ok (.iload 7, 2) := by decide +kernel
theorem dX12_likeReference_312 : decode cX12_likeReference 312 = .ok (.ifCond .ne 10, 3) := by decide +kernel
theorem dX12_likeReference_315 : decode cX12_likeReference 315 = .ok (.aload_n 0, 1) := by decide +kernel
theorem dX12_likeReference_316 : decode cX12_likeReference 316 = .ok (.getfield 316, 3) := by decide +kernel
theorem dX12_likeReference_319 : decode cX12_likeReference 319 = .ok (.goto 27, 3) := by decide +kernel
theorem dX12_likeReference_322 : decode cX12_likeReference 322 = .ok (.aload_n 0, 1) := by decide +kernel
theorem dX12_likeReference_323 : decode cX12_likeReference 323 = .ok (.getfield 706, 3) := by decide +kernel
theorem dX12_likeReference_326 : decode cX12_likeReference 326 = .ok (.ifCond .ne 7, 3) := by decide +kernel
theorem dX12_likeReference_329 : decode cX12_likeReference 329 = .ok (.iconst 0, 1) := by decide +kernel
theorem dX12_likeReference_330 : decode cX12_likeReference 330 = .ok (.goto 16, 3) := by decide +kernel
theorem dX12_likeReference_333 : decode cX12_likeReference 333 = .ok (.aload_n 0, 1) := by decide +kernel
theorem dX12_likeReference_334 : decode cX12_likeReference 334 = .ok (.getfield 88, 3) := by decide +kernel
theorem dX12_likeReference_337 : decode cX12_likeReference 337 = .ok (.aload_n 0, 1) := by decide +kernel
theorem dX12_likeReference_338 : decode cX12_likeReference 338 = .ok (.getfield 706, 3) := by decide +kernel
theorem dX12_likeReference_341 : decode cX12_likeReference 341 = .ok (.iconst 1, 1) := by decide +kernel
theorem dX12_likeReference_342 : decode cX12_likeReference 342 = .ok (.isub, 1) := by decide +kernel
theorem dX12_likeReference_343 : decode cX12_likeReference 343 = .ok (.iaload, 1) := by decide +kernel
theorem dX12_likeReference_344 : decode cX12_likeReference 344 = .ok (.iconst 1, 1) := by decide +kernel
theorem dX12_likeReference_345 : decode cX12_likeReference 345 = .ok (.iadd, 1) := by decide +kernel
theorem dX12_likeReference_346 : decode cX12_likeReference 346 = .ok (.istore 8, 2) := by decide +kernel
theorem dX12_likeReference_348 : decode cX12_likeReference 348 = .ok (.bipush 102, 2) := by decide +kernel
theorem dX12_likeReference_350 : decode cX12_likeReference 350 = .ok (.iload 7, 2) := by decide +kernel
theorem dX12_likeReference_352 : decode cX12_likeReference 352 = .ok (.imul, 1) := by decide +kernel
theorem dX12_likeReference_353 : decode cX12_likeReference 353 = .ok (.istore 9, 2) := by decide +kernel
theorem dX12_likeReference_355 : decode cX12_likeReference 355 = .ok (.iload 9, 2) := by decide +kernel
theorem dX12_likeReference_357 : decode cX12_likeReference 357 = .ok (.bipush 102, 2) := by decide +kernel
theorem dX12_likeReference_359 : decode cX12_likeReference 359 = .ok (.iload 7, 2) := by decide +kernel
theorem dX12_likeReference_361 : decode cX12_likeReference 361 = .ok (.imul, 1) := by decide +kernel
theorem dX12_likeReference_362 : decode cX12_likeReference 362 = .ok (.iload 8, 2) := by decide +kernel
theorem dX12_likeReference_364 : decode cX12_likeReference 364 = .ok (.iadd, 1) := by decide +kernel
theorem dX12_likeReference_365 : decode cX12_likeReference 365 = .ok (.if_icmp .ge 26, 3) := by decide +kernel
theorem dX12_likeReference_368 : decode cX12_likeReference 368 = .ok (.iload 9, 2) := by decide +kernel
theorem dX12_likeReference_370 : decode cX12_likeReference 370 = .ok (.iload 5, 2) := by decide +kernel
theorem dX12_likeReference_372 : decode cX12_likeReference 372 = .ok (.if_icmp .eq 13, 3) := by decide +kernel
theorem dX12_likeReference_375 : decode cX12_likeReference 375 = .ok (.aload_n 0, 1) := by decide +kernel
theorem dX12_likeReference_376 : decode cX12_likeReference 376 = .ok (.iload 9, 2) := by decide +kernel
theorem dX12_likeReference_378 : decode cX12_likeReference 378 = .ok (.iload 6, 2) := by decide +kernel
theorem dX12_likeReference_380 : decode cX12_likeReference 380 = .ok (.i2l, 1) := by decide +kernel
theorem dX12_likeReference_381 : decode cX12_likeReference 381 = .ok (.iconst 0, 1) := by decide +kernel
theorem dX12_likeReference_382 : decode cX12_likeReference 382 = .ok (.invokevirtual 529, 3) := by decide +kernel
theorem dX12_likeReference_385 : decode cX12_likeReference 385 = .ok (.iinc 9 1, 3) := by decide +kernel
theorem dX12_likeReference_388 : decode cX12_likeReference 388 = .ok (.goto (-33), 3) := by decide +kernel
theorem dX12_likeReference_391 : decode cX12_likeReference 391 = .ok (.return_, 1) := by decide +kernel
def B_X12_likeReference_180 (N : Nat) (k137 : Int32 → Int32 → Int32 → sv_V → Option sv_V) (l2 : Int32) (l6 : Int32) (l7 : Int32) (V : sv_V) : Option sv_V := sx_let (l7 + 1) (fun x1 => k137 l2 l6 x1 V)
set_option maxRecDepth 20000 in
theorem tB_X12_likeReference_180 {g : sx_G} (hG : sx_Go g) {P : Option Value → sv_V → Prop} {Vr : sv_V} (hP : P none Vr) {N : Nat} {k137 : Int32 → Int32 → Int32 → sv_V → Option sv_V} (hk137 : ∀ (l2 : Int32) (l6 : Int32) (l7 : Int32) (V : sv_V), k137 l2 l6 l7 V = some Vr → sv_N g qX12_likeReference 5 137 [(0, .ref 146), (2, .int l2), (6, .int l6), (7, .int l7)] [] V P) {l2 : Int32} {l6 : Int32} {l7 : Int32} {V : sv_V} (h : B_X12_likeReference_180 N k137 l2 l6 l7 V = some Vr) : sv_N g qX12_likeReference 5 180 [(0, .ref 146), (2, .int l2), (6, .int l6), (7, .int l7)] [] V P := by
  unfold B_X12_likeReference_180 at h
  obtain ⟨x1, hx1⟩ : ∃ z : Int32, z = l7 + 1 := ⟨_, rfl⟩
  have h := sx_letE hx1 h
  refine sx_iinc (pc := 180) (v := x1) (lo' := [(7, .int x1), (0, .ref 146), (2, .int l2), (6, .int l6)]) dX12_likeReference_180 sx_m3 (by rw [hx1]; rfl) (by decide) rfl ?_
  refine sx_goto (pc := 183) (tgt := 137) dX12_likeReference_183 (by decide) ?_
  refine sx_wk (sx_s1 sx_m1 (sx_s1 sx_m2 (sx_s1 sx_m3 (sx_s1 sx_m0 sx_s0)))) ?_
  exact hk137 _ _ _ _ h
def B_X12_likeReference_137 (N : Nat) (k137 : Int32 → Int32 → Int32 → sv_V → Option sv_V) (l2 : Int32) (l6 : Int32) (l7 : Int32) (V : sv_V) : Option sv_V := if l2 ≤ l7 then (sx_let (sv_I V 146 75 (1 : Int32)) (fun V3 => some V3)) else (if (V.1 146 59) = 0 then ((F_X12_pop  V).bind (fun (x8, V6) => (F_X12_pointOf (V.1 146 74) x8 V6).bind (fun (x11, V9) => if (V9.1 146 59) = 0 then ((F_X12_move x11 l6.toInt64 V9).bind (fun V13 => B_X12_likeReference_180 N k137 l2 l6 l7 V13)) else (B_X12_likeReference_180 N k137 l2 l6 l7 V9)))) else (sx_let (sv_I V 146 75 (1 : Int32)) (fun V5 => some V5)))
set_option maxRecDepth 20000 in
theorem tB_X12_likeReference_137 {g : sx_G} (hG : sx_Go g) {P : Option Value → sv_V → Prop} {Vr : sv_V} (hP : P none Vr) {N : Nat} {k137 : Int32 → Int32 → Int32 → sv_V → Option sv_V} (hk137 : ∀ (l2 : Int32) (l6 : Int32) (l7 : Int32) (V : sv_V), k137 l2 l6 l7 V = some Vr → sv_N g qX12_likeReference 5 137 [(0, .ref 146), (2, .int l2), (6, .int l6), (7, .int l7)] [] V P) {l2 : Int32} {l6 : Int32} {l7 : Int32} {V : sv_V} (h : B_X12_likeReference_137 N k137 l2 l6 l7 V = some Vr) : sv_N g qX12_likeReference 5 137 [(0, .ref 146), (2, .int l2), (6, .int l6), (7, .int l7)] [] V P := by
  unfold B_X12_likeReference_137 at h
  refine sx_iload (pc := 137) dX12_likeReference_137 sx_m3 ?_
  refine sx_iload_n (pc := 139) dX12_likeReference_139 sx_m1 ?_
  refine sx_icmp_ge (pc := 140) (tgt := 186) dX12_likeReference_140 (by decide) (fun c2 => ?_) (fun c2 => ?_)
  · have h := sx_pos c2 h
    refine sx_aload_n (pc := 186) dX12_likeReference_186 sx_m0 ?_
    refine sx_iconst (pc := 187) (v := 1) dX12_likeReference_187 (by decide) ?_
    obtain ⟨V3, hV3⟩ : ∃ z : sv_V, z = sv_I V 146 75 (1 : Int32) := ⟨_, rfl⟩
    have h := sx_letE hV3 h
    refine sv_putI (pc := 188) hG dX12_likeReference_188 f_12_469 lay_146 rfl hV3 ?_
    exact sv_vret (pc := 191) dX12_likeReference_191 rfl h hP
  · have h := sx_neg c2 h
    refine sx_aload_n (pc := 143) dX12_likeReference_143 sx_m0 ?_
    refine sv_getI (pc := 144) hG dX12_likeReference_144 f_12_409 lay_146 rfl ?_
    refine sx_if_ne (pc := 147) (tgt := 186) dX12_likeReference_147 (by decide) (fun c4 => ?_) (fun c4 => ?_)
    · have h := sx_neg c4 h
      refine sx_aload_n (pc := 186) dX12_likeReference_186 sx_m0 ?_
      refine sx_iconst (pc := 187) (v := 1) dX12_likeReference_187 (by decide) ?_
      obtain ⟨V5, hV5⟩ : ∃ z : sv_V, z = sv_I V 146 75 (1 : Int32) := ⟨_, rfl⟩
      have h := sx_letE hV5 h
      refine sv_putI (pc := 188) hG dX12_likeReference_188 f_12_469 lay_146 rfl hV5 ?_
      exact sv_vret (pc := 191) dX12_likeReference_191 rfl h hP
    · have h := sx_pos c4 h
      refine sx_aload_n (pc := 150) dX12_likeReference_150 sx_m0 ?_
      refine sx_aload_n (pc := 151) dX12_likeReference_151 sx_m0 ?_
      refine sv_getI (pc := 152) hG dX12_likeReference_152 f_12_466 lay_146 rfl ?_
      refine sx_aload_n (pc := 155) dX12_likeReference_155 sx_m0 ?_
      obtain ⟨⟨x8, V6⟩, g7, h⟩ := sx_bnd h
      refine sv_cV (pc := 156) (y := qX12_pop) (o := (some (.int x8))) (as := []) (V1 := V6) hG dX12_likeReference_156 l_X12_579 y0X12_pop yvX12_pop rfl (Nat.le_of_ble_eq_true rfl) lay_146 kr_12 (by decide) (Nat.le_of_ble_eq_true rfl) rfl rfl rfl (t_X12_pop hG ⟨rfl, rfl⟩ g7) ?_
      obtain ⟨⟨x11, V9⟩, g10, h⟩ := sx_bnd h
      refine sv_cV (pc := 159) (y := qX12_pointOf) (o := (some (.int x11))) (as := [.int (V.1 146 74), .int x8]) (V1 := V9) hG dX12_likeReference_159 l_X12_582 y0X12_pointOf yvX12_pointOf rfl (Nat.le_of_ble_eq_true rfl) lay_146 kr_12 (by decide) (Nat.le_of_ble_eq_true rfl) rfl rfl rfl (t_X12_pointOf hG ⟨rfl, rfl⟩ g10) ?_
      refine sx_istore (pc := 162) (lo' := [(8, .int x11), (0, .ref 146), (2, .int l2), (6, .int l6), (7, .int l7)]) dX12_likeReference_162 (by decide) rfl ?_
      refine sx_aload_n (pc := 164) dX12_likeReference_164 sx_m1 ?_
      refine sv_getI (pc := 165) hG dX12_likeReference_165 f_12_409 lay_146 rfl ?_
      refine sx_if_ne (pc := 168) (tgt := 180) dX12_likeReference_168 (by decide) (fun c12 => ?_) (fun c12 => ?_)
      · have h := sx_neg c12 h
        refine sx_wk (sx_s1 sx_m1 (sx_s1 sx_m2 (sx_s1 sx_m3 (sx_s1 sx_m4 sx_s0)))) ?_
        exact tB_X12_likeReference_180 hG hP hk137 h
      · have h := sx_pos c12 h
        refine sx_aload_n (pc := 171) dX12_likeReference_171 sx_m1 ?_
        refine sx_iload (pc := 172) dX12_likeReference_172 sx_m0 ?_
        refine sx_iload (pc := 174) dX12_likeReference_174 sx_m3 ?_
        refine sx_i2l (pc := 176) dX12_likeReference_176 ?_
        obtain ⟨V13, g14, h⟩ := sx_bnd h
        refine sv_cV (pc := 177) (y := qX12_move) (o := none) (as := [.int x11, .long l6.toInt64]) (V1 := V13) hG dX12_likeReference_177 l_X12_630 y0X12_move yvX12_move rfl (Nat.le_of_ble_eq_true rfl) lay_146 kr_12 (by decide) (Nat.le_of_ble_eq_true rfl) rfl rfl rfl (t_X12_move hG ⟨rfl, rfl⟩ g14) ?_
        refine sx_wk (sx_s1 sx_m1 (sx_s1 sx_m2 (sx_s1 sx_m3 (sx_s1 sx_m4 sx_s0)))) ?_
        exact tB_X12_likeReference_180 hG hP hk137 h
theorem tL_X12_likeReference_137 {g : sx_G} (hG : sx_Go g) {P : Option Value → sv_V → Prop} {Vr : sv_V} (hP : P none Vr) {N : Nat}   : ∀ (n : Nat) (l2 : Int32) (l6 : Int32) (l7 : Int32) (V : sv_V), sx_lp4 (B_X12_likeReference_137 N ) n l2 l6 l7 V = some Vr → sv_N g qX12_likeReference 5 137 [(0, .ref 146), (2, .int l2), (6, .int l6), (7, .int l7)] [] V P :=
  sx_lp4_ind (fun k0 ih _ _ _ V h => tB_X12_likeReference_137 hG hP ih h)
def B_X12_likeReference_226 (N : Nat)   (V : sv_V) : Option sv_V := (F_X12_fail (5 : Int32) V).bind (fun V15 => some V15)
set_option maxRecDepth 20000 in
theorem tB_X12_likeReference_226 {g : sx_G} (hG : sx_Go g) {P : Option Value → sv_V → Prop} {Vr : sv_V} (hP : P none Vr) {N : Nat}    {V : sv_V} (h : B_X12_likeReference_226 N   V = some Vr) : sv_N g qX12_likeReference 5 226 [(0, .ref 146)] [] V P := by
  unfold B_X12_likeReference_226 at h
  refine sx_aload_n (pc := 226) dX12_likeReference_226 sx_m0 ?_
  refine sx_iconst (pc := 227) (v := 5) dX12_likeReference_227 (by decide) ?_
  obtain ⟨V15, g16, h⟩ := sx_bnd h
  refine sv_cV (pc := 228) (y := qX12_fail) (o := none) (as := [.int (5 : Int32)]) (V1 := V15) hG dX12_likeReference_228 l_X12_421 y0X12_fail yvX12_fail rfl (Nat.le_of_ble_eq_true rfl) lay_146 kr_12 (by decide) (Nat.le_of_ble_eq_true rfl) rfl rfl rfl (t_X12_fail hG ⟨rfl, rfl⟩ g16) ?_
  exact sv_vret (pc := 231) dX12_likeReference_231 rfl h hP
def B_X12_likeReference_288 (N : Nat) (k254 : Int32 → Int32 → Int32 → Int32 → sv_V → Option sv_V) (l5 : Int32) (l6 : Int32) (l7 : Int32) (l8 : Int32) (V : sv_V) : Option sv_V := sx_let (l8 + 1) (fun x17 => k254 l5 l6 l7 x17 V)
set_option maxRecDepth 20000 in
theorem tB_X12_likeReference_288 {g : sx_G} (hG : sx_Go g) {P : Option Value → sv_V → Prop} {Vr : sv_V} (hP : P none Vr) {N : Nat} {k254 : Int32 → Int32 → Int32 → Int32 → sv_V → Option sv_V} (hk254 : ∀ (l5 : Int32) (l6 : Int32) (l7 : Int32) (l8 : Int32) (V : sv_V), k254 l5 l6 l7 l8 V = some Vr → sv_N g qX12_likeReference 5 254 [(0, .ref 146), (5, .int l5), (6, .int l6), (7, .int l7), (8, .int l8)] [] V P) {l5 : Int32} {l6 : Int32} {l7 : Int32} {l8 : Int32} {V : sv_V} (h : B_X12_likeReference_288 N k254 l5 l6 l7 l8 V = some Vr) : sv_N g qX12_likeReference 5 288 [(0, .ref 146), (5, .int l5), (6, .int l6), (7, .int l7), (8, .int l8)] [] V P := by
  unfold B_X12_likeReference_288 at h
  obtain ⟨x17, hx17⟩ : ∃ z : Int32, z = l8 + 1 := ⟨_, rfl⟩
  have h := sx_letE hx17 h
  refine sx_iinc (pc := 288) (v := x17) (lo' := [(8, .int x17), (0, .ref 146), (5, .int l5), (6, .int l6), (7, .int l7)]) dX12_likeReference_288 sx_m4 (by rw [hx17]; rfl) (by decide) rfl ?_
  refine sx_goto (pc := 291) (tgt := 254) dX12_likeReference_291 (by decide) ?_
  refine sx_wk (sx_s1 sx_m1 (sx_s1 sx_m2 (sx_s1 sx_m3 (sx_s1 sx_m4 (sx_s1 sx_m0 sx_s0))))) ?_
  exact hk254 _ _ _ _ _ h
def B_X12_likeReference_254 (N : Nat) (k254 : Int32 → Int32 → Int32 → Int32 → sv_V → Option sv_V) (l5 : Int32) (l6 : Int32) (l7 : Int32) (l8 : Int32) (V : sv_V) : Option sv_V := if sx_in l7 20 = true then if (V.1 172 l7.toNatClampNeg) < l8 then (some V) else (if ((102 : Int32) + l8) = l5 then (B_X12_likeReference_288 N k254 l5 l6 l7 l8 V) else ((F_X12_move ((102 : Int32) + l8) l6.toInt64 V).bind (fun V21 => B_X12_likeReference_288 N k254 l5 l6 l7 l8 V21))) else none
set_option maxRecDepth 20000 in
theorem tB_X12_likeReference_254 {g : sx_G} (hG : sx_Go g) {P : Option Value → sv_V → Prop} {Vr : sv_V} (hP : P none Vr) {N : Nat} {k254 : Int32 → Int32 → Int32 → Int32 → sv_V → Option sv_V} (hk254 : ∀ (l5 : Int32) (l6 : Int32) (l7 : Int32) (l8 : Int32) (V : sv_V), k254 l5 l6 l7 l8 V = some Vr → sv_N g qX12_likeReference 5 254 [(0, .ref 146), (5, .int l5), (6, .int l6), (7, .int l7), (8, .int l8)] [] V P) {l5 : Int32} {l6 : Int32} {l7 : Int32} {l8 : Int32} {V : sv_V} (h : B_X12_likeReference_254 N k254 l5 l6 l7 l8 V = some Vr) : sv_N g qX12_likeReference 5 254 [(0, .ref 146), (5, .int l5), (6, .int l6), (7, .int l7), (8, .int l8)] [] V P := by
  unfold B_X12_likeReference_254 at h
  refine sx_iload (pc := 254) dX12_likeReference_254 sx_m4 ?_
  refine sx_aload_n (pc := 256) dX12_likeReference_256 sx_m0 ?_
  refine sv_getA (pc := 257) hG dX12_likeReference_257 f_12_88 lay_146 rfl cr_146_54 ?_
  refine sx_iload (pc := 260) dX12_likeReference_260 sx_m3 ?_
  obtain ⟨g18, h⟩ := sx_grd h
  refine sv_iald (pc := 262) hG dX12_likeReference_262 lay_172 g18 ?_
  refine sx_icmp_gt (pc := 263) (tgt := 294) dX12_likeReference_263 (by decide) (fun c19 => ?_) (fun c19 => ?_)
  · have h := sx_pos c19 h
    exact sv_vret (pc := 294) dX12_likeReference_294 rfl h hP
  · have h := sx_neg c19 h
    refine sx_bipush (pc := 266) (v := 102) dX12_likeReference_266 (by decide) ?_
    refine sx_iload (pc := 268) dX12_likeReference_268 sx_m4 ?_
    refine sx_iadd (pc := 270) dX12_likeReference_270 ?_
    refine sx_iload (pc := 271) dX12_likeReference_271 sx_m1 ?_
    refine sx_icmp_eq (pc := 273) (tgt := 288) dX12_likeReference_273 (by decide) (fun c20 => ?_) (fun c20 => ?_)
    · have h := sx_pos c20 h
      refine sx_wk (sx_s1 sx_m0 (sx_s1 sx_m1 (sx_s1 sx_m2 (sx_s1 sx_m3 (sx_s1 sx_m4 sx_s0))))) ?_
      exact tB_X12_likeReference_288 hG hP hk254 h
    · have h := sx_neg c20 h
      refine sx_aload_n (pc := 276) dX12_likeReference_276 sx_m0 ?_
      refine sx_bipush (pc := 277) (v := 102) dX12_likeReference_277 (by decide) ?_
      refine sx_iload (pc := 279) dX12_likeReference_279 sx_m4 ?_
      refine sx_iadd (pc := 281) dX12_likeReference_281 ?_
      refine sx_iload (pc := 282) dX12_likeReference_282 sx_m2 ?_
      refine sx_i2l (pc := 284) dX12_likeReference_284 ?_
      obtain ⟨V21, g22, h⟩ := sx_bnd h
      refine sv_cV (pc := 285) (y := qX12_move) (o := none) (as := [.int ((102 : Int32) + l8), .long l6.toInt64]) (V1 := V21) hG dX12_likeReference_285 l_X12_630 y0X12_move yvX12_move rfl (Nat.le_of_ble_eq_true rfl) lay_146 kr_12 (by decide) (Nat.le_of_ble_eq_true rfl) rfl rfl rfl (t_X12_move hG ⟨rfl, rfl⟩ g22) ?_
      refine sx_wk (sx_s1 sx_m0 (sx_s1 sx_m1 (sx_s1 sx_m2 (sx_s1 sx_m3 (sx_s1 sx_m4 sx_s0))))) ?_
      exact tB_X12_likeReference_288 hG hP hk254 h
theorem tL_X12_likeReference_254 {g : sx_G} (hG : sx_Go g) {P : Option Value → sv_V → Prop} {Vr : sv_V} (hP : P none Vr) {N : Nat}   : ∀ (n : Nat) (l5 : Int32) (l6 : Int32) (l7 : Int32) (l8 : Int32) (V : sv_V), sx_lp5 (B_X12_likeReference_254 N ) n l5 l6 l7 l8 V = some Vr → sv_N g qX12_likeReference 5 254 [(0, .ref 146), (5, .int l5), (6, .int l6), (7, .int l7), (8, .int l8)] [] V P :=
  sx_lp5_ind (fun k0 ih _ _ _ _ V h => tB_X12_likeReference_254 hG hP ih h)
def B_X12_likeReference_252 (N : Nat)  (l5 : Int32) (l6 : Int32) (l7 : Int32) (s0 : Int32) (V : sv_V) : Option sv_V := sx_lp5 (B_X12_likeReference_254 N ) N l5 l6 l7 s0 V
set_option maxRecDepth 20000 in
theorem tB_X12_likeReference_252 {g : sx_G} (hG : sx_Go g) {P : Option Value → sv_V → Prop} {Vr : sv_V} (hP : P none Vr) {N : Nat}   {l5 : Int32} {l6 : Int32} {l7 : Int32} {s0 : Int32} {V : sv_V} (h : B_X12_likeReference_252 N  l5 l6 l7 s0 V = some Vr) : sv_N g qX12_likeReference 5 252 [(0, .ref 146), (5, .int l5), (6, .int l6), (7, .int l7)] [.int s0] V P := by
  unfold B_X12_likeReference_252 at h
  refine sx_istore (pc := 252) (lo' := [(8, .int s0), (0, .ref 146), (5, .int l5), (6, .int l6), (7, .int l7)]) dX12_likeReference_252 (by decide) rfl ?_
  refine sx_wk (sx_s1 sx_m1 (sx_s1 sx_m2 (sx_s1 sx_m3 (sx_s1 sx_m4 (sx_s1 sx_m0 sx_s0))))) ?_
  exact tL_X12_likeReference_254 hG hP  N _ _ _ _ _ h
def B_X12_likeReference_385 (N : Nat) (k355 : Int32 → Int32 → Int32 → Int32 → Int32 → sv_V → Option sv_V) (l5 : Int32) (l6 : Int32) (l7 : Int32) (l8 : Int32) (l9 : Int32) (V : sv_V) : Option sv_V := sx_let (l9 + 1) (fun x23 => k355 l5 l6 l7 l8 x23 V)
set_option maxRecDepth 20000 in
theorem tB_X12_likeReference_385 {g : sx_G} (hG : sx_Go g) {P : Option Value → sv_V → Prop} {Vr : sv_V} (hP : P none Vr) {N : Nat} {k355 : Int32 → Int32 → Int32 → Int32 → Int32 → sv_V → Option sv_V} (hk355 : ∀ (l5 : Int32) (l6 : Int32) (l7 : Int32) (l8 : Int32) (l9 : Int32) (V : sv_V), k355 l5 l6 l7 l8 l9 V = some Vr → sv_N g qX12_likeReference 5 355 [(0, .ref 146), (5, .int l5), (6, .int l6), (7, .int l7), (8, .int l8), (9, .int l9)] [] V P) {l5 : Int32} {l6 : Int32} {l7 : Int32} {l8 : Int32} {l9 : Int32} {V : sv_V} (h : B_X12_likeReference_385 N k355 l5 l6 l7 l8 l9 V = some Vr) : sv_N g qX12_likeReference 5 385 [(0, .ref 146), (5, .int l5), (6, .int l6), (7, .int l7), (8, .int l8), (9, .int l9)] [] V P := by
  unfold B_X12_likeReference_385 at h
  obtain ⟨x23, hx23⟩ : ∃ z : Int32, z = l9 + 1 := ⟨_, rfl⟩
  have h := sx_letE hx23 h
  refine sx_iinc (pc := 385) (v := x23) (lo' := [(9, .int x23), (0, .ref 146), (5, .int l5), (6, .int l6), (7, .int l7), (8, .int l8)]) dX12_likeReference_385 sx_m5 (by rw [hx23]; rfl) (by decide) rfl ?_
  refine sx_goto (pc := 388) (tgt := 355) dX12_likeReference_388 (by decide) ?_
  refine sx_wk (sx_s1 sx_m1 (sx_s1 sx_m2 (sx_s1 sx_m3 (sx_s1 sx_m4 (sx_s1 sx_m5 (sx_s1 sx_m0 sx_s0)))))) ?_
  exact hk355 _ _ _ _ _ _ h
def B_X12_likeReference_355 (N : Nat) (k355 : Int32 → Int32 → Int32 → Int32 → Int32 → sv_V → Option sv_V) (l5 : Int32) (l6 : Int32) (l7 : Int32) (l8 : Int32) (l9 : Int32) (V : sv_V) : Option sv_V := if (((102 : Int32) * l7) + l8) ≤ l9 then (some V) else (if l9 = l5 then (B_X12_likeReference_385 N k355 l5 l6 l7 l8 l9 V) else ((F_X12_shiftBy l9 l6.toInt64 (0 : Int32) V).bind (fun V26 => B_X12_likeReference_385 N k355 l5 l6 l7 l8 l9 V26)))
set_option maxRecDepth 20000 in
theorem tB_X12_likeReference_355 {g : sx_G} (hG : sx_Go g) {P : Option Value → sv_V → Prop} {Vr : sv_V} (hP : P none Vr) {N : Nat} {k355 : Int32 → Int32 → Int32 → Int32 → Int32 → sv_V → Option sv_V} (hk355 : ∀ (l5 : Int32) (l6 : Int32) (l7 : Int32) (l8 : Int32) (l9 : Int32) (V : sv_V), k355 l5 l6 l7 l8 l9 V = some Vr → sv_N g qX12_likeReference 5 355 [(0, .ref 146), (5, .int l5), (6, .int l6), (7, .int l7), (8, .int l8), (9, .int l9)] [] V P) {l5 : Int32} {l6 : Int32} {l7 : Int32} {l8 : Int32} {l9 : Int32} {V : sv_V} (h : B_X12_likeReference_355 N k355 l5 l6 l7 l8 l9 V = some Vr) : sv_N g qX12_likeReference 5 355 [(0, .ref 146), (5, .int l5), (6, .int l6), (7, .int l7), (8, .int l8), (9, .int l9)] [] V P := by
  unfold B_X12_likeReference_355 at h
  refine sx_iload (pc := 355) dX12_likeReference_355 sx_m5 ?_
  refine sx_bipush (pc := 357) (v := 102) dX12_likeReference_357 (by decide) ?_
  refine sx_iload (pc := 359) dX12_likeReference_359 sx_m3 ?_
  refine sx_imul (pc := 361) dX12_likeReference_361 ?_
  refine sx_iload (pc := 362) dX12_likeReference_362 sx_m4 ?_
  refine sx_iadd (pc := 364) dX12_likeReference_364 ?_
  refine sx_icmp_ge (pc := 365) (tgt := 391) dX12_likeReference_365 (by decide) (fun c24 => ?_) (fun c24 => ?_)
  · have h := sx_pos c24 h
    exact sv_vret (pc := 391) dX12_likeReference_391 rfl h hP
  · have h := sx_neg c24 h
    refine sx_iload (pc := 368) dX12_likeReference_368 sx_m5 ?_
    refine sx_iload (pc := 370) dX12_likeReference_370 sx_m1 ?_
    refine sx_icmp_eq (pc := 372) (tgt := 385) dX12_likeReference_372 (by decide) (fun c25 => ?_) (fun c25 => ?_)
    · have h := sx_pos c25 h
      refine sx_wk (sx_s1 sx_m0 (sx_s1 sx_m1 (sx_s1 sx_m2 (sx_s1 sx_m3 (sx_s1 sx_m4 (sx_s1 sx_m5 sx_s0)))))) ?_
      exact tB_X12_likeReference_385 hG hP hk355 h
    · have h := sx_neg c25 h
      refine sx_aload_n (pc := 375) dX12_likeReference_375 sx_m0 ?_
      refine sx_iload (pc := 376) dX12_likeReference_376 sx_m5 ?_
      refine sx_iload (pc := 378) dX12_likeReference_378 sx_m2 ?_
      refine sx_i2l (pc := 380) dX12_likeReference_380 ?_
      refine sx_iconst (pc := 381) (v := 0) dX12_likeReference_381 (by decide) ?_
      obtain ⟨V26, g27, h⟩ := sx_bnd h
      refine sv_cV (pc := 382) (y := qX12_shiftBy) (o := none) (as := [.int l9, .long l6.toInt64, .int (0 : Int32)]) (V1 := V26) hG dX12_likeReference_382 l_X12_529 y0X12_shiftBy yvX12_shiftBy rfl (Nat.le_of_ble_eq_true rfl) lay_146 kr_12 (by decide) (Nat.le_of_ble_eq_true rfl) rfl rfl rfl (t_X12_shiftBy hG ⟨rfl, rfl⟩ g27) ?_
      refine sx_wk (sx_s1 sx_m0 (sx_s1 sx_m1 (sx_s1 sx_m2 (sx_s1 sx_m3 (sx_s1 sx_m4 (sx_s1 sx_m5 sx_s0)))))) ?_
      exact tB_X12_likeReference_385 hG hP hk355 h
theorem tL_X12_likeReference_355 {g : sx_G} (hG : sx_Go g) {P : Option Value → sv_V → Prop} {Vr : sv_V} (hP : P none Vr) {N : Nat}   : ∀ (n : Nat) (l5 : Int32) (l6 : Int32) (l7 : Int32) (l8 : Int32) (l9 : Int32) (V : sv_V), sx_lp6 (B_X12_likeReference_355 N ) n l5 l6 l7 l8 l9 V = some Vr → sv_N g qX12_likeReference 5 355 [(0, .ref 146), (5, .int l5), (6, .int l6), (7, .int l7), (8, .int l8), (9, .int l9)] [] V P :=
  sx_lp6_ind (fun k0 ih _ _ _ _ _ V h => tB_X12_likeReference_355 hG hP ih h)
def B_X12_likeReference_346 (N : Nat)  (l5 : Int32) (l6 : Int32) (l7 : Int32) (s0 : Int32) (V : sv_V) : Option sv_V := sx_let ((102 : Int32) * l7) (fun x28 => sx_lp6 (B_X12_likeReference_355 N ) N l5 l6 l7 s0 x28 V)
set_option maxRecDepth 20000 in
theorem tB_X12_likeReference_346 {g : sx_G} (hG : sx_Go g) {P : Option Value → sv_V → Prop} {Vr : sv_V} (hP : P none Vr) {N : Nat}   {l5 : Int32} {l6 : Int32} {l7 : Int32} {s0 : Int32} {V : sv_V} (h : B_X12_likeReference_346 N  l5 l6 l7 s0 V = some Vr) : sv_N g qX12_likeReference 5 346 [(0, .ref 146), (5, .int l5), (6, .int l6), (7, .int l7)] [.int s0] V P := by
  unfold B_X12_likeReference_346 at h
  refine sx_istore (pc := 346) (lo' := [(8, .int s0), (0, .ref 146), (5, .int l5), (6, .int l6), (7, .int l7)]) dX12_likeReference_346 (by decide) rfl ?_
  refine sx_bipush (pc := 348) (v := 102) dX12_likeReference_348 (by decide) ?_
  refine sx_iload (pc := 350) dX12_likeReference_350 sx_m4 ?_
  refine sx_imul (pc := 352) dX12_likeReference_352 ?_
  refine sv_tI (fun x28 hx28 => ?_)
  have h := sx_letE hx28 h
  refine sx_istore (pc := 353) (lo' := [(9, .int x28), (8, .int s0), (0, .ref 146), (5, .int l5), (6, .int l6), (7, .int l7)]) dX12_likeReference_353 (by decide) rfl ?_
  refine sx_wk (sx_s1 sx_m2 (sx_s1 sx_m3 (sx_s1 sx_m4 (sx_s1 sx_m5 (sx_s1 sx_m1 (sx_s1 sx_m0 sx_s0)))))) ?_
  exact tL_X12_likeReference_355 hG hP  N _ _ _ _ _ _ h
def B_X12_likeReference_72 (N : Nat)  (l1 : Int32) (l2 : Int32) (s1 : Int32) (s2 : Int32) (V : sv_V) : Option sv_V := (F_X12_pointOf s1 s2 V).bind (fun (x31, V29) => if (V29.1 146 59) ≤ 0 then (if sx_in x31 204 = true then if sx_in x31 204 = true then if sx_in x31 204 = true then if sx_in x31 204 = true then (F_X12_by ((V29.1 168 x31.toNatClampNeg) - (V29.1 166 x31.toNatClampNeg)) ((V29.1 169 x31.toNatClampNeg) - (V29.1 167 x31.toNatClampNeg)) (V29.1 146 65) (V29.1 146 66) V29).bind (fun (x39, V37) => if (52 : Int32) ≤ l1 then ((F_X12_pop  V37).bind (fun (x43, V41) => if (54 : Int32) ≤ l1 then ((F_X12_isZone x43 V41).bind (fun (x47, V45) => if x47 = 0 then ((F_X12_fail (5 : Int32) V45).bind (fun V52 => some V52)) else (if x43 = 0 then (B_X12_likeReference_346 N  x31 x39 x43 (V45.1 146 14) V45) else (if (V45.1 146 53) = 0 then (B_X12_likeReference_346 N  x31 x39 x43 (0 : Int32) V45) else (if sx_in ((V45.1 146 53) - (1 : Int32)) 20 = true then B_X12_likeReference_346 N  x31 x39 x43 ((V45.1 172 ((V45.1 146 53) - (1 : Int32)).toNatClampNeg) + (1 : Int32)) V45 else none))))) else (if (V41.1 146 74) = (1 : Int32) then (if x43 < 0 then (B_X12_likeReference_226 N   V41) else (if x43 < (V41.1 146 53) then (if x43 = 0 then (B_X12_likeReference_252 N  x31 x39 x43 (0 : Int32) V41) else (if sx_in (x43 - (1 : Int32)) 20 = true then B_X12_likeReference_252 N  x31 x39 x43 ((V41.1 172 (x43 - (1 : Int32)).toNatClampNeg) + (1 : Int32)) V41 else none)) else (B_X12_likeReference_226 N   V41))) else (B_X12_likeReference_226 N   V41)))) else (sx_lp4 (B_X12_likeReference_137 N ) N l2 x39 (0 : Int32) V37)) else none else none else none else none) else (some V29))
set_option maxRecDepth 20000 in
theorem tB_X12_likeReference_72 {g : sx_G} (hG : sx_Go g) {P : Option Value → sv_V → Prop} {Vr : sv_V} (hP : P none Vr) {N : Nat}   {l1 : Int32} {l2 : Int32} {s1 : Int32} {s2 : Int32} {V : sv_V} (h : B_X12_likeReference_72 N  l1 l2 s1 s2 V = some Vr) : sv_N g qX12_likeReference 5 72 [(0, .ref 146), (1, .int l1), (2, .int l2)] [.int s2, .int s1, .ref 146] V P := by
  unfold B_X12_likeReference_72 at h
  obtain ⟨⟨x31, V29⟩, g30, h⟩ := sx_bnd h
  refine sv_cV (pc := 72) (y := qX12_pointOf) (o := (some (.int x31))) (as := [.int s1, .int s2]) (V1 := V29) hG dX12_likeReference_72 l_X12_582 y0X12_pointOf yvX12_pointOf rfl (Nat.le_of_ble_eq_true rfl) lay_146 kr_12 (by decide) (Nat.le_of_ble_eq_true rfl) rfl rfl rfl (t_X12_pointOf hG ⟨rfl, rfl⟩ g30) ?_
  refine sx_istore (pc := 75) (lo' := [(5, .int x31), (0, .ref 146), (1, .int l1), (2, .int l2)]) dX12_likeReference_75 (by decide) rfl ?_
  refine sx_aload_n (pc := 77) dX12_likeReference_77 sx_m1 ?_
  refine sv_getI (pc := 78) hG dX12_likeReference_78 f_12_409 lay_146 rfl ?_
  refine sx_if_le (pc := 81) (tgt := 85) dX12_likeReference_81 (by decide) (fun c32 => ?_) (fun c32 => ?_)
  · have h := sx_pos c32 h
    refine sx_aload_n (pc := 85) dX12_likeReference_85 sx_m1 ?_
    refine sv_getA (pc := 86) hG dX12_likeReference_86 f_12_76 lay_146 rfl cr_146_48 ?_
    refine sx_iload (pc := 89) dX12_likeReference_89 sx_m0 ?_
    obtain ⟨g33, h⟩ := sx_grd h
    refine sv_iald (pc := 91) hG dX12_likeReference_91 lay_168 g33 ?_
    refine sx_aload_n (pc := 92) dX12_likeReference_92 sx_m1 ?_
    refine sv_getA (pc := 93) hG dX12_likeReference_93 f_12_70 lay_146 rfl cr_146_46 ?_
    refine sx_iload (pc := 96) dX12_likeReference_96 sx_m0 ?_
    obtain ⟨g34, h⟩ := sx_grd h
    refine sv_iald (pc := 98) hG dX12_likeReference_98 lay_166 g34 ?_
    refine sx_isub (pc := 99) dX12_likeReference_99 ?_
    refine sx_aload_n (pc := 100) dX12_likeReference_100 sx_m1 ?_
    refine sv_getA (pc := 101) hG dX12_likeReference_101 f_12_79 lay_146 rfl cr_146_49 ?_
    refine sx_iload (pc := 104) dX12_likeReference_104 sx_m0 ?_
    obtain ⟨g35, h⟩ := sx_grd h
    refine sv_iald (pc := 106) hG dX12_likeReference_106 lay_169 g35 ?_
    refine sx_aload_n (pc := 107) dX12_likeReference_107 sx_m1 ?_
    refine sv_getA (pc := 108) hG dX12_likeReference_108 f_12_73 lay_146 rfl cr_146_47 ?_
    refine sx_iload (pc := 111) dX12_likeReference_111 sx_m0 ?_
    obtain ⟨g36, h⟩ := sx_grd h
    refine sv_iald (pc := 113) hG dX12_likeReference_113 lay_167 g36 ?_
    refine sx_isub (pc := 114) dX12_likeReference_114 ?_
    refine sx_aload_n (pc := 115) dX12_likeReference_115 sx_m1 ?_
    refine sv_getI (pc := 116) hG dX12_likeReference_116 f_12_439 lay_146 rfl ?_
    refine sx_aload_n (pc := 119) dX12_likeReference_119 sx_m1 ?_
    refine sv_getI (pc := 120) hG dX12_likeReference_120 f_12_442 lay_146 rfl ?_
    obtain ⟨⟨x39, V37⟩, g38, h⟩ := sx_bnd h
    refine sv_cS (pc := 123) (y := qX12_by) (o := (some (.int x39))) (as := [.int ((V29.1 168 x31.toNatClampNeg) - (V29.1 166 x31.toNatClampNeg)), .int ((V29.1 169 x31.toNatClampNeg) - (V29.1 167 x31.toNatClampNeg)), .int (V29.1 146 65), .int (V29.1 146 66)]) (V1 := V37) dX12_likeReference_123 l_X12_520 y0X12_by ysX12_by rfl (Nat.le_of_ble_eq_true rfl) (by decide) (Nat.le_of_ble_eq_true rfl) rfl rfl rfl (t_X12_by hG ⟨rfl, rfl⟩ g38) ?_
    refine sx_istore (pc := 126) (lo' := [(6, .int x39), (5, .int x31), (0, .ref 146), (1, .int l1), (2, .int l2)]) dX12_likeReference_126 (by decide) rfl ?_
    refine sx_iload_n (pc := 128) dX12_likeReference_128 sx_m3 ?_
    refine sx_bipush (pc := 129) (v := 52) dX12_likeReference_129 (by decide) ?_
    refine sx_icmp_ge (pc := 131) (tgt := 192) dX12_likeReference_131 (by decide) (fun c40 => ?_) (fun c40 => ?_)
    · have h := sx_pos c40 h
      refine sx_aload_n (pc := 192) dX12_likeReference_192 sx_m2 ?_
      obtain ⟨⟨x43, V41⟩, g42, h⟩ := sx_bnd h
      refine sv_cV (pc := 193) (y := qX12_pop) (o := (some (.int x43))) (as := []) (V1 := V41) hG dX12_likeReference_193 l_X12_579 y0X12_pop yvX12_pop rfl (Nat.le_of_ble_eq_true rfl) lay_146 kr_12 (by decide) (Nat.le_of_ble_eq_true rfl) rfl rfl rfl (t_X12_pop hG ⟨rfl, rfl⟩ g42) ?_
      refine sx_istore (pc := 196) (lo' := [(7, .int x43), (6, .int x39), (5, .int x31), (0, .ref 146), (1, .int l1), (2, .int l2)]) dX12_likeReference_196 (by decide) rfl ?_
      refine sx_iload_n (pc := 198) dX12_likeReference_198 sx_m4 ?_
      refine sx_bipush (pc := 199) (v := 54) dX12_likeReference_199 (by decide) ?_
      refine sx_icmp_ge (pc := 201) (tgt := 295) dX12_likeReference_201 (by decide) (fun c44 => ?_) (fun c44 => ?_)
      · have h := sx_pos c44 h
        refine sx_aload_n (pc := 295) dX12_likeReference_295 sx_m3 ?_
        refine sx_iload (pc := 296) dX12_likeReference_296 sx_m0 ?_
        obtain ⟨⟨x47, V45⟩, g46, h⟩ := sx_bnd h
        refine sv_cV (pc := 298) (y := qX12_isZone) (o := (some (.int x47))) (as := [.int x43]) (V1 := V45) hG dX12_likeReference_298 l_X12_624 y0X12_isZone yvX12_isZone rfl (Nat.le_of_ble_eq_true rfl) lay_146 kr_12 (by decide) (Nat.le_of_ble_eq_true rfl) rfl rfl rfl (t_X12_isZone hG ⟨rfl, rfl⟩ g46) ?_
        refine sx_if_ne (pc := 301) (tgt := 310) dX12_likeReference_301 (by decide) (fun c48 => ?_) (fun c48 => ?_)
        · have h := sx_neg c48 h
          refine sx_iload (pc := 310) dX12_likeReference_310 sx_m0 ?_
          refine sx_if_ne (pc := 312) (tgt := 322) dX12_likeReference_312 (by decide) (fun c49 => ?_) (fun c49 => ?_)
          · have h := sx_neg c49 h
            refine sx_aload_n (pc := 322) dX12_likeReference_322 sx_m3 ?_
            refine sv_getI (pc := 323) hG dX12_likeReference_323 f_12_706 lay_146 rfl ?_
            refine sx_if_ne (pc := 326) (tgt := 333) dX12_likeReference_326 (by decide) (fun c50 => ?_) (fun c50 => ?_)
            · have h := sx_neg c50 h
              refine sx_aload_n (pc := 333) dX12_likeReference_333 sx_m3 ?_
              refine sv_getA (pc := 334) hG dX12_likeReference_334 f_12_88 lay_146 rfl cr_146_54 ?_
              refine sx_aload_n (pc := 337) dX12_likeReference_337 sx_m3 ?_
              refine sv_getI (pc := 338) hG dX12_likeReference_338 f_12_706 lay_146 rfl ?_
              refine sx_iconst (pc := 341) (v := 1) dX12_likeReference_341 (by decide) ?_
              refine sx_isub (pc := 342) dX12_likeReference_342 ?_
              obtain ⟨g51, h⟩ := sx_grd h
              refine sv_iald (pc := 343) hG dX12_likeReference_343 lay_172 g51 ?_
              refine sx_iconst (pc := 344) (v := 1) dX12_likeReference_344 (by decide) ?_
              refine sx_iadd (pc := 345) dX12_likeReference_345 ?_
              refine sx_wk (sx_s1 sx_m3 (sx_s1 sx_m2 (sx_s1 sx_m1 (sx_s1 sx_m0 sx_s0)))) ?_
              exact tB_X12_likeReference_346 hG hP  h
            · have h := sx_pos c50 h
              refine sx_iconst (pc := 329) (v := 0) dX12_likeReference_329 (by decide) ?_
              refine sx_goto (pc := 330) (tgt := 346) dX12_likeReference_330 (by decide) ?_
              refine sx_wk (sx_s1 sx_m3 (sx_s1 sx_m2 (sx_s1 sx_m1 (sx_s1 sx_m0 sx_s0)))) ?_
              exact tB_X12_likeReference_346 hG hP  h
          · have h := sx_pos c49 h
            refine sx_aload_n (pc := 315) dX12_likeReference_315 sx_m3 ?_
            refine sv_getI (pc := 316) hG dX12_likeReference_316 f_12_316 lay_146 rfl ?_
            refine sx_goto (pc := 319) (tgt := 346) dX12_likeReference_319 (by decide) ?_
            refine sx_wk (sx_s1 sx_m3 (sx_s1 sx_m2 (sx_s1 sx_m1 (sx_s1 sx_m0 sx_s0)))) ?_
            exact tB_X12_likeReference_346 hG hP  h
        · have h := sx_pos c48 h
          refine sx_aload_n (pc := 304) dX12_likeReference_304 sx_m3 ?_
          refine sx_iconst (pc := 305) (v := 5) dX12_likeReference_305 (by decide) ?_
          obtain ⟨V52, g53, h⟩ := sx_bnd h
          refine sv_cV (pc := 306) (y := qX12_fail) (o := none) (as := [.int (5 : Int32)]) (V1 := V52) hG dX12_likeReference_306 l_X12_421 y0X12_fail yvX12_fail rfl (Nat.le_of_ble_eq_true rfl) lay_146 kr_12 (by decide) (Nat.le_of_ble_eq_true rfl) rfl rfl rfl (t_X12_fail hG ⟨rfl, rfl⟩ g53) ?_
          exact sv_vret (pc := 309) dX12_likeReference_309 rfl h hP
      · have h := sx_neg c44 h
        refine sx_aload_n (pc := 204) dX12_likeReference_204 sx_m3 ?_
        refine sv_getI (pc := 205) hG dX12_likeReference_205 f_12_466 lay_146 rfl ?_
        refine sx_iconst (pc := 208) (v := 1) dX12_likeReference_208 (by decide) ?_
        refine sx_icmp_ne (pc := 209) (tgt := 226) dX12_likeReference_209 (by decide) (fun c54 => ?_) (fun c54 => ?_)
        · have h := sx_neg c54 h
          refine sx_wk (sx_s1 sx_m3 sx_s0) ?_
          exact tB_X12_likeReference_226 hG hP  h
        · have h := sx_pos c54 h
          refine sx_iload (pc := 212) dX12_likeReference_212 sx_m0 ?_
          refine sx_if_lt (pc := 214) (tgt := 226) dX12_likeReference_214 (by decide) (fun c55 => ?_) (fun c55 => ?_)
          · have h := sx_pos c55 h
            refine sx_wk (sx_s1 sx_m3 sx_s0) ?_
            exact tB_X12_likeReference_226 hG hP  h
          · have h := sx_neg c55 h
            refine sx_iload (pc := 217) dX12_likeReference_217 sx_m0 ?_
            refine sx_aload_n (pc := 219) dX12_likeReference_219 sx_m3 ?_
            refine sv_getI (pc := 220) hG dX12_likeReference_220 f_12_706 lay_146 rfl ?_
            refine sx_icmp_lt (pc := 223) (tgt := 232) dX12_likeReference_223 (by decide) (fun c56 => ?_) (fun c56 => ?_)
            · have h := sx_pos c56 h
              refine sx_iload (pc := 232) dX12_likeReference_232 sx_m0 ?_
              refine sx_if_ne (pc := 234) (tgt := 241) dX12_likeReference_234 (by decide) (fun c57 => ?_) (fun c57 => ?_)
              · have h := sx_neg c57 h
                refine sx_aload_n (pc := 241) dX12_likeReference_241 sx_m3 ?_
                refine sv_getA (pc := 242) hG dX12_likeReference_242 f_12_88 lay_146 rfl cr_146_54 ?_
                refine sx_iload (pc := 245) dX12_likeReference_245 sx_m0 ?_
                refine sx_iconst (pc := 247) (v := 1) dX12_likeReference_247 (by decide) ?_
                refine sx_isub (pc := 248) dX12_likeReference_248 ?_
                obtain ⟨g58, h⟩ := sx_grd h
                refine sv_iald (pc := 249) hG dX12_likeReference_249 lay_172 g58 ?_
                refine sx_iconst (pc := 250) (v := 1) dX12_likeReference_250 (by decide) ?_
                refine sx_iadd (pc := 251) dX12_likeReference_251 ?_
                refine sx_wk (sx_s1 sx_m3 (sx_s1 sx_m2 (sx_s1 sx_m1 (sx_s1 sx_m0 sx_s0)))) ?_
                exact tB_X12_likeReference_252 hG hP  h
              · have h := sx_pos c57 h
                refine sx_iconst (pc := 237) (v := 0) dX12_likeReference_237 (by decide) ?_
                refine sx_goto (pc := 238) (tgt := 252) dX12_likeReference_238 (by decide) ?_
                refine sx_wk (sx_s1 sx_m3 (sx_s1 sx_m2 (sx_s1 sx_m1 (sx_s1 sx_m0 sx_s0)))) ?_
                exact tB_X12_likeReference_252 hG hP  h
            · have h := sx_neg c56 h
              refine sx_wk (sx_s1 sx_m3 sx_s0) ?_
              exact tB_X12_likeReference_226 hG hP  h
    · have h := sx_neg c40 h
      refine sx_iconst (pc := 134) (v := 0) dX12_likeReference_134 (by decide) ?_
      refine sx_istore (pc := 135) (lo' := [(7, .int (0 : Int32)), (6, .int x39), (5, .int x31), (0, .ref 146), (1, .int l1), (2, .int l2)]) dX12_likeReference_135 (by decide) rfl ?_
      refine sx_wk (sx_s1 sx_m3 (sx_s1 sx_m5 (sx_s1 sx_m1 (sx_s1 sx_m0 sx_s0)))) ?_
      exact tL_X12_likeReference_137 hG hP  N _ _ _ _ h
  · have h := sx_neg c32 h
    exact sv_vret (pc := 84) dX12_likeReference_84 rfl h hP
def B_X12_likeReference_52 (N : Nat)  (l1 : Int32) (l2 : Int32) (l3 : Int32) (s0 : Int32) (V : sv_V) : Option sv_V := if l3 = 0 then (B_X12_likeReference_72 N  l1 l2 s0 (V.1 146 71) V) else (B_X12_likeReference_72 N  l1 l2 s0 (V.1 146 70) V)
set_option maxRecDepth 20000 in
theorem tB_X12_likeReference_52 {g : sx_G} (hG : sx_Go g) {P : Option Value → sv_V → Prop} {Vr : sv_V} (hP : P none Vr) {N : Nat}   {l1 : Int32} {l2 : Int32} {l3 : Int32} {s0 : Int32} {V : sv_V} (h : B_X12_likeReference_52 N  l1 l2 l3 s0 V = some Vr) : sv_N g qX12_likeReference 5 52 [(0, .ref 146), (1, .int l1), (2, .int l2), (3, .int l3)] [.int s0] V P := by
  unfold B_X12_likeReference_52 at h
  refine sx_istore (pc := 52) (lo' := [(4, .int s0), (0, .ref 146), (1, .int l1), (2, .int l2), (3, .int l3)]) dX12_likeReference_52 (by decide) rfl ?_
  refine sx_aload_n (pc := 54) dX12_likeReference_54 sx_m1 ?_
  refine sx_iload (pc := 55) dX12_likeReference_55 sx_m0 ?_
  refine sx_iload_n (pc := 57) dX12_likeReference_57 sx_m4 ?_
  refine sx_if_eq (pc := 58) (tgt := 68) dX12_likeReference_58 (by decide) (fun c59 => ?_) (fun c59 => ?_)
  · have h := sx_pos c59 h
    refine sx_aload_n (pc := 68) dX12_likeReference_68 sx_m1 ?_
    refine sv_getI (pc := 69) hG dX12_likeReference_69 f_12_457 lay_146 rfl ?_
    refine sx_wk (sx_s1 sx_m1 (sx_s1 sx_m2 (sx_s1 sx_m3 sx_s0))) ?_
    exact tB_X12_likeReference_72 hG hP  h
  · have h := sx_neg c59 h
    refine sx_aload_n (pc := 61) dX12_likeReference_61 sx_m1 ?_
    refine sv_getI (pc := 62) hG dX12_likeReference_62 f_12_454 lay_146 rfl ?_
    refine sx_goto (pc := 65) (tgt := 72) dX12_likeReference_65 (by decide) ?_
    refine sx_wk (sx_s1 sx_m1 (sx_s1 sx_m2 (sx_s1 sx_m3 sx_s0))) ?_
    exact tB_X12_likeReference_72 hG hP  h
def B_X12_likeReference_36 (N : Nat)  (l1 : Int32) (l2 : Int32) (s0 : Int32) (V : sv_V) : Option sv_V := if s0 = 0 then (B_X12_likeReference_52 N  l1 l2 s0 (V.1 146 73) V) else (B_X12_likeReference_52 N  l1 l2 s0 (V.1 146 72) V)
set_option maxRecDepth 20000 in
theorem tB_X12_likeReference_36 {g : sx_G} (hG : sx_Go g) {P : Option Value → sv_V → Prop} {Vr : sv_V} (hP : P none Vr) {N : Nat}   {l1 : Int32} {l2 : Int32} {s0 : Int32} {V : sv_V} (h : B_X12_likeReference_36 N  l1 l2 s0 V = some Vr) : sv_N g qX12_likeReference 5 36 [(0, .ref 146), (1, .int l1), (2, .int l2)] [.int s0] V P := by
  unfold B_X12_likeReference_36 at h
  refine sx_istore_n (pc := 36) (lo' := [(3, .int s0), (0, .ref 146), (1, .int l1), (2, .int l2)]) dX12_likeReference_36 (by decide) rfl ?_
  refine sx_iload_n (pc := 37) dX12_likeReference_37 sx_m0 ?_
  refine sx_if_eq (pc := 38) (tgt := 48) dX12_likeReference_38 (by decide) (fun c60 => ?_) (fun c60 => ?_)
  · have h := sx_pos c60 h
    refine sx_aload_n (pc := 48) dX12_likeReference_48 sx_m1 ?_
    refine sv_getI (pc := 49) hG dX12_likeReference_49 f_12_463 lay_146 rfl ?_
    refine sx_wk (sx_s1 sx_m1 (sx_s1 sx_m2 (sx_s1 sx_m3 (sx_s1 sx_m0 sx_s0)))) ?_
    exact tB_X12_likeReference_52 hG hP  h
  · have h := sx_neg c60 h
    refine sx_aload_n (pc := 41) dX12_likeReference_41 sx_m1 ?_
    refine sv_getI (pc := 42) hG dX12_likeReference_42 f_12_460 lay_146 rfl ?_
    refine sx_goto (pc := 45) (tgt := 52) dX12_likeReference_45 (by decide) ?_
    refine sx_wk (sx_s1 sx_m1 (sx_s1 sx_m2 (sx_s1 sx_m3 (sx_s1 sx_m0 sx_s0)))) ?_
    exact tB_X12_likeReference_52 hG hP  h
def B_X12_likeReference_14 (N : Nat)  (l1 : Int32) (s0 : Int32) (V : sv_V) : Option sv_V := (F_X12_has s0 V).bind (fun (x63, V61) => if x63 = 0 then (some V61) else (if (l1 - l1 / (2 : Int32) * (2 : Int32)) = (1 : Int32) then (B_X12_likeReference_36 N  l1 s0 (1 : Int32) V61) else (B_X12_likeReference_36 N  l1 s0 (0 : Int32) V61)))
set_option maxRecDepth 20000 in
theorem tB_X12_likeReference_14 {g : sx_G} (hG : sx_Go g) {P : Option Value → sv_V → Prop} {Vr : sv_V} (hP : P none Vr) {N : Nat}   {l1 : Int32} {s0 : Int32} {V : sv_V} (h : B_X12_likeReference_14 N  l1 s0 V = some Vr) : sv_N g qX12_likeReference 5 14 [(0, .ref 146), (1, .int l1)] [.int s0] V P := by
  unfold B_X12_likeReference_14 at h
  refine sx_istore_n (pc := 14) (lo' := [(2, .int s0), (0, .ref 146), (1, .int l1)]) dX12_likeReference_14 (by decide) rfl ?_
  refine sx_aload_n (pc := 15) dX12_likeReference_15 sx_m1 ?_
  refine sx_iload_n (pc := 16) dX12_likeReference_16 sx_m0 ?_
  obtain ⟨⟨x63, V61⟩, g62, h⟩ := sx_bnd h
  refine sv_cV (pc := 17) (y := qX12_has) (o := (some (.int x63))) (as := [.int s0]) (V1 := V61) hG dX12_likeReference_17 l_X12_576 y0X12_has yvX12_has rfl (Nat.le_of_ble_eq_true rfl) lay_146 kr_12 (by decide) (Nat.le_of_ble_eq_true rfl) rfl rfl rfl (t_X12_has hG ⟨rfl, rfl⟩ g62) ?_
  refine sx_if_ne (pc := 20) (tgt := 24) dX12_likeReference_20 (by decide) (fun c64 => ?_) (fun c64 => ?_)
  · have h := sx_neg c64 h
    refine sx_iload_n (pc := 24) dX12_likeReference_24 sx_m2 ?_
    refine sx_iconst (pc := 25) (v := 2) dX12_likeReference_25 (by decide) ?_
    refine sx_irem (pc := 26) dX12_likeReference_26 (by decide) ?_
    refine sx_iconst (pc := 27) (v := 1) dX12_likeReference_27 (by decide) ?_
    refine sx_icmp_ne (pc := 28) (tgt := 35) dX12_likeReference_28 (by decide) (fun c65 => ?_) (fun c65 => ?_)
    · have h := sx_neg c65 h
      refine sx_iconst (pc := 35) (v := 0) dX12_likeReference_35 (by decide) ?_
      refine sx_wk (sx_s1 sx_m1 (sx_s1 sx_m2 (sx_s1 sx_m0 sx_s0))) ?_
      exact tB_X12_likeReference_36 hG hP  h
    · have h := sx_pos c65 h
      refine sx_iconst (pc := 31) (v := 1) dX12_likeReference_31 (by decide) ?_
      refine sx_goto (pc := 32) (tgt := 36) dX12_likeReference_32 (by decide) ?_
      refine sx_wk (sx_s1 sx_m1 (sx_s1 sx_m2 (sx_s1 sx_m0 sx_s0))) ?_
      exact tB_X12_likeReference_36 hG hP  h
  · have h := sx_pos c64 h
    exact sv_vret (pc := 23) dX12_likeReference_23 rfl h hP
def F_X12_likeReference (N : Nat) (l1 : Int32) (V : sv_V) : Option sv_V := if (52 : Int32) ≤ l1 then (B_X12_likeReference_14 N  l1 (1 : Int32) V) else (B_X12_likeReference_14 N  l1 (V.1 146 75) V)
set_option maxRecDepth 20000 in
theorem t_X12_likeReference {g : sx_G} (hG : sx_Go g) {P : Option Value → sv_V → Prop} {Vr : sv_V} (hP : P none Vr) {N : Nat} {l1 : Int32} {V : sv_V} (h : F_X12_likeReference N l1 V = some Vr) : sv_N g qX12_likeReference 5 0 [(0, .ref 146), (1, .int l1)] [] V P := by
  unfold F_X12_likeReference at h
  refine sx_iload_n (pc := 0) dX12_likeReference_0 sx_m1 ?_
  refine sx_bipush (pc := 1) (v := 52) dX12_likeReference_1 (by decide) ?_
  refine sx_icmp_ge (pc := 3) (tgt := 13) dX12_likeReference_3 (by decide) (fun c66 => ?_) (fun c66 => ?_)
  · have h := sx_pos c66 h
    refine sx_iconst (pc := 13) (v := 1) dX12_likeReference_13 (by decide) ?_
    refine sx_wk (sx_s1 sx_m0 (sx_s1 sx_m1 sx_s0)) ?_
    exact tB_X12_likeReference_14 hG hP  h
  · have h := sx_neg c66 h
    refine sx_aload_n (pc := 6) dX12_likeReference_6 sx_m0 ?_
    refine sv_getI (pc := 7) hG dX12_likeReference_7 f_12_469 lay_146 rfl ?_
    refine sx_goto (pc := 10) (tgt := 14) dX12_likeReference_10 (by decide) ?_
    refine sx_wk (sx_s1 sx_m0 (sx_s1 sx_m1 sx_s0)) ?_
    exact tB_X12_likeReference_14 hG hP  h
theorem dX12_inBetween_0 : decode cX12_inBetween 0 = .ok (.aload_n 0, 1) := by decide +kernel
theorem dX12_inBetween_1 : decode cX12_inBetween 1 = .ok (.aload_n 0, 1) := by decide +kernel
theorem dX12_inBetween_2 : decode cX12_inBetween 2 = .ok (.getfield 460, 3) := by decide +kernel
theorem dX12_inBetween_5 : decode cX12_inBetween 5 = .ok (.aload_n 0, 1) := by decide +kernel
theorem dX12_inBetween_6 : decode cX12_inBetween 6 = .ok (.getfield 454, 3) := by decide +kernel
theorem dX12_inBetween_9 : decode cX12_inBetween 9 = .ok (.invokevirtual 582, 3) := by decide +kernel
theorem dX12_inBetween_12 : decode cX12_inBetween 12 = .ok (.istore_n 2, 1) := by decide +kernel
theorem dX12_inBetween_13 : decode cX12_inBetween 13 = .ok (.aload_n 0, 1) := by decide +kernel
theorem dX12_inBetween_14 : decode cX12_inBetween 14 = .ok (.aload_n 0, 1) := by decide +kernel
theorem dX12_inBetween_15 : decode cX12_inBetween 15 = .ok (.getfield 463, 3) := by decide +kernel
theorem dX12_inBetween_18 : decode cX12_inBetween 18 = .ok (.aload_n 0, 1) := by decide +kernel
theorem dX12_inBetween_19 : decode cX12_inBetween 19 = .ok (.getfield 457, 3) := by decide +kernel
theorem dX12_inBetween_22 : decode cX12_inBetween 22 = .ok (.invokevirtual 582, 3) := by decide +kernel
theorem dX12_inBetween_25 : decode cX12_inBetween 25 = .ok (.istore_n 3, 1) := by decide +kernel
theorem dX12_inBetween_26 : decode cX12_inBetween 26 = .ok (.aload_n 0, 1) := by decide +kernel
theorem dX12_inBetween_27 : decode cX12_inBetween 27 = .ok (.getfield 409, 3) := by decide +kernel
theorem dX12_inBetween_30 : decode cX12_inBetween 30 = .ok (.ifCond .le 4, 3) := by decide +kernel
theorem dX12_inBetween_33 : decode cX12_inBetween 33 = .ok (.return_, 1) := by decide +kernel
theorem dX12_inBetween_34 : decode cX12_inBetween 34 = .ok (.aload_n 0, 1) := by decide +kernel
theorem dX12_inBetween_35 : decode cX12_inBetween 35 = .ok (.iload_n 1, 1) := by decide +kernel
theorem dX12_inBetween_36 : decode cX12_inBetween 36 = .ok (.iload_n 2, 1) := by decide +kernel
theorem dX12_inBetween_37 : decode cX12_inBetween 37 = .ok (.invokevirtual 680, 3) := by decide +kernel
theorem dX12_inBetween_40 : decode cX12_inBetween 40 = .ok (.istore 4, 2) := by decide +kernel
theorem dX12_inBetween_42 : decode cX12_inBetween 42 = .ok (.aload_n 0, 1) := by decide +kernel
theorem dX12_inBetween_43 : decode cX12_inBetween 43 = .ok (.iload_n 3, 1) := by decide +kernel
theorem dX12_inBetween_44 : decode cX12_inBetween 44 = .ok (.iload_n 2, 1) := by decide +kernel
theorem dX12_inBetween_45 : decode cX12_inBetween 45 = .ok (.invokevirtual 680, 3) := by decide +kernel
theorem dX12_inBetween_48 : decode cX12_inBetween 48 = .ok (.istore 5, 2) := by decide +kernel
theorem dX12_inBetween_50 : decode cX12_inBetween 50 = .ok (.aload_n 0, 1) := by decide +kernel
theorem dX12_inBetween_51 : decode cX12_inBetween 51 = .ok (.iload_n 3, 1) := by decide +kernel
theorem dX12_inBetween_52 : decode cX12_inBetween 52 = .ok (.iload_n 2, 1) := by decide +kernel
theorem dX12_inBetween_53 : decode cX12_inBetween 53 = .ok (.invokevirtual 627, 3) := by decide +kernel
theorem dX12_inBetween_56 : decode cX12_inBetween 56 = .ok (.istore 6, 2) := by decide +kernel
theorem dX12_inBetween_58 : decode cX12_inBetween 58 = .ok (.iload 5, 2) := by decide +kernel
theorem dX12_inBetween_60 : decode cX12_inBetween 60 = .ok (.ifCond .ne 9, 3) := by decide +kernel
theorem dX12_inBetween_63 : decode cX12_inBetween 63 = .ok (.iload 4, 2) := by decide +kernel
theorem dX12_inBetween_65 : decode cX12_inBetween 65 = .ok (.i2l, 1) := by decide +kernel
theorem dX12_inBetween_66 : decode cX12_inBetween 66 = .ok (.goto 16, 3) := by decide +kernel
theorem dX12_inBetween_69 : decode cX12_inBetween 69 = .ok (.iload 4, 2) := by decide +kernel
theorem dX12_inBetween_71 : decode cX12_inBetween 71 = .ok (.i2l, 1) := by decide +kernel
theorem dX12_inBetween_72 : decode cX12_inBetween 72 = .ok (.iload 6, 2) := by decide +kernel
theorem dX12_inBetween_74 : decode cX12_inBetween 74 = .ok (.i2l, 1) := by decide +kernel
theorem dX12_inBetween_75 : decode cX12_inBetween 75 = .ok (.lmul, 1) := by decide +kernel
theorem dX12_inBetween_76 : decode cX12_inBetween 76 = .ok (.iload 5, 2) := by decide +kernel
theorem dX12_inBetween_78 : decode cX12_inBetween 78 = .ok (.i2l, 1) := by decide +kernel
theorem dX12_inBetween_79 : decode cX12_inBetween 79 = .ok (.invokestatic 194, 3) := by decide +kernel
theorem dX12_inBetween_82 : decode cX12_inBetween 82 = .ok (.lstore 7, 2) := by decide +kernel
theorem dX12_inBetween_84 : decode cX12_inBetween 84 = .ok (.aload_n 0, 1) := by decide +kernel
theorem dX12_inBetween_85 : decode cX12_inBetween 85 = .ok (.iload_n 1, 1) := by decide +kernel
theorem dX12_inBetween_86 : decode cX12_inBetween 86 = .ok (.lload 7, 2) := by decide +kernel
theorem dX12_inBetween_88 : decode cX12_inBetween 88 = .ok (.aload_n 0, 1) := by decide +kernel
theorem dX12_inBetween_89 : decode cX12_inBetween 89 = .ok (.iload_n 1, 1) := by decide +kernel
theorem dX12_inBetween_90 : decode cX12_inBetween 90 = .ok (.iload_n 2, 1) := by decide +kernel
theorem dX12_inBetween_91 : decode cX12_inBetween 91 = .ok (.invokevirtual 627, 3) := by decide +kernel
theorem dX12_inBetween_94 : decode cX12_inBetween 94 = .ok (.i2l, 1) := by decide +kernel
theorem dX12_inBetween_95 : decode cX12_inBetween 95 = .ok (.lsub, 1) := by decide +kernel
theorem dX12_inBetween_96 : decode cX12_inBetween 96 = .ok (.invokevirtual 630, 3) := by decide +kernel
theorem dX12_inBetween_99 : decode cX12_inBetween 99 = .ok (.return_, 1) := by decide +kernel
def B_X12_inBetween_82  (l1 : Int32) (l2 : Int32) (s0 : Int64) (V : sv_V) : Option sv_V := (F_X12_between l1 l2 V).bind (fun (x3, V1) => (F_X12_move l1 (s0 - x3.toInt64) V1).bind (fun V4 => some V4))
set_option maxRecDepth 20000 in
theorem tB_X12_inBetween_82 {g : sx_G} (hG : sx_Go g) {P : Option Value → sv_V → Prop} {Vr : sv_V} (hP : P none Vr)   {l1 : Int32} {l2 : Int32} {s0 : Int64} {V : sv_V} (h : B_X12_inBetween_82  l1 l2 s0 V = some Vr) : sv_N g qX12_inBetween 5 82 [(0, .ref 146), (1, .int l1), (2, .int l2)] [.long s0] V P := by
  unfold B_X12_inBetween_82 at h
  refine sx_lstore (pc := 82) (lo' := [(7, .long s0), (0, .ref 146), (1, .int l1), (2, .int l2)]) dX12_inBetween_82 (by decide) rfl ?_
  refine sx_aload_n (pc := 84) dX12_inBetween_84 sx_m1 ?_
  refine sx_iload_n (pc := 85) dX12_inBetween_85 sx_m2 ?_
  refine sx_lload (pc := 86) dX12_inBetween_86 sx_m0 ?_
  refine sx_aload_n (pc := 88) dX12_inBetween_88 sx_m1 ?_
  refine sx_iload_n (pc := 89) dX12_inBetween_89 sx_m2 ?_
  refine sx_iload_n (pc := 90) dX12_inBetween_90 sx_m3 ?_
  obtain ⟨⟨x3, V1⟩, g2, h⟩ := sx_bnd h
  refine sv_cV (pc := 91) (y := qX12_between) (o := (some (.int x3))) (as := [.int l1, .int l2]) (V1 := V1) hG dX12_inBetween_91 l_X12_627 y0X12_between yvX12_between rfl (Nat.le_of_ble_eq_true rfl) lay_146 kr_12 (by decide) (Nat.le_of_ble_eq_true rfl) rfl rfl rfl (t_X12_between hG ⟨rfl, rfl⟩ g2) ?_
  refine sx_i2l (pc := 94) dX12_inBetween_94 ?_
  refine sx_lsub (pc := 95) dX12_inBetween_95 ?_
  obtain ⟨V4, g5, h⟩ := sx_bnd h
  refine sv_cV (pc := 96) (y := qX12_move) (o := none) (as := [.int l1, .long (s0 - x3.toInt64)]) (V1 := V4) hG dX12_inBetween_96 l_X12_630 y0X12_move yvX12_move rfl (Nat.le_of_ble_eq_true rfl) lay_146 kr_12 (by decide) (Nat.le_of_ble_eq_true rfl) rfl rfl rfl (t_X12_move hG ⟨rfl, rfl⟩ g5) ?_
  exact sv_vret (pc := 99) dX12_inBetween_99 rfl h hP
def F_X12_inBetween (l1 : Int32) (V : sv_V) : Option sv_V := (F_X12_pointOf (V.1 146 72) (V.1 146 70) V).bind (fun (x8, V6) => (F_X12_pointOf (V6.1 146 73) (V6.1 146 71) V6).bind (fun (x11, V9) => if (V9.1 146 59) ≤ 0 then ((F_X12_originally l1 x8 V9).bind (fun (x15, V13) => (F_X12_originally x11 x8 V13).bind (fun (x18, V16) => (F_X12_between x11 x8 V16).bind (fun (x21, V19) => if x18 = 0 then (B_X12_inBetween_82  l1 x8 x15.toInt64 V19) else ((F_X12_nearest (x15.toInt64 * x21.toInt64) x18.toInt64 V19).bind (fun (x25, V23) => B_X12_inBetween_82  l1 x8 x25 V23)))))) else (some V9)))
set_option maxRecDepth 20000 in
theorem t_X12_inBetween {g : sx_G} (hG : sx_Go g) {P : Option Value → sv_V → Prop} {Vr : sv_V} (hP : P none Vr) {l1 : Int32} {V : sv_V} (h : F_X12_inBetween l1 V = some Vr) : sv_N g qX12_inBetween 5 0 [(0, .ref 146), (1, .int l1)] [] V P := by
  unfold F_X12_inBetween at h
  refine sx_aload_n (pc := 0) dX12_inBetween_0 sx_m0 ?_
  refine sx_aload_n (pc := 1) dX12_inBetween_1 sx_m0 ?_
  refine sv_getI (pc := 2) hG dX12_inBetween_2 f_12_460 lay_146 rfl ?_
  refine sx_aload_n (pc := 5) dX12_inBetween_5 sx_m0 ?_
  refine sv_getI (pc := 6) hG dX12_inBetween_6 f_12_454 lay_146 rfl ?_
  obtain ⟨⟨x8, V6⟩, g7, h⟩ := sx_bnd h
  refine sv_cV (pc := 9) (y := qX12_pointOf) (o := (some (.int x8))) (as := [.int (V.1 146 72), .int (V.1 146 70)]) (V1 := V6) hG dX12_inBetween_9 l_X12_582 y0X12_pointOf yvX12_pointOf rfl (Nat.le_of_ble_eq_true rfl) lay_146 kr_12 (by decide) (Nat.le_of_ble_eq_true rfl) rfl rfl rfl (t_X12_pointOf hG ⟨rfl, rfl⟩ g7) ?_
  refine sx_istore_n (pc := 12) (lo' := [(2, .int x8), (0, .ref 146), (1, .int l1)]) dX12_inBetween_12 (by decide) rfl ?_
  refine sx_aload_n (pc := 13) dX12_inBetween_13 sx_m1 ?_
  refine sx_aload_n (pc := 14) dX12_inBetween_14 sx_m1 ?_
  refine sv_getI (pc := 15) hG dX12_inBetween_15 f_12_463 lay_146 rfl ?_
  refine sx_aload_n (pc := 18) dX12_inBetween_18 sx_m1 ?_
  refine sv_getI (pc := 19) hG dX12_inBetween_19 f_12_457 lay_146 rfl ?_
  obtain ⟨⟨x11, V9⟩, g10, h⟩ := sx_bnd h
  refine sv_cV (pc := 22) (y := qX12_pointOf) (o := (some (.int x11))) (as := [.int (V6.1 146 73), .int (V6.1 146 71)]) (V1 := V9) hG dX12_inBetween_22 l_X12_582 y0X12_pointOf yvX12_pointOf rfl (Nat.le_of_ble_eq_true rfl) lay_146 kr_12 (by decide) (Nat.le_of_ble_eq_true rfl) rfl rfl rfl (t_X12_pointOf hG ⟨rfl, rfl⟩ g10) ?_
  refine sx_istore_n (pc := 25) (lo' := [(3, .int x11), (2, .int x8), (0, .ref 146), (1, .int l1)]) dX12_inBetween_25 (by decide) rfl ?_
  refine sx_aload_n (pc := 26) dX12_inBetween_26 sx_m2 ?_
  refine sv_getI (pc := 27) hG dX12_inBetween_27 f_12_409 lay_146 rfl ?_
  refine sx_if_le (pc := 30) (tgt := 34) dX12_inBetween_30 (by decide) (fun c12 => ?_) (fun c12 => ?_)
  · have h := sx_pos c12 h
    refine sx_aload_n (pc := 34) dX12_inBetween_34 sx_m2 ?_
    refine sx_iload_n (pc := 35) dX12_inBetween_35 sx_m3 ?_
    refine sx_iload_n (pc := 36) dX12_inBetween_36 sx_m1 ?_
    obtain ⟨⟨x15, V13⟩, g14, h⟩ := sx_bnd h
    refine sv_cV (pc := 37) (y := qX12_originally) (o := (some (.int x15))) (as := [.int l1, .int x8]) (V1 := V13) hG dX12_inBetween_37 l_X12_680 y0X12_originally yvX12_originally rfl (Nat.le_of_ble_eq_true rfl) lay_146 kr_12 (by decide) (Nat.le_of_ble_eq_true rfl) rfl rfl rfl (t_X12_originally hG ⟨rfl, rfl⟩ g14) ?_
    refine sx_istore (pc := 40) (lo' := [(4, .int x15), (3, .int x11), (2, .int x8), (0, .ref 146), (1, .int l1)]) dX12_inBetween_40 (by decide) rfl ?_
    refine sx_aload_n (pc := 42) dX12_inBetween_42 sx_m3 ?_
    refine sx_iload_n (pc := 43) dX12_inBetween_43 sx_m1 ?_
    refine sx_iload_n (pc := 44) dX12_inBetween_44 sx_m2 ?_
    obtain ⟨⟨x18, V16⟩, g17, h⟩ := sx_bnd h
    refine sv_cV (pc := 45) (y := qX12_originally) (o := (some (.int x18))) (as := [.int x11, .int x8]) (V1 := V16) hG dX12_inBetween_45 l_X12_680 y0X12_originally yvX12_originally rfl (Nat.le_of_ble_eq_true rfl) lay_146 kr_12 (by decide) (Nat.le_of_ble_eq_true rfl) rfl rfl rfl (t_X12_originally hG ⟨rfl, rfl⟩ g17) ?_
    refine sx_istore (pc := 48) (lo' := [(5, .int x18), (4, .int x15), (3, .int x11), (2, .int x8), (0, .ref 146), (1, .int l1)]) dX12_inBetween_48 (by decide) rfl ?_
    refine sx_aload_n (pc := 50) dX12_inBetween_50 sx_m4 ?_
    refine sx_iload_n (pc := 51) dX12_inBetween_51 sx_m2 ?_
    refine sx_iload_n (pc := 52) dX12_inBetween_52 sx_m3 ?_
    obtain ⟨⟨x21, V19⟩, g20, h⟩ := sx_bnd h
    refine sv_cV (pc := 53) (y := qX12_between) (o := (some (.int x21))) (as := [.int x11, .int x8]) (V1 := V19) hG dX12_inBetween_53 l_X12_627 y0X12_between yvX12_between rfl (Nat.le_of_ble_eq_true rfl) lay_146 kr_12 (by decide) (Nat.le_of_ble_eq_true rfl) rfl rfl rfl (t_X12_between hG ⟨rfl, rfl⟩ g20) ?_
    refine sx_istore (pc := 56) (lo' := [(6, .int x21), (5, .int x18), (4, .int x15), (3, .int x11), (2, .int x8), (0, .ref 146), (1, .int l1)]) dX12_inBetween_56 (by decide) rfl ?_
    refine sx_iload (pc := 58) dX12_inBetween_58 sx_m1 ?_
    refine sx_if_ne (pc := 60) (tgt := 69) dX12_inBetween_60 (by decide) (fun c22 => ?_) (fun c22 => ?_)
    · have h := sx_neg c22 h
      refine sx_iload (pc := 69) dX12_inBetween_69 sx_m2 ?_
      refine sx_i2l (pc := 71) dX12_inBetween_71 ?_
      refine sx_iload (pc := 72) dX12_inBetween_72 sx_m0 ?_
      refine sx_i2l (pc := 74) dX12_inBetween_74 ?_
      refine sx_lmul (pc := 75) dX12_inBetween_75 ?_
      refine sx_iload (pc := 76) dX12_inBetween_76 sx_m1 ?_
      refine sx_i2l (pc := 78) dX12_inBetween_78 ?_
      obtain ⟨⟨x25, V23⟩, g24, h⟩ := sx_bnd h
      refine sv_cS (pc := 79) (y := qX12_nearest) (o := (some (.long x25))) (as := [.long (x15.toInt64 * x21.toInt64), .long x18.toInt64]) (V1 := V23) dX12_inBetween_79 l_X12_194 y0X12_nearest ysX12_nearest rfl (Nat.le_of_ble_eq_true rfl) (by decide) (Nat.le_of_ble_eq_true rfl) rfl rfl rfl (t_X12_nearest hG ⟨rfl, rfl⟩ g24) ?_
      refine sx_wk (sx_s1 sx_m5 (sx_s1 sx_m6 (sx_s1 sx_m4 sx_s0))) ?_
      exact tB_X12_inBetween_82 hG hP  h
    · have h := sx_pos c22 h
      refine sx_iload (pc := 63) dX12_inBetween_63 sx_m2 ?_
      refine sx_i2l (pc := 65) dX12_inBetween_65 ?_
      refine sx_goto (pc := 66) (tgt := 82) dX12_inBetween_66 (by decide) ?_
      refine sx_wk (sx_s1 sx_m5 (sx_s1 sx_m6 (sx_s1 sx_m4 sx_s0))) ?_
      exact tB_X12_inBetween_82 hG hP  h
  · have h := sx_neg c12 h
    exact sv_vret (pc := 33) dX12_inBetween_33 rfl h hP
theorem dX12_toDistance_0 : decode cX12_toDistance 0 = .ok (.aload_n 0, 1) := by decide +kernel
theorem dX12_toDistance_1 : decode cX12_toDistance 1 = .ok (.iconst 2, 1) := by decide +kernel
theorem dX12_toDistance_2 : decode cX12_toDistance 2 = .ok (.invokevirtual 576, 3) := by decide +kernel
theorem dX12_toDistance_5 : decode cX12_toDistance 5 = .ok (.ifCond .ne 4, 3) := by decide +kernel
theorem dX12_toDistance_8 : decode cX12_toDistance 8 = .ok (.return_, 1) := by decide +kernel
theorem dX12_toDistance_9 : decode cX12_toDistance 9 = .ok (.aload_n 0, 1) := by decide +kernel
theorem dX12_toDistance_10 : decode cX12_toDistance 10 = .ok (.invokevirtual 579, 3) := by decide +kernel
theorem dX12_toDistance_13 : decode cX12_toDistance 13 = .ok (.istore_n 2, 1) := by decide +kernel
theorem dX12_toDistance_14 : decode cX12_toDistance 14 = .ok (.aload_n 0, 1) := by decide +kernel
theorem dX12_toDistance_15 : decode cX12_toDistance 15 = .ok (.invokevirtual 579, 3) := by decide +kernel
theorem dX12_toDistance_18 : decode cX12_toDistance 18 = .ok (.istore_n 3, 1) := by decide +kernel
theorem dX12_toDistance_19 : decode cX12_toDistance 19 = .ok (.aload_n 0, 1) := by decide +kernel
theorem dX12_toDistance_20 : decode cX12_toDistance 20 = .ok (.aload_n 0, 1) := by decide +kernel
theorem dX12_toDistance_21 : decode cX12_toDistance 21 = .ok (.getfield 463, 3) := by decide +kernel
theorem dX12_toDistance_24 : decode cX12_toDistance 24 = .ok (.iload_n 3, 1) := by decide +kernel
theorem dX12_toDistance_25 : decode cX12_toDistance 25 = .ok (.invokevirtual 582, 3) := by decide +kernel
theorem dX12_toDistance_28 : decode cX12_toDistance 28 = .ok (.istore 4, 2) := by decide +kernel
theorem dX12_toDistance_30 : decode cX12_toDistance 30 = .ok (.aload_n 0, 1) := by decide +kernel
theorem dX12_toDistance_31 : decode cX12_toDistance 31 = .ok (.aload_n 0, 1) := by decide +kernel
theorem dX12_toDistance_32 : decode cX12_toDistance 32 = .ok (.getfield 460, 3) := by decide +kernel
theorem dX12_toDistance_35 : decode cX12_toDistance 35 = .ok (.aload_n 0, 1) := by decide +kernel
theorem dX12_toDistance_36 : decode cX12_toDistance 36 = .ok (.getfield 451, 3) := by decide +kernel
theorem dX12_toDistance_39 : decode cX12_toDistance 39 = .ok (.invokevirtual 582, 3) := by decide +kernel
theorem dX12_toDistance_42 : decode cX12_toDistance 42 = .ok (.istore 5, 2) := by decide +kernel
theorem dX12_toDistance_44 : decode cX12_toDistance 44 = .ok (.aload_n 0, 1) := by decide +kernel
theorem dX12_toDistance_45 : decode cX12_toDistance 45 = .ok (.getfield 409, 3) := by decide +kernel
theorem dX12_toDistance_48 : decode cX12_toDistance 48 = .ok (.ifCond .le 4, 3) := by decide +kernel
theorem dX12_toDistance_51 : decode cX12_toDistance 51 = .ok (.return_, 1) := by decide +kernel
theorem dX12_toDistance_52 : decode cX12_toDistance 52 = .ok (.aload_n 0, 1) := by decide +kernel
theorem dX12_toDistance_53 : decode cX12_toDistance 53 = .ok (.getfield 463, 3) := by decide +kernel
theorem dX12_toDistance_56 : decode cX12_toDistance 56 = .ok (.ifCond .ne 55, 3) := by decide +kernel
theorem dX12_toDistance_59 : decode cX12_toDistance 59 = .ok (.aload_n 0, 1) := by decide +kernel
theorem dX12_toDistance_60 : decode cX12_toDistance 60 = .ok (.iload 4, 2) := by decide +kernel
theorem dX12_toDistance_62 : decode cX12_toDistance 62 = .ok (.aload_n 0, 1) := by decide +kernel
theorem dX12_toDistance_63 : decode cX12_toDistance 63 = .ok (.getfield 70, 3) := by decide +kernel
theorem dX12_toDistance_66 : decode cX12_toDistance 66 = .ok (.iload 5, 2) := by decide +kernel
theorem dX12_toDistance_68 : decode cX12_toDistance 68 = .ok (.iaload, 1) := by decide +kernel
theorem dX12_toDistance_69 : decode cX12_toDistance 69 = .ok (.i2l, 1) := by decide +kernel
theorem dX12_toDistance_70 : decode cX12_toDistance 70 = .ok (.iload_n 2, 1) := by decide +kernel
theorem dX12_toDistance_71 : decode cX12_toDistance 71 = .ok (.i2l, 1) := by decide +kernel
theorem dX12_toDistance_72 : decode cX12_toDistance 72 = .ok (.aload_n 0, 1) := by decide +kernel
theorem dX12_toDistance_73 : decode cX12_toDistance 73 = .ok (.getfield 433, 3) := by decide +kernel
theorem dX12_toDistance_76 : decode cX12_toDistance 76 = .ok (.i2l, 1) := by decide +kernel
theorem dX12_toDistance_77 : decode cX12_toDistance 77 = .ok (.lmul, 1) := by decide +kernel
theorem dX12_toDistance_78 : decode cX12_toDistance 78 = .ok (.ldc2_w 310, 3) := by decide +kernel
theorem dX12_toDistance_81 : decode cX12_toDistance 81 = .ok (.invokestatic 517, 3) := by decide +kernel
theorem dX12_toDistance_84 : decode cX12_toDistance 84 = .ok (.ladd, 1) := by decide +kernel
theorem dX12_toDistance_85 : decode cX12_toDistance 85 = .ok (.aload_n 0, 1) := by decide +kernel
theorem dX12_toDistance_86 : decode cX12_toDistance 86 = .ok (.getfield 73, 3) := by decide +kernel
theorem dX12_toDistance_89 : decode cX12_toDistance 89 = .ok (.iload 5, 2) := by decide +kernel
theorem dX12_toDistance_91 : decode cX12_toDistance 91 = .ok (.iaload, 1) := by decide +kernel
theorem dX12_toDistance_92 : decode cX12_toDistance 92 = .ok (.i2l, 1) := by decide +kernel
theorem dX12_toDistance_93 : decode cX12_toDistance 93 = .ok (.iload_n 2, 1) := by decide +kernel
theorem dX12_toDistance_94 : decode cX12_toDistance 94 = .ok (.i2l, 1) := by decide +kernel
theorem dX12_toDistance_95 : decode cX12_toDistance 95 = .ok (.aload_n 0, 1) := by decide +kernel
theorem dX12_toDistance_96 : decode cX12_toDistance 96 = .ok (.getfield 436, 3) := by decide +kernel
theorem dX12_toDistance_99 : decode cX12_toDistance 99 = .ok (.i2l, 1) := by decide +kernel
theorem dX12_toDistance_100 : decode cX12_toDistance 100 = .ok (.lmul, 1) := by decide +kernel
theorem dX12_toDistance_101 : decode cX12_toDistance 101 = .ok (.ldc2_w 310, 3) := by decide +kernel
theorem dX12_toDistance_104 : decode cX12_toDistance 104 = .ok (.invokestatic 517, 3) := by decide +kernel
theorem dX12_toDistance_107 : decode cX12_toDistance 107 = .ok (.ladd, 1) := by decide +kernel
theorem dX12_toDistance_108 : decode cX12_toDistance 108 = .ok (.invokevirtual 716, 3) := by decide +kernel
theorem dX12_toDistance_111 : decode cX12_toDistance 111 = .ok (.aload_n 0, 1) := by decide +kernel
theorem dX12_toDistance_112 : decode cX12_toDistance 112 = .ok (.iload 4, 2) := by decide +kernel
theorem dX12_toDistance_114 : decode cX12_toDistance 114 = .ok (.iload_n 2, 1) := by decide +kernel
theorem dX12_toDistance_115 : decode cX12_toDistance 115 = .ok (.i2l, 1) := by decide +kernel
theorem dX12_toDistance_116 : decode cX12_toDistance 116 = .ok (.aload_n 0, 1) := by decide +kernel
theorem dX12_toDistance_117 : decode cX12_toDistance 117 = .ok (.iload 4, 2) := by decide +kernel
theorem dX12_toDistance_119 : decode cX12_toDistance 119 = .ok (.iload 5, 2) := by decide +kernel
theorem dX12_toDistance_121 : decode cX12_toDistance 121 = .ok (.invokevirtual 627, 3) := by decide +kernel
theorem dX12_toDistance_124 : decode cX12_toDistance 124 = .ok (.i2l, 1) := by decide +kernel
theorem dX12_toDistance_125 : decode cX12_toDistance 125 = .ok (.lsub, 1) := by decide +kernel
theorem dX12_toDistance_126 : decode cX12_toDistance 126 = .ok (.invokevirtual 630, 3) := by decide +kernel
theorem dX12_toDistance_129 : decode cX12_toDistance 129 = .ok (.aload_n 0, 1) := by decide +kernel
theorem dX12_toDistance_130 : decode cX12_toDistance 130 = .ok (.aload_n 0, 1) := by decide +kernel
theorem dX12_toDistance_131 : decode cX12_toDistance 131 = .ok (.getfield 451, 3) := by decide +kernel
theorem dX12_toDistance_134 : decode cX12_toDistance 134 = .ok (.putfield 454, 3) := by decide +kernel
theorem dX12_toDistance_137 : decode cX12_toDistance 137 = .ok (.aload_n 0, 1) := by decide +kernel
theorem dX12_toDistance_138 : decode cX12_toDistance 138 = .ok (.iload_n 3, 1) := by decide +kernel
theorem dX12_toDistance_139 : decode cX12_toDistance 139 = .ok (.putfield 457, 3) := by decide +kernel
theorem dX12_toDistance_142 : decode cX12_toDistance 142 = .ok (.aload_n 0, 1) := by decide +kernel
theorem dX12_toDistance_143 : decode cX12_toDistance 143 = .ok (.iload_n 1, 1) := by decide +kernel
theorem dX12_toDistance_144 : decode cX12_toDistance 144 = .ok (.bipush 59, 2) := by decide +kernel
theorem dX12_toDistance_146 : decode cX12_toDistance 146 = .ok (.if_icmp .ne 7, 3) := by decide +kernel
theorem dX12_toDistance_149 : decode cX12_toDistance 149 = .ok (.iload_n 3, 1) := by decide +kernel
theorem dX12_toDistance_150 : decode cX12_toDistance 150 = .ok (.goto 7, 3) := by decide +kernel
theorem dX12_toDistance_153 : decode cX12_toDistance 153 = .ok (.aload_n 0, 1) := by decide +kernel
theorem dX12_toDistance_154 : decode cX12_toDistance 154 = .ok (.getfield 451, 3) := by decide +kernel
theorem dX12_toDistance_157 : decode cX12_toDistance 157 = .ok (.putfield 451, 3) := by decide +kernel
theorem dX12_toDistance_160 : decode cX12_toDistance 160 = .ok (.return_, 1) := by decide +kernel
def B_X12_toDistance_111  (l1 : Int32) (l2 : Int32) (l3 : Int32) (l4 : Int32) (l5 : Int32) (V : sv_V) : Option sv_V := (F_X12_between l4 l5 V).bind (fun (x3, V1) => (F_X12_move l4 (l2.toInt64 - x3.toInt64) V1).bind (fun V4 => sx_let (sv_I V4 146 70 (V4.1 146 69)) (fun V6 => sx_let (sv_I V6 146 71 l3) (fun V7 => if l1 = (59 : Int32) then (sx_let (sv_I V7 146 69 l3) (fun V10 => some V10)) else (sx_let (sv_I V7 146 69 (V7.1 146 69)) (fun V9 => some V9))))))
set_option maxRecDepth 20000 in
theorem tB_X12_toDistance_111 {g : sx_G} (hG : sx_Go g) {P : Option Value → sv_V → Prop} {Vr : sv_V} (hP : P none Vr)   {l1 : Int32} {l2 : Int32} {l3 : Int32} {l4 : Int32} {l5 : Int32} {V : sv_V} (h : B_X12_toDistance_111  l1 l2 l3 l4 l5 V = some Vr) : sv_N g qX12_toDistance 5 111 [(0, .ref 146), (1, .int l1), (2, .int l2), (3, .int l3), (4, .int l4), (5, .int l5)] [] V P := by
  unfold B_X12_toDistance_111 at h
  refine sx_aload_n (pc := 111) dX12_toDistance_111 sx_m0 ?_
  refine sx_iload (pc := 112) dX12_toDistance_112 sx_m4 ?_
  refine sx_iload_n (pc := 114) dX12_toDistance_114 sx_m2 ?_
  refine sx_i2l (pc := 115) dX12_toDistance_115 ?_
  refine sx_aload_n (pc := 116) dX12_toDistance_116 sx_m0 ?_
  refine sx_iload (pc := 117) dX12_toDistance_117 sx_m4 ?_
  refine sx_iload (pc := 119) dX12_toDistance_119 sx_m5 ?_
  obtain ⟨⟨x3, V1⟩, g2, h⟩ := sx_bnd h
  refine sv_cV (pc := 121) (y := qX12_between) (o := (some (.int x3))) (as := [.int l4, .int l5]) (V1 := V1) hG dX12_toDistance_121 l_X12_627 y0X12_between yvX12_between rfl (Nat.le_of_ble_eq_true rfl) lay_146 kr_12 (by decide) (Nat.le_of_ble_eq_true rfl) rfl rfl rfl (t_X12_between hG ⟨rfl, rfl⟩ g2) ?_
  refine sx_i2l (pc := 124) dX12_toDistance_124 ?_
  refine sx_lsub (pc := 125) dX12_toDistance_125 ?_
  obtain ⟨V4, g5, h⟩ := sx_bnd h
  refine sv_cV (pc := 126) (y := qX12_move) (o := none) (as := [.int l4, .long (l2.toInt64 - x3.toInt64)]) (V1 := V4) hG dX12_toDistance_126 l_X12_630 y0X12_move yvX12_move rfl (Nat.le_of_ble_eq_true rfl) lay_146 kr_12 (by decide) (Nat.le_of_ble_eq_true rfl) rfl rfl rfl (t_X12_move hG ⟨rfl, rfl⟩ g5) ?_
  refine sx_aload_n (pc := 129) dX12_toDistance_129 sx_m0 ?_
  refine sx_aload_n (pc := 130) dX12_toDistance_130 sx_m0 ?_
  refine sv_getI (pc := 131) hG dX12_toDistance_131 f_12_451 lay_146 rfl ?_
  obtain ⟨V6, hV6⟩ : ∃ z : sv_V, z = sv_I V4 146 70 (V4.1 146 69) := ⟨_, rfl⟩
  have h := sx_letE hV6 h
  refine sv_putI (pc := 134) hG dX12_toDistance_134 f_12_454 lay_146 rfl hV6 ?_
  refine sx_aload_n (pc := 137) dX12_toDistance_137 sx_m0 ?_
  refine sx_iload_n (pc := 138) dX12_toDistance_138 sx_m3 ?_
  obtain ⟨V7, hV7⟩ : ∃ z : sv_V, z = sv_I V6 146 71 l3 := ⟨_, rfl⟩
  have h := sx_letE hV7 h
  refine sv_putI (pc := 139) hG dX12_toDistance_139 f_12_457 lay_146 rfl hV7 ?_
  refine sx_aload_n (pc := 142) dX12_toDistance_142 sx_m0 ?_
  refine sx_iload_n (pc := 143) dX12_toDistance_143 sx_m1 ?_
  refine sx_bipush (pc := 144) (v := 59) dX12_toDistance_144 (by decide) ?_
  refine sx_icmp_ne (pc := 146) (tgt := 153) dX12_toDistance_146 (by decide) (fun c8 => ?_) (fun c8 => ?_)
  · have h := sx_neg c8 h
    refine sx_aload_n (pc := 153) dX12_toDistance_153 sx_m0 ?_
    refine sv_getI (pc := 154) hG dX12_toDistance_154 f_12_451 lay_146 rfl ?_
    obtain ⟨V9, hV9⟩ : ∃ z : sv_V, z = sv_I V7 146 69 (V7.1 146 69) := ⟨_, rfl⟩
    have h := sx_letE hV9 h
    refine sv_putI (pc := 157) hG dX12_toDistance_157 f_12_451 lay_146 rfl hV9 ?_
    exact sv_vret (pc := 160) dX12_toDistance_160 rfl h hP
  · have h := sx_pos c8 h
    refine sx_iload_n (pc := 149) dX12_toDistance_149 sx_m3 ?_
    refine sx_goto (pc := 150) (tgt := 157) dX12_toDistance_150 (by decide) ?_
    obtain ⟨V10, hV10⟩ : ∃ z : sv_V, z = sv_I V7 146 69 l3 := ⟨_, rfl⟩
    have h := sx_letE hV10 h
    refine sv_putI (pc := 157) hG dX12_toDistance_157 f_12_451 lay_146 rfl hV10 ?_
    exact sv_vret (pc := 160) dX12_toDistance_160 rfl h hP
def F_X12_toDistance (l1 : Int32) (V : sv_V) : Option sv_V := (F_X12_has (2 : Int32) V).bind (fun (x13, V11) => if x13 = 0 then (some V11) else ((F_X12_pop  V11).bind (fun (x17, V15) => (F_X12_pop  V15).bind (fun (x20, V18) => (F_X12_pointOf (V18.1 146 73) x20 V18).bind (fun (x23, V21) => (F_X12_pointOf (V21.1 146 72) (V21.1 146 69) V21).bind (fun (x26, V24) => if (V24.1 146 59) ≤ 0 then (if (V24.1 146 73) = 0 then (if sx_in x26 204 = true then (F_X12_over (x17.toInt64 * ((V24.1 146 63).toInt64)) (16384 : Int64) V24).bind (fun (x32, V30) => if sx_in x26 204 = true then (F_X12_over (x17.toInt64 * ((V30.1 146 64).toInt64)) (16384 : Int64) V30).bind (fun (x36, V34) => (F_X12_put x23 (((V24.1 166 x26.toNatClampNeg).toInt64) + x32) (((V30.1 167 x26.toNatClampNeg).toInt64) + x36) V34).bind (fun V37 => B_X12_toDistance_111  l1 x17 x20 x23 x26 V37)) else none) else none) else (B_X12_toDistance_111  l1 x17 x20 x23 x26 V24)) else (some V24)))))))
set_option maxRecDepth 20000 in
theorem t_X12_toDistance {g : sx_G} (hG : sx_Go g) {P : Option Value → sv_V → Prop} {Vr : sv_V} (hP : P none Vr) {l1 : Int32} {V : sv_V} (h : F_X12_toDistance l1 V = some Vr) : sv_N g qX12_toDistance 5 0 [(0, .ref 146), (1, .int l1)] [] V P := by
  unfold F_X12_toDistance at h
  refine sx_aload_n (pc := 0) dX12_toDistance_0 sx_m0 ?_
  refine sx_iconst (pc := 1) (v := 2) dX12_toDistance_1 (by decide) ?_
  obtain ⟨⟨x13, V11⟩, g12, h⟩ := sx_bnd h
  refine sv_cV (pc := 2) (y := qX12_has) (o := (some (.int x13))) (as := [.int (2 : Int32)]) (V1 := V11) hG dX12_toDistance_2 l_X12_576 y0X12_has yvX12_has rfl (Nat.le_of_ble_eq_true rfl) lay_146 kr_12 (by decide) (Nat.le_of_ble_eq_true rfl) rfl rfl rfl (t_X12_has hG ⟨rfl, rfl⟩ g12) ?_
  refine sx_if_ne (pc := 5) (tgt := 9) dX12_toDistance_5 (by decide) (fun c14 => ?_) (fun c14 => ?_)
  · have h := sx_neg c14 h
    refine sx_aload_n (pc := 9) dX12_toDistance_9 sx_m0 ?_
    obtain ⟨⟨x17, V15⟩, g16, h⟩ := sx_bnd h
    refine sv_cV (pc := 10) (y := qX12_pop) (o := (some (.int x17))) (as := []) (V1 := V15) hG dX12_toDistance_10 l_X12_579 y0X12_pop yvX12_pop rfl (Nat.le_of_ble_eq_true rfl) lay_146 kr_12 (by decide) (Nat.le_of_ble_eq_true rfl) rfl rfl rfl (t_X12_pop hG ⟨rfl, rfl⟩ g16) ?_
    refine sx_istore_n (pc := 13) (lo' := [(2, .int x17), (0, .ref 146), (1, .int l1)]) dX12_toDistance_13 (by decide) rfl ?_
    refine sx_aload_n (pc := 14) dX12_toDistance_14 sx_m1 ?_
    obtain ⟨⟨x20, V18⟩, g19, h⟩ := sx_bnd h
    refine sv_cV (pc := 15) (y := qX12_pop) (o := (some (.int x20))) (as := []) (V1 := V18) hG dX12_toDistance_15 l_X12_579 y0X12_pop yvX12_pop rfl (Nat.le_of_ble_eq_true rfl) lay_146 kr_12 (by decide) (Nat.le_of_ble_eq_true rfl) rfl rfl rfl (t_X12_pop hG ⟨rfl, rfl⟩ g19) ?_
    refine sx_istore_n (pc := 18) (lo' := [(3, .int x20), (2, .int x17), (0, .ref 146), (1, .int l1)]) dX12_toDistance_18 (by decide) rfl ?_
    refine sx_aload_n (pc := 19) dX12_toDistance_19 sx_m2 ?_
    refine sx_aload_n (pc := 20) dX12_toDistance_20 sx_m2 ?_
    refine sv_getI (pc := 21) hG dX12_toDistance_21 f_12_463 lay_146 rfl ?_
    refine sx_iload_n (pc := 24) dX12_toDistance_24 sx_m0 ?_
    obtain ⟨⟨x23, V21⟩, g22, h⟩ := sx_bnd h
    refine sv_cV (pc := 25) (y := qX12_pointOf) (o := (some (.int x23))) (as := [.int (V18.1 146 73), .int x20]) (V1 := V21) hG dX12_toDistance_25 l_X12_582 y0X12_pointOf yvX12_pointOf rfl (Nat.le_of_ble_eq_true rfl) lay_146 kr_12 (by decide) (Nat.le_of_ble_eq_true rfl) rfl rfl rfl (t_X12_pointOf hG ⟨rfl, rfl⟩ g22) ?_
    refine sx_istore (pc := 28) (lo' := [(4, .int x23), (3, .int x20), (2, .int x17), (0, .ref 146), (1, .int l1)]) dX12_toDistance_28 (by decide) rfl ?_
    refine sx_aload_n (pc := 30) dX12_toDistance_30 sx_m3 ?_
    refine sx_aload_n (pc := 31) dX12_toDistance_31 sx_m3 ?_
    refine sv_getI (pc := 32) hG dX12_toDistance_32 f_12_460 lay_146 rfl ?_
    refine sx_aload_n (pc := 35) dX12_toDistance_35 sx_m3 ?_
    refine sv_getI (pc := 36) hG dX12_toDistance_36 f_12_451 lay_146 rfl ?_
    obtain ⟨⟨x26, V24⟩, g25, h⟩ := sx_bnd h
    refine sv_cV (pc := 39) (y := qX12_pointOf) (o := (some (.int x26))) (as := [.int (V21.1 146 72), .int (V21.1 146 69)]) (V1 := V24) hG dX12_toDistance_39 l_X12_582 y0X12_pointOf yvX12_pointOf rfl (Nat.le_of_ble_eq_true rfl) lay_146 kr_12 (by decide) (Nat.le_of_ble_eq_true rfl) rfl rfl rfl (t_X12_pointOf hG ⟨rfl, rfl⟩ g25) ?_
    refine sx_istore (pc := 42) (lo' := [(5, .int x26), (4, .int x23), (3, .int x20), (2, .int x17), (0, .ref 146), (1, .int l1)]) dX12_toDistance_42 (by decide) rfl ?_
    refine sx_aload_n (pc := 44) dX12_toDistance_44 sx_m4 ?_
    refine sv_getI (pc := 45) hG dX12_toDistance_45 f_12_409 lay_146 rfl ?_
    refine sx_if_le (pc := 48) (tgt := 52) dX12_toDistance_48 (by decide) (fun c27 => ?_) (fun c27 => ?_)
    · have h := sx_pos c27 h
      refine sx_aload_n (pc := 52) dX12_toDistance_52 sx_m4 ?_
      refine sv_getI (pc := 53) hG dX12_toDistance_53 f_12_463 lay_146 rfl ?_
      refine sx_if_ne (pc := 56) (tgt := 111) dX12_toDistance_56 (by decide) (fun c28 => ?_) (fun c28 => ?_)
      · have h := sx_neg c28 h
        refine sx_wk (sx_s1 sx_m4 (sx_s1 sx_m5 (sx_s1 sx_m3 (sx_s1 sx_m2 (sx_s1 sx_m1 (sx_s1 sx_m0 sx_s0)))))) ?_
        exact tB_X12_toDistance_111 hG hP  h
      · have h := sx_pos c28 h
        refine sx_aload_n (pc := 59) dX12_toDistance_59 sx_m4 ?_
        refine sx_iload (pc := 60) dX12_toDistance_60 sx_m1 ?_
        refine sx_aload_n (pc := 62) dX12_toDistance_62 sx_m4 ?_
        refine sv_getA (pc := 63) hG dX12_toDistance_63 f_12_70 lay_146 rfl cr_146_46 ?_
        refine sx_iload (pc := 66) dX12_toDistance_66 sx_m0 ?_
        obtain ⟨g29, h⟩ := sx_grd h
        refine sv_iald (pc := 68) hG dX12_toDistance_68 lay_166 g29 ?_
        refine sx_i2l (pc := 69) dX12_toDistance_69 ?_
        refine sx_iload_n (pc := 70) dX12_toDistance_70 sx_m3 ?_
        refine sx_i2l (pc := 71) dX12_toDistance_71 ?_
        refine sx_aload_n (pc := 72) dX12_toDistance_72 sx_m4 ?_
        refine sv_getI (pc := 73) hG dX12_toDistance_73 f_12_433 lay_146 rfl ?_
        refine sx_i2l (pc := 76) dX12_toDistance_76 ?_
        refine sx_lmul (pc := 77) dX12_toDistance_77 ?_
        refine sx_ldc2 (pc := 78) dX12_toDistance_78 k_X12_310 ?_
        obtain ⟨⟨x32, V30⟩, g31, h⟩ := sx_bnd h
        refine sv_cS (pc := 81) (y := qX12_over) (o := (some (.long x32))) (as := [.long (x17.toInt64 * ((V24.1 146 63).toInt64)), .long (16384 : Int64)]) (V1 := V30) dX12_toDistance_81 l_X12_517 y0X12_over ysX12_over rfl (Nat.le_of_ble_eq_true rfl) (by decide) (Nat.le_of_ble_eq_true rfl) rfl rfl rfl (t_X12_over hG ⟨rfl, rfl⟩ g31) ?_
        refine sx_ladd (pc := 84) dX12_toDistance_84 ?_
        refine sx_aload_n (pc := 85) dX12_toDistance_85 sx_m4 ?_
        refine sv_getA (pc := 86) hG dX12_toDistance_86 f_12_73 lay_146 rfl cr_146_47 ?_
        refine sx_iload (pc := 89) dX12_toDistance_89 sx_m0 ?_
        obtain ⟨g33, h⟩ := sx_grd h
        refine sv_iald (pc := 91) hG dX12_toDistance_91 lay_167 g33 ?_
        refine sx_i2l (pc := 92) dX12_toDistance_92 ?_
        refine sx_iload_n (pc := 93) dX12_toDistance_93 sx_m3 ?_
        refine sx_i2l (pc := 94) dX12_toDistance_94 ?_
        refine sx_aload_n (pc := 95) dX12_toDistance_95 sx_m4 ?_
        refine sv_getI (pc := 96) hG dX12_toDistance_96 f_12_436 lay_146 rfl ?_
        refine sx_i2l (pc := 99) dX12_toDistance_99 ?_
        refine sx_lmul (pc := 100) dX12_toDistance_100 ?_
        refine sx_ldc2 (pc := 101) dX12_toDistance_101 k_X12_310 ?_
        obtain ⟨⟨x36, V34⟩, g35, h⟩ := sx_bnd h
        refine sv_cS (pc := 104) (y := qX12_over) (o := (some (.long x36))) (as := [.long (x17.toInt64 * ((V30.1 146 64).toInt64)), .long (16384 : Int64)]) (V1 := V34) dX12_toDistance_104 l_X12_517 y0X12_over ysX12_over rfl (Nat.le_of_ble_eq_true rfl) (by decide) (Nat.le_of_ble_eq_true rfl) rfl rfl rfl (t_X12_over hG ⟨rfl, rfl⟩ g35) ?_
        refine sx_ladd (pc := 107) dX12_toDistance_107 ?_
        obtain ⟨V37, g38, h⟩ := sx_bnd h
        refine sv_cV (pc := 108) (y := qX12_put) (o := none) (as := [.int x23, .long (((V24.1 166 x26.toNatClampNeg).toInt64) + x32), .long (((V30.1 167 x26.toNatClampNeg).toInt64) + x36)]) (V1 := V37) hG dX12_toDistance_108 l_X12_716 y0X12_put yvX12_put rfl (Nat.le_of_ble_eq_true rfl) lay_146 kr_12 (by decide) (Nat.le_of_ble_eq_true rfl) rfl rfl rfl (t_X12_put hG ⟨rfl, rfl⟩ g38) ?_
        refine sx_wk (sx_s1 sx_m4 (sx_s1 sx_m5 (sx_s1 sx_m3 (sx_s1 sx_m2 (sx_s1 sx_m1 (sx_s1 sx_m0 sx_s0)))))) ?_
        exact tB_X12_toDistance_111 hG hP  h
    · have h := sx_neg c27 h
      exact sv_vret (pc := 51) dX12_toDistance_51 rfl h hP
  · have h := sx_pos c14 h
    exact sv_vret (pc := 8) dX12_toDistance_8 rfl h hP
theorem dX12_settle_0 : decode cX12_settle 0 = .ok (.aload_n 0, 1) := by decide +kernel
theorem dX12_settle_1 : decode cX12_settle 1 = .ok (.iload_n 2, 1) := by decide +kernel
theorem dX12_settle_2 : decode cX12_settle 2 = .ok (.lload 5, 2) := by decide +kernel
theorem dX12_settle_4 : decode cX12_settle 4 = .ok (.aload_n 0, 1) := by decide +kernel
theorem dX12_settle_5 : decode cX12_settle 5 = .ok (.iload_n 2, 1) := by decide +kernel
theorem dX12_settle_6 : decode cX12_settle 6 = .ok (.iload 4, 2) := by decide +kernel
theorem dX12_settle_8 : decode cX12_settle 8 = .ok (.invokevirtual 627, 3) := by decide +kernel
theorem dX12_settle_11 : decode cX12_settle 11 = .ok (.i2l, 1) := by decide +kernel
theorem dX12_settle_12 : decode cX12_settle 12 = .ok (.lsub, 1) := by decide +kernel
theorem dX12_settle_13 : decode cX12_settle 13 = .ok (.invokevirtual 630, 3) := by decide +kernel
theorem dX12_settle_16 : decode cX12_settle 16 = .ok (.aload_n 0, 1) := by decide +kernel
theorem dX12_settle_17 : decode cX12_settle 17 = .ok (.aload_n 0, 1) := by decide +kernel
theorem dX12_settle_18 : decode cX12_settle 18 = .ok (.getfield 451, 3) := by decide +kernel
theorem dX12_settle_21 : decode cX12_settle 21 = .ok (.putfield 454, 3) := by decide +kernel
theorem dX12_settle_24 : decode cX12_settle 24 = .ok (.aload_n 0, 1) := by decide +kernel
theorem dX12_settle_25 : decode cX12_settle 25 = .ok (.iload_n 3, 1) := by decide +kernel
theorem dX12_settle_26 : decode cX12_settle 26 = .ok (.putfield 457, 3) := by decide +kernel
theorem dX12_settle_29 : decode cX12_settle 29 = .ok (.aload_n 0, 1) := by decide +kernel
theorem dX12_settle_30 : decode cX12_settle 30 = .ok (.iload_n 1, 1) := by decide +kernel
theorem dX12_settle_31 : decode cX12_settle 31 = .ok (.bipush 16, 2) := by decide +kernel
theorem dX12_settle_33 : decode cX12_settle 33 = .ok (.iand, 1) := by decide +kernel
theorem dX12_settle_34 : decode cX12_settle 34 = .ok (.ifCond .eq 7, 3) := by decide +kernel
theorem dX12_settle_37 : decode cX12_settle 37 = .ok (.iload_n 3, 1) := by decide +kernel
theorem dX12_settle_38 : decode cX12_settle 38 = .ok (.goto 7, 3) := by decide +kernel
theorem dX12_settle_41 : decode cX12_settle 41 = .ok (.aload_n 0, 1) := by decide +kernel
theorem dX12_settle_42 : decode cX12_settle 42 = .ok (.getfield 451, 3) := by decide +kernel
theorem dX12_settle_45 : decode cX12_settle 45 = .ok (.putfield 451, 3) := by decide +kernel
theorem dX12_settle_48 : decode cX12_settle 48 = .ok (.return_, 1) := by decide +kernel
def F_X12_settle (l1 : Int32) (l2 : Int32) (l3 : Int32) (l4 : Int32) (l5 : Int64) (V : sv_V) : Option sv_V := (F_X12_between l2 l4 V).bind (fun (x3, V1) => (F_X12_move l2 (l5 - x3.toInt64) V1).bind (fun V4 => sx_let (sv_I V4 146 70 (V4.1 146 69)) (fun V6 => sx_let (sv_I V6 146 71 l3) (fun V7 => if (l1 &&& (16 : Int32)) = 0 then (sx_let (sv_I V7 146 69 (V7.1 146 69)) (fun V9 => some V9)) else (sx_let (sv_I V7 146 69 l3) (fun V10 => some V10))))))
set_option maxRecDepth 20000 in
theorem t_X12_settle {g : sx_G} (hG : sx_Go g) {P : Option Value → sv_V → Prop} {Vr : sv_V} (hP : P none Vr) {l1 : Int32} {l2 : Int32} {l3 : Int32} {l4 : Int32} {l5 : Int64} {V : sv_V} (h : F_X12_settle l1 l2 l3 l4 l5 V = some Vr) : sv_N g qX12_settle 5 0 [(0, .ref 146), (1, .int l1), (2, .int l2), (3, .int l3), (4, .int l4), (5, .long l5)] [] V P := by
  unfold F_X12_settle at h
  refine sx_aload_n (pc := 0) dX12_settle_0 sx_m0 ?_
  refine sx_iload_n (pc := 1) dX12_settle_1 sx_m2 ?_
  refine sx_lload (pc := 2) dX12_settle_2 sx_m5 ?_
  refine sx_aload_n (pc := 4) dX12_settle_4 sx_m0 ?_
  refine sx_iload_n (pc := 5) dX12_settle_5 sx_m2 ?_
  refine sx_iload (pc := 6) dX12_settle_6 sx_m4 ?_
  obtain ⟨⟨x3, V1⟩, g2, h⟩ := sx_bnd h
  refine sv_cV (pc := 8) (y := qX12_between) (o := (some (.int x3))) (as := [.int l2, .int l4]) (V1 := V1) hG dX12_settle_8 l_X12_627 y0X12_between yvX12_between rfl (Nat.le_of_ble_eq_true rfl) lay_146 kr_12 (by decide) (Nat.le_of_ble_eq_true rfl) rfl rfl rfl (t_X12_between hG ⟨rfl, rfl⟩ g2) ?_
  refine sx_i2l (pc := 11) dX12_settle_11 ?_
  refine sx_lsub (pc := 12) dX12_settle_12 ?_
  obtain ⟨V4, g5, h⟩ := sx_bnd h
  refine sv_cV (pc := 13) (y := qX12_move) (o := none) (as := [.int l2, .long (l5 - x3.toInt64)]) (V1 := V4) hG dX12_settle_13 l_X12_630 y0X12_move yvX12_move rfl (Nat.le_of_ble_eq_true rfl) lay_146 kr_12 (by decide) (Nat.le_of_ble_eq_true rfl) rfl rfl rfl (t_X12_move hG ⟨rfl, rfl⟩ g5) ?_
  refine sx_aload_n (pc := 16) dX12_settle_16 sx_m0 ?_
  refine sx_aload_n (pc := 17) dX12_settle_17 sx_m0 ?_
  refine sv_getI (pc := 18) hG dX12_settle_18 f_12_451 lay_146 rfl ?_
  obtain ⟨V6, hV6⟩ : ∃ z : sv_V, z = sv_I V4 146 70 (V4.1 146 69) := ⟨_, rfl⟩
  have h := sx_letE hV6 h
  refine sv_putI (pc := 21) hG dX12_settle_21 f_12_454 lay_146 rfl hV6 ?_
  refine sx_aload_n (pc := 24) dX12_settle_24 sx_m0 ?_
  refine sx_iload_n (pc := 25) dX12_settle_25 sx_m3 ?_
  obtain ⟨V7, hV7⟩ : ∃ z : sv_V, z = sv_I V6 146 71 l3 := ⟨_, rfl⟩
  have h := sx_letE hV7 h
  refine sv_putI (pc := 26) hG dX12_settle_26 f_12_457 lay_146 rfl hV7 ?_
  refine sx_aload_n (pc := 29) dX12_settle_29 sx_m0 ?_
  refine sx_iload_n (pc := 30) dX12_settle_30 sx_m1 ?_
  refine sx_bipush (pc := 31) (v := 16) dX12_settle_31 (by decide) ?_
  refine sx_iand (pc := 33) dX12_settle_33 ?_
  refine sx_if_eq (pc := 34) (tgt := 41) dX12_settle_34 (by decide) (fun c8 => ?_) (fun c8 => ?_)
  · have h := sx_pos c8 h
    refine sx_aload_n (pc := 41) dX12_settle_41 sx_m0 ?_
    refine sv_getI (pc := 42) hG dX12_settle_42 f_12_451 lay_146 rfl ?_
    obtain ⟨V9, hV9⟩ : ∃ z : sv_V, z = sv_I V7 146 69 (V7.1 146 69) := ⟨_, rfl⟩
    have h := sx_letE hV9 h
    refine sv_putI (pc := 45) hG dX12_settle_45 f_12_451 lay_146 rfl hV9 ?_
    exact sv_vret (pc := 48) dX12_settle_48 rfl h hP
  · have h := sx_neg c8 h
    refine sx_iload_n (pc := 37) dX12_settle_37 sx_m3 ?_
    refine sx_goto (pc := 38) (tgt := 45) dX12_settle_38 (by decide) ?_
    obtain ⟨V10, hV10⟩ : ∃ z : sv_V, z = sv_I V7 146 69 l3 := ⟨_, rfl⟩
    have h := sx_letE hV10 h
    refine sv_putI (pc := 45) hG dX12_settle_45 f_12_451 lay_146 rfl hV10 ?_
    exact sv_vret (pc := 48) dX12_settle_48 rfl h hP
theorem dX12_deltas_0 : decode cX12_deltas 0 = .ok (.aload_n 0, 1) := by decide +kernel
theorem dX12_deltas_1 : decode cX12_deltas 1 = .ok (.iconst 1, 1) := by decide +kernel
theorem dX12_deltas_2 : decode cX12_deltas 2 = .ok (.invokevirtual 576, 3) := by decide +kernel
theorem dX12_deltas_5 : decode cX12_deltas 5 = .ok (.ifCond .ne 4, 3) := by decide +kernel
theorem dX12_deltas_8 : decode cX12_deltas 8 = .ok (.return_, 1) := by decide +kernel
theorem dX12_deltas_9 : decode cX12_deltas 9 = .ok (.aload_n 0, 1) := by decide +kernel
theorem dX12_deltas_10 : decode cX12_deltas 10 = .ok (.invokevirtual 579, 3) := by decide +kernel
theorem dX12_deltas_13 : decode cX12_deltas 13 = .ok (.istore_n 3, 1) := by decide +kernel
theorem dX12_deltas_14 : decode cX12_deltas 14 = .ok (.iload_n 3, 1) := by decide +kernel
theorem dX12_deltas_15 : decode cX12_deltas 15 = .ok (.ifCond .ge 10, 3) := by decide +kernel
theorem dX12_deltas_18 : decode cX12_deltas 18 = .ok (.aload_n 0, 1) := by decide +kernel
theorem dX12_deltas_19 : decode cX12_deltas 19 = .ok (.bipush 11, 2) := by decide +kernel
theorem dX12_deltas_21 : decode cX12_deltas 21 = .ok (.invokevirtual 421, 3) := by decide +kernel
theorem dX12_deltas_24 : decode cX12_deltas 24 = .ok (.return_, 1) := by decide +kernel
theorem dX12_deltas_25 : decode cX12_deltas 25 = .ok (.iload_n 3, 1) := by decide +kernel
theorem dX12_deltas_26 : decode cX12_deltas 26 = .ok (.sipush 128, 3) := by decide +kernel
theorem dX12_deltas_29 : decode cX12_deltas 29 = .ok (.if_icmp .gt 13, 3) := by decide +kernel
theorem dX12_deltas_32 : decode cX12_deltas 32 = .ok (.aload_n 0, 1) := by decide +kernel
theorem dX12_deltas_33 : decode cX12_deltas 33 = .ok (.getfield 418, 3) := by decide +kernel
theorem dX12_deltas_36 : decode cX12_deltas 36 = .ok (.iconst 2, 1) := by decide +kernel
theorem dX12_deltas_37 : decode cX12_deltas 37 = .ok (.iload_n 3, 1) := by decide +kernel
theorem dX12_deltas_38 : decode cX12_deltas 38 = .ok (.imul, 1) := by decide +kernel
theorem dX12_deltas_39 : decode cX12_deltas 39 = .ok (.if_icmp .ge 9, 3) := by decide +kernel
theorem dX12_deltas_42 : decode cX12_deltas 42 = .ok (.aload_n 0, 1) := by decide +kernel
theorem dX12_deltas_43 : decode cX12_deltas 43 = .ok (.iconst 1, 1) := by decide +kernel
theorem dX12_deltas_44 : decode cX12_deltas 44 = .ok (.invokevirtual 421, 3) := by decide +kernel
theorem dX12_deltas_47 : decode cX12_deltas 47 = .ok (.return_, 1) := by decide +kernel
theorem dX12_deltas_48 : decode cX12_deltas 48 = .ok (.iconst 0, 1) := by decide +kernel
theorem dX12_deltas_49 : decode cX12_deltas 49 = .ok (.istore 4, 2) := by decide +kernel
theorem dX12_deltas_51 : decode cX12_deltas 51 = .ok (.iload 4, 2) := by decide +kernel
theorem dX12_deltas_53 : decode cX12_deltas 53 = .ok (.iload_n 3, 1) := by decide +kernel
theorem dX12_deltas_54 : decode cX12_deltas 54 = .ok (.if_icmp .ge 155, 3) := by decide +kernel
theorem dX12_deltas_57 : decode cX12_deltas 57 = .ok (.aload_n 0, 1) := by decide +kernel
theorem dX12_deltas_58 : decode cX12_deltas 58 = .ok (.getfield 409, 3) := by decide +kernel
theorem dX12_deltas_61 : decode cX12_deltas 61 = .ok (.ifCond .ne 148, 3) := by decide +kernel
theorem dX12_deltas_64 : decode cX12_deltas 64 = .ok (.aload_n 0, 1) := by decide +kernel
theorem dX12_deltas_65 : decode cX12_deltas 65 = .ok (.invokevirtual 579, 3) := by decide +kernel
theorem dX12_deltas_68 : decode cX12_deltas 68 = .ok (.istore 5, 2) := by decide +kernel
theorem dX12_deltas_70 : decode cX12_deltas 70 = .ok (.aload_n 0, 1) := by decide +kernel
theorem dX12_deltas_71 : decode cX12_deltas 71 = .ok (.invokevirtual 579, 3) := by decide +kernel
theorem dX12_deltas_74 : decode cX12_deltas 74 = .ok (.istore 6, 2) := by decide +kernel
theorem dX12_deltas_76 : decode cX12_deltas 76 = .ok (.aload_n 0, 1) := by decide +kernel
theorem dX12_deltas_77 : decode cX12_deltas 77 = .ok (.getfield 621, 3) := by decide +kernel
theorem dX12_deltas_80 : decode cX12_deltas 80 = .ok (.aload_n 0, 1) := by decide +kernel
theorem dX12_deltas_81 : decode cX12_deltas 81 = .ok (.getfield 700, 3) := by decide +kernel
theorem dX12_deltas_84 : decode cX12_deltas 84 = .ok (.iload 6, 2) := by decide +kernel
theorem dX12_deltas_86 : decode cX12_deltas 86 = .ok (.iconst 4, 1) := by decide +kernel
theorem dX12_deltas_87 : decode cX12_deltas 87 = .ok (.ishr, 1) := by decide +kernel
theorem dX12_deltas_88 : decode cX12_deltas 88 = .ok (.bipush 15, 2) := by decide +kernel
theorem dX12_deltas_90 : decode cX12_deltas 90 = .ok (.iand, 1) := by decide +kernel
theorem dX12_deltas_91 : decode cX12_deltas 91 = .ok (.iadd, 1) := by decide +kernel
theorem dX12_deltas_92 : decode cX12_deltas 92 = .ok (.iload_n 1, 1) := by decide +kernel
theorem dX12_deltas_93 : decode cX12_deltas 93 = .ok (.iadd, 1) := by decide +kernel
theorem dX12_deltas_94 : decode cX12_deltas 94 = .ok (.if_icmp .eq 6, 3) := by decide +kernel
theorem dX12_deltas_97 : decode cX12_deltas 97 = .ok (.goto 106, 3) := by decide +kernel
theorem dX12_deltas_100 : decode cX12_deltas 100 = .ok (.iload 6, 2) := by decide +kernel
theorem dX12_deltas_102 : decode cX12_deltas 102 = .ok (.bipush 15, 2) := by decide +kernel
theorem dX12_deltas_104 : decode cX12_deltas 104 = .ok (.iand, 1) := by decide +kernel
theorem dX12_deltas_105 : decode cX12_deltas 105 = .ok (.iload 6, 2) := by decide +kernel
theorem dX12_deltas_107 : decode cX12_deltas 107 = .ok (.bipush 15, 2) := by decide +kernel
theorem dX12_deltas_109 : decode cX12_deltas 109 = .ok (.iand, 1) := by decide +kernel
theorem dX12_deltas_110 : decode cX12_deltas 110 = .ok (.bipush 8, 2) := by decide +kernel
theorem dX12_deltas_112 : decode cX12_deltas 112 = .ok (.if_icmp .lt 8, 3) := by decide +kernel
theorem dX12_deltas_115 : decode cX12_deltas 115 = .ok (.bipush 7, 2) := by decide +kernel
theorem dX12_deltas_117 : decode cX12_deltas 117 = .ok (.goto 5, 3) := by decide +kernel
theorem dX12_deltas_120 : decode cX12_deltas 120 = .ok (.bipush 8, 2) := by decide +kernel
theorem dX12_deltas_122 : decode cX12_deltas 122 = .ok (.isub, 1) := by decide +kernel
theorem dX12_deltas_123 : decode cX12_deltas 123 = .ok (.i2l, 1) := by decide +kernel
theorem dX12_deltas_124 : decode cX12_deltas 124 = .ok (.lstore 7, 2) := by decide +kernel
theorem dX12_deltas_126 : decode cX12_deltas 126 = .ok (.lload 7, 2) := by decide +kernel
theorem dX12_deltas_128 : decode cX12_deltas 128 = .ok (.lconst 1, 1) := by decide +kernel
theorem dX12_deltas_129 : decode cX12_deltas 129 = .ok (.bipush 6, 2) := by decide +kernel
theorem dX12_deltas_131 : decode cX12_deltas 131 = .ok (.aload_n 0, 1) := by decide +kernel
theorem dX12_deltas_132 : decode cX12_deltas 132 = .ok (.getfield 703, 3) := by decide +kernel
theorem dX12_deltas_135 : decode cX12_deltas 135 = .ok (.isub, 1) := by decide +kernel
theorem dX12_deltas_136 : decode cX12_deltas 136 = .ok (.lshl, 1) := by decide +kernel
theorem dX12_deltas_137 : decode cX12_deltas 137 = .ok (.lmul, 1) := by decide +kernel
theorem dX12_deltas_138 : decode cX12_deltas 138 = .ok (.lstore 7, 2) := by decide +kernel
theorem dX12_deltas_140 : decode cX12_deltas 140 = .ok (.iload_n 2, 1) := by decide +kernel
theorem dX12_deltas_141 : decode cX12_deltas 141 = .ok (.ifCond .eq 33, 3) := by decide +kernel
theorem dX12_deltas_144 : decode cX12_deltas 144 = .ok (.aload_n 0, 1) := by decide +kernel
theorem dX12_deltas_145 : decode cX12_deltas 145 = .ok (.aload_n 0, 1) := by decide +kernel
theorem dX12_deltas_146 : decode cX12_deltas 146 = .ok (.getfield 460, 3) := by decide +kernel
theorem dX12_deltas_149 : decode cX12_deltas 149 = .ok (.iload 5, 2) := by decide +kernel
theorem dX12_deltas_151 : decode cX12_deltas 151 = .ok (.invokevirtual 582, 3) := by decide +kernel
theorem dX12_deltas_154 : decode cX12_deltas 154 = .ok (.istore 9, 2) := by decide +kernel
theorem dX12_deltas_156 : decode cX12_deltas 156 = .ok (.aload_n 0, 1) := by decide +kernel
theorem dX12_deltas_157 : decode cX12_deltas 157 = .ok (.getfield 409, 3) := by decide +kernel
theorem dX12_deltas_160 : decode cX12_deltas 160 = .ok (.ifCond .ne 11, 3) := by decide +kernel
theorem dX12_deltas_163 : decode cX12_deltas 163 = .ok (.aload_n 0, 1) := by decide +kernel
theorem dX12_deltas_164 : decode cX12_deltas 164 = .ok (.iload 9, 2) := by decide +kernel
theorem dX12_deltas_166 : decode cX12_deltas 166 = .ok (.lload 7, 2) := by decide +kernel
theorem dX12_deltas_168 : decode cX12_deltas 168 = .ok (.invokevirtual 630, 3) := by decide +kernel
theorem dX12_deltas_171 : decode cX12_deltas 171 = .ok (.goto 32, 3) := by decide +kernel
theorem dX12_deltas_174 : decode cX12_deltas 174 = .ok (.aload_n 0, 1) := by decide +kernel
theorem dX12_deltas_175 : decode cX12_deltas 175 = .ok (.iload 5, 2) := by decide +kernel
theorem dX12_deltas_177 : decode cX12_deltas 177 = .ok (.invokevirtual 677, 3) := by decide +kernel
theorem dX12_deltas_180 : decode cX12_deltas 180 = .ok (.istore 9, 2) := by decide +kernel
theorem dX12_deltas_182 : decode cX12_deltas 182 = .ok (.aload_n 0, 1) := by decide +kernel
theorem dX12_deltas_183 : decode cX12_deltas 183 = .ok (.getfield 409, 3) := by decide +kernel
theorem dX12_deltas_186 : decode cX12_deltas 186 = .ok (.ifCond .ne 17, 3) := by decide +kernel
theorem dX12_deltas_189 : decode cX12_deltas 189 = .ok (.aload_n 0, 1) := by decide +kernel
theorem dX12_deltas_190 : decode cX12_deltas 190 = .ok (.getfield 64, 3) := by decide +kernel
theorem dX12_deltas_193 : decode cX12_deltas 193 = .ok (.iload 5, 2) := by decide +kernel
theorem dX12_deltas_195 : decode cX12_deltas 195 = .ok (.iload 9, 2) := by decide +kernel
theorem dX12_deltas_197 : decode cX12_deltas 197 = .ok (.i2l, 1) := by decide +kernel
theorem dX12_deltas_198 : decode cX12_deltas 198 = .ok (.lload 7, 2) := by decide +kernel
theorem dX12_deltas_200 : decode cX12_deltas 200 = .ok (.ladd, 1) := by decide +kernel
theorem dX12_deltas_201 : decode cX12_deltas 201 = .ok (.l2i, 1) := by decide +kernel
theorem dX12_deltas_202 : decode cX12_deltas 202 = .ok (.iastore, 1) := by decide +kernel
theorem dX12_deltas_203 : decode cX12_deltas 203 = .ok (.iinc 4 1, 3) := by decide +kernel
theorem dX12_deltas_206 : decode cX12_deltas 206 = .ok (.goto (-155), 3) := by decide +kernel
theorem dX12_deltas_209 : decode cX12_deltas 209 = .ok (.return_, 1) := by decide +kernel
def B_X12_deltas_42 (N : Nat)   (V : sv_V) : Option sv_V := (F_X12_fail (1 : Int32) V).bind (fun V1 => some V1)
set_option maxRecDepth 20000 in
theorem tB_X12_deltas_42 {g : sx_G} (hG : sx_Go g) {P : Option Value → sv_V → Prop} {Vr : sv_V} (hP : P none Vr) {N : Nat}    {V : sv_V} (h : B_X12_deltas_42 N   V = some Vr) : sv_N g qX12_deltas 5 42 [(0, .ref 146)] [] V P := by
  unfold B_X12_deltas_42 at h
  refine sx_aload_n (pc := 42) dX12_deltas_42 sx_m0 ?_
  refine sx_iconst (pc := 43) (v := 1) dX12_deltas_43 (by decide) ?_
  obtain ⟨V1, g2, h⟩ := sx_bnd h
  refine sv_cV (pc := 44) (y := qX12_fail) (o := none) (as := [.int (1 : Int32)]) (V1 := V1) hG dX12_deltas_44 l_X12_421 y0X12_fail yvX12_fail rfl (Nat.le_of_ble_eq_true rfl) lay_146 kr_12 (by decide) (Nat.le_of_ble_eq_true rfl) rfl rfl rfl (t_X12_fail hG ⟨rfl, rfl⟩ g2) ?_
  exact sv_vret (pc := 47) dX12_deltas_47 rfl h hP
def B_X12_deltas_203 (N : Nat) (k51 : Int32 → Int32 → Int32 → Int32 → sv_V → Option sv_V) (l1 : Int32) (l2 : Int32) (l3 : Int32) (l4 : Int32) (V : sv_V) : Option sv_V := sx_let (l4 + 1) (fun x3 => k51 l1 l2 l3 x3 V)
set_option maxRecDepth 20000 in
theorem tB_X12_deltas_203 {g : sx_G} (hG : sx_Go g) {P : Option Value → sv_V → Prop} {Vr : sv_V} (hP : P none Vr) {N : Nat} {k51 : Int32 → Int32 → Int32 → Int32 → sv_V → Option sv_V} (hk51 : ∀ (l1 : Int32) (l2 : Int32) (l3 : Int32) (l4 : Int32) (V : sv_V), k51 l1 l2 l3 l4 V = some Vr → sv_N g qX12_deltas 5 51 [(0, .ref 146), (1, .int l1), (2, .int l2), (3, .int l3), (4, .int l4)] [] V P) {l1 : Int32} {l2 : Int32} {l3 : Int32} {l4 : Int32} {V : sv_V} (h : B_X12_deltas_203 N k51 l1 l2 l3 l4 V = some Vr) : sv_N g qX12_deltas 5 203 [(0, .ref 146), (1, .int l1), (2, .int l2), (3, .int l3), (4, .int l4)] [] V P := by
  unfold B_X12_deltas_203 at h
  obtain ⟨x3, hx3⟩ : ∃ z : Int32, z = l4 + 1 := ⟨_, rfl⟩
  have h := sx_letE hx3 h
  refine sx_iinc (pc := 203) (v := x3) (lo' := [(4, .int x3), (0, .ref 146), (1, .int l1), (2, .int l2), (3, .int l3)]) dX12_deltas_203 sx_m4 (by rw [hx3]; rfl) (by decide) rfl ?_
  refine sx_goto (pc := 206) (tgt := 51) dX12_deltas_206 (by decide) ?_
  refine sx_wk (sx_s1 sx_m1 (sx_s1 sx_m2 (sx_s1 sx_m3 (sx_s1 sx_m4 (sx_s1 sx_m0 sx_s0))))) ?_
  exact hk51 _ _ _ _ _ h
def B_X12_deltas_171 (N : Nat) (k51 : Int32 → Int32 → Int32 → Int32 → sv_V → Option sv_V) (l1 : Int32) (l2 : Int32) (l3 : Int32) (l4 : Int32) (V : sv_V) : Option sv_V := B_X12_deltas_203 N k51 l1 l2 l3 l4 V
set_option maxRecDepth 20000 in
theorem tB_X12_deltas_171 {g : sx_G} (hG : sx_Go g) {P : Option Value → sv_V → Prop} {Vr : sv_V} (hP : P none Vr) {N : Nat} {k51 : Int32 → Int32 → Int32 → Int32 → sv_V → Option sv_V} (hk51 : ∀ (l1 : Int32) (l2 : Int32) (l3 : Int32) (l4 : Int32) (V : sv_V), k51 l1 l2 l3 l4 V = some Vr → sv_N g qX12_deltas 5 51 [(0, .ref 146), (1, .int l1), (2, .int l2), (3, .int l3), (4, .int l4)] [] V P) {l1 : Int32} {l2 : Int32} {l3 : Int32} {l4 : Int32} {V : sv_V} (h : B_X12_deltas_171 N k51 l1 l2 l3 l4 V = some Vr) : sv_N g qX12_deltas 5 171 [(0, .ref 146), (1, .int l1), (2, .int l2), (3, .int l3), (4, .int l4)] [] V P := by
  unfold B_X12_deltas_171 at h
  refine sx_goto (pc := 171) (tgt := 203) dX12_deltas_171 (by decide) ?_
  refine sx_wk (sx_s1 sx_m0 (sx_s1 sx_m1 (sx_s1 sx_m2 (sx_s1 sx_m3 (sx_s1 sx_m4 sx_s0))))) ?_
  exact tB_X12_deltas_203 hG hP hk51 h
def B_X12_deltas_122 (N : Nat) (k51 : Int32 → Int32 → Int32 → Int32 → sv_V → Option sv_V) (l1 : Int32) (l2 : Int32) (l3 : Int32) (l4 : Int32) (l5 : Int32) (s0 : Int32) (s1 : Int32) (V : sv_V) : Option sv_V := sx_let ((s0 - s1).toInt64) (fun x4 => sx_let (x4 * ((1 : Int64) <<< (((6 : Int32) - (V.1 146 86)).toInt64 &&& 63))) (fun x5 => if l2 = 0 then ((F_X12_cvtOf l5 V).bind (fun (x9, V7) => if (V7.1 146 59) = 0 then (if sx_in l5 256 = true then sx_let (sv_I V7 164 l5.toNatClampNeg ((x9.toInt64 + x5).toInt32)) (fun V12 => B_X12_deltas_203 N k51 l1 l2 l3 l4 V12) else none) else (B_X12_deltas_203 N k51 l1 l2 l3 l4 V7))) else ((F_X12_pointOf (V.1 146 72) l5 V).bind (fun (x15, V13) => if (V13.1 146 59) = 0 then ((F_X12_move x15 x5 V13).bind (fun V17 => B_X12_deltas_171 N k51 l1 l2 l3 l4 V17)) else (B_X12_deltas_171 N k51 l1 l2 l3 l4 V13)))))
set_option maxRecDepth 20000 in
theorem tB_X12_deltas_122 {g : sx_G} (hG : sx_Go g) {P : Option Value → sv_V → Prop} {Vr : sv_V} (hP : P none Vr) {N : Nat} {k51 : Int32 → Int32 → Int32 → Int32 → sv_V → Option sv_V} (hk51 : ∀ (l1 : Int32) (l2 : Int32) (l3 : Int32) (l4 : Int32) (V : sv_V), k51 l1 l2 l3 l4 V = some Vr → sv_N g qX12_deltas 5 51 [(0, .ref 146), (1, .int l1), (2, .int l2), (3, .int l3), (4, .int l4)] [] V P) {l1 : Int32} {l2 : Int32} {l3 : Int32} {l4 : Int32} {l5 : Int32} {s0 : Int32} {s1 : Int32} {V : sv_V} (h : B_X12_deltas_122 N k51 l1 l2 l3 l4 l5 s0 s1 V = some Vr) : sv_N g qX12_deltas 5 122 [(0, .ref 146), (1, .int l1), (2, .int l2), (3, .int l3), (4, .int l4), (5, .int l5)] [.int s1, .int s0] V P := by
  unfold B_X12_deltas_122 at h
  refine sx_isub (pc := 122) dX12_deltas_122 ?_
  refine sx_i2l (pc := 123) dX12_deltas_123 ?_
  refine sv_tJ (fun x4 hx4 => ?_)
  have h := sx_letE hx4 h
  refine sx_lstore (pc := 124) (lo' := [(7, .long x4), (0, .ref 146), (1, .int l1), (2, .int l2), (3, .int l3), (4, .int l4), (5, .int l5)]) dX12_deltas_124 (by decide) rfl ?_
  refine sx_lload (pc := 126) dX12_deltas_126 sx_m0 ?_
  refine sx_lconst (pc := 128) (v := 1) dX12_deltas_128 rfl ?_
  refine sx_bipush (pc := 129) (v := 6) dX12_deltas_129 (by decide) ?_
  refine sx_aload_n (pc := 131) dX12_deltas_131 sx_m1 ?_
  refine sv_getI (pc := 132) hG dX12_deltas_132 f_12_703 lay_146 rfl ?_
  refine sx_isub (pc := 135) dX12_deltas_135 ?_
  refine sx_lshl (pc := 136) dX12_deltas_136 ?_
  refine sx_lmul (pc := 137) dX12_deltas_137 ?_
  refine sv_tJ (fun x5 hx5 => ?_)
  have h := sx_letE hx5 h
  refine sx_lstore (pc := 138) (lo' := [(7, .long x5), (0, .ref 146), (1, .int l1), (2, .int l2), (3, .int l3), (4, .int l4), (5, .int l5)]) dX12_deltas_138 (by decide) rfl ?_
  refine sx_iload_n (pc := 140) dX12_deltas_140 sx_m3 ?_
  refine sx_if_eq (pc := 141) (tgt := 174) dX12_deltas_141 (by decide) (fun c6 => ?_) (fun c6 => ?_)
  · have h := sx_pos c6 h
    refine sx_aload_n (pc := 174) dX12_deltas_174 sx_m1 ?_
    refine sx_iload (pc := 175) dX12_deltas_175 sx_m6 ?_
    obtain ⟨⟨x9, V7⟩, g8, h⟩ := sx_bnd h
    refine sv_cV (pc := 177) (y := qX12_cvtOf) (o := (some (.int x9))) (as := [.int l5]) (V1 := V7) hG dX12_deltas_177 l_X12_677 y0X12_cvtOf yvX12_cvtOf rfl (Nat.le_of_ble_eq_true rfl) lay_146 kr_12 (by decide) (Nat.le_of_ble_eq_true rfl) rfl rfl rfl (t_X12_cvtOf hG ⟨rfl, rfl⟩ g8) ?_
    refine sx_istore (pc := 180) (lo' := [(9, .int x9), (7, .long x5), (0, .ref 146), (1, .int l1), (2, .int l2), (3, .int l3), (4, .int l4), (5, .int l5)]) dX12_deltas_180 (by decide) rfl ?_
    refine sx_aload_n (pc := 182) dX12_deltas_182 sx_m2 ?_
    refine sv_getI (pc := 183) hG dX12_deltas_183 f_12_409 lay_146 rfl ?_
    refine sx_if_ne (pc := 186) (tgt := 203) dX12_deltas_186 (by decide) (fun c10 => ?_) (fun c10 => ?_)
    · have h := sx_neg c10 h
      refine sx_wk (sx_s1 sx_m2 (sx_s1 sx_m3 (sx_s1 sx_m4 (sx_s1 sx_m5 (sx_s1 sx_m6 sx_s0))))) ?_
      exact tB_X12_deltas_203 hG hP hk51 h
    · have h := sx_pos c10 h
      refine sx_aload_n (pc := 189) dX12_deltas_189 sx_m2 ?_
      refine sv_getA (pc := 190) hG dX12_deltas_190 f_12_64 lay_146 rfl cr_146_44 ?_
      refine sx_iload (pc := 193) dX12_deltas_193 sx_m7 ?_
      refine sx_iload (pc := 195) dX12_deltas_195 sx_m0 ?_
      refine sx_i2l (pc := 197) dX12_deltas_197 ?_
      refine sx_lload (pc := 198) dX12_deltas_198 sx_m1 ?_
      refine sx_ladd (pc := 200) dX12_deltas_200 ?_
      refine sx_l2i (pc := 201) dX12_deltas_201 ?_
      obtain ⟨g11, h⟩ := sx_grd h
      obtain ⟨V12, hV12⟩ : ∃ z : sv_V, z = sv_I V7 164 l5.toNatClampNeg ((x9.toInt64 + x5).toInt32) := ⟨_, rfl⟩
      have h := sx_letE hV12 h
      refine sv_iast (pc := 202) hG dX12_deltas_202 lay_164 g11 hV12 ?_
      refine sx_wk (sx_s1 sx_m2 (sx_s1 sx_m3 (sx_s1 sx_m4 (sx_s1 sx_m5 (sx_s1 sx_m6 sx_s0))))) ?_
      exact tB_X12_deltas_203 hG hP hk51 h
  · have h := sx_neg c6 h
    refine sx_aload_n (pc := 144) dX12_deltas_144 sx_m1 ?_
    refine sx_aload_n (pc := 145) dX12_deltas_145 sx_m1 ?_
    refine sv_getI (pc := 146) hG dX12_deltas_146 f_12_460 lay_146 rfl ?_
    refine sx_iload (pc := 149) dX12_deltas_149 sx_m6 ?_
    obtain ⟨⟨x15, V13⟩, g14, h⟩ := sx_bnd h
    refine sv_cV (pc := 151) (y := qX12_pointOf) (o := (some (.int x15))) (as := [.int (V.1 146 72), .int l5]) (V1 := V13) hG dX12_deltas_151 l_X12_582 y0X12_pointOf yvX12_pointOf rfl (Nat.le_of_ble_eq_true rfl) lay_146 kr_12 (by decide) (Nat.le_of_ble_eq_true rfl) rfl rfl rfl (t_X12_pointOf hG ⟨rfl, rfl⟩ g14) ?_
    refine sx_istore (pc := 154) (lo' := [(9, .int x15), (7, .long x5), (0, .ref 146), (1, .int l1), (2, .int l2), (3, .int l3), (4, .int l4), (5, .int l5)]) dX12_deltas_154 (by decide) rfl ?_
    refine sx_aload_n (pc := 156) dX12_deltas_156 sx_m2 ?_
    refine sv_getI (pc := 157) hG dX12_deltas_157 f_12_409 lay_146 rfl ?_
    refine sx_if_ne (pc := 160) (tgt := 171) dX12_deltas_160 (by decide) (fun c16 => ?_) (fun c16 => ?_)
    · have h := sx_neg c16 h
      refine sx_wk (sx_s1 sx_m2 (sx_s1 sx_m3 (sx_s1 sx_m4 (sx_s1 sx_m5 (sx_s1 sx_m6 sx_s0))))) ?_
      exact tB_X12_deltas_171 hG hP hk51 h
    · have h := sx_pos c16 h
      refine sx_aload_n (pc := 163) dX12_deltas_163 sx_m2 ?_
      refine sx_iload (pc := 164) dX12_deltas_164 sx_m0 ?_
      refine sx_lload (pc := 166) dX12_deltas_166 sx_m1 ?_
      obtain ⟨V17, g18, h⟩ := sx_bnd h
      refine sv_cV (pc := 168) (y := qX12_move) (o := none) (as := [.int x15, .long x5]) (V1 := V17) hG dX12_deltas_168 l_X12_630 y0X12_move yvX12_move rfl (Nat.le_of_ble_eq_true rfl) lay_146 kr_12 (by decide) (Nat.le_of_ble_eq_true rfl) rfl rfl rfl (t_X12_move hG ⟨rfl, rfl⟩ g18) ?_
      refine sx_wk (sx_s1 sx_m2 (sx_s1 sx_m3 (sx_s1 sx_m4 (sx_s1 sx_m5 (sx_s1 sx_m6 sx_s0))))) ?_
      exact tB_X12_deltas_171 hG hP hk51 h
def B_X12_deltas_51 (N : Nat) (k51 : Int32 → Int32 → Int32 → Int32 → sv_V → Option sv_V) (l1 : Int32) (l2 : Int32) (l3 : Int32) (l4 : Int32) (V : sv_V) : Option sv_V := if l3 ≤ l4 then (some V) else (if (V.1 146 59) = 0 then ((F_X12_pop  V).bind (fun (x23, V21) => (F_X12_pop  V21).bind (fun (x26, V24) => if (V24.1 146 62) = (((V24.1 146 85) + ((x26 >>> ((4 : Int32) &&& 31)) &&& (15 : Int32))) + l1) then (if (x26 &&& (15 : Int32)) < (8 : Int32) then (B_X12_deltas_122 N k51 l1 l2 l3 l4 x23 (x26 &&& (15 : Int32)) (8 : Int32) V24) else (B_X12_deltas_122 N k51 l1 l2 l3 l4 x23 (x26 &&& (15 : Int32)) (7 : Int32) V24)) else (B_X12_deltas_203 N k51 l1 l2 l3 l4 V24)))) else (some V))
set_option maxRecDepth 20000 in
theorem tB_X12_deltas_51 {g : sx_G} (hG : sx_Go g) {P : Option Value → sv_V → Prop} {Vr : sv_V} (hP : P none Vr) {N : Nat} {k51 : Int32 → Int32 → Int32 → Int32 → sv_V → Option sv_V} (hk51 : ∀ (l1 : Int32) (l2 : Int32) (l3 : Int32) (l4 : Int32) (V : sv_V), k51 l1 l2 l3 l4 V = some Vr → sv_N g qX12_deltas 5 51 [(0, .ref 146), (1, .int l1), (2, .int l2), (3, .int l3), (4, .int l4)] [] V P) {l1 : Int32} {l2 : Int32} {l3 : Int32} {l4 : Int32} {V : sv_V} (h : B_X12_deltas_51 N k51 l1 l2 l3 l4 V = some Vr) : sv_N g qX12_deltas 5 51 [(0, .ref 146), (1, .int l1), (2, .int l2), (3, .int l3), (4, .int l4)] [] V P := by
  unfold B_X12_deltas_51 at h
  refine sx_iload (pc := 51) dX12_deltas_51 sx_m4 ?_
  refine sx_iload_n (pc := 53) dX12_deltas_53 sx_m3 ?_
  refine sx_icmp_ge (pc := 54) (tgt := 209) dX12_deltas_54 (by decide) (fun c19 => ?_) (fun c19 => ?_)
  · have h := sx_pos c19 h
    exact sv_vret (pc := 209) dX12_deltas_209 rfl h hP
  · have h := sx_neg c19 h
    refine sx_aload_n (pc := 57) dX12_deltas_57 sx_m0 ?_
    refine sv_getI (pc := 58) hG dX12_deltas_58 f_12_409 lay_146 rfl ?_
    refine sx_if_ne (pc := 61) (tgt := 209) dX12_deltas_61 (by decide) (fun c20 => ?_) (fun c20 => ?_)
    · have h := sx_neg c20 h
      exact sv_vret (pc := 209) dX12_deltas_209 rfl h hP
    · have h := sx_pos c20 h
      refine sx_aload_n (pc := 64) dX12_deltas_64 sx_m0 ?_
      obtain ⟨⟨x23, V21⟩, g22, h⟩ := sx_bnd h
      refine sv_cV (pc := 65) (y := qX12_pop) (o := (some (.int x23))) (as := []) (V1 := V21) hG dX12_deltas_65 l_X12_579 y0X12_pop yvX12_pop rfl (Nat.le_of_ble_eq_true rfl) lay_146 kr_12 (by decide) (Nat.le_of_ble_eq_true rfl) rfl rfl rfl (t_X12_pop hG ⟨rfl, rfl⟩ g22) ?_
      refine sx_istore (pc := 68) (lo' := [(5, .int x23), (0, .ref 146), (1, .int l1), (2, .int l2), (3, .int l3), (4, .int l4)]) dX12_deltas_68 (by decide) rfl ?_
      refine sx_aload_n (pc := 70) dX12_deltas_70 sx_m1 ?_
      obtain ⟨⟨x26, V24⟩, g25, h⟩ := sx_bnd h
      refine sv_cV (pc := 71) (y := qX12_pop) (o := (some (.int x26))) (as := []) (V1 := V24) hG dX12_deltas_71 l_X12_579 y0X12_pop yvX12_pop rfl (Nat.le_of_ble_eq_true rfl) lay_146 kr_12 (by decide) (Nat.le_of_ble_eq_true rfl) rfl rfl rfl (t_X12_pop hG ⟨rfl, rfl⟩ g25) ?_
      refine sx_istore (pc := 74) (lo' := [(6, .int x26), (5, .int x23), (0, .ref 146), (1, .int l1), (2, .int l2), (3, .int l3), (4, .int l4)]) dX12_deltas_74 (by decide) rfl ?_
      refine sx_aload_n (pc := 76) dX12_deltas_76 sx_m2 ?_
      refine sv_getI (pc := 77) hG dX12_deltas_77 f_12_621 lay_146 rfl ?_
      refine sx_aload_n (pc := 80) dX12_deltas_80 sx_m2 ?_
      refine sv_getI (pc := 81) hG dX12_deltas_81 f_12_700 lay_146 rfl ?_
      refine sx_iload (pc := 84) dX12_deltas_84 sx_m0 ?_
      refine sx_iconst (pc := 86) (v := 4) dX12_deltas_86 (by decide) ?_
      refine sx_ishr (pc := 87) dX12_deltas_87 ?_
      refine sx_bipush (pc := 88) (v := 15) dX12_deltas_88 (by decide) ?_
      refine sx_iand (pc := 90) dX12_deltas_90 ?_
      refine sx_iadd (pc := 91) dX12_deltas_91 ?_
      refine sx_iload_n (pc := 92) dX12_deltas_92 sx_m3 ?_
      refine sx_iadd (pc := 93) dX12_deltas_93 ?_
      refine sx_icmp_eq (pc := 94) (tgt := 100) dX12_deltas_94 (by decide) (fun c27 => ?_) (fun c27 => ?_)
      · have h := sx_pos c27 h
        refine sx_iload (pc := 100) dX12_deltas_100 sx_m0 ?_
        refine sx_bipush (pc := 102) (v := 15) dX12_deltas_102 (by decide) ?_
        refine sx_iand (pc := 104) dX12_deltas_104 ?_
        refine sx_iload (pc := 105) dX12_deltas_105 sx_m0 ?_
        refine sx_bipush (pc := 107) (v := 15) dX12_deltas_107 (by decide) ?_
        refine sx_iand (pc := 109) dX12_deltas_109 ?_
        refine sx_bipush (pc := 110) (v := 8) dX12_deltas_110 (by decide) ?_
        refine sx_icmp_lt (pc := 112) (tgt := 120) dX12_deltas_112 (by decide) (fun c28 => ?_) (fun c28 => ?_)
        · have h := sx_pos c28 h
          refine sx_bipush (pc := 120) (v := 8) dX12_deltas_120 (by decide) ?_
          refine sx_wk (sx_s1 sx_m2 (sx_s1 sx_m3 (sx_s1 sx_m4 (sx_s1 sx_m5 (sx_s1 sx_m6 (sx_s1 sx_m1 sx_s0)))))) ?_
          exact tB_X12_deltas_122 hG hP hk51 h
        · have h := sx_neg c28 h
          refine sx_bipush (pc := 115) (v := 7) dX12_deltas_115 (by decide) ?_
          refine sx_goto (pc := 117) (tgt := 122) dX12_deltas_117 (by decide) ?_
          refine sx_wk (sx_s1 sx_m2 (sx_s1 sx_m3 (sx_s1 sx_m4 (sx_s1 sx_m5 (sx_s1 sx_m6 (sx_s1 sx_m1 sx_s0)))))) ?_
          exact tB_X12_deltas_122 hG hP hk51 h
      · have h := sx_neg c27 h
        refine sx_goto (pc := 97) (tgt := 203) dX12_deltas_97 (by decide) ?_
        refine sx_wk (sx_s1 sx_m2 (sx_s1 sx_m3 (sx_s1 sx_m4 (sx_s1 sx_m5 (sx_s1 sx_m6 sx_s0))))) ?_
        exact tB_X12_deltas_203 hG hP hk51 h
theorem tL_X12_deltas_51 {g : sx_G} (hG : sx_Go g) {P : Option Value → sv_V → Prop} {Vr : sv_V} (hP : P none Vr) {N : Nat}   : ∀ (n : Nat) (l1 : Int32) (l2 : Int32) (l3 : Int32) (l4 : Int32) (V : sv_V), sx_lp5 (B_X12_deltas_51 N ) n l1 l2 l3 l4 V = some Vr → sv_N g qX12_deltas 5 51 [(0, .ref 146), (1, .int l1), (2, .int l2), (3, .int l3), (4, .int l4)] [] V P :=
  sx_lp5_ind (fun k0 ih _ _ _ _ V h => tB_X12_deltas_51 hG hP ih h)
def F_X12_deltas (N : Nat) (l1 : Int32) (l2 : Int32) (V : sv_V) : Option sv_V := (F_X12_has (1 : Int32) V).bind (fun (x31, V29) => if x31 = 0 then (some V29) else ((F_X12_pop  V29).bind (fun (x35, V33) => if 0 ≤ x35 then (if (128 : Int32) < x35 then (B_X12_deltas_42 N   V33) else (if ((2 : Int32) * x35) ≤ (V33.1 146 56) then (sx_lp5 (B_X12_deltas_51 N ) N l1 l2 x35 (0 : Int32) V33) else (B_X12_deltas_42 N   V33))) else ((F_X12_fail (11 : Int32) V33).bind (fun V39 => some V39)))))
set_option maxRecDepth 20000 in
theorem t_X12_deltas {g : sx_G} (hG : sx_Go g) {P : Option Value → sv_V → Prop} {Vr : sv_V} (hP : P none Vr) {N : Nat} {l1 : Int32} {l2 : Int32} {V : sv_V} (h : F_X12_deltas N l1 l2 V = some Vr) : sv_N g qX12_deltas 5 0 [(0, .ref 146), (1, .int l1), (2, .int l2)] [] V P := by
  unfold F_X12_deltas at h
  refine sx_aload_n (pc := 0) dX12_deltas_0 sx_m0 ?_
  refine sx_iconst (pc := 1) (v := 1) dX12_deltas_1 (by decide) ?_
  obtain ⟨⟨x31, V29⟩, g30, h⟩ := sx_bnd h
  refine sv_cV (pc := 2) (y := qX12_has) (o := (some (.int x31))) (as := [.int (1 : Int32)]) (V1 := V29) hG dX12_deltas_2 l_X12_576 y0X12_has yvX12_has rfl (Nat.le_of_ble_eq_true rfl) lay_146 kr_12 (by decide) (Nat.le_of_ble_eq_true rfl) rfl rfl rfl (t_X12_has hG ⟨rfl, rfl⟩ g30) ?_
  refine sx_if_ne (pc := 5) (tgt := 9) dX12_deltas_5 (by decide) (fun c32 => ?_) (fun c32 => ?_)
  · have h := sx_neg c32 h
    refine sx_aload_n (pc := 9) dX12_deltas_9 sx_m0 ?_
    obtain ⟨⟨x35, V33⟩, g34, h⟩ := sx_bnd h
    refine sv_cV (pc := 10) (y := qX12_pop) (o := (some (.int x35))) (as := []) (V1 := V33) hG dX12_deltas_10 l_X12_579 y0X12_pop yvX12_pop rfl (Nat.le_of_ble_eq_true rfl) lay_146 kr_12 (by decide) (Nat.le_of_ble_eq_true rfl) rfl rfl rfl (t_X12_pop hG ⟨rfl, rfl⟩ g34) ?_
    refine sx_istore_n (pc := 13) (lo' := [(3, .int x35), (0, .ref 146), (1, .int l1), (2, .int l2)]) dX12_deltas_13 (by decide) rfl ?_
    refine sx_iload_n (pc := 14) dX12_deltas_14 sx_m0 ?_
    refine sx_if_ge (pc := 15) (tgt := 25) dX12_deltas_15 (by decide) (fun c36 => ?_) (fun c36 => ?_)
    · have h := sx_pos c36 h
      refine sx_iload_n (pc := 25) dX12_deltas_25 sx_m0 ?_
      refine sx_sipush (pc := 26) (v := 128) dX12_deltas_26 (by decide) ?_
      refine sx_icmp_gt (pc := 29) (tgt := 42) dX12_deltas_29 (by decide) (fun c37 => ?_) (fun c37 => ?_)
      · have h := sx_pos c37 h
        refine sx_wk (sx_s1 sx_m1 sx_s0) ?_
        exact tB_X12_deltas_42 hG hP  h
      · have h := sx_neg c37 h
        refine sx_aload_n (pc := 32) dX12_deltas_32 sx_m1 ?_
        refine sv_getI (pc := 33) hG dX12_deltas_33 f_12_418 lay_146 rfl ?_
        refine sx_iconst (pc := 36) (v := 2) dX12_deltas_36 (by decide) ?_
        refine sx_iload_n (pc := 37) dX12_deltas_37 sx_m0 ?_
        refine sx_imul (pc := 38) dX12_deltas_38 ?_
        refine sx_icmp_ge (pc := 39) (tgt := 48) dX12_deltas_39 (by decide) (fun c38 => ?_) (fun c38 => ?_)
        · have h := sx_pos c38 h
          refine sx_iconst (pc := 48) (v := 0) dX12_deltas_48 (by decide) ?_
          refine sx_istore (pc := 49) (lo' := [(4, .int (0 : Int32)), (3, .int x35), (0, .ref 146), (1, .int l1), (2, .int l2)]) dX12_deltas_49 (by decide) rfl ?_
          refine sx_wk (sx_s1 sx_m2 (sx_s1 sx_m3 (sx_s1 sx_m4 (sx_s1 sx_m1 (sx_s1 sx_m0 sx_s0))))) ?_
          exact tL_X12_deltas_51 hG hP  N _ _ _ _ _ h
        · have h := sx_neg c38 h
          refine sx_wk (sx_s1 sx_m1 sx_s0) ?_
          exact tB_X12_deltas_42 hG hP  h
    · have h := sx_neg c36 h
      refine sx_aload_n (pc := 18) dX12_deltas_18 sx_m1 ?_
      refine sx_bipush (pc := 19) (v := 11) dX12_deltas_19 (by decide) ?_
      obtain ⟨V39, g40, h⟩ := sx_bnd h
      refine sv_cV (pc := 21) (y := qX12_fail) (o := none) (as := [.int (11 : Int32)]) (V1 := V39) hG dX12_deltas_21 l_X12_421 y0X12_fail yvX12_fail rfl (Nat.le_of_ble_eq_true rfl) lay_146 kr_12 (by decide) (Nat.le_of_ble_eq_true rfl) rfl rfl rfl (t_X12_fail hG ⟨rfl, rfl⟩ g40) ?_
      exact sv_vret (pc := 24) dX12_deltas_24 rfl h hP
  · have h := sx_pos c32 h
    exact sv_vret (pc := 8) dX12_deltas_8 rfl h hP
theorem dX12_glyph_0 : decode cX12_glyph 0 = .ok (.aload_n 0, 1) := by decide +kernel
theorem dX12_glyph_1 : decode cX12_glyph 1 = .ok (.getfield 759, 3) := by decide +kernel
theorem dX12_glyph_4 : decode cX12_glyph 4 = .ok (.ifCond .ne 6, 3) := by decide +kernel
theorem dX12_glyph_7 : decode cX12_glyph 7 = .ok (.bipush (-3), 2) := by decide +kernel
theorem dX12_glyph_9 : decode cX12_glyph 9 = .ok (.ireturn, 1) := by decide +kernel
theorem dX12_glyph_10 : decode cX12_glyph 10 = .ok (.iload_n 1, 1) := by decide +kernel
theorem dX12_glyph_11 : decode cX12_glyph 11 = .ok (.i2l, 1) := by decide +kernel
theorem dX12_glyph_12 : decode cX12_glyph 12 = .ok (.lconst 0, 1) := by decide +kernel
theorem dX12_glyph_13 : decode cX12_glyph 13 = .ok (.aload_n 0, 1) := by decide +kernel
theorem dX12_glyph_14 : decode cX12_glyph 14 = .ok (.getfield 260, 3) := by decide +kernel
theorem dX12_glyph_17 : decode cX12_glyph 17 = .ok (.iconst 1, 1) := by decide +kernel
theorem dX12_glyph_18 : decode cX12_glyph 18 = .ok (.isub, 1) := by decide +kernel
theorem dX12_glyph_19 : decode cX12_glyph 19 = .ok (.i2l, 1) := by decide +kernel
theorem dX12_glyph_20 : decode cX12_glyph 20 = .ok (.invokestatic 263, 3) := by decide +kernel
theorem dX12_glyph_23 : decode cX12_glyph 23 = .ok (.ifCond .ne 5, 3) := by decide +kernel
theorem dX12_glyph_26 : decode cX12_glyph 26 = .ok (.iconst (-1), 1) := by decide +kernel
theorem dX12_glyph_27 : decode cX12_glyph 27 = .ok (.ireturn, 1) := by decide +kernel
theorem dX12_glyph_28 : decode cX12_glyph 28 = .ok (.aload_n 0, 1) := by decide +kernel
theorem dX12_glyph_29 : decode cX12_glyph 29 = .ok (.iload_n 1, 1) := by decide +kernel
theorem dX12_glyph_30 : decode cX12_glyph 30 = .ok (.invokevirtual 278, 3) := by decide +kernel
theorem dX12_glyph_33 : decode cX12_glyph 33 = .ok (.istore_n 3, 1) := by decide +kernel
theorem dX12_glyph_34 : decode cX12_glyph 34 = .ok (.iload_n 2, 1) := by decide +kernel
theorem dX12_glyph_35 : decode cX12_glyph 35 = .ok (.tableswitch 93 0 7 #[45, 51, 57, 67, 72, 78, 83, 88], 45) := by decide +kernel
theorem dX12_glyph_80 : decode cX12_glyph 80 = .ok (.aload_n 0, 1) := by decide +kernel
theorem dX12_glyph_81 : decode cX12_glyph 81 = .ok (.iload_n 1, 1) := by decide +kernel
theorem dX12_glyph_82 : decode cX12_glyph 82 = .ok (.invokevirtual 785, 3) := by decide +kernel
theorem dX12_glyph_85 : decode cX12_glyph 85 = .ok (.ireturn, 1) := by decide +kernel
theorem dX12_glyph_86 : decode cX12_glyph 86 = .ok (.aload_n 0, 1) := by decide +kernel
theorem dX12_glyph_87 : decode cX12_glyph 87 = .ok (.iload_n 1, 1) := by decide +kernel
theorem dX12_glyph_88 : decode cX12_glyph 88 = .ok (.invokevirtual 782, 3) := by decide +kernel
theorem dX12_glyph_91 : decode cX12_glyph 91 = .ok (.ireturn, 1) := by decide +kernel
theorem dX12_glyph_92 : decode cX12_glyph 92 = .ok (.aload_n 0, 1) := by decide +kernel
theorem dX12_glyph_93 : decode cX12_glyph 93 = .ok (.getfield 345, 3) := by decide +kernel
theorem dX12_glyph_96 : decode cX12_glyph 96 = .ok (.aload_n 0, 1) := by decide +kernel
theorem dX12_glyph_97 : decode cX12_glyph 97 = .ok (.getfield 342, 3) := by decide +kernel
theorem dX12_glyph_100 : decode cX12_glyph 100 = .ok (.isub, 1) := by decide +kernel
theorem dX12_glyph_101 : decode cX12_glyph 101 = .ok (.ireturn, 1) := by decide +kernel
theorem dX12_glyph_102 : decode cX12_glyph 102 = .ok (.aload_n 0, 1) := by decide +kernel
theorem dX12_glyph_103 : decode cX12_glyph 103 = .ok (.getfield 348, 3) := by decide +kernel
theorem dX12_glyph_106 : decode cX12_glyph 106 = .ok (.ireturn, 1) := by decide +kernel
theorem dX12_glyph_107 : decode cX12_glyph 107 = .ok (.aload_n 0, 1) := by decide +kernel
theorem dX12_glyph_108 : decode cX12_glyph 108 = .ok (.iload_n 1, 1) := by decide +kernel
theorem dX12_glyph_109 : decode cX12_glyph 109 = .ok (.invokevirtual 779, 3) := by decide +kernel
theorem dX12_glyph_112 : decode cX12_glyph 112 = .ok (.ireturn, 1) := by decide +kernel
theorem dX12_glyph_113 : decode cX12_glyph 113 = .ok (.aload_n 0, 1) := by decide +kernel
theorem dX12_glyph_114 : decode cX12_glyph 114 = .ok (.getfield 351, 3) := by decide +kernel
theorem dX12_glyph_117 : decode cX12_glyph 117 = .ok (.ireturn, 1) := by decide +kernel
theorem dX12_glyph_118 : decode cX12_glyph 118 = .ok (.aload_n 0, 1) := by decide +kernel
theorem dX12_glyph_119 : decode cX12_glyph 119 = .ok (.getfield 354, 3) := by decide +kernel
theorem dX12_glyph_122 : decode cX12_glyph 122 = .ok (.ireturn, 1) := by decide +kernel
theorem dX12_glyph_123 : decode cX12_glyph 123 = .ok (.aload_n 0, 1) := by decide +kernel
theorem dX12_glyph_124 : decode cX12_glyph 124 = .ok (.getfield 360, 3) := by decide +kernel
theorem dX12_glyph_127 : decode cX12_glyph 127 = .ok (.ireturn, 1) := by decide +kernel
theorem dX12_glyph_128 : decode cX12_glyph 128 = .ok (.bipush (-2), 2) := by decide +kernel
theorem dX12_glyph_130 : decode cX12_glyph 130 = .ok (.ireturn, 1) := by decide +kernel
def F_X12_glyph (N : Nat) (l1 : Int32) (l2 : Int32) (V : sv_V) : Option (Int32 × sv_V) := if (V.1 146 4) = 0 then (some ((-3 : Int32), V)) else ((F_X12_in l1.toInt64 (0 : Int64) (((V.1 146 12) - (1 : Int32)).toInt64) V).bind (fun (x4, V2) => if x4 = 0 then (some ((-1 : Int32), V2)) else ((F_X12_isGlyph N l1 V2).bind (fun (x8, V6) => if l2 = 0 then ((F_X12_advanceOf N l1 V6).bind (fun (x12, V10) => some (x12, V10))) else (if l2 = 1 then ((F_X12_bearingOf N l1 V6).bind (fun (x16, V14) => some (x16, V14))) else (if l2 = 2 then (some ((V6.1 146 27) - (V6.1 146 26), V6)) else (if l2 = 3 then (some (V6.1 146 28, V6)) else (if l2 = 4 then ((F_X12_leftOf N l1 V6).bind (fun (x22, V20) => some (x22, V20))) else (if l2 = 5 then (some (V6.1 146 29, V6)) else (if l2 = 6 then (some (V6.1 146 30, V6)) else (if l2 = 7 then (some (V6.1 146 32, V6)) else (some ((-2 : Int32), V6)))))))))))))
set_option maxRecDepth 20000 in
theorem t_X12_glyph {g : sx_G} (hG : sx_Go g) {P : Option Value → sv_V → Prop} {r : Int32} {Vr : sv_V} (hP : P (some (.int r)) Vr) {N : Nat} {l1 : Int32} {l2 : Int32} {V : sv_V} (h : F_X12_glyph N l1 l2 V = some (r, Vr)) : sv_N g qX12_glyph 6 0 [(0, .ref 146), (1, .int l1), (2, .int l2)] [] V P := by
  unfold F_X12_glyph at h
  refine sx_aload_n (pc := 0) dX12_glyph_0 sx_m0 ?_
  refine sv_getZ (pc := 1) hG dX12_glyph_1 f_12_759 lay_146 rfl ?_
  refine sx_if_ne (pc := 4) (tgt := 10) dX12_glyph_4 (by decide) (fun c1 => ?_) (fun c1 => ?_)
  · have h := sx_neg c1 h
    refine sx_iload_n (pc := 10) dX12_glyph_10 sx_m1 ?_
    refine sx_i2l (pc := 11) dX12_glyph_11 ?_
    refine sx_lconst (pc := 12) (v := 0) dX12_glyph_12 rfl ?_
    refine sx_aload_n (pc := 13) dX12_glyph_13 sx_m0 ?_
    refine sv_getI (pc := 14) hG dX12_glyph_14 f_12_260 lay_146 rfl ?_
    refine sx_iconst (pc := 17) (v := 1) dX12_glyph_17 (by decide) ?_
    refine sx_isub (pc := 18) dX12_glyph_18 ?_
    refine sx_i2l (pc := 19) dX12_glyph_19 ?_
    obtain ⟨⟨x4, V2⟩, g3, h⟩ := sx_bnd h
    refine sv_cS (pc := 20) (y := qX12_in) (o := (some (.int x4))) (as := [.long l1.toInt64, .long (0 : Int64), .long (((V.1 146 12) - (1 : Int32)).toInt64)]) (V1 := V2) dX12_glyph_20 l_X12_263 y0X12_in ysX12_in rfl (Nat.le_of_ble_eq_true rfl) (by decide) (Nat.le_of_ble_eq_true rfl) rfl rfl rfl (t_X12_in hG ⟨rfl, rfl⟩ g3) ?_
    refine sx_if_ne (pc := 23) (tgt := 28) dX12_glyph_23 (by decide) (fun c5 => ?_) (fun c5 => ?_)
    · have h := sx_neg c5 h
      refine sx_aload_n (pc := 28) dX12_glyph_28 sx_m0 ?_
      refine sx_iload_n (pc := 29) dX12_glyph_29 sx_m1 ?_
      obtain ⟨⟨x8, V6⟩, g7, h⟩ := sx_bnd h
      refine sv_cV (pc := 30) (y := qX12_isGlyph) (o := (some (.int x8))) (as := [.int l1]) (V1 := V6) hG dX12_glyph_30 l_X12_278 y0X12_isGlyph yvX12_isGlyph rfl (Nat.le_of_ble_eq_true rfl) lay_146 kr_12 (by decide) (Nat.le_of_ble_eq_true rfl) rfl rfl rfl (t_X12_isGlyph hG ⟨rfl, rfl⟩ g7) ?_
      refine sx_istore_n (pc := 33) (lo' := [(3, .int x8), (0, .ref 146), (1, .int l1), (2, .int l2)]) dX12_glyph_33 (by decide) rfl ?_
      refine sx_iload_n (pc := 34) dX12_glyph_34 sx_m3 ?_
      by_cases c9 : l2 = 0
      · have h := sx_pos c9 h
        refine sx_tabI (pc := 35) (off := 45) (tgt := 80) dX12_glyph_35 (by rw [c9]; decide) (by rw [c9]; decide) (by rw [c9]; rfl) (by decide) ?_
        refine sx_aload_n (pc := 80) dX12_glyph_80 sx_m1 ?_
        refine sx_iload_n (pc := 81) dX12_glyph_81 sx_m2 ?_
        obtain ⟨⟨x12, V10⟩, g11, h⟩ := sx_bnd h
        refine sv_cV (pc := 82) (y := qX12_advanceOf) (o := (some (.int x12))) (as := [.int l1]) (V1 := V10) hG dX12_glyph_82 l_X12_785 y0X12_advanceOf yvX12_advanceOf rfl (Nat.le_of_ble_eq_true rfl) lay_146 kr_12 (by decide) (Nat.le_of_ble_eq_true rfl) rfl rfl rfl (t_X12_advanceOf hG ⟨rfl, rfl⟩ g11) ?_
        exact sv_iret (pc := 85) dX12_glyph_85 rfl h hP
      have h := sx_neg c9 h
      by_cases c13 : l2 = 1
      · have h := sx_pos c13 h
        refine sx_tabI (pc := 35) (off := 51) (tgt := 86) dX12_glyph_35 (by rw [c13]; decide) (by rw [c13]; decide) (by rw [c13]; rfl) (by decide) ?_
        refine sx_aload_n (pc := 86) dX12_glyph_86 sx_m1 ?_
        refine sx_iload_n (pc := 87) dX12_glyph_87 sx_m2 ?_
        obtain ⟨⟨x16, V14⟩, g15, h⟩ := sx_bnd h
        refine sv_cV (pc := 88) (y := qX12_bearingOf) (o := (some (.int x16))) (as := [.int l1]) (V1 := V14) hG dX12_glyph_88 l_X12_782 y0X12_bearingOf yvX12_bearingOf rfl (Nat.le_of_ble_eq_true rfl) lay_146 kr_12 (by decide) (Nat.le_of_ble_eq_true rfl) rfl rfl rfl (t_X12_bearingOf hG ⟨rfl, rfl⟩ g15) ?_
        exact sv_iret (pc := 91) dX12_glyph_91 rfl h hP
      have h := sx_neg c13 h
      by_cases c17 : l2 = 2
      · have h := sx_pos c17 h
        refine sx_tabI (pc := 35) (off := 57) (tgt := 92) dX12_glyph_35 (by rw [c17]; decide) (by rw [c17]; decide) (by rw [c17]; rfl) (by decide) ?_
        refine sx_aload_n (pc := 92) dX12_glyph_92 sx_m1 ?_
        refine sv_getI (pc := 93) hG dX12_glyph_93 f_12_345 lay_146 rfl ?_
        refine sx_aload_n (pc := 96) dX12_glyph_96 sx_m1 ?_
        refine sv_getI (pc := 97) hG dX12_glyph_97 f_12_342 lay_146 rfl ?_
        refine sx_isub (pc := 100) dX12_glyph_100 ?_
        exact sv_iret (pc := 101) dX12_glyph_101 rfl h hP
      have h := sx_neg c17 h
      by_cases c18 : l2 = 3
      · have h := sx_pos c18 h
        refine sx_tabI (pc := 35) (off := 67) (tgt := 102) dX12_glyph_35 (by rw [c18]; decide) (by rw [c18]; decide) (by rw [c18]; rfl) (by decide) ?_
        refine sx_aload_n (pc := 102) dX12_glyph_102 sx_m1 ?_
        refine sv_getI (pc := 103) hG dX12_glyph_103 f_12_348 lay_146 rfl ?_
        exact sv_iret (pc := 106) dX12_glyph_106 rfl h hP
      have h := sx_neg c18 h
      by_cases c19 : l2 = 4
      · have h := sx_pos c19 h
        refine sx_tabI (pc := 35) (off := 72) (tgt := 107) dX12_glyph_35 (by rw [c19]; decide) (by rw [c19]; decide) (by rw [c19]; rfl) (by decide) ?_
        refine sx_aload_n (pc := 107) dX12_glyph_107 sx_m1 ?_
        refine sx_iload_n (pc := 108) dX12_glyph_108 sx_m2 ?_
        obtain ⟨⟨x22, V20⟩, g21, h⟩ := sx_bnd h
        refine sv_cV (pc := 109) (y := qX12_leftOf) (o := (some (.int x22))) (as := [.int l1]) (V1 := V20) hG dX12_glyph_109 l_X12_779 y0X12_leftOf yvX12_leftOf rfl (Nat.le_of_ble_eq_true rfl) lay_146 kr_12 (by decide) (Nat.le_of_ble_eq_true rfl) rfl rfl rfl (t_X12_leftOf hG ⟨rfl, rfl⟩ g21) ?_
        exact sv_iret (pc := 112) dX12_glyph_112 rfl h hP
      have h := sx_neg c19 h
      by_cases c23 : l2 = 5
      · have h := sx_pos c23 h
        refine sx_tabI (pc := 35) (off := 78) (tgt := 113) dX12_glyph_35 (by rw [c23]; decide) (by rw [c23]; decide) (by rw [c23]; rfl) (by decide) ?_
        refine sx_aload_n (pc := 113) dX12_glyph_113 sx_m1 ?_
        refine sv_getI (pc := 114) hG dX12_glyph_114 f_12_351 lay_146 rfl ?_
        exact sv_iret (pc := 117) dX12_glyph_117 rfl h hP
      have h := sx_neg c23 h
      by_cases c24 : l2 = 6
      · have h := sx_pos c24 h
        refine sx_tabI (pc := 35) (off := 83) (tgt := 118) dX12_glyph_35 (by rw [c24]; decide) (by rw [c24]; decide) (by rw [c24]; rfl) (by decide) ?_
        refine sx_aload_n (pc := 118) dX12_glyph_118 sx_m1 ?_
        refine sv_getI (pc := 119) hG dX12_glyph_119 f_12_354 lay_146 rfl ?_
        exact sv_iret (pc := 122) dX12_glyph_122 rfl h hP
      have h := sx_neg c24 h
      by_cases c25 : l2 = 7
      · have h := sx_pos c25 h
        refine sx_tabI (pc := 35) (off := 88) (tgt := 123) dX12_glyph_35 (by rw [c25]; decide) (by rw [c25]; decide) (by rw [c25]; rfl) (by decide) ?_
        refine sx_aload_n (pc := 123) dX12_glyph_123 sx_m1 ?_
        refine sv_getI (pc := 124) hG dX12_glyph_124 f_12_360 lay_146 rfl ?_
        exact sv_iret (pc := 127) dX12_glyph_127 rfl h hP
      have h := sx_neg c25 h
      refine sx_tabO (pc := 35) (tgt := 128) dX12_glyph_35 (by have ec9 := lv_neT (a := 0) c9 rfl; have ec13 := lv_neT (a := 1) c13 rfl; have ec17 := lv_neT (a := 2) c17 rfl; have ec18 := lv_neT (a := 3) c18 rfl; have ec19 := lv_neT (a := 4) c19 rfl; have ec23 := lv_neT (a := 5) c23 rfl; have ec24 := lv_neT (a := 6) c24 rfl; have ec25 := lv_neT (a := 7) c25 rfl; omega) (by decide) ?_
      refine sx_bipush (pc := 128) (v := (-2)) dX12_glyph_128 (by decide) ?_
      exact sv_iret (pc := 130) dX12_glyph_130 rfl h hP
    · have h := sx_pos c5 h
      refine sx_iconst (pc := 26) (v := (-1)) dX12_glyph_26 (by decide) ?_
      exact sv_iret (pc := 27) dX12_glyph_27 rfl h hP
  · have h := sx_pos c1 h
    refine sx_bipush (pc := 7) (v := (-3)) dX12_glyph_7 (by decide) ?_
    exact sv_iret (pc := 9) dX12_glyph_9 rfl h hP
theorem dX5_vectorCodes_0 : decode cX5_vectorCodes 0 = .ok (.iload_n 1, 1) := by decide +kernel
theorem dX5_vectorCodes_1 : decode cX5_vectorCodes 1 = .ok (.lookupswitch 196 #[(6, 99), (7, 99), (8, 99), (9, 99), (10, 105), (11, 105), (12, 111), (13, 136), (14, 161), (134, 190), (135, 190)], 99) := by decide +kernel
theorem dX5_vectorCodes_100 : decode cX5_vectorCodes 100 = .ok (.aload_n 0, 1) := by decide +kernel
theorem dX5_vectorCodes_101 : decode cX5_vectorCodes 101 = .ok (.iload_n 1, 1) := by decide +kernel
theorem dX5_vectorCodes_102 : decode cX5_vectorCodes 102 = .ok (.invokevirtual 226, 3) := by decide +kernel
theorem dX5_vectorCodes_105 : decode cX5_vectorCodes 105 = .ok (.return_, 1) := by decide +kernel
theorem dX5_vectorCodes_106 : decode cX5_vectorCodes 106 = .ok (.aload_n 0, 1) := by decide +kernel
theorem dX5_vectorCodes_107 : decode cX5_vectorCodes 107 = .ok (.iload_n 1, 1) := by decide +kernel
theorem dX5_vectorCodes_108 : decode cX5_vectorCodes 108 = .ok (.invokevirtual 229, 3) := by decide +kernel
theorem dX5_vectorCodes_111 : decode cX5_vectorCodes 111 = .ok (.return_, 1) := by decide +kernel
theorem dX5_vectorCodes_112 : decode cX5_vectorCodes 112 = .ok (.aload_n 0, 1) := by decide +kernel
theorem dX5_vectorCodes_113 : decode cX5_vectorCodes 113 = .ok (.aload_n 0, 1) := by decide +kernel
theorem dX5_vectorCodes_114 : decode cX5_vectorCodes 114 = .ok (.getfield 12, 3) := by decide +kernel
theorem dX5_vectorCodes_117 : decode cX5_vectorCodes 117 = .ok (.getfield 184, 3) := by decide +kernel
theorem dX5_vectorCodes_120 : decode cX5_vectorCodes 120 = .ok (.i2l, 1) := by decide +kernel
theorem dX5_vectorCodes_121 : decode cX5_vectorCodes 121 = .ok (.invokevirtual 232, 3) := by decide +kernel
theorem dX5_vectorCodes_124 : decode cX5_vectorCodes 124 = .ok (.aload_n 0, 1) := by decide +kernel
theorem dX5_vectorCodes_125 : decode cX5_vectorCodes 125 = .ok (.aload_n 0, 1) := by decide +kernel
theorem dX5_vectorCodes_126 : decode cX5_vectorCodes 126 = .ok (.getfield 12, 3) := by decide +kernel
theorem dX5_vectorCodes_129 : decode cX5_vectorCodes 129 = .ok (.getfield 187, 3) := by decide +kernel
theorem dX5_vectorCodes_132 : decode cX5_vectorCodes 132 = .ok (.i2l, 1) := by decide +kernel
theorem dX5_vectorCodes_133 : decode cX5_vectorCodes 133 = .ok (.invokevirtual 232, 3) := by decide +kernel
theorem dX5_vectorCodes_136 : decode cX5_vectorCodes 136 = .ok (.return_, 1) := by decide +kernel
theorem dX5_vectorCodes_137 : decode cX5_vectorCodes 137 = .ok (.aload_n 0, 1) := by decide +kernel
theorem dX5_vectorCodes_138 : decode cX5_vectorCodes 138 = .ok (.aload_n 0, 1) := by decide +kernel
theorem dX5_vectorCodes_139 : decode cX5_vectorCodes 139 = .ok (.getfield 12, 3) := by decide +kernel
theorem dX5_vectorCodes_142 : decode cX5_vectorCodes 142 = .ok (.getfield 210, 3) := by decide +kernel
theorem dX5_vectorCodes_145 : decode cX5_vectorCodes 145 = .ok (.i2l, 1) := by decide +kernel
theorem dX5_vectorCodes_146 : decode cX5_vectorCodes 146 = .ok (.invokevirtual 232, 3) := by decide +kernel
theorem dX5_vectorCodes_149 : decode cX5_vectorCodes 149 = .ok (.aload_n 0, 1) := by decide +kernel
theorem dX5_vectorCodes_150 : decode cX5_vectorCodes 150 = .ok (.aload_n 0, 1) := by decide +kernel
theorem dX5_vectorCodes_151 : decode cX5_vectorCodes 151 = .ok (.getfield 12, 3) := by decide +kernel
theorem dX5_vectorCodes_154 : decode cX5_vectorCodes 154 = .ok (.getfield 213, 3) := by decide +kernel
theorem dX5_vectorCodes_157 : decode cX5_vectorCodes 157 = .ok (.i2l, 1) := by decide +kernel
theorem dX5_vectorCodes_158 : decode cX5_vectorCodes 158 = .ok (.invokevirtual 232, 3) := by decide +kernel
theorem dX5_vectorCodes_161 : decode cX5_vectorCodes 161 = .ok (.return_, 1) := by decide +kernel
theorem dX5_vectorCodes_162 : decode cX5_vectorCodes 162 = .ok (.aload_n 0, 1) := by decide +kernel
theorem dX5_vectorCodes_163 : decode cX5_vectorCodes 163 = .ok (.getfield 12, 3) := by decide +kernel
theorem dX5_vectorCodes_166 : decode cX5_vectorCodes 166 = .ok (.aload_n 0, 1) := by decide +kernel
theorem dX5_vectorCodes_167 : decode cX5_vectorCodes 167 = .ok (.getfield 12, 3) := by decide +kernel
theorem dX5_vectorCodes_170 : decode cX5_vectorCodes 170 = .ok (.getfield 184, 3) := by decide +kernel
theorem dX5_vectorCodes_173 : decode cX5_vectorCodes 173 = .ok (.putfield 210, 3) := by decide +kernel
theorem dX5_vectorCodes_176 : decode cX5_vectorCodes 176 = .ok (.aload_n 0, 1) := by decide +kernel
theorem dX5_vectorCodes_177 : decode cX5_vectorCodes 177 = .ok (.getfield 12, 3) := by decide +kernel
theorem dX5_vectorCodes_180 : decode cX5_vectorCodes 180 = .ok (.aload_n 0, 1) := by decide +kernel
theorem dX5_vectorCodes_181 : decode cX5_vectorCodes 181 = .ok (.getfield 12, 3) := by decide +kernel
theorem dX5_vectorCodes_184 : decode cX5_vectorCodes 184 = .ok (.getfield 187, 3) := by decide +kernel
theorem dX5_vectorCodes_187 : decode cX5_vectorCodes 187 = .ok (.putfield 213, 3) := by decide +kernel
theorem dX5_vectorCodes_190 : decode cX5_vectorCodes 190 = .ok (.return_, 1) := by decide +kernel
theorem dX5_vectorCodes_191 : decode cX5_vectorCodes 191 = .ok (.aload_n 0, 1) := by decide +kernel
theorem dX5_vectorCodes_192 : decode cX5_vectorCodes 192 = .ok (.iload_n 1, 1) := by decide +kernel
theorem dX5_vectorCodes_193 : decode cX5_vectorCodes 193 = .ok (.invokevirtual 236, 3) := by decide +kernel
theorem dX5_vectorCodes_196 : decode cX5_vectorCodes 196 = .ok (.return_, 1) := by decide +kernel
theorem dX5_vectorCodes_197 : decode cX5_vectorCodes 197 = .ok (.aload_n 0, 1) := by decide +kernel
theorem dX5_vectorCodes_198 : decode cX5_vectorCodes 198 = .ok (.getfield 12, 3) := by decide +kernel
theorem dX5_vectorCodes_201 : decode cX5_vectorCodes 201 = .ok (.iload_n 1, 1) := by decide +kernel
theorem dX5_vectorCodes_202 : decode cX5_vectorCodes 202 = .ok (.invokevirtual 239, 3) := by decide +kernel
theorem dX5_vectorCodes_205 : decode cX5_vectorCodes 205 = .ok (.return_, 1) := by decide +kernel
def B_X5_vectorCodes_100 (N : Nat)  (l1 : Int32) (V : sv_V) : Option sv_V := (F_X5_goAlongLine N l1 V).bind (fun V1 => some V1)
set_option maxRecDepth 20000 in
theorem tB_X5_vectorCodes_100 {g : sx_G} (hG : sx_Go g) {P : Option Value → sv_V → Prop} {Vr : sv_V} (hP : P none Vr) {N : Nat}   {l1 : Int32} {V : sv_V} (h : B_X5_vectorCodes_100 N  l1 V = some Vr) : sv_N g qX5_vectorCodes 3 100 [(0, .ref 69), (1, .int l1)] [] V P := by
  unfold B_X5_vectorCodes_100 at h
  refine sx_aload_n (pc := 100) dX5_vectorCodes_100 sx_m0 ?_
  refine sx_iload_n (pc := 101) dX5_vectorCodes_101 sx_m1 ?_
  obtain ⟨V1, g2, h⟩ := sx_bnd h
  refine sv_cV (pc := 102) (y := qX5_goAlongLine) (o := none) (as := [.int l1]) (V1 := V1) hG dX5_vectorCodes_102 l_X5_226 y0X5_goAlongLine yvX5_goAlongLine rfl (Nat.le_of_ble_eq_true rfl) lay_69 kr_5 (by decide) (Nat.le_of_ble_eq_true rfl) rfl rfl rfl (t_X5_goAlongLine hG ⟨rfl, rfl⟩ g2) ?_
  exact sv_vret (pc := 105) dX5_vectorCodes_105 rfl h hP
def B_X5_vectorCodes_106 (N : Nat)  (l1 : Int32) (V : sv_V) : Option sv_V := (F_X5_goAlongNumbers N l1 V).bind (fun V3 => some V3)
set_option maxRecDepth 20000 in
theorem tB_X5_vectorCodes_106 {g : sx_G} (hG : sx_Go g) {P : Option Value → sv_V → Prop} {Vr : sv_V} (hP : P none Vr) {N : Nat}   {l1 : Int32} {V : sv_V} (h : B_X5_vectorCodes_106 N  l1 V = some Vr) : sv_N g qX5_vectorCodes 3 106 [(0, .ref 69), (1, .int l1)] [] V P := by
  unfold B_X5_vectorCodes_106 at h
  refine sx_aload_n (pc := 106) dX5_vectorCodes_106 sx_m0 ?_
  refine sx_iload_n (pc := 107) dX5_vectorCodes_107 sx_m1 ?_
  obtain ⟨V3, g4, h⟩ := sx_bnd h
  refine sv_cV (pc := 108) (y := qX5_goAlongNumbers) (o := none) (as := [.int l1]) (V1 := V3) hG dX5_vectorCodes_108 l_X5_229 y0X5_goAlongNumbers yvX5_goAlongNumbers rfl (Nat.le_of_ble_eq_true rfl) lay_69 kr_5 (by decide) (Nat.le_of_ble_eq_true rfl) rfl rfl rfl (t_X5_goAlongNumbers hG ⟨rfl, rfl⟩ g4) ?_
  exact sv_vret (pc := 111) dX5_vectorCodes_111 rfl h hP
def B_X5_vectorCodes_191 (N : Nat)  (l1 : Int32) (V : sv_V) : Option sv_V := (F_X5_goAlongBothLines N l1 V).bind (fun V5 => some V5)
set_option maxRecDepth 20000 in
theorem tB_X5_vectorCodes_191 {g : sx_G} (hG : sx_Go g) {P : Option Value → sv_V → Prop} {Vr : sv_V} (hP : P none Vr) {N : Nat}   {l1 : Int32} {V : sv_V} (h : B_X5_vectorCodes_191 N  l1 V = some Vr) : sv_N g qX5_vectorCodes 3 191 [(0, .ref 69), (1, .int l1)] [] V P := by
  unfold B_X5_vectorCodes_191 at h
  refine sx_aload_n (pc := 191) dX5_vectorCodes_191 sx_m0 ?_
  refine sx_iload_n (pc := 192) dX5_vectorCodes_192 sx_m1 ?_
  obtain ⟨V5, g6, h⟩ := sx_bnd h
  refine sv_cV (pc := 193) (y := qX5_goAlongBothLines) (o := none) (as := [.int l1]) (V1 := V5) hG dX5_vectorCodes_193 l_X5_236 y0X5_goAlongBothLines yvX5_goAlongBothLines rfl (Nat.le_of_ble_eq_true rfl) lay_69 kr_5 (by decide) (Nat.le_of_ble_eq_true rfl) rfl rfl rfl (t_X5_goAlongBothLines hG ⟨rfl, rfl⟩ g6) ?_
  exact sv_vret (pc := 196) dX5_vectorCodes_196 rfl h hP
def F_X5_vectorCodes (N : Nat) (l1 : Int32) (V : sv_V) : Option sv_V := if l1 = 6 then (B_X5_vectorCodes_100 N  l1 V) else (if l1 = 7 then (B_X5_vectorCodes_100 N  l1 V) else (if l1 = 8 then (B_X5_vectorCodes_100 N  l1 V) else (if l1 = 9 then (B_X5_vectorCodes_100 N  l1 V) else (if l1 = 10 then (B_X5_vectorCodes_106 N  l1 V) else (if l1 = 11 then (B_X5_vectorCodes_106 N  l1 V) else (if l1 = 12 then ((F_X5_push ((V.1 70 2).toInt64) V).bind (fun V14 => (F_X5_push ((V14.1 70 3).toInt64) V14).bind (fun V16 => some V16))) else (if l1 = 13 then ((F_X5_push ((V.1 70 0).toInt64) V).bind (fun V19 => (F_X5_push ((V19.1 70 1).toInt64) V19).bind (fun V21 => some V21))) else (if l1 = 14 then (sx_let (sv_I V 70 0 (V.1 70 2)) (fun V24 => sx_let (sv_I V24 70 1 (V24.1 70 3)) (fun V25 => some V25))) else (if l1 = 134 then (B_X5_vectorCodes_191 N  l1 V) else (if l1 = 135 then (B_X5_vectorCodes_191 N  l1 V) else ((F_X9_goAlong l1 V).bind (fun V28 => some V28))))))))))))
set_option maxRecDepth 20000 in
theorem t_X5_vectorCodes {g : sx_G} (hG : sx_Go g) {P : Option Value → sv_V → Prop} {Vr : sv_V} (hP : P none Vr) {N : Nat} {l1 : Int32} {V : sv_V} (h : F_X5_vectorCodes N l1 V = some Vr) : sv_N g qX5_vectorCodes 3 0 [(0, .ref 69), (1, .int l1)] [] V P := by
  unfold F_X5_vectorCodes at h
  refine sx_iload_n (pc := 0) dX5_vectorCodes_0 sx_m1 ?_
  by_cases c7 : l1 = 6
  · have h := sx_pos c7 h
    refine sx_look (pc := 1) (off := 99) (tgt := 100) dX5_vectorCodes_1 (by decide) (by rw [c7]; rfl) (by decide) ?_
    refine sx_wk (sx_s1 sx_m0 (sx_s1 sx_m1 sx_s0)) ?_
    exact tB_X5_vectorCodes_100 hG hP  h
  have h := sx_neg c7 h
  by_cases c8 : l1 = 7
  · have h := sx_pos c8 h
    refine sx_look (pc := 1) (off := 99) (tgt := 100) dX5_vectorCodes_1 (by decide) (by rw [c8]; rfl) (by decide) ?_
    refine sx_wk (sx_s1 sx_m0 (sx_s1 sx_m1 sx_s0)) ?_
    exact tB_X5_vectorCodes_100 hG hP  h
  have h := sx_neg c8 h
  by_cases c9 : l1 = 8
  · have h := sx_pos c9 h
    refine sx_look (pc := 1) (off := 99) (tgt := 100) dX5_vectorCodes_1 (by decide) (by rw [c9]; rfl) (by decide) ?_
    refine sx_wk (sx_s1 sx_m0 (sx_s1 sx_m1 sx_s0)) ?_
    exact tB_X5_vectorCodes_100 hG hP  h
  have h := sx_neg c9 h
  by_cases c10 : l1 = 9
  · have h := sx_pos c10 h
    refine sx_look (pc := 1) (off := 99) (tgt := 100) dX5_vectorCodes_1 (by decide) (by rw [c10]; rfl) (by decide) ?_
    refine sx_wk (sx_s1 sx_m0 (sx_s1 sx_m1 sx_s0)) ?_
    exact tB_X5_vectorCodes_100 hG hP  h
  have h := sx_neg c10 h
  by_cases c11 : l1 = 10
  · have h := sx_pos c11 h
    refine sx_look (pc := 1) (off := 105) (tgt := 106) dX5_vectorCodes_1 (by decide) (by rw [c11]; rfl) (by decide) ?_
    refine sx_wk (sx_s1 sx_m0 (sx_s1 sx_m1 sx_s0)) ?_
    exact tB_X5_vectorCodes_106 hG hP  h
  have h := sx_neg c11 h
  by_cases c12 : l1 = 11
  · have h := sx_pos c12 h
    refine sx_look (pc := 1) (off := 105) (tgt := 106) dX5_vectorCodes_1 (by decide) (by rw [c12]; rfl) (by decide) ?_
    refine sx_wk (sx_s1 sx_m0 (sx_s1 sx_m1 sx_s0)) ?_
    exact tB_X5_vectorCodes_106 hG hP  h
  have h := sx_neg c12 h
  by_cases c13 : l1 = 12
  · have h := sx_pos c13 h
    refine sx_look (pc := 1) (off := 111) (tgt := 112) dX5_vectorCodes_1 (by decide) (by rw [c13]; rfl) (by decide) ?_
    refine sx_aload_n (pc := 112) dX5_vectorCodes_112 sx_m0 ?_
    refine sx_aload_n (pc := 113) dX5_vectorCodes_113 sx_m0 ?_
    refine sv_getO (pc := 114) hG dX5_vectorCodes_114 f_5_12 lay_69 rfl cr_69_1 ?_
    refine sv_getI (pc := 117) hG dX5_vectorCodes_117 f_5_184 lay_70 rfl ?_
    refine sx_i2l (pc := 120) dX5_vectorCodes_120 ?_
    obtain ⟨V14, g15, h⟩ := sx_bnd h
    refine sv_cV (pc := 121) (y := qX5_push) (o := none) (as := [.long ((V.1 70 2).toInt64)]) (V1 := V14) hG dX5_vectorCodes_121 l_X5_232 y0X5_push yvX5_push rfl (Nat.le_of_ble_eq_true rfl) lay_69 kr_5 (by decide) (Nat.le_of_ble_eq_true rfl) rfl rfl rfl (t_X5_push hG ⟨rfl, rfl⟩ g15) ?_
    refine sx_aload_n (pc := 124) dX5_vectorCodes_124 sx_m0 ?_
    refine sx_aload_n (pc := 125) dX5_vectorCodes_125 sx_m0 ?_
    refine sv_getO (pc := 126) hG dX5_vectorCodes_126 f_5_12 lay_69 rfl cr_69_1 ?_
    refine sv_getI (pc := 129) hG dX5_vectorCodes_129 f_5_187 lay_70 rfl ?_
    refine sx_i2l (pc := 132) dX5_vectorCodes_132 ?_
    obtain ⟨V16, g17, h⟩ := sx_bnd h
    refine sv_cV (pc := 133) (y := qX5_push) (o := none) (as := [.long ((V14.1 70 3).toInt64)]) (V1 := V16) hG dX5_vectorCodes_133 l_X5_232 y0X5_push yvX5_push rfl (Nat.le_of_ble_eq_true rfl) lay_69 kr_5 (by decide) (Nat.le_of_ble_eq_true rfl) rfl rfl rfl (t_X5_push hG ⟨rfl, rfl⟩ g17) ?_
    exact sv_vret (pc := 136) dX5_vectorCodes_136 rfl h hP
  have h := sx_neg c13 h
  by_cases c18 : l1 = 13
  · have h := sx_pos c18 h
    refine sx_look (pc := 1) (off := 136) (tgt := 137) dX5_vectorCodes_1 (by decide) (by rw [c18]; rfl) (by decide) ?_
    refine sx_aload_n (pc := 137) dX5_vectorCodes_137 sx_m0 ?_
    refine sx_aload_n (pc := 138) dX5_vectorCodes_138 sx_m0 ?_
    refine sv_getO (pc := 139) hG dX5_vectorCodes_139 f_5_12 lay_69 rfl cr_69_1 ?_
    refine sv_getI (pc := 142) hG dX5_vectorCodes_142 f_5_210 lay_70 rfl ?_
    refine sx_i2l (pc := 145) dX5_vectorCodes_145 ?_
    obtain ⟨V19, g20, h⟩ := sx_bnd h
    refine sv_cV (pc := 146) (y := qX5_push) (o := none) (as := [.long ((V.1 70 0).toInt64)]) (V1 := V19) hG dX5_vectorCodes_146 l_X5_232 y0X5_push yvX5_push rfl (Nat.le_of_ble_eq_true rfl) lay_69 kr_5 (by decide) (Nat.le_of_ble_eq_true rfl) rfl rfl rfl (t_X5_push hG ⟨rfl, rfl⟩ g20) ?_
    refine sx_aload_n (pc := 149) dX5_vectorCodes_149 sx_m0 ?_
    refine sx_aload_n (pc := 150) dX5_vectorCodes_150 sx_m0 ?_
    refine sv_getO (pc := 151) hG dX5_vectorCodes_151 f_5_12 lay_69 rfl cr_69_1 ?_
    refine sv_getI (pc := 154) hG dX5_vectorCodes_154 f_5_213 lay_70 rfl ?_
    refine sx_i2l (pc := 157) dX5_vectorCodes_157 ?_
    obtain ⟨V21, g22, h⟩ := sx_bnd h
    refine sv_cV (pc := 158) (y := qX5_push) (o := none) (as := [.long ((V19.1 70 1).toInt64)]) (V1 := V21) hG dX5_vectorCodes_158 l_X5_232 y0X5_push yvX5_push rfl (Nat.le_of_ble_eq_true rfl) lay_69 kr_5 (by decide) (Nat.le_of_ble_eq_true rfl) rfl rfl rfl (t_X5_push hG ⟨rfl, rfl⟩ g22) ?_
    exact sv_vret (pc := 161) dX5_vectorCodes_161 rfl h hP
  have h := sx_neg c18 h
  by_cases c23 : l1 = 14
  · have h := sx_pos c23 h
    refine sx_look (pc := 1) (off := 161) (tgt := 162) dX5_vectorCodes_1 (by decide) (by rw [c23]; rfl) (by decide) ?_
    refine sx_aload_n (pc := 162) dX5_vectorCodes_162 sx_m0 ?_
    refine sv_getO (pc := 163) hG dX5_vectorCodes_163 f_5_12 lay_69 rfl cr_69_1 ?_
    refine sx_aload_n (pc := 166) dX5_vectorCodes_166 sx_m0 ?_
    refine sv_getO (pc := 167) hG dX5_vectorCodes_167 f_5_12 lay_69 rfl cr_69_1 ?_
    refine sv_getI (pc := 170) hG dX5_vectorCodes_170 f_5_184 lay_70 rfl ?_
    obtain ⟨V24, hV24⟩ : ∃ z : sv_V, z = sv_I V 70 0 (V.1 70 2) := ⟨_, rfl⟩
    have h := sx_letE hV24 h
    refine sv_putI (pc := 173) hG dX5_vectorCodes_173 f_5_210 lay_70 rfl hV24 ?_
    refine sx_aload_n (pc := 176) dX5_vectorCodes_176 sx_m0 ?_
    refine sv_getO (pc := 177) hG dX5_vectorCodes_177 f_5_12 lay_69 rfl cr_69_1 ?_
    refine sx_aload_n (pc := 180) dX5_vectorCodes_180 sx_m0 ?_
    refine sv_getO (pc := 181) hG dX5_vectorCodes_181 f_5_12 lay_69 rfl cr_69_1 ?_
    refine sv_getI (pc := 184) hG dX5_vectorCodes_184 f_5_187 lay_70 rfl ?_
    obtain ⟨V25, hV25⟩ : ∃ z : sv_V, z = sv_I V24 70 1 (V24.1 70 3) := ⟨_, rfl⟩
    have h := sx_letE hV25 h
    refine sv_putI (pc := 187) hG dX5_vectorCodes_187 f_5_213 lay_70 rfl hV25 ?_
    exact sv_vret (pc := 190) dX5_vectorCodes_190 rfl h hP
  have h := sx_neg c23 h
  by_cases c26 : l1 = 134
  · have h := sx_pos c26 h
    refine sx_look (pc := 1) (off := 190) (tgt := 191) dX5_vectorCodes_1 (by decide) (by rw [c26]; rfl) (by decide) ?_
    refine sx_wk (sx_s1 sx_m0 (sx_s1 sx_m1 sx_s0)) ?_
    exact tB_X5_vectorCodes_191 hG hP  h
  have h := sx_neg c26 h
  by_cases c27 : l1 = 135
  · have h := sx_pos c27 h
    refine sx_look (pc := 1) (off := 190) (tgt := 191) dX5_vectorCodes_1 (by decide) (by rw [c27]; rfl) (by decide) ?_
    refine sx_wk (sx_s1 sx_m0 (sx_s1 sx_m1 sx_s0)) ?_
    exact tB_X5_vectorCodes_191 hG hP  h
  have h := sx_neg c27 h
  refine sx_look (pc := 1) (off := 196) (tgt := 197) dX5_vectorCodes_1 (by decide) (by show Op.lookupswitch.offset [(6, 99), (7, 99), (8, 99), (9, 99), (10, 105), (11, 105), (12, 111), (13, 136), (14, 161), (134, 190), (135, 190)] 196 l1.toInt = 196; rw [lv_osw c7 rfl, lv_osw c8 rfl, lv_osw c9 rfl, lv_osw c10 rfl, lv_osw c11 rfl, lv_osw c12 rfl, lv_osw c13 rfl, lv_osw c18 rfl, lv_osw c23 rfl, lv_osw c26 rfl, lv_osw c27 rfl]; rfl) (by decide) ?_
  refine sx_aload_n (pc := 197) dX5_vectorCodes_197 sx_m0 ?_
  refine sv_getO (pc := 198) hG dX5_vectorCodes_198 f_5_12 lay_69 rfl cr_69_1 ?_
  refine sx_iload_n (pc := 201) dX5_vectorCodes_201 sx_m1 ?_
  obtain ⟨V28, g29, h⟩ := sx_bnd h
  refine sv_cV (pc := 202) (y := qX9_goAlong) (o := none) (as := [.int l1]) (V1 := V28) hG dX5_vectorCodes_202 l_X5_239 y0X9_goAlong yvX9_goAlong rfl (Nat.le_of_ble_eq_true rfl) lay_70 kr_9 (by decide) (Nat.le_of_ble_eq_true rfl) rfl rfl rfl (t_X9_goAlong hG ⟨rfl, rfl⟩ g29) ?_
  exact sv_vret (pc := 205) dX5_vectorCodes_205 rfl h hP
theorem dX12_checkGlyphs_0 : decode cX12_checkGlyphs 0 = .ok (.aload_n 0, 1) := by decide +kernel
theorem dX12_checkGlyphs_1 : decode cX12_checkGlyphs 1 = .ok (.ldc 243, 2) := by decide +kernel
theorem dX12_checkGlyphs_3 : decode cX12_checkGlyphs 3 = .ok (.invokevirtual 257, 3) := by decide +kernel
theorem dX12_checkGlyphs_6 : decode cX12_checkGlyphs 6 = .ok (.aload_n 0, 1) := by decide +kernel
theorem dX12_checkGlyphs_7 : decode cX12_checkGlyphs 7 = .ok (.getfield 260, 3) := by decide +kernel
theorem dX12_checkGlyphs_10 : decode cX12_checkGlyphs 10 = .ok (.iconst 1, 1) := by decide +kernel
theorem dX12_checkGlyphs_11 : decode cX12_checkGlyphs 11 = .ok (.iadd, 1) := by decide +kernel
theorem dX12_checkGlyphs_12 : decode cX12_checkGlyphs 12 = .ok (.aload_n 0, 1) := by decide +kernel
theorem dX12_checkGlyphs_13 : decode cX12_checkGlyphs 13 = .ok (.getfield 271, 3) := by decide +kernel
theorem dX12_checkGlyphs_16 : decode cX12_checkGlyphs 16 = .ok (.ifCond .ne 7, 3) := by decide +kernel
theorem dX12_checkGlyphs_19 : decode cX12_checkGlyphs 19 = .ok (.iconst 2, 1) := by decide +kernel
theorem dX12_checkGlyphs_20 : decode cX12_checkGlyphs 20 = .ok (.goto 4, 3) := by decide +kernel
theorem dX12_checkGlyphs_23 : decode cX12_checkGlyphs 23 = .ok (.iconst 4, 1) := by decide +kernel
theorem dX12_checkGlyphs_24 : decode cX12_checkGlyphs 24 = .ok (.imul, 1) := by decide +kernel
theorem dX12_checkGlyphs_25 : decode cX12_checkGlyphs 25 = .ok (.if_icmp .ge 6, 3) := by decide +kernel
theorem dX12_checkGlyphs_28 : decode cX12_checkGlyphs 28 = .ok (.bipush 10, 2) := by decide +kernel
theorem dX12_checkGlyphs_30 : decode cX12_checkGlyphs 30 = .ok (.ireturn, 1) := by decide +kernel
theorem dX12_checkGlyphs_31 : decode cX12_checkGlyphs 31 = .ok (.iconst 0, 1) := by decide +kernel
theorem dX12_checkGlyphs_32 : decode cX12_checkGlyphs 32 = .ok (.istore_n 1, 1) := by decide +kernel
theorem dX12_checkGlyphs_33 : decode cX12_checkGlyphs 33 = .ok (.iload_n 1, 1) := by decide +kernel
theorem dX12_checkGlyphs_34 : decode cX12_checkGlyphs 34 = .ok (.aload_n 0, 1) := by decide +kernel
theorem dX12_checkGlyphs_35 : decode cX12_checkGlyphs 35 = .ok (.getfield 260, 3) := by decide +kernel
theorem dX12_checkGlyphs_38 : decode cX12_checkGlyphs 38 = .ok (.if_icmp .ge 28, 3) := by decide +kernel
theorem dX12_checkGlyphs_41 : decode cX12_checkGlyphs 41 = .ok (.aload_n 0, 1) := by decide +kernel
theorem dX12_checkGlyphs_42 : decode cX12_checkGlyphs 42 = .ok (.iload_n 1, 1) := by decide +kernel
theorem dX12_checkGlyphs_43 : decode cX12_checkGlyphs 43 = .ok (.invokevirtual 274, 3) := by decide +kernel
theorem dX12_checkGlyphs_46 : decode cX12_checkGlyphs 46 = .ok (.aload_n 0, 1) := by decide +kernel
theorem dX12_checkGlyphs_47 : decode cX12_checkGlyphs 47 = .ok (.iload_n 1, 1) := by decide +kernel
theorem dX12_checkGlyphs_48 : decode cX12_checkGlyphs 48 = .ok (.iconst 1, 1) := by decide +kernel
theorem dX12_checkGlyphs_49 : decode cX12_checkGlyphs 49 = .ok (.iadd, 1) := by decide +kernel
theorem dX12_checkGlyphs_50 : decode cX12_checkGlyphs 50 = .ok (.invokevirtual 274, 3) := by decide +kernel
theorem dX12_checkGlyphs_53 : decode cX12_checkGlyphs 53 = .ok (.lcmp, 1) := by decide +kernel
theorem dX12_checkGlyphs_54 : decode cX12_checkGlyphs 54 = .ok (.ifCond .le 6, 3) := by decide +kernel
theorem dX12_checkGlyphs_57 : decode cX12_checkGlyphs 57 = .ok (.bipush 10, 2) := by decide +kernel
theorem dX12_checkGlyphs_59 : decode cX12_checkGlyphs 59 = .ok (.ireturn, 1) := by decide +kernel
theorem dX12_checkGlyphs_60 : decode cX12_checkGlyphs 60 = .ok (.iinc 1 1, 3) := by decide +kernel
theorem dX12_checkGlyphs_63 : decode cX12_checkGlyphs 63 = .ok (.goto (-30), 3) := by decide +kernel
theorem dX12_checkGlyphs_66 : decode cX12_checkGlyphs 66 = .ok (.aload_n 0, 1) := by decide +kernel
theorem dX12_checkGlyphs_67 : decode cX12_checkGlyphs 67 = .ok (.aload_n 0, 1) := by decide +kernel
theorem dX12_checkGlyphs_68 : decode cX12_checkGlyphs 68 = .ok (.getfield 260, 3) := by decide +kernel
theorem dX12_checkGlyphs_71 : decode cX12_checkGlyphs 71 = .ok (.invokevirtual 274, 3) := by decide +kernel
theorem dX12_checkGlyphs_74 : decode cX12_checkGlyphs 74 = .ok (.aload_n 0, 1) := by decide +kernel
theorem dX12_checkGlyphs_75 : decode cX12_checkGlyphs 75 = .ok (.ldc 240, 2) := by decide +kernel
theorem dX12_checkGlyphs_77 : decode cX12_checkGlyphs 77 = .ok (.invokevirtual 257, 3) := by decide +kernel
theorem dX12_checkGlyphs_80 : decode cX12_checkGlyphs 80 = .ok (.i2l, 1) := by decide +kernel
theorem dX12_checkGlyphs_81 : decode cX12_checkGlyphs 81 = .ok (.lcmp, 1) := by decide +kernel
theorem dX12_checkGlyphs_82 : decode cX12_checkGlyphs 82 = .ok (.ifCond .le 6, 3) := by decide +kernel
theorem dX12_checkGlyphs_85 : decode cX12_checkGlyphs 85 = .ok (.bipush 10, 2) := by decide +kernel
theorem dX12_checkGlyphs_87 : decode cX12_checkGlyphs 87 = .ok (.ireturn, 1) := by decide +kernel
theorem dX12_checkGlyphs_88 : decode cX12_checkGlyphs 88 = .ok (.iconst 0, 1) := by decide +kernel
theorem dX12_checkGlyphs_89 : decode cX12_checkGlyphs 89 = .ok (.istore_n 1, 1) := by decide +kernel
theorem dX12_checkGlyphs_90 : decode cX12_checkGlyphs 90 = .ok (.iload_n 1, 1) := by decide +kernel
theorem dX12_checkGlyphs_91 : decode cX12_checkGlyphs 91 = .ok (.aload_n 0, 1) := by decide +kernel
theorem dX12_checkGlyphs_92 : decode cX12_checkGlyphs 92 = .ok (.getfield 260, 3) := by decide +kernel
theorem dX12_checkGlyphs_95 : decode cX12_checkGlyphs 95 = .ok (.if_icmp .ge 20, 3) := by decide +kernel
theorem dX12_checkGlyphs_98 : decode cX12_checkGlyphs 98 = .ok (.aload_n 0, 1) := by decide +kernel
theorem dX12_checkGlyphs_99 : decode cX12_checkGlyphs 99 = .ok (.iload_n 1, 1) := by decide +kernel
theorem dX12_checkGlyphs_100 : decode cX12_checkGlyphs 100 = .ok (.invokevirtual 278, 3) := by decide +kernel
theorem dX12_checkGlyphs_103 : decode cX12_checkGlyphs 103 = .ok (.ifCond .ne 6, 3) := by decide +kernel
theorem dX12_checkGlyphs_106 : decode cX12_checkGlyphs 106 = .ok (.bipush 11, 2) := by decide +kernel
theorem dX12_checkGlyphs_108 : decode cX12_checkGlyphs 108 = .ok (.ireturn, 1) := by decide +kernel
theorem dX12_checkGlyphs_109 : decode cX12_checkGlyphs 109 = .ok (.iinc 1 1, 3) := by decide +kernel
theorem dX12_checkGlyphs_112 : decode cX12_checkGlyphs 112 = .ok (.goto (-22), 3) := by decide +kernel
theorem dX12_checkGlyphs_115 : decode cX12_checkGlyphs 115 = .ok (.aload_n 0, 1) := by decide +kernel
theorem dX12_checkGlyphs_116 : decode cX12_checkGlyphs 116 = .ok (.invokevirtual 282, 3) := by decide +kernel
theorem dX12_checkGlyphs_119 : decode cX12_checkGlyphs 119 = .ok (.ifCond .ne 6, 3) := by decide +kernel
theorem dX12_checkGlyphs_122 : decode cX12_checkGlyphs 122 = .ok (.bipush 11, 2) := by decide +kernel
theorem dX12_checkGlyphs_124 : decode cX12_checkGlyphs 124 = .ok (.ireturn, 1) := by decide +kernel
theorem dX12_checkGlyphs_125 : decode cX12_checkGlyphs 125 = .ok (.aload_n 0, 1) := by decide +kernel
theorem dX12_checkGlyphs_126 : decode cX12_checkGlyphs 126 = .ok (.invokevirtual 285, 3) := by decide +kernel
theorem dX12_checkGlyphs_129 : decode cX12_checkGlyphs 129 = .ok (.ifCond .ne 6, 3) := by decide +kernel
theorem dX12_checkGlyphs_132 : decode cX12_checkGlyphs 132 = .ok (.bipush 12, 2) := by decide +kernel
theorem dX12_checkGlyphs_134 : decode cX12_checkGlyphs 134 = .ok (.ireturn, 1) := by decide +kernel
theorem dX12_checkGlyphs_135 : decode cX12_checkGlyphs 135 = .ok (.aload_n 0, 1) := by decide +kernel
theorem dX12_checkGlyphs_136 : decode cX12_checkGlyphs 136 = .ok (.invokevirtual 288, 3) := by decide +kernel
theorem dX12_checkGlyphs_139 : decode cX12_checkGlyphs 139 = .ok (.ifCond .ne 6, 3) := by decide +kernel
theorem dX12_checkGlyphs_142 : decode cX12_checkGlyphs 142 = .ok (.bipush 13, 2) := by decide +kernel
theorem dX12_checkGlyphs_144 : decode cX12_checkGlyphs 144 = .ok (.ireturn, 1) := by decide +kernel
theorem dX12_checkGlyphs_145 : decode cX12_checkGlyphs 145 = .ok (.aload_n 0, 1) := by decide +kernel
theorem dX12_checkGlyphs_146 : decode cX12_checkGlyphs 146 = .ok (.ldc_w 291, 3) := by decide +kernel
theorem dX12_checkGlyphs_149 : decode cX12_checkGlyphs 149 = .ok (.invokevirtual 257, 3) := by decide +kernel
theorem dX12_checkGlyphs_152 : decode cX12_checkGlyphs 152 = .ok (.istore_n 1, 1) := by decide +kernel
theorem dX12_checkGlyphs_153 : decode cX12_checkGlyphs 153 = .ok (.iload_n 1, 1) := by decide +kernel
theorem dX12_checkGlyphs_154 : decode cX12_checkGlyphs 154 = .ok (.iconst 2, 1) := by decide +kernel
theorem dX12_checkGlyphs_155 : decode cX12_checkGlyphs 155 = .ok (.irem, 1) := by decide +kernel
theorem dX12_checkGlyphs_156 : decode cX12_checkGlyphs 156 = .ok (.ifCond .ne 36, 3) := by decide +kernel
theorem dX12_checkGlyphs_159 : decode cX12_checkGlyphs 159 = .ok (.iload_n 1, 1) := by decide +kernel
theorem dX12_checkGlyphs_160 : decode cX12_checkGlyphs 160 = .ok (.sipush 512, 3) := by decide +kernel
theorem dX12_checkGlyphs_163 : decode cX12_checkGlyphs 163 = .ok (.if_icmp .gt 29, 3) := by decide +kernel
theorem dX12_checkGlyphs_166 : decode cX12_checkGlyphs 166 = .ok (.aload_n 0, 1) := by decide +kernel
theorem dX12_checkGlyphs_167 : decode cX12_checkGlyphs 167 = .ok (.ldc_w 292, 3) := by decide +kernel
theorem dX12_checkGlyphs_170 : decode cX12_checkGlyphs 170 = .ok (.invokevirtual 257, 3) := by decide +kernel
theorem dX12_checkGlyphs_173 : decode cX12_checkGlyphs 173 = .ok (.sipush 2000, 3) := by decide +kernel
theorem dX12_checkGlyphs_176 : decode cX12_checkGlyphs 176 = .ok (.if_icmp .gt 16, 3) := by decide +kernel
theorem dX12_checkGlyphs_179 : decode cX12_checkGlyphs 179 = .ok (.aload_n 0, 1) := by decide +kernel
theorem dX12_checkGlyphs_180 : decode cX12_checkGlyphs 180 = .ok (.ldc_w 293, 3) := by decide +kernel
theorem dX12_checkGlyphs_183 : decode cX12_checkGlyphs 183 = .ok (.invokevirtual 257, 3) := by decide +kernel
theorem dX12_checkGlyphs_186 : decode cX12_checkGlyphs 186 = .ok (.sipush 2000, 3) := by decide +kernel
theorem dX12_checkGlyphs_189 : decode cX12_checkGlyphs 189 = .ok (.if_icmp .le 6, 3) := by decide +kernel
theorem dX12_checkGlyphs_192 : decode cX12_checkGlyphs 192 = .ok (.bipush 14, 2) := by decide +kernel
theorem dX12_checkGlyphs_194 : decode cX12_checkGlyphs 194 = .ok (.ireturn, 1) := by decide +kernel
theorem dX12_checkGlyphs_195 : decode cX12_checkGlyphs 195 = .ok (.aload_n 0, 1) := by decide +kernel
theorem dX12_checkGlyphs_196 : decode cX12_checkGlyphs 196 = .ok (.iload_n 1, 1) := by decide +kernel
theorem dX12_checkGlyphs_197 : decode cX12_checkGlyphs 197 = .ok (.iconst 2, 1) := by decide +kernel
theorem dX12_checkGlyphs_198 : decode cX12_checkGlyphs 198 = .ok (.idiv, 1) := by decide +kernel
theorem dX12_checkGlyphs_199 : decode cX12_checkGlyphs 199 = .ok (.putfield 294, 3) := by decide +kernel
theorem dX12_checkGlyphs_202 : decode cX12_checkGlyphs 202 = .ok (.iconst 0, 1) := by decide +kernel
theorem dX12_checkGlyphs_203 : decode cX12_checkGlyphs 203 = .ok (.ireturn, 1) := by decide +kernel
def B_X12_checkGlyphs_90 (N : Nat) (k90 : Int32 → sv_V → Option (Int32 × sv_V)) (l1 : Int32) (V : sv_V) : Option (Int32 × sv_V) := if (V.1 146 12) ≤ l1 then ((F_X12_areWithin N  V).bind (fun (x4, V2) => if x4 = 0 then (some ((11 : Int32), V2)) else ((F_X12_map N  V2).bind (fun (x8, V6) => if x8 = 0 then (some ((12 : Int32), V6)) else ((F_X12_kerns N  V6).bind (fun (x12, V10) => if x12 = 0 then (some ((13 : Int32), V10)) else ((F_X12_lengthOf N (1668707360 : Int32) V10).bind (fun (x16, V14) => if (x16 - x16 / (2 : Int32) * (2 : Int32)) = 0 then (if (512 : Int32) < x16 then (some ((14 : Int32), V14)) else ((F_X12_lengthOf N (1718642541 : Int32) V14).bind (fun (x21, V19) => if (2000 : Int32) < x21 then (some ((14 : Int32), V19)) else ((F_X12_lengthOf N (1886545264 : Int32) V19).bind (fun (x25, V23) => if x25 ≤ (2000 : Int32) then (sx_let (sv_I V23 146 25 (x16 / (2 : Int32))) (fun V27 => some ((0 : Int32), V27))) else (some ((14 : Int32), V23))))))) else (some ((14 : Int32), V14)))))))))) else ((F_X12_isGlyph N l1 V).bind (fun (x30, V28) => if x30 = 0 then (some ((11 : Int32), V28)) else (sx_let (l1 + 1) (fun x32 => k90 x32 V28))))
set_option maxRecDepth 20000 in
theorem tB_X12_checkGlyphs_90 {g : sx_G} (hG : sx_Go g) {P : Option Value → sv_V → Prop} {r : Int32} {Vr : sv_V} (hP : P (some (.int r)) Vr) {N : Nat} {k90 : Int32 → sv_V → Option (Int32 × sv_V)} (hk90 : ∀ (l1 : Int32) (V : sv_V), k90 l1 V = some (r, Vr) → sv_N g qX12_checkGlyphs 7 90 [(0, .ref 146), (1, .int l1)] [] V P) {l1 : Int32} {V : sv_V} (h : B_X12_checkGlyphs_90 N k90 l1 V = some (r, Vr)) : sv_N g qX12_checkGlyphs 7 90 [(0, .ref 146), (1, .int l1)] [] V P := by
  unfold B_X12_checkGlyphs_90 at h
  refine sx_iload_n (pc := 90) dX12_checkGlyphs_90 sx_m1 ?_
  refine sx_aload_n (pc := 91) dX12_checkGlyphs_91 sx_m0 ?_
  refine sv_getI (pc := 92) hG dX12_checkGlyphs_92 f_12_260 lay_146 rfl ?_
  refine sx_icmp_ge (pc := 95) (tgt := 115) dX12_checkGlyphs_95 (by decide) (fun c1 => ?_) (fun c1 => ?_)
  · have h := sx_pos c1 h
    refine sx_aload_n (pc := 115) dX12_checkGlyphs_115 sx_m0 ?_
    obtain ⟨⟨x4, V2⟩, g3, h⟩ := sx_bnd h
    refine sv_cV (pc := 116) (y := qX12_areWithin) (o := (some (.int x4))) (as := []) (V1 := V2) hG dX12_checkGlyphs_116 l_X12_282 y0X12_areWithin yvX12_areWithin rfl (Nat.le_of_ble_eq_true rfl) lay_146 kr_12 (by decide) (Nat.le_of_ble_eq_true rfl) rfl rfl rfl (t_X12_areWithin hG ⟨rfl, rfl⟩ g3) ?_
    refine sx_if_ne (pc := 119) (tgt := 125) dX12_checkGlyphs_119 (by decide) (fun c5 => ?_) (fun c5 => ?_)
    · have h := sx_neg c5 h
      refine sx_aload_n (pc := 125) dX12_checkGlyphs_125 sx_m0 ?_
      obtain ⟨⟨x8, V6⟩, g7, h⟩ := sx_bnd h
      refine sv_cV (pc := 126) (y := qX12_map) (o := (some (.int x8))) (as := []) (V1 := V6) hG dX12_checkGlyphs_126 l_X12_285 y0X12_map yvX12_map rfl (Nat.le_of_ble_eq_true rfl) lay_146 kr_12 (by decide) (Nat.le_of_ble_eq_true rfl) rfl rfl rfl (t_X12_map hG ⟨rfl, rfl⟩ g7) ?_
      refine sx_if_ne (pc := 129) (tgt := 135) dX12_checkGlyphs_129 (by decide) (fun c9 => ?_) (fun c9 => ?_)
      · have h := sx_neg c9 h
        refine sx_aload_n (pc := 135) dX12_checkGlyphs_135 sx_m0 ?_
        obtain ⟨⟨x12, V10⟩, g11, h⟩ := sx_bnd h
        refine sv_cV (pc := 136) (y := qX12_kerns) (o := (some (.int x12))) (as := []) (V1 := V10) hG dX12_checkGlyphs_136 l_X12_288 y0X12_kerns yvX12_kerns rfl (Nat.le_of_ble_eq_true rfl) lay_146 kr_12 (by decide) (Nat.le_of_ble_eq_true rfl) rfl rfl rfl (t_X12_kerns hG ⟨rfl, rfl⟩ g11) ?_
        refine sx_if_ne (pc := 139) (tgt := 145) dX12_checkGlyphs_139 (by decide) (fun c13 => ?_) (fun c13 => ?_)
        · have h := sx_neg c13 h
          refine sx_aload_n (pc := 145) dX12_checkGlyphs_145 sx_m0 ?_
          refine sx_ldcw (pc := 146) dX12_checkGlyphs_146 k_X12_291 ?_
          obtain ⟨⟨x16, V14⟩, g15, h⟩ := sx_bnd h
          refine sv_cV (pc := 149) (y := qX12_lengthOf) (o := (some (.int x16))) (as := [.int (1668707360 : Int32)]) (V1 := V14) hG dX12_checkGlyphs_149 l_X12_257 y0X12_lengthOf yvX12_lengthOf rfl (Nat.le_of_ble_eq_true rfl) lay_146 kr_12 (by decide) (Nat.le_of_ble_eq_true rfl) rfl rfl rfl (t_X12_lengthOf hG ⟨rfl, rfl⟩ g15) ?_
          refine sx_istore_n (pc := 152) (lo' := [(1, .int x16), (0, .ref 146)]) dX12_checkGlyphs_152 (by decide) rfl ?_
          refine sx_iload_n (pc := 153) dX12_checkGlyphs_153 sx_m0 ?_
          refine sx_iconst (pc := 154) (v := 2) dX12_checkGlyphs_154 (by decide) ?_
          refine sx_irem (pc := 155) dX12_checkGlyphs_155 (by decide) ?_
          refine sx_if_ne (pc := 156) (tgt := 192) dX12_checkGlyphs_156 (by decide) (fun c17 => ?_) (fun c17 => ?_)
          · have h := sx_neg c17 h
            refine sx_bipush (pc := 192) (v := 14) dX12_checkGlyphs_192 (by decide) ?_
            exact sv_iret (pc := 194) dX12_checkGlyphs_194 rfl h hP
          · have h := sx_pos c17 h
            refine sx_iload_n (pc := 159) dX12_checkGlyphs_159 sx_m0 ?_
            refine sx_sipush (pc := 160) (v := 512) dX12_checkGlyphs_160 (by decide) ?_
            refine sx_icmp_gt (pc := 163) (tgt := 192) dX12_checkGlyphs_163 (by decide) (fun c18 => ?_) (fun c18 => ?_)
            · have h := sx_pos c18 h
              refine sx_bipush (pc := 192) (v := 14) dX12_checkGlyphs_192 (by decide) ?_
              exact sv_iret (pc := 194) dX12_checkGlyphs_194 rfl h hP
            · have h := sx_neg c18 h
              refine sx_aload_n (pc := 166) dX12_checkGlyphs_166 sx_m1 ?_
              refine sx_ldcw (pc := 167) dX12_checkGlyphs_167 k_X12_292 ?_
              obtain ⟨⟨x21, V19⟩, g20, h⟩ := sx_bnd h
              refine sv_cV (pc := 170) (y := qX12_lengthOf) (o := (some (.int x21))) (as := [.int (1718642541 : Int32)]) (V1 := V19) hG dX12_checkGlyphs_170 l_X12_257 y0X12_lengthOf yvX12_lengthOf rfl (Nat.le_of_ble_eq_true rfl) lay_146 kr_12 (by decide) (Nat.le_of_ble_eq_true rfl) rfl rfl rfl (t_X12_lengthOf hG ⟨rfl, rfl⟩ g20) ?_
              refine sx_sipush (pc := 173) (v := 2000) dX12_checkGlyphs_173 (by decide) ?_
              refine sx_icmp_gt (pc := 176) (tgt := 192) dX12_checkGlyphs_176 (by decide) (fun c22 => ?_) (fun c22 => ?_)
              · have h := sx_pos c22 h
                refine sx_bipush (pc := 192) (v := 14) dX12_checkGlyphs_192 (by decide) ?_
                exact sv_iret (pc := 194) dX12_checkGlyphs_194 rfl h hP
              · have h := sx_neg c22 h
                refine sx_aload_n (pc := 179) dX12_checkGlyphs_179 sx_m1 ?_
                refine sx_ldcw (pc := 180) dX12_checkGlyphs_180 k_X12_293 ?_
                obtain ⟨⟨x25, V23⟩, g24, h⟩ := sx_bnd h
                refine sv_cV (pc := 183) (y := qX12_lengthOf) (o := (some (.int x25))) (as := [.int (1886545264 : Int32)]) (V1 := V23) hG dX12_checkGlyphs_183 l_X12_257 y0X12_lengthOf yvX12_lengthOf rfl (Nat.le_of_ble_eq_true rfl) lay_146 kr_12 (by decide) (Nat.le_of_ble_eq_true rfl) rfl rfl rfl (t_X12_lengthOf hG ⟨rfl, rfl⟩ g24) ?_
                refine sx_sipush (pc := 186) (v := 2000) dX12_checkGlyphs_186 (by decide) ?_
                refine sx_icmp_le (pc := 189) (tgt := 195) dX12_checkGlyphs_189 (by decide) (fun c26 => ?_) (fun c26 => ?_)
                · have h := sx_pos c26 h
                  refine sx_aload_n (pc := 195) dX12_checkGlyphs_195 sx_m1 ?_
                  refine sx_iload_n (pc := 196) dX12_checkGlyphs_196 sx_m0 ?_
                  refine sx_iconst (pc := 197) (v := 2) dX12_checkGlyphs_197 (by decide) ?_
                  refine sx_idiv (pc := 198) dX12_checkGlyphs_198 (by decide) ?_
                  obtain ⟨V27, hV27⟩ : ∃ z : sv_V, z = sv_I V23 146 25 (x16 / (2 : Int32)) := ⟨_, rfl⟩
                  have h := sx_letE hV27 h
                  refine sv_putI (pc := 199) hG dX12_checkGlyphs_199 f_12_294 lay_146 rfl hV27 ?_
                  refine sx_iconst (pc := 202) (v := 0) dX12_checkGlyphs_202 (by decide) ?_
                  exact sv_iret (pc := 203) dX12_checkGlyphs_203 rfl h hP
                · have h := sx_neg c26 h
                  refine sx_bipush (pc := 192) (v := 14) dX12_checkGlyphs_192 (by decide) ?_
                  exact sv_iret (pc := 194) dX12_checkGlyphs_194 rfl h hP
        · have h := sx_pos c13 h
          refine sx_bipush (pc := 142) (v := 13) dX12_checkGlyphs_142 (by decide) ?_
          exact sv_iret (pc := 144) dX12_checkGlyphs_144 rfl h hP
      · have h := sx_pos c9 h
        refine sx_bipush (pc := 132) (v := 12) dX12_checkGlyphs_132 (by decide) ?_
        exact sv_iret (pc := 134) dX12_checkGlyphs_134 rfl h hP
    · have h := sx_pos c5 h
      refine sx_bipush (pc := 122) (v := 11) dX12_checkGlyphs_122 (by decide) ?_
      exact sv_iret (pc := 124) dX12_checkGlyphs_124 rfl h hP
  · have h := sx_neg c1 h
    refine sx_aload_n (pc := 98) dX12_checkGlyphs_98 sx_m0 ?_
    refine sx_iload_n (pc := 99) dX12_checkGlyphs_99 sx_m1 ?_
    obtain ⟨⟨x30, V28⟩, g29, h⟩ := sx_bnd h
    refine sv_cV (pc := 100) (y := qX12_isGlyph) (o := (some (.int x30))) (as := [.int l1]) (V1 := V28) hG dX12_checkGlyphs_100 l_X12_278 y0X12_isGlyph yvX12_isGlyph rfl (Nat.le_of_ble_eq_true rfl) lay_146 kr_12 (by decide) (Nat.le_of_ble_eq_true rfl) rfl rfl rfl (t_X12_isGlyph hG ⟨rfl, rfl⟩ g29) ?_
    refine sx_if_ne (pc := 103) (tgt := 109) dX12_checkGlyphs_103 (by decide) (fun c31 => ?_) (fun c31 => ?_)
    · have h := sx_neg c31 h
      obtain ⟨x32, hx32⟩ : ∃ z : Int32, z = l1 + 1 := ⟨_, rfl⟩
      have h := sx_letE hx32 h
      refine sx_iinc (pc := 109) (v := x32) (lo' := [(1, .int x32), (0, .ref 146)]) dX12_checkGlyphs_109 sx_m1 (by rw [hx32]; rfl) (by decide) rfl ?_
      refine sx_goto (pc := 112) (tgt := 90) dX12_checkGlyphs_112 (by decide) ?_
      refine sx_wk (sx_s1 sx_m1 (sx_s1 sx_m0 sx_s0)) ?_
      exact hk90 _ _ h
    · have h := sx_pos c31 h
      refine sx_bipush (pc := 106) (v := 11) dX12_checkGlyphs_106 (by decide) ?_
      exact sv_iret (pc := 108) dX12_checkGlyphs_108 rfl h hP
theorem tL_X12_checkGlyphs_90 {g : sx_G} (hG : sx_Go g) {P : Option Value → sv_V → Prop} {r : Int32} {Vr : sv_V} (hP : P (some (.int r)) Vr) {N : Nat}   : ∀ (n : Nat) (l1 : Int32) (V : sv_V), sx_lp2 (B_X12_checkGlyphs_90 N ) n l1 V = some (r, Vr) → sv_N g qX12_checkGlyphs 7 90 [(0, .ref 146), (1, .int l1)] [] V P :=
  sx_lp2_ind (fun k0 ih _ V h => tB_X12_checkGlyphs_90 hG hP ih h)
def B_X12_checkGlyphs_33 (N : Nat) (k33 : Int32 → sv_V → Option (Int32 × sv_V)) (l1 : Int32) (V : sv_V) : Option (Int32 × sv_V) := if (V.1 146 12) ≤ l1 then ((F_X12_loca N (V.1 146 12) V).bind (fun (x36, V34) => (F_X12_lengthOf N (1735162214 : Int32) V34).bind (fun (x39, V37) => if (lg_cmp x36 x39.toInt64) ≤ 0 then (sx_lp2 (B_X12_checkGlyphs_90 N ) N (0 : Int32) V37) else (some ((10 : Int32), V37))))) else ((F_X12_loca N l1 V).bind (fun (x43, V41) => (F_X12_loca N (l1 + (1 : Int32)) V41).bind (fun (x46, V44) => if (lg_cmp x43 x46) ≤ 0 then (sx_let (l1 + 1) (fun x48 => k33 x48 V44)) else (some ((10 : Int32), V44)))))
set_option maxRecDepth 20000 in
theorem tB_X12_checkGlyphs_33 {g : sx_G} (hG : sx_Go g) {P : Option Value → sv_V → Prop} {r : Int32} {Vr : sv_V} (hP : P (some (.int r)) Vr) {N : Nat} {k33 : Int32 → sv_V → Option (Int32 × sv_V)} (hk33 : ∀ (l1 : Int32) (V : sv_V), k33 l1 V = some (r, Vr) → sv_N g qX12_checkGlyphs 7 33 [(0, .ref 146), (1, .int l1)] [] V P) {l1 : Int32} {V : sv_V} (h : B_X12_checkGlyphs_33 N k33 l1 V = some (r, Vr)) : sv_N g qX12_checkGlyphs 7 33 [(0, .ref 146), (1, .int l1)] [] V P := by
  unfold B_X12_checkGlyphs_33 at h
  refine sx_iload_n (pc := 33) dX12_checkGlyphs_33 sx_m1 ?_
  refine sx_aload_n (pc := 34) dX12_checkGlyphs_34 sx_m0 ?_
  refine sv_getI (pc := 35) hG dX12_checkGlyphs_35 f_12_260 lay_146 rfl ?_
  refine sx_icmp_ge (pc := 38) (tgt := 66) dX12_checkGlyphs_38 (by decide) (fun c33 => ?_) (fun c33 => ?_)
  · have h := sx_pos c33 h
    refine sx_aload_n (pc := 66) dX12_checkGlyphs_66 sx_m0 ?_
    refine sx_aload_n (pc := 67) dX12_checkGlyphs_67 sx_m0 ?_
    refine sv_getI (pc := 68) hG dX12_checkGlyphs_68 f_12_260 lay_146 rfl ?_
    obtain ⟨⟨x36, V34⟩, g35, h⟩ := sx_bnd h
    refine sv_cV (pc := 71) (y := qX12_loca) (o := (some (.long x36))) (as := [.int (V.1 146 12)]) (V1 := V34) hG dX12_checkGlyphs_71 l_X12_274 y0X12_loca yvX12_loca rfl (Nat.le_of_ble_eq_true rfl) lay_146 kr_12 (by decide) (Nat.le_of_ble_eq_true rfl) rfl rfl rfl (t_X12_loca hG ⟨rfl, rfl⟩ g35) ?_
    refine sx_aload_n (pc := 74) dX12_checkGlyphs_74 sx_m0 ?_
    refine sx_ldc (pc := 75) dX12_checkGlyphs_75 k_X12_240 ?_
    obtain ⟨⟨x39, V37⟩, g38, h⟩ := sx_bnd h
    refine sv_cV (pc := 77) (y := qX12_lengthOf) (o := (some (.int x39))) (as := [.int (1735162214 : Int32)]) (V1 := V37) hG dX12_checkGlyphs_77 l_X12_257 y0X12_lengthOf yvX12_lengthOf rfl (Nat.le_of_ble_eq_true rfl) lay_146 kr_12 (by decide) (Nat.le_of_ble_eq_true rfl) rfl rfl rfl (t_X12_lengthOf hG ⟨rfl, rfl⟩ g38) ?_
    refine sx_i2l (pc := 80) dX12_checkGlyphs_80 ?_
    refine sx_lcmp (pc := 81) dX12_checkGlyphs_81 ?_
    refine sx_if_le (pc := 82) (tgt := 88) dX12_checkGlyphs_82 (by decide) (fun c40 => ?_) (fun c40 => ?_)
    · have h := sx_pos c40 h
      refine sx_iconst (pc := 88) (v := 0) dX12_checkGlyphs_88 (by decide) ?_
      refine sx_istore_n (pc := 89) (lo' := [(1, .int (0 : Int32)), (0, .ref 146)]) dX12_checkGlyphs_89 (by decide) rfl ?_
      refine sx_wk (sx_s1 sx_m1 (sx_s1 sx_m0 sx_s0)) ?_
      exact tL_X12_checkGlyphs_90 hG hP  N _ _ h
    · have h := sx_neg c40 h
      refine sx_bipush (pc := 85) (v := 10) dX12_checkGlyphs_85 (by decide) ?_
      exact sv_iret (pc := 87) dX12_checkGlyphs_87 rfl h hP
  · have h := sx_neg c33 h
    refine sx_aload_n (pc := 41) dX12_checkGlyphs_41 sx_m0 ?_
    refine sx_iload_n (pc := 42) dX12_checkGlyphs_42 sx_m1 ?_
    obtain ⟨⟨x43, V41⟩, g42, h⟩ := sx_bnd h
    refine sv_cV (pc := 43) (y := qX12_loca) (o := (some (.long x43))) (as := [.int l1]) (V1 := V41) hG dX12_checkGlyphs_43 l_X12_274 y0X12_loca yvX12_loca rfl (Nat.le_of_ble_eq_true rfl) lay_146 kr_12 (by decide) (Nat.le_of_ble_eq_true rfl) rfl rfl rfl (t_X12_loca hG ⟨rfl, rfl⟩ g42) ?_
    refine sx_aload_n (pc := 46) dX12_checkGlyphs_46 sx_m0 ?_
    refine sx_iload_n (pc := 47) dX12_checkGlyphs_47 sx_m1 ?_
    refine sx_iconst (pc := 48) (v := 1) dX12_checkGlyphs_48 (by decide) ?_
    refine sx_iadd (pc := 49) dX12_checkGlyphs_49 ?_
    obtain ⟨⟨x46, V44⟩, g45, h⟩ := sx_bnd h
    refine sv_cV (pc := 50) (y := qX12_loca) (o := (some (.long x46))) (as := [.int (l1 + (1 : Int32))]) (V1 := V44) hG dX12_checkGlyphs_50 l_X12_274 y0X12_loca yvX12_loca rfl (Nat.le_of_ble_eq_true rfl) lay_146 kr_12 (by decide) (Nat.le_of_ble_eq_true rfl) rfl rfl rfl (t_X12_loca hG ⟨rfl, rfl⟩ g45) ?_
    refine sx_lcmp (pc := 53) dX12_checkGlyphs_53 ?_
    refine sx_if_le (pc := 54) (tgt := 60) dX12_checkGlyphs_54 (by decide) (fun c47 => ?_) (fun c47 => ?_)
    · have h := sx_pos c47 h
      obtain ⟨x48, hx48⟩ : ∃ z : Int32, z = l1 + 1 := ⟨_, rfl⟩
      have h := sx_letE hx48 h
      refine sx_iinc (pc := 60) (v := x48) (lo' := [(1, .int x48), (0, .ref 146)]) dX12_checkGlyphs_60 sx_m1 (by rw [hx48]; rfl) (by decide) rfl ?_
      refine sx_goto (pc := 63) (tgt := 33) dX12_checkGlyphs_63 (by decide) ?_
      refine sx_wk (sx_s1 sx_m1 (sx_s1 sx_m0 sx_s0)) ?_
      exact hk33 _ _ h
    · have h := sx_neg c47 h
      refine sx_bipush (pc := 57) (v := 10) dX12_checkGlyphs_57 (by decide) ?_
      exact sv_iret (pc := 59) dX12_checkGlyphs_59 rfl h hP
theorem tL_X12_checkGlyphs_33 {g : sx_G} (hG : sx_Go g) {P : Option Value → sv_V → Prop} {r : Int32} {Vr : sv_V} (hP : P (some (.int r)) Vr) {N : Nat}   : ∀ (n : Nat) (l1 : Int32) (V : sv_V), sx_lp2 (B_X12_checkGlyphs_33 N ) n l1 V = some (r, Vr) → sv_N g qX12_checkGlyphs 7 33 [(0, .ref 146), (1, .int l1)] [] V P :=
  sx_lp2_ind (fun k0 ih _ V h => tB_X12_checkGlyphs_33 hG hP ih h)
def B_X12_checkGlyphs_24 (N : Nat)  (s0 : Int32) (s1 : Int32) (s2 : Int32) (V : sv_V) : Option (Int32 × sv_V) := if (s1 * s2) ≤ s0 then (sx_lp2 (B_X12_checkGlyphs_33 N ) N (0 : Int32) V) else (some ((10 : Int32), V))
set_option maxRecDepth 20000 in
theorem tB_X12_checkGlyphs_24 {g : sx_G} (hG : sx_Go g) {P : Option Value → sv_V → Prop} {r : Int32} {Vr : sv_V} (hP : P (some (.int r)) Vr) {N : Nat}   {s0 : Int32} {s1 : Int32} {s2 : Int32} {V : sv_V} (h : B_X12_checkGlyphs_24 N  s0 s1 s2 V = some (r, Vr)) : sv_N g qX12_checkGlyphs 7 24 [(0, .ref 146)] [.int s2, .int s1, .int s0] V P := by
  unfold B_X12_checkGlyphs_24 at h
  refine sx_imul (pc := 24) dX12_checkGlyphs_24 ?_
  refine sx_icmp_ge (pc := 25) (tgt := 31) dX12_checkGlyphs_25 (by decide) (fun c49 => ?_) (fun c49 => ?_)
  · have h := sx_pos c49 h
    refine sx_iconst (pc := 31) (v := 0) dX12_checkGlyphs_31 (by decide) ?_
    refine sx_istore_n (pc := 32) (lo' := [(1, .int (0 : Int32)), (0, .ref 146)]) dX12_checkGlyphs_32 (by decide) rfl ?_
    refine sx_wk (sx_s1 sx_m1 (sx_s1 sx_m0 sx_s0)) ?_
    exact tL_X12_checkGlyphs_33 hG hP  N _ _ h
  · have h := sx_neg c49 h
    refine sx_bipush (pc := 28) (v := 10) dX12_checkGlyphs_28 (by decide) ?_
    exact sv_iret (pc := 30) dX12_checkGlyphs_30 rfl h hP
def F_X12_checkGlyphs (N : Nat)  (V : sv_V) : Option (Int32 × sv_V) := (F_X12_lengthOf N (1819239265 : Int32) V).bind (fun (x52, V50) => if (V50.1 146 11) = 0 then (B_X12_checkGlyphs_24 N  x52 ((V50.1 146 12) + (1 : Int32)) (2 : Int32) V50) else (B_X12_checkGlyphs_24 N  x52 ((V50.1 146 12) + (1 : Int32)) (4 : Int32) V50))
set_option maxRecDepth 20000 in
theorem t_X12_checkGlyphs {g : sx_G} (hG : sx_Go g) {P : Option Value → sv_V → Prop} {r : Int32} {Vr : sv_V} (hP : P (some (.int r)) Vr) {N : Nat}  {V : sv_V} (h : F_X12_checkGlyphs N  V = some (r, Vr)) : sv_N g qX12_checkGlyphs 7 0 [(0, .ref 146)] [] V P := by
  unfold F_X12_checkGlyphs at h
  refine sx_aload_n (pc := 0) dX12_checkGlyphs_0 sx_m0 ?_
  refine sx_ldc (pc := 1) dX12_checkGlyphs_1 k_X12_243 ?_
  obtain ⟨⟨x52, V50⟩, g51, h⟩ := sx_bnd h
  refine sv_cV (pc := 3) (y := qX12_lengthOf) (o := (some (.int x52))) (as := [.int (1819239265 : Int32)]) (V1 := V50) hG dX12_checkGlyphs_3 l_X12_257 y0X12_lengthOf yvX12_lengthOf rfl (Nat.le_of_ble_eq_true rfl) lay_146 kr_12 (by decide) (Nat.le_of_ble_eq_true rfl) rfl rfl rfl (t_X12_lengthOf hG ⟨rfl, rfl⟩ g51) ?_
  refine sx_aload_n (pc := 6) dX12_checkGlyphs_6 sx_m0 ?_
  refine sv_getI (pc := 7) hG dX12_checkGlyphs_7 f_12_260 lay_146 rfl ?_
  refine sx_iconst (pc := 10) (v := 1) dX12_checkGlyphs_10 (by decide) ?_
  refine sx_iadd (pc := 11) dX12_checkGlyphs_11 ?_
  refine sx_aload_n (pc := 12) dX12_checkGlyphs_12 sx_m0 ?_
  refine sv_getI (pc := 13) hG dX12_checkGlyphs_13 f_12_271 lay_146 rfl ?_
  refine sx_if_ne (pc := 16) (tgt := 23) dX12_checkGlyphs_16 (by decide) (fun c53 => ?_) (fun c53 => ?_)
  · have h := sx_neg c53 h
    refine sx_iconst (pc := 23) (v := 4) dX12_checkGlyphs_23 (by decide) ?_
    refine sx_wk (sx_s1 sx_m0 sx_s0) ?_
    exact tB_X12_checkGlyphs_24 hG hP  h
  · have h := sx_pos c53 h
    refine sx_iconst (pc := 19) (v := 2) dX12_checkGlyphs_19 (by decide) ?_
    refine sx_goto (pc := 20) (tgt := 24) dX12_checkGlyphs_20 (by decide) ?_
    refine sx_wk (sx_s1 sx_m0 sx_s0) ?_
    exact tB_X12_checkGlyphs_24 hG hP  h
