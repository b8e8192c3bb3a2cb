/-! methods: X12_more, X2_findGlyph, X3_glyphHolds, X3_depthsHold, X4_tablesLieRight, X5_goAlongNumbers, X5_goAlongLine, X5_goAlongBothLines -/
theorem dX12_more_0 : decode cX12_more 0 = .ok (.iload_n 1, 1) := by decide +kernel
theorem dX12_more_1 : decode cX12_more 1 = .ok (.tableswitch 644 128 141 #[71, 193, 193, 644, 644, 293, 314, 314, 512, 541, 546, 644, 644, 623], 71) := by decide +kernel
theorem dX12_more_72 : decode cX12_more 72 = .ok (.aload_n 0, 1) := by decide +kernel
theorem dX12_more_73 : decode cX12_more 73 = .ok (.aload_n 0, 1) := by decide +kernel
theorem dX12_more_74 : decode cX12_more 74 = .ok (.getfield 469, 3) := by decide +kernel
theorem dX12_more_77 : decode cX12_more 77 = .ok (.invokevirtual 576, 3) := by decide +kernel
theorem dX12_more_80 : decode cX12_more 80 = .ok (.ifCond .eq 113, 3) := by decide +kernel
theorem dX12_more_83 : decode cX12_more 83 = .ok (.iconst 0, 1) := by decide +kernel
theorem dX12_more_84 : decode cX12_more 84 = .ok (.istore_n 2, 1) := by decide +kernel
theorem dX12_more_85 : decode cX12_more 85 = .ok (.iload_n 2, 1) := by decide +kernel
theorem dX12_more_86 : decode cX12_more 86 = .ok (.aload_n 0, 1) := by decide +kernel
theorem dX12_more_87 : decode cX12_more 87 = .ok (.getfield 469, 3) := by decide +kernel
theorem dX12_more_90 : decode cX12_more 90 = .ok (.if_icmp .ge 98, 3) := by decide +kernel
theorem dX12_more_93 : decode cX12_more 93 = .ok (.aload_n 0, 1) := by decide +kernel
theorem dX12_more_94 : decode cX12_more 94 = .ok (.getfield 409, 3) := by decide +kernel
theorem dX12_more_97 : decode cX12_more 97 = .ok (.ifCond .ne 91, 3) := by decide +kernel
theorem dX12_more_100 : decode cX12_more 100 = .ok (.aload_n 0, 1) := by decide +kernel
theorem dX12_more_101 : decode cX12_more 101 = .ok (.aload_n 0, 1) := by decide +kernel
theorem dX12_more_102 : decode cX12_more 102 = .ok (.getfield 460, 3) := by decide +kernel
theorem dX12_more_105 : decode cX12_more 105 = .ok (.aload_n 0, 1) := by decide +kernel
theorem dX12_more_106 : decode cX12_more 106 = .ok (.invokevirtual 579, 3) := by decide +kernel
theorem dX12_more_109 : decode cX12_more 109 = .ok (.invokevirtual 582, 3) := by decide +kernel
theorem dX12_more_112 : decode cX12_more 112 = .ok (.istore_n 3, 1) := by decide +kernel
theorem dX12_more_113 : decode cX12_more 113 = .ok (.aload_n 0, 1) := by decide +kernel
theorem dX12_more_114 : decode cX12_more 114 = .ok (.getfield 409, 3) := by decide +kernel
theorem dX12_more_117 : decode cX12_more 117 = .ok (.ifCond .ne 32, 3) := by decide +kernel
theorem dX12_more_120 : decode cX12_more 120 = .ok (.aload_n 0, 1) := by decide +kernel
theorem dX12_more_121 : decode cX12_more 121 = .ok (.getfield 460, 3) := by decide +kernel
theorem dX12_more_124 : decode cX12_more 124 = .ok (.iconst 1, 1) := by decide +kernel
theorem dX12_more_125 : decode cX12_more 125 = .ok (.if_icmp .ne 16, 3) := by decide +kernel
theorem dX12_more_128 : decode cX12_more 128 = .ok (.iload_n 3, 1) := by decide +kernel
theorem dX12_more_129 : decode cX12_more 129 = .ok (.bipush 102, 2) := by decide +kernel
theorem dX12_more_131 : decode cX12_more 131 = .ok (.isub, 1) := by decide +kernel
theorem dX12_more_132 : decode cX12_more 132 = .ok (.aload_n 0, 1) := by decide +kernel
theorem dX12_more_133 : decode cX12_more 133 = .ok (.getfield 514, 3) := by decide +kernel
theorem dX12_more_136 : decode cX12_more 136 = .ok (.iconst 2, 1) := by decide +kernel
theorem dX12_more_137 : decode cX12_more 137 = .ok (.isub, 1) := by decide +kernel
theorem dX12_more_138 : decode cX12_more 138 = .ok (.if_icmp .lt 11, 3) := by decide +kernel
theorem dX12_more_141 : decode cX12_more 141 = .ok (.aload_n 0, 1) := by decide +kernel
theorem dX12_more_142 : decode cX12_more 142 = .ok (.iconst 5, 1) := by decide +kernel
theorem dX12_more_143 : decode cX12_more 143 = .ok (.invokevirtual 421, 3) := by decide +kernel
theorem dX12_more_146 : decode cX12_more 146 = .ok (.goto 36, 3) := by decide +kernel
theorem dX12_more_149 : decode cX12_more 149 = .ok (.aload_n 0, 1) := by decide +kernel
theorem dX12_more_150 : decode cX12_more 150 = .ok (.getfield 409, 3) := by decide +kernel
theorem dX12_more_153 : decode cX12_more 153 = .ok (.ifCond .ne 29, 3) := by decide +kernel
theorem dX12_more_156 : decode cX12_more 156 = .ok (.aload_n 0, 1) := by decide +kernel
theorem dX12_more_157 : decode cX12_more 157 = .ok (.getfield 85, 3) := by decide +kernel
theorem dX12_more_160 : decode cX12_more 160 = .ok (.iload_n 3, 1) := by decide +kernel
theorem dX12_more_161 : decode cX12_more 161 = .ok (.bipush 102, 2) := by decide +kernel
theorem dX12_more_163 : decode cX12_more 163 = .ok (.isub, 1) := by decide +kernel
theorem dX12_more_164 : decode cX12_more 164 = .ok (.aload_n 0, 1) := by decide +kernel
theorem dX12_more_165 : decode cX12_more 165 = .ok (.getfield 85, 3) := by decide +kernel
theorem dX12_more_168 : decode cX12_more 168 = .ok (.iload_n 3, 1) := by decide +kernel
theorem dX12_more_169 : decode cX12_more 169 = .ok (.bipush 102, 2) := by decide +kernel
theorem dX12_more_171 : decode cX12_more 171 = .ok (.isub, 1) := by decide +kernel
theorem dX12_more_172 : decode cX12_more 172 = .ok (.baload, 1) := by decide +kernel
theorem dX12_more_173 : decode cX12_more 173 = .ok (.ifCond .ne 7, 3) := by decide +kernel
theorem dX12_more_176 : decode cX12_more 176 = .ok (.iconst 1, 1) := by decide +kernel
theorem dX12_more_177 : decode cX12_more 177 = .ok (.goto 4, 3) := by decide +kernel
theorem dX12_more_180 : decode cX12_more 180 = .ok (.iconst 0, 1) := by decide +kernel
theorem dX12_more_181 : decode cX12_more 181 = .ok (.bastore, 1) := by decide +kernel
theorem dX12_more_182 : decode cX12_more 182 = .ok (.iinc 2 1, 3) := by decide +kernel
theorem dX12_more_185 : decode cX12_more 185 = .ok (.goto (-100), 3) := by decide +kernel
theorem dX12_more_188 : decode cX12_more 188 = .ok (.aload_n 0, 1) := by decide +kernel
theorem dX12_more_189 : decode cX12_more 189 = .ok (.iconst 1, 1) := by decide +kernel
theorem dX12_more_190 : decode cX12_more 190 = .ok (.putfield 469, 3) := by decide +kernel
theorem dX12_more_193 : decode cX12_more 193 = .ok (.return_, 1) := by decide +kernel
theorem dX12_more_194 : decode cX12_more 194 = .ok (.aload_n 0, 1) := by decide +kernel
theorem dX12_more_195 : decode cX12_more 195 = .ok (.iconst 2, 1) := by decide +kernel
theorem dX12_more_196 : decode cX12_more 196 = .ok (.invokevirtual 576, 3) := by decide +kernel
theorem dX12_more_199 : decode cX12_more 199 = .ok (.ifCond .eq 94, 3) := by decide +kernel
theorem dX12_more_202 : decode cX12_more 202 = .ok (.aload_n 0, 1) := by decide +kernel
theorem dX12_more_203 : decode cX12_more 203 = .ok (.invokevirtual 579, 3) := by decide +kernel
theorem dX12_more_206 : decode cX12_more 206 = .ok (.istore_n 2, 1) := by decide +kernel
theorem dX12_more_207 : decode cX12_more 207 = .ok (.aload_n 0, 1) := by decide +kernel
theorem dX12_more_208 : decode cX12_more 208 = .ok (.invokevirtual 579, 3) := by decide +kernel
theorem dX12_more_211 : decode cX12_more 211 = .ok (.istore_n 3, 1) := by decide +kernel
theorem dX12_more_212 : decode cX12_more 212 = .ok (.aload_n 0, 1) := by decide +kernel
theorem dX12_more_213 : decode cX12_more 213 = .ok (.getfield 706, 3) := by decide +kernel
theorem dX12_more_216 : decode cX12_more 216 = .ok (.ifCond .ne 7, 3) := by decide +kernel
theorem dX12_more_219 : decode cX12_more 219 = .ok (.iconst 0, 1) := by decide +kernel
theorem dX12_more_220 : decode cX12_more 220 = .ok (.goto 16, 3) := by decide +kernel
theorem dX12_more_223 : decode cX12_more 223 = .ok (.aload_n 0, 1) := by decide +kernel
theorem dX12_more_224 : decode cX12_more 224 = .ok (.getfield 88, 3) := by decide +kernel
theorem dX12_more_227 : decode cX12_more 227 = .ok (.aload_n 0, 1) := by decide +kernel
theorem dX12_more_228 : decode cX12_more 228 = .ok (.getfield 706, 3) := by decide +kernel
theorem dX12_more_231 : decode cX12_more 231 = .ok (.iconst 1, 1) := by decide +kernel
theorem dX12_more_232 : decode cX12_more 232 = .ok (.isub, 1) := by decide +kernel
theorem dX12_more_233 : decode cX12_more 233 = .ok (.iaload, 1) := by decide +kernel
theorem dX12_more_234 : decode cX12_more 234 = .ok (.iconst 1, 1) := by decide +kernel
theorem dX12_more_235 : decode cX12_more 235 = .ok (.iadd, 1) := by decide +kernel
theorem dX12_more_236 : decode cX12_more 236 = .ok (.istore 4, 2) := by decide +kernel
theorem dX12_more_238 : decode cX12_more 238 = .ok (.iload_n 3, 1) := by decide +kernel
theorem dX12_more_239 : decode cX12_more 239 = .ok (.iload_n 2, 1) := by decide +kernel
theorem dX12_more_240 : decode cX12_more 240 = .ok (.if_icmp .gt 19, 3) := by decide +kernel
theorem dX12_more_243 : decode cX12_more 243 = .ok (.iload_n 3, 1) := by decide +kernel
theorem dX12_more_244 : decode cX12_more 244 = .ok (.ifCond .lt 9, 3) := by decide +kernel
theorem dX12_more_247 : decode cX12_more 247 = .ok (.iload_n 2, 1) := by decide +kernel
theorem dX12_more_248 : decode cX12_more 248 = .ok (.iload 4, 2) := by decide +kernel
theorem dX12_more_250 : decode cX12_more 250 = .ok (.if_icmp .lt 9, 3) := by decide +kernel
theorem dX12_more_253 : decode cX12_more 253 = .ok (.aload_n 0, 1) := by decide +kernel
theorem dX12_more_254 : decode cX12_more 254 = .ok (.iconst 5, 1) := by decide +kernel
theorem dX12_more_255 : decode cX12_more 255 = .ok (.invokevirtual 421, 3) := by decide +kernel
theorem dX12_more_258 : decode cX12_more 258 = .ok (.return_, 1) := by decide +kernel
theorem dX12_more_259 : decode cX12_more 259 = .ok (.iload_n 3, 1) := by decide +kernel
theorem dX12_more_260 : decode cX12_more 260 = .ok (.istore 5, 2) := by decide +kernel
theorem dX12_more_262 : decode cX12_more 262 = .ok (.iload 5, 2) := by decide +kernel
theorem dX12_more_264 : decode cX12_more 264 = .ok (.iload_n 2, 1) := by decide +kernel
theorem dX12_more_265 : decode cX12_more 265 = .ok (.if_icmp .gt 28, 3) := by decide +kernel
theorem dX12_more_268 : decode cX12_more 268 = .ok (.aload_n 0, 1) := by decide +kernel
theorem dX12_more_269 : decode cX12_more 269 = .ok (.getfield 85, 3) := by decide +kernel
theorem dX12_more_272 : decode cX12_more 272 = .ok (.iload 5, 2) := by decide +kernel
theorem dX12_more_274 : decode cX12_more 274 = .ok (.iload_n 1, 1) := by decide +kernel
theorem dX12_more_275 : decode cX12_more 275 = .ok (.sipush 129, 3) := by decide +kernel
theorem dX12_more_278 : decode cX12_more 278 = .ok (.if_icmp .ne 7, 3) := by decide +kernel
theorem dX12_more_281 : decode cX12_more 281 = .ok (.iconst 1, 1) := by decide +kernel
theorem dX12_more_282 : decode cX12_more 282 = .ok (.goto 4, 3) := by decide +kernel
theorem dX12_more_285 : decode cX12_more 285 = .ok (.iconst 0, 1) := by decide +kernel
theorem dX12_more_286 : decode cX12_more 286 = .ok (.bastore, 1) := by decide +kernel
theorem dX12_more_287 : decode cX12_more 287 = .ok (.iinc 5 1, 3) := by decide +kernel
theorem dX12_more_290 : decode cX12_more 290 = .ok (.goto (-28), 3) := by decide +kernel
theorem dX12_more_293 : decode cX12_more 293 = .ok (.return_, 1) := by decide +kernel
theorem dX12_more_294 : decode cX12_more 294 = .ok (.aload_n 0, 1) := by decide +kernel
theorem dX12_more_295 : decode cX12_more 295 = .ok (.aload_n 0, 1) := by decide +kernel
theorem dX12_more_296 : decode cX12_more 296 = .ok (.iconst 1, 1) := by decide +kernel
theorem dX12_more_297 : decode cX12_more 297 = .ok (.invokevirtual 576, 3) := by decide +kernel
theorem dX12_more_300 : decode cX12_more 300 = .ok (.ifCond .eq 10, 3) := by decide +kernel
theorem dX12_more_303 : decode cX12_more 303 = .ok (.aload_n 0, 1) := by decide +kernel
theorem dX12_more_304 : decode cX12_more 304 = .ok (.invokevirtual 579, 3) := by decide +kernel
theorem dX12_more_307 : decode cX12_more 307 = .ok (.goto 4, 3) := by decide +kernel
theorem dX12_more_310 : decode cX12_more 310 = .ok (.iconst 0, 1) := by decide +kernel
theorem dX12_more_311 : decode cX12_more 311 = .ok (.putfield 739, 3) := by decide +kernel
theorem dX12_more_314 : decode cX12_more 314 = .ok (.return_, 1) := by decide +kernel
theorem dX12_more_315 : decode cX12_more 315 = .ok (.aload_n 0, 1) := by decide +kernel
theorem dX12_more_316 : decode cX12_more 316 = .ok (.iconst 2, 1) := by decide +kernel
theorem dX12_more_317 : decode cX12_more 317 = .ok (.invokevirtual 576, 3) := by decide +kernel
theorem dX12_more_320 : decode cX12_more 320 = .ok (.ifCond .eq 192, 3) := by decide +kernel
theorem dX12_more_323 : decode cX12_more 323 = .ok (.aload_n 0, 1) := by decide +kernel
theorem dX12_more_324 : decode cX12_more 324 = .ok (.aload_n 0, 1) := by decide +kernel
theorem dX12_more_325 : decode cX12_more 325 = .ok (.getfield 466, 3) := by decide +kernel
theorem dX12_more_328 : decode cX12_more 328 = .ok (.aload_n 0, 1) := by decide +kernel
theorem dX12_more_329 : decode cX12_more 329 = .ok (.invokevirtual 579, 3) := by decide +kernel
theorem dX12_more_332 : decode cX12_more 332 = .ok (.invokevirtual 582, 3) := by decide +kernel
theorem dX12_more_335 : decode cX12_more 335 = .ok (.istore_n 2, 1) := by decide +kernel
theorem dX12_more_336 : decode cX12_more 336 = .ok (.aload_n 0, 1) := by decide +kernel
theorem dX12_more_337 : decode cX12_more 337 = .ok (.aload_n 0, 1) := by decide +kernel
theorem dX12_more_338 : decode cX12_more 338 = .ok (.getfield 463, 3) := by decide +kernel
theorem dX12_more_341 : decode cX12_more 341 = .ok (.aload_n 0, 1) := by decide +kernel
theorem dX12_more_342 : decode cX12_more 342 = .ok (.invokevirtual 579, 3) := by decide +kernel
theorem dX12_more_345 : decode cX12_more 345 = .ok (.invokevirtual 582, 3) := by decide +kernel
theorem dX12_more_348 : decode cX12_more 348 = .ok (.istore_n 3, 1) := by decide +kernel
theorem dX12_more_349 : decode cX12_more 349 = .ok (.aload_n 0, 1) := by decide +kernel
theorem dX12_more_350 : decode cX12_more 350 = .ok (.getfield 409, 3) := by decide +kernel
theorem dX12_more_353 : decode cX12_more 353 = .ok (.ifCond .ne 159, 3) := by decide +kernel
theorem dX12_more_356 : decode cX12_more 356 = .ok (.iload_n 1, 1) := by decide +kernel
theorem dX12_more_357 : decode cX12_more 357 = .ok (.sipush 135, 3) := by decide +kernel
theorem dX12_more_360 : decode cX12_more 360 = .ok (.if_icmp .ne 7, 3) := by decide +kernel
theorem dX12_more_363 : decode cX12_more 363 = .ok (.iconst 1, 1) := by decide +kernel
theorem dX12_more_364 : decode cX12_more 364 = .ok (.goto 4, 3) := by decide +kernel
theorem dX12_more_367 : decode cX12_more 367 = .ok (.iconst 0, 1) := by decide +kernel
theorem dX12_more_368 : decode cX12_more 368 = .ok (.istore 4, 2) := by decide +kernel
theorem dX12_more_370 : decode cX12_more 370 = .ok (.aload_n 0, 1) := by decide +kernel
theorem dX12_more_371 : decode cX12_more 371 = .ok (.aload_n 0, 1) := by decide +kernel
theorem dX12_more_372 : decode cX12_more 372 = .ok (.getfield 70, 3) := by decide +kernel
theorem dX12_more_375 : decode cX12_more 375 = .ok (.iload_n 3, 1) := by decide +kernel
theorem dX12_more_376 : decode cX12_more 376 = .ok (.iaload, 1) := by decide +kernel
theorem dX12_more_377 : decode cX12_more 377 = .ok (.aload_n 0, 1) := by decide +kernel
theorem dX12_more_378 : decode cX12_more 378 = .ok (.getfield 70, 3) := by decide +kernel
theorem dX12_more_381 : decode cX12_more 381 = .ok (.iload_n 2, 1) := by decide +kernel
theorem dX12_more_382 : decode cX12_more 382 = .ok (.iaload, 1) := by decide +kernel
theorem dX12_more_383 : decode cX12_more 383 = .ok (.isub, 1) := by decide +kernel
theorem dX12_more_384 : decode cX12_more 384 = .ok (.aload_n 0, 1) := by decide +kernel
theorem dX12_more_385 : decode cX12_more 385 = .ok (.getfield 73, 3) := by decide +kernel
theorem dX12_more_388 : decode cX12_more 388 = .ok (.iload_n 3, 1) := by decide +kernel
theorem dX12_more_389 : decode cX12_more 389 = .ok (.iaload, 1) := by decide +kernel
theorem dX12_more_390 : decode cX12_more 390 = .ok (.aload_n 0, 1) := by decide +kernel
theorem dX12_more_391 : decode cX12_more 391 = .ok (.getfield 73, 3) := by decide +kernel
theorem dX12_more_394 : decode cX12_more 394 = .ok (.iload_n 2, 1) := by decide +kernel
theorem dX12_more_395 : decode cX12_more 395 = .ok (.iaload, 1) := by decide +kernel
theorem dX12_more_396 : decode cX12_more 396 = .ok (.isub, 1) := by decide +kernel
theorem dX12_more_397 : decode cX12_more 397 = .ok (.invokevirtual 586, 3) := by decide +kernel
theorem dX12_more_400 : decode cX12_more 400 = .ok (.aload_n 0, 1) := by decide +kernel
theorem dX12_more_401 : decode cX12_more 401 = .ok (.iload 4, 2) := by decide +kernel
theorem dX12_more_403 : decode cX12_more 403 = .ok (.ifCond .eq 11, 3) := by decide +kernel
theorem dX12_more_406 : decode cX12_more 406 = .ok (.aload_n 0, 1) := by decide +kernel
theorem dX12_more_407 : decode cX12_more 407 = .ok (.getfield 536, 3) := by decide +kernel
theorem dX12_more_410 : decode cX12_more 410 = .ok (.ineg, 1) := by decide +kernel
theorem dX12_more_411 : decode cX12_more 411 = .ok (.goto 7, 3) := by decide +kernel
theorem dX12_more_414 : decode cX12_more 414 = .ok (.aload_n 0, 1) := by decide +kernel
theorem dX12_more_415 : decode cX12_more 415 = .ok (.getfield 533, 3) := by decide +kernel
theorem dX12_more_418 : decode cX12_more 418 = .ok (.putfield 445, 3) := by decide +kernel
theorem dX12_more_421 : decode cX12_more 421 = .ok (.aload_n 0, 1) := by decide +kernel
theorem dX12_more_422 : decode cX12_more 422 = .ok (.iload 4, 2) := by decide +kernel
theorem dX12_more_424 : decode cX12_more 424 = .ok (.ifCond .eq 10, 3) := by decide +kernel
theorem dX12_more_427 : decode cX12_more 427 = .ok (.aload_n 0, 1) := by decide +kernel
theorem dX12_more_428 : decode cX12_more 428 = .ok (.getfield 533, 3) := by decide +kernel
theorem dX12_more_431 : decode cX12_more 431 = .ok (.goto 7, 3) := by decide +kernel
theorem dX12_more_434 : decode cX12_more 434 = .ok (.aload_n 0, 1) := by decide +kernel
theorem dX12_more_435 : decode cX12_more 435 = .ok (.getfield 536, 3) := by decide +kernel
theorem dX12_more_438 : decode cX12_more 438 = .ok (.putfield 448, 3) := by decide +kernel
theorem dX12_more_441 : decode cX12_more 441 = .ok (.aload_n 0, 1) := by decide +kernel
theorem dX12_more_442 : decode cX12_more 442 = .ok (.aload_n 0, 1) := by decide +kernel
theorem dX12_more_443 : decode cX12_more 443 = .ok (.getfield 76, 3) := by decide +kernel
theorem dX12_more_446 : decode cX12_more 446 = .ok (.iload_n 3, 1) := by decide +kernel
theorem dX12_more_447 : decode cX12_more 447 = .ok (.iaload, 1) := by decide +kernel
theorem dX12_more_448 : decode cX12_more 448 = .ok (.aload_n 0, 1) := by decide +kernel
theorem dX12_more_449 : decode cX12_more 449 = .ok (.getfield 76, 3) := by decide +kernel
theorem dX12_more_452 : decode cX12_more 452 = .ok (.iload_n 2, 1) := by decide +kernel
theorem dX12_more_453 : decode cX12_more 453 = .ok (.iaload, 1) := by decide +kernel
theorem dX12_more_454 : decode cX12_more 454 = .ok (.isub, 1) := by decide +kernel
theorem dX12_more_455 : decode cX12_more 455 = .ok (.aload_n 0, 1) := by decide +kernel
theorem dX12_more_456 : decode cX12_more 456 = .ok (.getfield 79, 3) := by decide +kernel
theorem dX12_more_459 : decode cX12_more 459 = .ok (.iload_n 3, 1) := by decide +kernel
theorem dX12_more_460 : decode cX12_more 460 = .ok (.iaload, 1) := by decide +kernel
theorem dX12_more_461 : decode cX12_more 461 = .ok (.aload_n 0, 1) := by decide +kernel
theorem dX12_more_462 : decode cX12_more 462 = .ok (.getfield 79, 3) := by decide +kernel
theorem dX12_more_465 : decode cX12_more 465 = .ok (.iload_n 2, 1) := by decide +kernel
theorem dX12_more_466 : decode cX12_more 466 = .ok (.iaload, 1) := by decide +kernel
theorem dX12_more_467 : decode cX12_more 467 = .ok (.isub, 1) := by decide +kernel
theorem dX12_more_468 : decode cX12_more 468 = .ok (.invokevirtual 586, 3) := by decide +kernel
theorem dX12_more_471 : decode cX12_more 471 = .ok (.aload_n 0, 1) := by decide +kernel
theorem dX12_more_472 : decode cX12_more 472 = .ok (.iload 4, 2) := by decide +kernel
theorem dX12_more_474 : decode cX12_more 474 = .ok (.ifCond .eq 11, 3) := by decide +kernel
theorem dX12_more_477 : decode cX12_more 477 = .ok (.aload_n 0, 1) := by decide +kernel
theorem dX12_more_478 : decode cX12_more 478 = .ok (.getfield 536, 3) := by decide +kernel
theorem dX12_more_481 : decode cX12_more 481 = .ok (.ineg, 1) := by decide +kernel
theorem dX12_more_482 : decode cX12_more 482 = .ok (.goto 7, 3) := by decide +kernel
theorem dX12_more_485 : decode cX12_more 485 = .ok (.aload_n 0, 1) := by decide +kernel
theorem dX12_more_486 : decode cX12_more 486 = .ok (.getfield 533, 3) := by decide +kernel
theorem dX12_more_489 : decode cX12_more 489 = .ok (.putfield 439, 3) := by decide +kernel
theorem dX12_more_492 : decode cX12_more 492 = .ok (.aload_n 0, 1) := by decide +kernel
theorem dX12_more_493 : decode cX12_more 493 = .ok (.iload 4, 2) := by decide +kernel
theorem dX12_more_495 : decode cX12_more 495 = .ok (.ifCond .eq 10, 3) := by decide +kernel
theorem dX12_more_498 : decode cX12_more 498 = .ok (.aload_n 0, 1) := by decide +kernel
theorem dX12_more_499 : decode cX12_more 499 = .ok (.getfield 533, 3) := by decide +kernel
theorem dX12_more_502 : decode cX12_more 502 = .ok (.goto 7, 3) := by decide +kernel
theorem dX12_more_505 : decode cX12_more 505 = .ok (.aload_n 0, 1) := by decide +kernel
theorem dX12_more_506 : decode cX12_more 506 = .ok (.getfield 536, 3) := by decide +kernel
theorem dX12_more_509 : decode cX12_more 509 = .ok (.putfield 442, 3) := by decide +kernel
theorem dX12_more_512 : decode cX12_more 512 = .ok (.return_, 1) := by decide +kernel
theorem dX12_more_513 : decode cX12_more 513 = .ok (.aload_n 0, 1) := by decide +kernel
theorem dX12_more_514 : decode cX12_more 514 = .ok (.iconst 1, 1) := by decide +kernel
theorem dX12_more_515 : decode cX12_more 515 = .ok (.invokevirtual 576, 3) := by decide +kernel
theorem dX12_more_518 : decode cX12_more 518 = .ok (.ifCond .eq 23, 3) := by decide +kernel
theorem dX12_more_521 : decode cX12_more 521 = .ok (.aload_n 0, 1) := by decide +kernel
theorem dX12_more_522 : decode cX12_more 522 = .ok (.aload_n 0, 1) := by decide +kernel
theorem dX12_more_523 : decode cX12_more 523 = .ok (.invokevirtual 579, 3) := by decide +kernel
theorem dX12_more_526 : decode cX12_more 526 = .ok (.iconst 1, 1) := by decide +kernel
theorem dX12_more_527 : decode cX12_more 527 = .ok (.iand, 1) := by decide +kernel
theorem dX12_more_528 : decode cX12_more 528 = .ok (.ifCond .eq 9, 3) := by decide +kernel
theorem dX12_more_531 : decode cX12_more 531 = .ok (.ldc2_w 742, 3) := by decide +kernel
theorem dX12_more_534 : decode cX12_more 534 = .ok (.goto 4, 3) := by decide +kernel
theorem dX12_more_537 : decode cX12_more 537 = .ok (.lconst 0, 1) := by decide +kernel
theorem dX12_more_538 : decode cX12_more 538 = .ok (.invokevirtual 564, 3) := by decide +kernel
theorem dX12_more_541 : decode cX12_more 541 = .ok (.return_, 1) := by decide +kernel
theorem dX12_more_542 : decode cX12_more 542 = .ok (.aload_n 0, 1) := by decide +kernel
theorem dX12_more_543 : decode cX12_more 543 = .ok (.invokevirtual 744, 3) := by decide +kernel
theorem dX12_more_546 : decode cX12_more 546 = .ok (.return_, 1) := by decide +kernel
theorem dX12_more_547 : decode cX12_more 547 = .ok (.aload_n 0, 1) := by decide +kernel
theorem dX12_more_548 : decode cX12_more 548 = .ok (.iconst 3, 1) := by decide +kernel
theorem dX12_more_549 : decode cX12_more 549 = .ok (.invokevirtual 576, 3) := by decide +kernel
theorem dX12_more_552 : decode cX12_more 552 = .ok (.ifCond .eq 71, 3) := by decide +kernel
theorem dX12_more_555 : decode cX12_more 555 = .ok (.aload_n 0, 1) := by decide +kernel
theorem dX12_more_556 : decode cX12_more 556 = .ok (.getfield 91, 3) := by decide +kernel
theorem dX12_more_559 : decode cX12_more 559 = .ok (.aload_n 0, 1) := by decide +kernel
theorem dX12_more_560 : decode cX12_more 560 = .ok (.getfield 418, 3) := by decide +kernel
theorem dX12_more_563 : decode cX12_more 563 = .ok (.iconst 3, 1) := by decide +kernel
theorem dX12_more_564 : decode cX12_more 564 = .ok (.isub, 1) := by decide +kernel
theorem dX12_more_565 : decode cX12_more 565 = .ok (.iaload, 1) := by decide +kernel
theorem dX12_more_566 : decode cX12_more 566 = .ok (.istore_n 2, 1) := by decide +kernel
theorem dX12_more_567 : decode cX12_more 567 = .ok (.aload_n 0, 1) := by decide +kernel
theorem dX12_more_568 : decode cX12_more 568 = .ok (.getfield 91, 3) := by decide +kernel
theorem dX12_more_571 : decode cX12_more 571 = .ok (.aload_n 0, 1) := by decide +kernel
theorem dX12_more_572 : decode cX12_more 572 = .ok (.getfield 418, 3) := by decide +kernel
theorem dX12_more_575 : decode cX12_more 575 = .ok (.iconst 3, 1) := by decide +kernel
theorem dX12_more_576 : decode cX12_more 576 = .ok (.isub, 1) := by decide +kernel
theorem dX12_more_577 : decode cX12_more 577 = .ok (.aload_n 0, 1) := by decide +kernel
theorem dX12_more_578 : decode cX12_more 578 = .ok (.getfield 91, 3) := by decide +kernel
theorem dX12_more_581 : decode cX12_more 581 = .ok (.aload_n 0, 1) := by decide +kernel
theorem dX12_more_582 : decode cX12_more 582 = .ok (.getfield 418, 3) := by decide +kernel
theorem dX12_more_585 : decode cX12_more 585 = .ok (.iconst 2, 1) := by decide +kernel
theorem dX12_more_586 : decode cX12_more 586 = .ok (.isub, 1) := by decide +kernel
theorem dX12_more_587 : decode cX12_more 587 = .ok (.iaload, 1) := by decide +kernel
theorem dX12_more_588 : decode cX12_more 588 = .ok (.iastore, 1) := by decide +kernel
theorem dX12_more_589 : decode cX12_more 589 = .ok (.aload_n 0, 1) := by decide +kernel
theorem dX12_more_590 : decode cX12_more 590 = .ok (.getfield 91, 3) := by decide +kernel
theorem dX12_more_593 : decode cX12_more 593 = .ok (.aload_n 0, 1) := by decide +kernel
theorem dX12_more_594 : decode cX12_more 594 = .ok (.getfield 418, 3) := by decide +kernel
theorem dX12_more_597 : decode cX12_more 597 = .ok (.iconst 2, 1) := by decide +kernel
theorem dX12_more_598 : decode cX12_more 598 = .ok (.isub, 1) := by decide +kernel
theorem dX12_more_599 : decode cX12_more 599 = .ok (.aload_n 0, 1) := by decide +kernel
theorem dX12_more_600 : decode cX12_more 600 = .ok (.getfield 91, 3) := by decide +kernel
theorem dX12_more_603 : decode cX12_more 603 = .ok (.aload_n 0, 1) := by decide +kernel
theorem dX12_more_604 : decode cX12_more 604 = .ok (.getfield 418, 3) := by decide +kernel
theorem dX12_more_607 : decode cX12_more 607 = .ok (.iconst 1, 1) := by decide +kernel
theorem dX12_more_608 : decode cX12_more 608 = .ok (.isub, 1) := by decide +kernel
theorem dX12_more_609 : decode cX12_more 609 = .ok (.iaload, 1) := by decide +kernel
theorem dX12_more_610 : decode cX12_more 610 = .ok (.iastore, 1) := by decide +kernel
theorem dX12_more_611 : decode cX12_more 611 = .ok (.aload_n 0, 1) := by decide +kernel
theorem dX12_more_612 : decode cX12_more 612 = .ok (.getfield 91, 3) := by decide +kernel
theorem dX12_more_615 : decode cX12_more 615 = .ok (.aload_n 0, 1) := by decide +kernel
theorem dX12_more_616 : decode cX12_more 616 = .ok (.getfield 418, 3) := by decide +kernel
theorem dX12_more_619 : decode cX12_more 619 = .ok (.iconst 1, 1) := by decide +kernel
theorem dX12_more_620 : decode cX12_more 620 = .ok (.isub, 1) := by decide +kernel
theorem dX12_more_621 : decode cX12_more 621 = .ok (.iload_n 2, 1) := by decide +kernel
theorem dX12_more_622 : decode cX12_more 622 = .ok (.iastore, 1) := by decide +kernel
theorem dX12_more_623 : decode cX12_more 623 = .ok (.return_, 1) := by decide +kernel
theorem dX12_more_624 : decode cX12_more 624 = .ok (.aload_n 0, 1) := by decide +kernel
theorem dX12_more_625 : decode cX12_more 625 = .ok (.aload_n 0, 1) := by decide +kernel
theorem dX12_more_626 : decode cX12_more 626 = .ok (.iconst 1, 1) := by decide +kernel
theorem dX12_more_627 : decode cX12_more 627 = .ok (.invokevirtual 576, 3) := by decide +kernel
theorem dX12_more_630 : decode cX12_more 630 = .ok (.ifCond .eq 10, 3) := by decide +kernel
theorem dX12_more_633 : decode cX12_more 633 = .ok (.aload_n 0, 1) := by decide +kernel
theorem dX12_more_634 : decode cX12_more 634 = .ok (.invokevirtual 579, 3) := by decide +kernel
theorem dX12_more_637 : decode cX12_more 637 = .ok (.goto 4, 3) := by decide +kernel
theorem dX12_more_640 : decode cX12_more 640 = .ok (.iconst 0, 1) := by decide +kernel
theorem dX12_more_641 : decode cX12_more 641 = .ok (.putfield 747, 3) := by decide +kernel
theorem dX12_more_644 : decode cX12_more 644 = .ok (.return_, 1) := by decide +kernel
theorem dX12_more_645 : decode cX12_more 645 = .ok (.aload_n 0, 1) := by decide +kernel
theorem dX12_more_646 : decode cX12_more 646 = .ok (.iload_n 1, 1) := by decide +kernel
theorem dX12_more_647 : decode cX12_more 647 = .ok (.invokevirtual 650, 3) := by decide +kernel
theorem dX12_more_650 : decode cX12_more 650 = .ok (.return_, 1) := by decide +kernel
def B_X12_more_182 (N : Nat) (k85 : Int32 → sv_V → Option sv_V) (l2 : Int32) (V : sv_V) : Option sv_V := sx_let (l2 + 1) (fun x1 => k85 x1 V)
set_option maxRecDepth 20000 in
theorem tB_X12_more_182 {g : sx_G} (hG : sx_Go g) {P : Option Value → sv_V → Prop} {Vr : sv_V} (hP : P none Vr) {N : Nat} {k85 : Int32 → sv_V → Option sv_V} (hk85 : ∀ (l2 : Int32) (V : sv_V), k85 l2 V = some Vr → sv_N g qX12_more 5 85 [(0, .ref 146), (2, .int l2)] [] V P) {l2 : Int32} {V : sv_V} (h : B_X12_more_182 N k85 l2 V = some Vr) : sv_N g qX12_more 5 182 [(0, .ref 146), (2, .int l2)] [] V P := by
  unfold B_X12_more_182 at h
  obtain ⟨x1, hx1⟩ : ∃ z : Int32, z = l2 + 1 := ⟨_, rfl⟩
  have h := sx_letE hx1 h
  refine sx_iinc (pc := 182) (v := x1) (lo' := [(2, .int x1), (0, .ref 146)]) dX12_more_182 sx_m1 (by rw [hx1]; rfl) (by decide) rfl ?_
  refine sx_goto (pc := 185) (tgt := 85) dX12_more_185 (by decide) ?_
  refine sx_wk (sx_s1 sx_m1 (sx_s1 sx_m0 sx_s0)) ?_
  exact hk85 _ _ h
def B_X12_more_141 (N : Nat) (k85 : Int32 → sv_V → Option sv_V) (l2 : Int32) (V : sv_V) : Option sv_V := (F_X12_fail (5 : Int32) V).bind (fun V2 => B_X12_more_182 N k85 l2 V2)
set_option maxRecDepth 20000 in
theorem tB_X12_more_141 {g : sx_G} (hG : sx_Go g) {P : Option Value → sv_V → Prop} {Vr : sv_V} (hP : P none Vr) {N : Nat} {k85 : Int32 → sv_V → Option sv_V} (hk85 : ∀ (l2 : Int32) (V : sv_V), k85 l2 V = some Vr → sv_N g qX12_more 5 85 [(0, .ref 146), (2, .int l2)] [] V P) {l2 : Int32} {V : sv_V} (h : B_X12_more_141 N k85 l2 V = some Vr) : sv_N g qX12_more 5 141 [(0, .ref 146), (2, .int l2)] [] V P := by
  unfold B_X12_more_141 at h
  refine sx_aload_n (pc := 141) dX12_more_141 sx_m0 ?_
  refine sx_iconst (pc := 142) (v := 5) dX12_more_142 (by decide) ?_
  obtain ⟨V2, g3, h⟩ := sx_bnd h
  refine sv_cV (pc := 143) (y := qX12_fail) (o := none) (as := [.int (5 : Int32)]) (V1 := V2) hG dX12_more_143 l_X12_421 y0X12_fail yvX12_fail rfl (Nat.le_of_ble_eq_true rfl) lay_146 kr_12 (by decide) (Nat.le_of_ble_eq_true rfl) rfl rfl rfl (t_X12_fail hG ⟨rfl, rfl⟩ g3) ?_
  refine sx_goto (pc := 146) (tgt := 182) dX12_more_146 (by decide) ?_
  refine sx_wk (sx_s1 sx_m0 (sx_s1 sx_m1 sx_s0)) ?_
  exact tB_X12_more_182 hG hP hk85 h
def B_X12_more_181 (N : Nat) (k85 : Int32 → sv_V → Option sv_V) (l2 : Int32) (s1 : Int32) (s2 : Int32) (V : sv_V) : Option sv_V := if sx_in s1 102 = true then if sv_bl s2 = true then sx_let (sv_I V 171 s1.toNatClampNeg s2) (fun V6 => B_X12_more_182 N k85 l2 V6) else none else none
set_option maxRecDepth 20000 in
theorem tB_X12_more_181 {g : sx_G} (hG : sx_Go g) {P : Option Value → sv_V → Prop} {Vr : sv_V} (hP : P none Vr) {N : Nat} {k85 : Int32 → sv_V → Option sv_V} (hk85 : ∀ (l2 : Int32) (V : sv_V), k85 l2 V = some Vr → sv_N g qX12_more 5 85 [(0, .ref 146), (2, .int l2)] [] V P) {l2 : Int32} {s1 : Int32} {s2 : Int32} {V : sv_V} (h : B_X12_more_181 N k85 l2 s1 s2 V = some Vr) : sv_N g qX12_more 5 181 [(0, .ref 146), (2, .int l2)] [.int s2, .int s1, .ref 171] V P := by
  unfold B_X12_more_181 at h
  obtain ⟨g4, h⟩ := sx_grd h
  obtain ⟨g5, h⟩ := sx_grd h
  obtain ⟨V6, hV6⟩ : ∃ z : sv_V, z = sv_I V 171 s1.toNatClampNeg s2 := ⟨_, rfl⟩
  have h := sx_letE hV6 h
  refine sv_zast (pc := 181) hG dX12_more_181 lay_171 g4 g5 hV6 ?_
  refine sx_wk (sx_s1 sx_m0 (sx_s1 sx_m1 sx_s0)) ?_
  exact tB_X12_more_182 hG hP hk85 h
def B_X12_more_149 (N : Nat) (k85 : Int32 → sv_V → Option sv_V) (l2 : Int32) (l3 : Int32) (V : sv_V) : Option sv_V := if (V.1 146 59) = 0 then (if sx_in (l3 - (102 : Int32)) 102 = true then if (V.1 171 (l3 - (102 : Int32)).toNatClampNeg) = 0 then (B_X12_more_181 N k85 l2 (l3 - (102 : Int32)) (1 : Int32) V) else (B_X12_more_181 N k85 l2 (l3 - (102 : Int32)) (0 : Int32) V) else none) else (B_X12_more_182 N k85 l2 V)
set_option maxRecDepth 20000 in
theorem tB_X12_more_149 {g : sx_G} (hG : sx_Go g) {P : Option Value → sv_V → Prop} {Vr : sv_V} (hP : P none Vr) {N : Nat} {k85 : Int32 → sv_V → Option sv_V} (hk85 : ∀ (l2 : Int32) (V : sv_V), k85 l2 V = some Vr → sv_N g qX12_more 5 85 [(0, .ref 146), (2, .int l2)] [] V P) {l2 : Int32} {l3 : Int32} {V : sv_V} (h : B_X12_more_149 N k85 l2 l3 V = some Vr) : sv_N g qX12_more 5 149 [(0, .ref 146), (2, .int l2), (3, .int l3)] [] V P := by
  unfold B_X12_more_149 at h
  refine sx_aload_n (pc := 149) dX12_more_149 sx_m0 ?_
  refine sv_getI (pc := 150) hG dX12_more_150 f_12_409 lay_146 rfl ?_
  refine sx_if_ne (pc := 153) (tgt := 182) dX12_more_153 (by decide) (fun c7 => ?_) (fun c7 => ?_)
  · have h := sx_neg c7 h
    refine sx_wk (sx_s1 sx_m0 (sx_s1 sx_m1 sx_s0)) ?_
    exact tB_X12_more_182 hG hP hk85 h
  · have h := sx_pos c7 h
    refine sx_aload_n (pc := 156) dX12_more_156 sx_m0 ?_
    refine sv_getA (pc := 157) hG dX12_more_157 f_12_85 lay_146 rfl cr_146_51 ?_
    refine sx_iload_n (pc := 160) dX12_more_160 sx_m2 ?_
    refine sx_bipush (pc := 161) (v := 102) dX12_more_161 (by decide) ?_
    refine sx_isub (pc := 163) dX12_more_163 ?_
    refine sx_aload_n (pc := 164) dX12_more_164 sx_m0 ?_
    refine sv_getA (pc := 165) hG dX12_more_165 f_12_85 lay_146 rfl cr_146_51 ?_
    refine sx_iload_n (pc := 168) dX12_more_168 sx_m2 ?_
    refine sx_bipush (pc := 169) (v := 102) dX12_more_169 (by decide) ?_
    refine sx_isub (pc := 171) dX12_more_171 ?_
    obtain ⟨g8, h⟩ := sx_grd h
    refine sv_zald (pc := 172) hG dX12_more_172 lay_171 g8 ?_
    refine sx_if_ne (pc := 173) (tgt := 180) dX12_more_173 (by decide) (fun c9 => ?_) (fun c9 => ?_)
    · have h := sx_neg c9 h
      refine sx_iconst (pc := 180) (v := 0) dX12_more_180 (by decide) ?_
      refine sx_wk (sx_s1 sx_m0 (sx_s1 sx_m1 sx_s0)) ?_
      exact tB_X12_more_181 hG hP hk85 h
    · have h := sx_pos c9 h
      refine sx_iconst (pc := 176) (v := 1) dX12_more_176 (by decide) ?_
      refine sx_goto (pc := 177) (tgt := 181) dX12_more_177 (by decide) ?_
      refine sx_wk (sx_s1 sx_m0 (sx_s1 sx_m1 sx_s0)) ?_
      exact tB_X12_more_181 hG hP hk85 h
def B_X12_more_85 (N : Nat) (k85 : Int32 → sv_V → Option sv_V) (l2 : Int32) (V : sv_V) : Option sv_V := if (V.1 146 75) ≤ l2 then (sx_let (sv_I V 146 75 (1 : Int32)) (fun V11 => some V11)) else (if (V.1 146 59) = 0 then ((F_X12_pop  V).bind (fun (x16, V14) => (F_X12_pointOf (V.1 146 72) x16 V14).bind (fun (x19, V17) => if (V17.1 146 59) = 0 then (if (V17.1 146 72) = (1 : Int32) then (if (x19 - (102 : Int32)) < ((V17.1 146 52) - (2 : Int32)) then (B_X12_more_149 N k85 l2 x19 V17) else (B_X12_more_141 N k85 l2 V17)) else (B_X12_more_141 N k85 l2 V17)) else (B_X12_more_149 N k85 l2 x19 V17)))) else (sx_let (sv_I V 146 75 (1 : Int32)) (fun V13 => some V13)))
set_option maxRecDepth 20000 in
theorem tB_X12_more_85 {g : sx_G} (hG : sx_Go g) {P : Option Value → sv_V → Prop} {Vr : sv_V} (hP : P none Vr) {N : Nat} {k85 : Int32 → sv_V → Option sv_V} (hk85 : ∀ (l2 : Int32) (V : sv_V), k85 l2 V = some Vr → sv_N g qX12_more 5 85 [(0, .ref 146), (2, .int l2)] [] V P) {l2 : Int32} {V : sv_V} (h : B_X12_more_85 N k85 l2 V = some Vr) : sv_N g qX12_more 5 85 [(0, .ref 146), (2, .int l2)] [] V P := by
  unfold B_X12_more_85 at h
  refine sx_iload_n (pc := 85) dX12_more_85 sx_m1 ?_
  refine sx_aload_n (pc := 86) dX12_more_86 sx_m0 ?_
  refine sv_getI (pc := 87) hG dX12_more_87 f_12_469 lay_146 rfl ?_
  refine sx_icmp_ge (pc := 90) (tgt := 188) dX12_more_90 (by decide) (fun c10 => ?_) (fun c10 => ?_)
  · have h := sx_pos c10 h
    refine sx_aload_n (pc := 188) dX12_more_188 sx_m0 ?_
    refine sx_iconst (pc := 189) (v := 1) dX12_more_189 (by decide) ?_
    obtain ⟨V11, hV11⟩ : ∃ z : sv_V, z = sv_I V 146 75 (1 : Int32) := ⟨_, rfl⟩
    have h := sx_letE hV11 h
    refine sv_putI (pc := 190) hG dX12_more_190 f_12_469 lay_146 rfl hV11 ?_
    exact sv_vret (pc := 193) dX12_more_193 rfl h hP
  · have h := sx_neg c10 h
    refine sx_aload_n (pc := 93) dX12_more_93 sx_m0 ?_
    refine sv_getI (pc := 94) hG dX12_more_94 f_12_409 lay_146 rfl ?_
    refine sx_if_ne (pc := 97) (tgt := 188) dX12_more_97 (by decide) (fun c12 => ?_) (fun c12 => ?_)
    · have h := sx_neg c12 h
      refine sx_aload_n (pc := 188) dX12_more_188 sx_m0 ?_
      refine sx_iconst (pc := 189) (v := 1) dX12_more_189 (by decide) ?_
      obtain ⟨V13, hV13⟩ : ∃ z : sv_V, z = sv_I V 146 75 (1 : Int32) := ⟨_, rfl⟩
      have h := sx_letE hV13 h
      refine sv_putI (pc := 190) hG dX12_more_190 f_12_469 lay_146 rfl hV13 ?_
      exact sv_vret (pc := 193) dX12_more_193 rfl h hP
    · have h := sx_pos c12 h
      refine sx_aload_n (pc := 100) dX12_more_100 sx_m0 ?_
      refine sx_aload_n (pc := 101) dX12_more_101 sx_m0 ?_
      refine sv_getI (pc := 102) hG dX12_more_102 f_12_460 lay_146 rfl ?_
      refine sx_aload_n (pc := 105) dX12_more_105 sx_m0 ?_
      obtain ⟨⟨x16, V14⟩, g15, h⟩ := sx_bnd h
      refine sv_cV (pc := 106) (y := qX12_pop) (o := (some (.int x16))) (as := []) (V1 := V14) hG dX12_more_106 l_X12_579 y0X12_pop yvX12_pop rfl (Nat.le_of_ble_eq_true rfl) lay_146 kr_12 (by decide) (Nat.le_of_ble_eq_true rfl) rfl rfl rfl (t_X12_pop hG ⟨rfl, rfl⟩ g15) ?_
      obtain ⟨⟨x19, V17⟩, g18, h⟩ := sx_bnd h
      refine sv_cV (pc := 109) (y := qX12_pointOf) (o := (some (.int x19))) (as := [.int (V.1 146 72), .int x16]) (V1 := V17) hG dX12_more_109 l_X12_582 y0X12_pointOf yvX12_pointOf rfl (Nat.le_of_ble_eq_true rfl) lay_146 kr_12 (by decide) (Nat.le_of_ble_eq_true rfl) rfl rfl rfl (t_X12_pointOf hG ⟨rfl, rfl⟩ g18) ?_
      refine sx_istore_n (pc := 112) (lo' := [(3, .int x19), (0, .ref 146), (2, .int l2)]) dX12_more_112 (by decide) rfl ?_
      refine sx_aload_n (pc := 113) dX12_more_113 sx_m1 ?_
      refine sv_getI (pc := 114) hG dX12_more_114 f_12_409 lay_146 rfl ?_
      refine sx_if_ne (pc := 117) (tgt := 149) dX12_more_117 (by decide) (fun c20 => ?_) (fun c20 => ?_)
      · have h := sx_neg c20 h
        refine sx_wk (sx_s1 sx_m1 (sx_s1 sx_m2 (sx_s1 sx_m0 sx_s0))) ?_
        exact tB_X12_more_149 hG hP hk85 h
      · have h := sx_pos c20 h
        refine sx_aload_n (pc := 120) dX12_more_120 sx_m1 ?_
        refine sv_getI (pc := 121) hG dX12_more_121 f_12_460 lay_146 rfl ?_
        refine sx_iconst (pc := 124) (v := 1) dX12_more_124 (by decide) ?_
        refine sx_icmp_ne (pc := 125) (tgt := 141) dX12_more_125 (by decide) (fun c21 => ?_) (fun c21 => ?_)
        · have h := sx_neg c21 h
          refine sx_wk (sx_s1 sx_m1 (sx_s1 sx_m2 sx_s0)) ?_
          exact tB_X12_more_141 hG hP hk85 h
        · have h := sx_pos c21 h
          refine sx_iload_n (pc := 128) dX12_more_128 sx_m0 ?_
          refine sx_bipush (pc := 129) (v := 102) dX12_more_129 (by decide) ?_
          refine sx_isub (pc := 131) dX12_more_131 ?_
          refine sx_aload_n (pc := 132) dX12_more_132 sx_m1 ?_
          refine sv_getI (pc := 133) hG dX12_more_133 f_12_514 lay_146 rfl ?_
          refine sx_iconst (pc := 136) (v := 2) dX12_more_136 (by decide) ?_
          refine sx_isub (pc := 137) dX12_more_137 ?_
          refine sx_icmp_lt (pc := 138) (tgt := 149) dX12_more_138 (by decide) (fun c22 => ?_) (fun c22 => ?_)
          · have h := sx_pos c22 h
            refine sx_wk (sx_s1 sx_m1 (sx_s1 sx_m2 (sx_s1 sx_m0 sx_s0))) ?_
            exact tB_X12_more_149 hG hP hk85 h
          · have h := sx_neg c22 h
            refine sx_wk (sx_s1 sx_m1 (sx_s1 sx_m2 sx_s0)) ?_
            exact tB_X12_more_141 hG hP hk85 h
theorem tL_X12_more_85 {g : sx_G} (hG : sx_Go g) {P : Option Value → sv_V → Prop} {Vr : sv_V} (hP : P none Vr) {N : Nat}   : ∀ (n : Nat) (l2 : Int32) (V : sv_V), sx_lp2 (B_X12_more_85 N ) n l2 V = some Vr → sv_N g qX12_more 5 85 [(0, .ref 146), (2, .int l2)] [] V P :=
  sx_lp2_ind (fun k0 ih _ V h => tB_X12_more_85 hG hP ih h)
def B_X12_more_253 (N : Nat)   (V : sv_V) : Option sv_V := (F_X12_fail (5 : Int32) V).bind (fun V23 => some V23)
set_option maxRecDepth 20000 in
theorem tB_X12_more_253 {g : sx_G} (hG : sx_Go g) {P : Option Value → sv_V → Prop} {Vr : sv_V} (hP : P none Vr) {N : Nat}    {V : sv_V} (h : B_X12_more_253 N   V = some Vr) : sv_N g qX12_more 5 253 [(0, .ref 146)] [] V P := by
  unfold B_X12_more_253 at h
  refine sx_aload_n (pc := 253) dX12_more_253 sx_m0 ?_
  refine sx_iconst (pc := 254) (v := 5) dX12_more_254 (by decide) ?_
  obtain ⟨V23, g24, h⟩ := sx_bnd h
  refine sv_cV (pc := 255) (y := qX12_fail) (o := none) (as := [.int (5 : Int32)]) (V1 := V23) hG dX12_more_255 l_X12_421 y0X12_fail yvX12_fail rfl (Nat.le_of_ble_eq_true rfl) lay_146 kr_12 (by decide) (Nat.le_of_ble_eq_true rfl) rfl rfl rfl (t_X12_fail hG ⟨rfl, rfl⟩ g24) ?_
  exact sv_vret (pc := 258) dX12_more_258 rfl h hP
def B_X12_more_286 (N : Nat) (k262 : Int32 → Int32 → Int32 → sv_V → Option sv_V) (l1 : Int32) (l2 : Int32) (l5 : Int32) (s1 : Int32) (s2 : Int32) (V : sv_V) : Option sv_V := if sx_in s1 102 = true then if sv_bl s2 = true then sx_let (sv_I V 171 s1.toNatClampNeg s2) (fun V27 => sx_let (l5 + 1) (fun x28 => k262 l1 l2 x28 V27)) else none else none
set_option maxRecDepth 20000 in
theorem tB_X12_more_286 {g : sx_G} (hG : sx_Go g) {P : Option Value → sv_V → Prop} {Vr : sv_V} (hP : P none Vr) {N : Nat} {k262 : Int32 → Int32 → Int32 → sv_V → Option sv_V} (hk262 : ∀ (l1 : Int32) (l2 : Int32) (l5 : Int32) (V : sv_V), k262 l1 l2 l5 V = some Vr → sv_N g qX12_more 5 262 [(0, .ref 146), (1, .int l1), (2, .int l2), (5, .int l5)] [] V P) {l1 : Int32} {l2 : Int32} {l5 : Int32} {s1 : Int32} {s2 : Int32} {V : sv_V} (h : B_X12_more_286 N k262 l1 l2 l5 s1 s2 V = some Vr) : sv_N g qX12_more 5 286 [(0, .ref 146), (1, .int l1), (2, .int l2), (5, .int l5)] [.int s2, .int s1, .ref 171] V P := by
  unfold B_X12_more_286 at h
  obtain ⟨g25, h⟩ := sx_grd h
  obtain ⟨g26, h⟩ := sx_grd h
  obtain ⟨V27, hV27⟩ : ∃ z : sv_V, z = sv_I V 171 s1.toNatClampNeg s2 := ⟨_, rfl⟩
  have h := sx_letE hV27 h
  refine sv_zast (pc := 286) hG dX12_more_286 lay_171 g25 g26 hV27 ?_
  obtain ⟨x28, hx28⟩ : ∃ z : Int32, z = l5 + 1 := ⟨_, rfl⟩
  have h := sx_letE hx28 h
  refine sx_iinc (pc := 287) (v := x28) (lo' := [(5, .int x28), (0, .ref 146), (1, .int l1), (2, .int l2)]) dX12_more_287 sx_m3 (by rw [hx28]; rfl) (by decide) rfl ?_
  refine sx_goto (pc := 290) (tgt := 262) dX12_more_290 (by decide) ?_
  refine sx_wk (sx_s1 sx_m1 (sx_s1 sx_m2 (sx_s1 sx_m3 (sx_s1 sx_m0 sx_s0)))) ?_
  exact hk262 _ _ _ _ h
def B_X12_more_262 (N : Nat) (k262 : Int32 → Int32 → Int32 → sv_V → Option sv_V) (l1 : Int32) (l2 : Int32) (l5 : Int32) (V : sv_V) : Option sv_V := if l2 < l5 then (some V) else (if l1 = (129 : Int32) then (B_X12_more_286 N k262 l1 l2 l5 l5 (1 : Int32) V) else (B_X12_more_286 N k262 l1 l2 l5 l5 (0 : Int32) V))
set_option maxRecDepth 20000 in
theorem tB_X12_more_262 {g : sx_G} (hG : sx_Go g) {P : Option Value → sv_V → Prop} {Vr : sv_V} (hP : P none Vr) {N : Nat} {k262 : Int32 → Int32 → Int32 → sv_V → Option sv_V} (hk262 : ∀ (l1 : Int32) (l2 : Int32) (l5 : Int32) (V : sv_V), k262 l1 l2 l5 V = some Vr → sv_N g qX12_more 5 262 [(0, .ref 146), (1, .int l1), (2, .int l2), (5, .int l5)] [] V P) {l1 : Int32} {l2 : Int32} {l5 : Int32} {V : sv_V} (h : B_X12_more_262 N k262 l1 l2 l5 V = some Vr) : sv_N g qX12_more 5 262 [(0, .ref 146), (1, .int l1), (2, .int l2), (5, .int l5)] [] V P := by
  unfold B_X12_more_262 at h
  refine sx_iload (pc := 262) dX12_more_262 sx_m3 ?_
  refine sx_iload_n (pc := 264) dX12_more_264 sx_m2 ?_
  refine sx_icmp_gt (pc := 265) (tgt := 293) dX12_more_265 (by decide) (fun c29 => ?_) (fun c29 => ?_)
  · have h := sx_pos c29 h
    exact sv_vret (pc := 293) dX12_more_293 rfl h hP
  · have h := sx_neg c29 h
    refine sx_aload_n (pc := 268) dX12_more_268 sx_m0 ?_
    refine sv_getA (pc := 269) hG dX12_more_269 f_12_85 lay_146 rfl cr_146_51 ?_
    refine sx_iload (pc := 272) dX12_more_272 sx_m3 ?_
    refine sx_iload_n (pc := 274) dX12_more_274 sx_m1 ?_
    refine sx_sipush (pc := 275) (v := 129) dX12_more_275 (by decide) ?_
    refine sx_icmp_ne (pc := 278) (tgt := 285) dX12_more_278 (by decide) (fun c30 => ?_) (fun c30 => ?_)
    · have h := sx_neg c30 h
      refine sx_iconst (pc := 285) (v := 0) dX12_more_285 (by decide) ?_
      refine sx_wk (sx_s1 sx_m0 (sx_s1 sx_m1 (sx_s1 sx_m2 (sx_s1 sx_m3 sx_s0)))) ?_
      exact tB_X12_more_286 hG hP hk262 h
    · have h := sx_pos c30 h
      refine sx_iconst (pc := 281) (v := 1) dX12_more_281 (by decide) ?_
      refine sx_goto (pc := 282) (tgt := 286) dX12_more_282 (by decide) ?_
      refine sx_wk (sx_s1 sx_m0 (sx_s1 sx_m1 (sx_s1 sx_m2 (sx_s1 sx_m3 sx_s0)))) ?_
      exact tB_X12_more_286 hG hP hk262 h
theorem tL_X12_more_262 {g : sx_G} (hG : sx_Go g) {P : Option Value → sv_V → Prop} {Vr : sv_V} (hP : P none Vr) {N : Nat}   : ∀ (n : Nat) (l1 : Int32) (l2 : Int32) (l5 : Int32) (V : sv_V), sx_lp4 (B_X12_more_262 N ) n l1 l2 l5 V = some Vr → sv_N g qX12_more 5 262 [(0, .ref 146), (1, .int l1), (2, .int l2), (5, .int l5)] [] V P :=
  sx_lp4_ind (fun k0 ih _ _ _ V h => tB_X12_more_262 hG hP ih h)
def B_X12_more_259 (N : Nat)  (l1 : Int32) (l2 : Int32) (l3 : Int32) (V : sv_V) : Option sv_V := sx_lp4 (B_X12_more_262 N ) N l1 l2 l3 V
set_option maxRecDepth 20000 in
theorem tB_X12_more_259 {g : sx_G} (hG : sx_Go g) {P : Option Value → sv_V → Prop} {Vr : sv_V} (hP : P none Vr) {N : Nat}   {l1 : Int32} {l2 : Int32} {l3 : Int32} {V : sv_V} (h : B_X12_more_259 N  l1 l2 l3 V = some Vr) : sv_N g qX12_more 5 259 [(0, .ref 146), (1, .int l1), (2, .int l2), (3, .int l3)] [] V P := by
  unfold B_X12_more_259 at h
  refine sx_iload_n (pc := 259) dX12_more_259 sx_m3 ?_
  refine sx_istore (pc := 260) (lo' := [(5, .int l3), (0, .ref 146), (1, .int l1), (2, .int l2), (3, .int l3)]) dX12_more_260 (by decide) rfl ?_
  refine sx_wk (sx_s1 sx_m1 (sx_s1 sx_m2 (sx_s1 sx_m3 (sx_s1 sx_m0 sx_s0)))) ?_
  exact tL_X12_more_262 hG hP  N _ _ _ _ h
def B_X12_more_236 (N : Nat)  (l1 : Int32) (l2 : Int32) (l3 : Int32) (s0 : Int32) (V : sv_V) : Option sv_V := if l2 < l3 then (B_X12_more_259 N  l1 l2 l3 V) else (if l3 < 0 then (B_X12_more_253 N   V) else (if l2 < s0 then (B_X12_more_259 N  l1 l2 l3 V) else (B_X12_more_253 N   V)))
set_option maxRecDepth 20000 in
theorem tB_X12_more_236 {g : sx_G} (hG : sx_Go g) {P : Option Value → sv_V → Prop} {Vr : sv_V} (hP : P none Vr) {N : Nat}   {l1 : Int32} {l2 : Int32} {l3 : Int32} {s0 : Int32} {V : sv_V} (h : B_X12_more_236 N  l1 l2 l3 s0 V = some Vr) : sv_N g qX12_more 5 236 [(0, .ref 146), (1, .int l1), (2, .int l2), (3, .int l3)] [.int s0] V P := by
  unfold B_X12_more_236 at h
  refine sx_istore (pc := 236) (lo' := [(4, .int s0), (0, .ref 146), (1, .int l1), (2, .int l2), (3, .int l3)]) dX12_more_236 (by decide) rfl ?_
  refine sx_iload_n (pc := 238) dX12_more_238 sx_m4 ?_
  refine sx_iload_n (pc := 239) dX12_more_239 sx_m3 ?_
  refine sx_icmp_gt (pc := 240) (tgt := 259) dX12_more_240 (by decide) (fun c31 => ?_) (fun c31 => ?_)
  · have h := sx_pos c31 h
    refine sx_wk (sx_s1 sx_m1 (sx_s1 sx_m2 (sx_s1 sx_m3 (sx_s1 sx_m4 sx_s0)))) ?_
    exact tB_X12_more_259 hG hP  h
  · have h := sx_neg c31 h
    refine sx_iload_n (pc := 243) dX12_more_243 sx_m4 ?_
    refine sx_if_lt (pc := 244) (tgt := 253) dX12_more_244 (by decide) (fun c32 => ?_) (fun c32 => ?_)
    · have h := sx_pos c32 h
      refine sx_wk (sx_s1 sx_m1 sx_s0) ?_
      exact tB_X12_more_253 hG hP  h
    · have h := sx_neg c32 h
      refine sx_iload_n (pc := 247) dX12_more_247 sx_m3 ?_
      refine sx_iload (pc := 248) dX12_more_248 sx_m0 ?_
      refine sx_icmp_lt (pc := 250) (tgt := 259) dX12_more_250 (by decide) (fun c33 => ?_) (fun c33 => ?_)
      · have h := sx_pos c33 h
        refine sx_wk (sx_s1 sx_m1 (sx_s1 sx_m2 (sx_s1 sx_m3 (sx_s1 sx_m4 sx_s0)))) ?_
        exact tB_X12_more_259 hG hP  h
      · have h := sx_neg c33 h
        refine sx_wk (sx_s1 sx_m1 sx_s0) ?_
        exact tB_X12_more_253 hG hP  h
def B_X12_more_194 (N : Nat)  (l1 : Int32) (V : sv_V) : Option sv_V := (F_X12_has (2 : Int32) V).bind (fun (x36, V34) => if x36 = 0 then (some V34) else ((F_X12_pop  V34).bind (fun (x40, V38) => (F_X12_pop  V38).bind (fun (x43, V41) => if (V41.1 146 53) = 0 then (B_X12_more_236 N  l1 x40 x43 (0 : Int32) V41) else (if sx_in ((V41.1 146 53) - (1 : Int32)) 20 = true then B_X12_more_236 N  l1 x40 x43 ((V41.1 172 ((V41.1 146 53) - (1 : Int32)).toNatClampNeg) + (1 : Int32)) V41 else none)))))
set_option maxRecDepth 20000 in
theorem tB_X12_more_194 {g : sx_G} (hG : sx_Go g) {P : Option Value → sv_V → Prop} {Vr : sv_V} (hP : P none Vr) {N : Nat}   {l1 : Int32} {V : sv_V} (h : B_X12_more_194 N  l1 V = some Vr) : sv_N g qX12_more 5 194 [(0, .ref 146), (1, .int l1)] [] V P := by
  unfold B_X12_more_194 at h
  refine sx_aload_n (pc := 194) dX12_more_194 sx_m0 ?_
  refine sx_iconst (pc := 195) (v := 2) dX12_more_195 (by decide) ?_
  obtain ⟨⟨x36, V34⟩, g35, h⟩ := sx_bnd h
  refine sv_cV (pc := 196) (y := qX12_has) (o := (some (.int x36))) (as := [.int (2 : Int32)]) (V1 := V34) hG dX12_more_196 l_X12_576 y0X12_has yvX12_has rfl (Nat.le_of_ble_eq_true rfl) lay_146 kr_12 (by decide) (Nat.le_of_ble_eq_true rfl) rfl rfl rfl (t_X12_has hG ⟨rfl, rfl⟩ g35) ?_
  refine sx_if_eq (pc := 199) (tgt := 293) dX12_more_199 (by decide) (fun c37 => ?_) (fun c37 => ?_)
  · have h := sx_pos c37 h
    exact sv_vret (pc := 293) dX12_more_293 rfl h hP
  · have h := sx_neg c37 h
    refine sx_aload_n (pc := 202) dX12_more_202 sx_m0 ?_
    obtain ⟨⟨x40, V38⟩, g39, h⟩ := sx_bnd h
    refine sv_cV (pc := 203) (y := qX12_pop) (o := (some (.int x40))) (as := []) (V1 := V38) hG dX12_more_203 l_X12_579 y0X12_pop yvX12_pop rfl (Nat.le_of_ble_eq_true rfl) lay_146 kr_12 (by decide) (Nat.le_of_ble_eq_true rfl) rfl rfl rfl (t_X12_pop hG ⟨rfl, rfl⟩ g39) ?_
    refine sx_istore_n (pc := 206) (lo' := [(2, .int x40), (0, .ref 146), (1, .int l1)]) dX12_more_206 (by decide) rfl ?_
    refine sx_aload_n (pc := 207) dX12_more_207 sx_m1 ?_
    obtain ⟨⟨x43, V41⟩, g42, h⟩ := sx_bnd h
    refine sv_cV (pc := 208) (y := qX12_pop) (o := (some (.int x43))) (as := []) (V1 := V41) hG dX12_more_208 l_X12_579 y0X12_pop yvX12_pop rfl (Nat.le_of_ble_eq_true rfl) lay_146 kr_12 (by decide) (Nat.le_of_ble_eq_true rfl) rfl rfl rfl (t_X12_pop hG ⟨rfl, rfl⟩ g42) ?_
    refine sx_istore_n (pc := 211) (lo' := [(3, .int x43), (2, .int x40), (0, .ref 146), (1, .int l1)]) dX12_more_211 (by decide) rfl ?_
    refine sx_aload_n (pc := 212) dX12_more_212 sx_m2 ?_
    refine sv_getI (pc := 213) hG dX12_more_213 f_12_706 lay_146 rfl ?_
    refine sx_if_ne (pc := 216) (tgt := 223) dX12_more_216 (by decide) (fun c44 => ?_) (fun c44 => ?_)
    · have h := sx_neg c44 h
      refine sx_aload_n (pc := 223) dX12_more_223 sx_m2 ?_
      refine sv_getA (pc := 224) hG dX12_more_224 f_12_88 lay_146 rfl cr_146_54 ?_
      refine sx_aload_n (pc := 227) dX12_more_227 sx_m2 ?_
      refine sv_getI (pc := 228) hG dX12_more_228 f_12_706 lay_146 rfl ?_
      refine sx_iconst (pc := 231) (v := 1) dX12_more_231 (by decide) ?_
      refine sx_isub (pc := 232) dX12_more_232 ?_
      obtain ⟨g45, h⟩ := sx_grd h
      refine sv_iald (pc := 233) hG dX12_more_233 lay_172 g45 ?_
      refine sx_iconst (pc := 234) (v := 1) dX12_more_234 (by decide) ?_
      refine sx_iadd (pc := 235) dX12_more_235 ?_
      refine sx_wk (sx_s1 sx_m2 (sx_s1 sx_m3 (sx_s1 sx_m1 (sx_s1 sx_m0 sx_s0)))) ?_
      exact tB_X12_more_236 hG hP  h
    · have h := sx_pos c44 h
      refine sx_iconst (pc := 219) (v := 0) dX12_more_219 (by decide) ?_
      refine sx_goto (pc := 220) (tgt := 236) dX12_more_220 (by decide) ?_
      refine sx_wk (sx_s1 sx_m2 (sx_s1 sx_m3 (sx_s1 sx_m1 (sx_s1 sx_m0 sx_s0)))) ?_
      exact tB_X12_more_236 hG hP  h
def B_X12_more_489 (N : Nat)  (l4 : Int32) (s1 : Int32) (V : sv_V) : Option sv_V := sx_let (sv_I V 146 65 s1) (fun V46 => if l4 = 0 then (sx_let (sv_I V46 146 66 (V46.1 146 106)) (fun V48 => some V48)) else (sx_let (sv_I V46 146 66 (V46.1 146 105)) (fun V49 => some V49)))
set_option maxRecDepth 20000 in
theorem tB_X12_more_489 {g : sx_G} (hG : sx_Go g) {P : Option Value → sv_V → Prop} {Vr : sv_V} (hP : P none Vr) {N : Nat}   {l4 : Int32} {s1 : Int32} {V : sv_V} (h : B_X12_more_489 N  l4 s1 V = some Vr) : sv_N g qX12_more 5 489 [(0, .ref 146), (4, .int l4)] [.int s1, .ref 146] V P := by
  unfold B_X12_more_489 at h
  obtain ⟨V46, hV46⟩ : ∃ z : sv_V, z = sv_I V 146 65 s1 := ⟨_, rfl⟩
  have h := sx_letE hV46 h
  refine sv_putI (pc := 489) hG dX12_more_489 f_12_439 lay_146 rfl hV46 ?_
  refine sx_aload_n (pc := 492) dX12_more_492 sx_m0 ?_
  refine sx_iload (pc := 493) dX12_more_493 sx_m1 ?_
  refine sx_if_eq (pc := 495) (tgt := 505) dX12_more_495 (by decide) (fun c47 => ?_) (fun c47 => ?_)
  · have h := sx_pos c47 h
    refine sx_aload_n (pc := 505) dX12_more_505 sx_m0 ?_
    refine sv_getI (pc := 506) hG dX12_more_506 f_12_536 lay_146 rfl ?_
    obtain ⟨V48, hV48⟩ : ∃ z : sv_V, z = sv_I V46 146 66 (V46.1 146 106) := ⟨_, rfl⟩
    have h := sx_letE hV48 h
    refine sv_putI (pc := 509) hG dX12_more_509 f_12_442 lay_146 rfl hV48 ?_
    exact sv_vret (pc := 512) dX12_more_512 rfl h hP
  · have h := sx_neg c47 h
    refine sx_aload_n (pc := 498) dX12_more_498 sx_m0 ?_
    refine sv_getI (pc := 499) hG dX12_more_499 f_12_533 lay_146 rfl ?_
    refine sx_goto (pc := 502) (tgt := 509) dX12_more_502 (by decide) ?_
    obtain ⟨V49, hV49⟩ : ∃ z : sv_V, z = sv_I V46 146 66 (V46.1 146 105) := ⟨_, rfl⟩
    have h := sx_letE hV49 h
    refine sv_putI (pc := 509) hG dX12_more_509 f_12_442 lay_146 rfl hV49 ?_
    exact sv_vret (pc := 512) dX12_more_512 rfl h hP
def B_X12_more_438 (N : Nat)  (l2 : Int32) (l3 : Int32) (l4 : Int32) (s1 : Int32) (V : sv_V) : Option sv_V := sx_let (sv_I V 146 68 s1) (fun V50 => if sx_in l3 204 = true then if sx_in l2 204 = true then if sx_in l3 204 = true then if sx_in l2 204 = true then (F_X12_direction N ((V50.1 168 l3.toNatClampNeg) - (V50.1 168 l2.toNatClampNeg)) ((V50.1 169 l3.toNatClampNeg) - (V50.1 169 l2.toNatClampNeg)) V50).bind (fun V55 => if l4 = 0 then (B_X12_more_489 N  l4 (V55.1 146 105) V55) else (B_X12_more_489 N  l4 (-(V55.1 146 106)) V55)) else none else none else none else none)
set_option maxRecDepth 20000 in
theorem tB_X12_more_438 {g : sx_G} (hG : sx_Go g) {P : Option Value → sv_V → Prop} {Vr : sv_V} (hP : P none Vr) {N : Nat}   {l2 : Int32} {l3 : Int32} {l4 : Int32} {s1 : Int32} {V : sv_V} (h : B_X12_more_438 N  l2 l3 l4 s1 V = some Vr) : sv_N g qX12_more 5 438 [(0, .ref 146), (2, .int l2), (3, .int l3), (4, .int l4)] [.int s1, .ref 146] V P := by
  unfold B_X12_more_438 at h
  obtain ⟨V50, hV50⟩ : ∃ z : sv_V, z = sv_I V 146 68 s1 := ⟨_, rfl⟩
  have h := sx_letE hV50 h
  refine sv_putI (pc := 438) hG dX12_more_438 f_12_448 lay_146 rfl hV50 ?_
  refine sx_aload_n (pc := 441) dX12_more_441 sx_m0 ?_
  refine sx_aload_n (pc := 442) dX12_more_442 sx_m0 ?_
  refine sv_getA (pc := 443) hG dX12_more_443 f_12_76 lay_146 rfl cr_146_48 ?_
  refine sx_iload_n (pc := 446) dX12_more_446 sx_m2 ?_
  obtain ⟨g51, h⟩ := sx_grd h
  refine sv_iald (pc := 447) hG dX12_more_447 lay_168 g51 ?_
  refine sx_aload_n (pc := 448) dX12_more_448 sx_m0 ?_
  refine sv_getA (pc := 449) hG dX12_more_449 f_12_76 lay_146 rfl cr_146_48 ?_
  refine sx_iload_n (pc := 452) dX12_more_452 sx_m1 ?_
  obtain ⟨g52, h⟩ := sx_grd h
  refine sv_iald (pc := 453) hG dX12_more_453 lay_168 g52 ?_
  refine sx_isub (pc := 454) dX12_more_454 ?_
  refine sx_aload_n (pc := 455) dX12_more_455 sx_m0 ?_
  refine sv_getA (pc := 456) hG dX12_more_456 f_12_79 lay_146 rfl cr_146_49 ?_
  refine sx_iload_n (pc := 459) dX12_more_459 sx_m2 ?_
  obtain ⟨g53, h⟩ := sx_grd h
  refine sv_iald (pc := 460) hG dX12_more_460 lay_169 g53 ?_
  refine sx_aload_n (pc := 461) dX12_more_461 sx_m0 ?_
  refine sv_getA (pc := 462) hG dX12_more_462 f_12_79 lay_146 rfl cr_146_49 ?_
  refine sx_iload_n (pc := 465) dX12_more_465 sx_m1 ?_
  obtain ⟨g54, h⟩ := sx_grd h
  refine sv_iald (pc := 466) hG dX12_more_466 lay_169 g54 ?_
  refine sx_isub (pc := 467) dX12_more_467 ?_
  obtain ⟨V55, g56, h⟩ := sx_bnd h
  refine sv_cV (pc := 468) (y := qX12_direction) (o := none) (as := [.int ((V50.1 168 l3.toNatClampNeg) - (V50.1 168 l2.toNatClampNeg)), .int ((V50.1 169 l3.toNatClampNeg) - (V50.1 169 l2.toNatClampNeg))]) (V1 := V55) hG dX12_more_468 l_X12_586 y0X12_direction yvX12_direction rfl (Nat.le_of_ble_eq_true rfl) lay_146 kr_12 (by decide) (Nat.le_of_ble_eq_true rfl) rfl rfl rfl (t_X12_direction hG ⟨rfl, rfl⟩ g56) ?_
  refine sx_aload_n (pc := 471) dX12_more_471 sx_m0 ?_
  refine sx_iload (pc := 472) dX12_more_472 sx_m3 ?_
  refine sx_if_eq (pc := 474) (tgt := 485) dX12_more_474 (by decide) (fun c57 => ?_) (fun c57 => ?_)
  · have h := sx_pos c57 h
    refine sx_aload_n (pc := 485) dX12_more_485 sx_m0 ?_
    refine sv_getI (pc := 486) hG dX12_more_486 f_12_533 lay_146 rfl ?_
    refine sx_wk (sx_s1 sx_m0 (sx_s1 sx_m3 sx_s0)) ?_
    exact tB_X12_more_489 hG hP  h
  · have h := sx_neg c57 h
    refine sx_aload_n (pc := 477) dX12_more_477 sx_m0 ?_
    refine sv_getI (pc := 478) hG dX12_more_478 f_12_536 lay_146 rfl ?_
    refine sx_ineg (pc := 481) dX12_more_481 ?_
    refine sx_goto (pc := 482) (tgt := 489) dX12_more_482 (by decide) ?_
    refine sx_wk (sx_s1 sx_m0 (sx_s1 sx_m3 sx_s0)) ?_
    exact tB_X12_more_489 hG hP  h
def B_X12_more_418 (N : Nat)  (l2 : Int32) (l3 : Int32) (l4 : Int32) (s1 : Int32) (V : sv_V) : Option sv_V := sx_let (sv_I V 146 67 s1) (fun V58 => if l4 = 0 then (B_X12_more_438 N  l2 l3 l4 (V58.1 146 106) V58) else (B_X12_more_438 N  l2 l3 l4 (V58.1 146 105) V58))
set_option maxRecDepth 20000 in
theorem tB_X12_more_418 {g : sx_G} (hG : sx_Go g) {P : Option Value → sv_V → Prop} {Vr : sv_V} (hP : P none Vr) {N : Nat}   {l2 : Int32} {l3 : Int32} {l4 : Int32} {s1 : Int32} {V : sv_V} (h : B_X12_more_418 N  l2 l3 l4 s1 V = some Vr) : sv_N g qX12_more 5 418 [(0, .ref 146), (2, .int l2), (3, .int l3), (4, .int l4)] [.int s1, .ref 146] V P := by
  unfold B_X12_more_418 at h
  obtain ⟨V58, hV58⟩ : ∃ z : sv_V, z = sv_I V 146 67 s1 := ⟨_, rfl⟩
  have h := sx_letE hV58 h
  refine sv_putI (pc := 418) hG dX12_more_418 f_12_445 lay_146 rfl hV58 ?_
  refine sx_aload_n (pc := 421) dX12_more_421 sx_m0 ?_
  refine sx_iload (pc := 422) dX12_more_422 sx_m3 ?_
  refine sx_if_eq (pc := 424) (tgt := 434) dX12_more_424 (by decide) (fun c59 => ?_) (fun c59 => ?_)
  · have h := sx_pos c59 h
    refine sx_aload_n (pc := 434) dX12_more_434 sx_m0 ?_
    refine sv_getI (pc := 435) hG dX12_more_435 f_12_536 lay_146 rfl ?_
    refine sx_wk (sx_s1 sx_m0 (sx_s1 sx_m1 (sx_s1 sx_m2 (sx_s1 sx_m3 sx_s0)))) ?_
    exact tB_X12_more_438 hG hP  h
  · have h := sx_neg c59 h
    refine sx_aload_n (pc := 427) dX12_more_427 sx_m0 ?_
    refine sv_getI (pc := 428) hG dX12_more_428 f_12_533 lay_146 rfl ?_
    refine sx_goto (pc := 431) (tgt := 438) dX12_more_431 (by decide) ?_
    refine sx_wk (sx_s1 sx_m0 (sx_s1 sx_m1 (sx_s1 sx_m2 (sx_s1 sx_m3 sx_s0)))) ?_
    exact tB_X12_more_438 hG hP  h
def B_X12_more_368 (N : Nat)  (l2 : Int32) (l3 : Int32) (s0 : Int32) (V : sv_V) : Option sv_V := if sx_in l3 204 = true then if sx_in l2 204 = true then if sx_in l3 204 = true then if sx_in l2 204 = true then (F_X12_direction N ((V.1 166 l3.toNatClampNeg) - (V.1 166 l2.toNatClampNeg)) ((V.1 167 l3.toNatClampNeg) - (V.1 167 l2.toNatClampNeg)) V).bind (fun V64 => if s0 = 0 then (B_X12_more_418 N  l2 l3 s0 (V64.1 146 105) V64) else (B_X12_more_418 N  l2 l3 s0 (-(V64.1 146 106)) V64)) else none else none else none else none
set_option maxRecDepth 20000 in
theorem tB_X12_more_368 {g : sx_G} (hG : sx_Go g) {P : Option Value → sv_V → Prop} {Vr : sv_V} (hP : P none Vr) {N : Nat}   {l2 : Int32} {l3 : Int32} {s0 : Int32} {V : sv_V} (h : B_X12_more_368 N  l2 l3 s0 V = some Vr) : sv_N g qX12_more 5 368 [(0, .ref 146), (2, .int l2), (3, .int l3)] [.int s0] V P := by
  unfold B_X12_more_368 at h
  refine sx_istore (pc := 368) (lo' := [(4, .int s0), (0, .ref 146), (2, .int l2), (3, .int l3)]) dX12_more_368 (by decide) rfl ?_
  refine sx_aload_n (pc := 370) dX12_more_370 sx_m1 ?_
  refine sx_aload_n (pc := 371) dX12_more_371 sx_m1 ?_
  refine sv_getA (pc := 372) hG dX12_more_372 f_12_70 lay_146 rfl cr_146_46 ?_
  refine sx_iload_n (pc := 375) dX12_more_375 sx_m3 ?_
  obtain ⟨g60, h⟩ := sx_grd h
  refine sv_iald (pc := 376) hG dX12_more_376 lay_166 g60 ?_
  refine sx_aload_n (pc := 377) dX12_more_377 sx_m1 ?_
  refine sv_getA (pc := 378) hG dX12_more_378 f_12_70 lay_146 rfl cr_146_46 ?_
  refine sx_iload_n (pc := 381) dX12_more_381 sx_m2 ?_
  obtain ⟨g61, h⟩ := sx_grd h
  refine sv_iald (pc := 382) hG dX12_more_382 lay_166 g61 ?_
  refine sx_isub (pc := 383) dX12_more_383 ?_
  refine sx_aload_n (pc := 384) dX12_more_384 sx_m1 ?_
  refine sv_getA (pc := 385) hG dX12_more_385 f_12_73 lay_146 rfl cr_146_47 ?_
  refine sx_iload_n (pc := 388) dX12_more_388 sx_m3 ?_
  obtain ⟨g62, h⟩ := sx_grd h
  refine sv_iald (pc := 389) hG dX12_more_389 lay_167 g62 ?_
  refine sx_aload_n (pc := 390) dX12_more_390 sx_m1 ?_
  refine sv_getA (pc := 391) hG dX12_more_391 f_12_73 lay_146 rfl cr_146_47 ?_
  refine sx_iload_n (pc := 394) dX12_more_394 sx_m2 ?_
  obtain ⟨g63, h⟩ := sx_grd h
  refine sv_iald (pc := 395) hG dX12_more_395 lay_167 g63 ?_
  refine sx_isub (pc := 396) dX12_more_396 ?_
  obtain ⟨V64, g65, h⟩ := sx_bnd h
  refine sv_cV (pc := 397) (y := qX12_direction) (o := none) (as := [.int ((V.1 166 l3.toNatClampNeg) - (V.1 166 l2.toNatClampNeg)), .int ((V.1 167 l3.toNatClampNeg) - (V.1 167 l2.toNatClampNeg))]) (V1 := V64) hG dX12_more_397 l_X12_586 y0X12_direction yvX12_direction rfl (Nat.le_of_ble_eq_true rfl) lay_146 kr_12 (by decide) (Nat.le_of_ble_eq_true rfl) rfl rfl rfl (t_X12_direction hG ⟨rfl, rfl⟩ g65) ?_
  refine sx_aload_n (pc := 400) dX12_more_400 sx_m1 ?_
  refine sx_iload (pc := 401) dX12_more_401 sx_m0 ?_
  refine sx_if_eq (pc := 403) (tgt := 414) dX12_more_403 (by decide) (fun c66 => ?_) (fun c66 => ?_)
  · have h := sx_pos c66 h
    refine sx_aload_n (pc := 414) dX12_more_414 sx_m1 ?_
    refine sv_getI (pc := 415) hG dX12_more_415 f_12_533 lay_146 rfl ?_
    refine sx_wk (sx_s1 sx_m1 (sx_s1 sx_m2 (sx_s1 sx_m3 (sx_s1 sx_m0 sx_s0)))) ?_
    exact tB_X12_more_418 hG hP  h
  · have h := sx_neg c66 h
    refine sx_aload_n (pc := 406) dX12_more_406 sx_m1 ?_
    refine sv_getI (pc := 407) hG dX12_more_407 f_12_536 lay_146 rfl ?_
    refine sx_ineg (pc := 410) dX12_more_410 ?_
    refine sx_goto (pc := 411) (tgt := 418) dX12_more_411 (by decide) ?_
    refine sx_wk (sx_s1 sx_m1 (sx_s1 sx_m2 (sx_s1 sx_m3 (sx_s1 sx_m0 sx_s0)))) ?_
    exact tB_X12_more_418 hG hP  h
def B_X12_more_315 (N : Nat)  (l1 : Int32) (V : sv_V) : Option sv_V := (F_X12_has (2 : Int32) V).bind (fun (x69, V67) => if x69 = 0 then (some V67) else ((F_X12_pop  V67).bind (fun (x73, V71) => (F_X12_pointOf (V67.1 146 74) x73 V71).bind (fun (x76, V74) => (F_X12_pop  V74).bind (fun (x79, V77) => (F_X12_pointOf (V74.1 146 73) x79 V77).bind (fun (x82, V80) => if (V80.1 146 59) = 0 then (if l1 = (135 : Int32) then (B_X12_more_368 N  x76 x82 (1 : Int32) V80) else (B_X12_more_368 N  x76 x82 (0 : Int32) V80)) else (some V80)))))))
set_option maxRecDepth 20000 in
theorem tB_X12_more_315 {g : sx_G} (hG : sx_Go g) {P : Option Value → sv_V → Prop} {Vr : sv_V} (hP : P none Vr) {N : Nat}   {l1 : Int32} {V : sv_V} (h : B_X12_more_315 N  l1 V = some Vr) : sv_N g qX12_more 5 315 [(0, .ref 146), (1, .int l1)] [] V P := by
  unfold B_X12_more_315 at h
  refine sx_aload_n (pc := 315) dX12_more_315 sx_m0 ?_
  refine sx_iconst (pc := 316) (v := 2) dX12_more_316 (by decide) ?_
  obtain ⟨⟨x69, V67⟩, g68, h⟩ := sx_bnd h
  refine sv_cV (pc := 317) (y := qX12_has) (o := (some (.int x69))) (as := [.int (2 : Int32)]) (V1 := V67) hG dX12_more_317 l_X12_576 y0X12_has yvX12_has rfl (Nat.le_of_ble_eq_true rfl) lay_146 kr_12 (by decide) (Nat.le_of_ble_eq_true rfl) rfl rfl rfl (t_X12_has hG ⟨rfl, rfl⟩ g68) ?_
  refine sx_if_eq (pc := 320) (tgt := 512) dX12_more_320 (by decide) (fun c70 => ?_) (fun c70 => ?_)
  · have h := sx_pos c70 h
    exact sv_vret (pc := 512) dX12_more_512 rfl h hP
  · have h := sx_neg c70 h
    refine sx_aload_n (pc := 323) dX12_more_323 sx_m0 ?_
    refine sx_aload_n (pc := 324) dX12_more_324 sx_m0 ?_
    refine sv_getI (pc := 325) hG dX12_more_325 f_12_466 lay_146 rfl ?_
    refine sx_aload_n (pc := 328) dX12_more_328 sx_m0 ?_
    obtain ⟨⟨x73, V71⟩, g72, h⟩ := sx_bnd h
    refine sv_cV (pc := 329) (y := qX12_pop) (o := (some (.int x73))) (as := []) (V1 := V71) hG dX12_more_329 l_X12_579 y0X12_pop yvX12_pop rfl (Nat.le_of_ble_eq_true rfl) lay_146 kr_12 (by decide) (Nat.le_of_ble_eq_true rfl) rfl rfl rfl (t_X12_pop hG ⟨rfl, rfl⟩ g72) ?_
    obtain ⟨⟨x76, V74⟩, g75, h⟩ := sx_bnd h
    refine sv_cV (pc := 332) (y := qX12_pointOf) (o := (some (.int x76))) (as := [.int (V67.1 146 74), .int x73]) (V1 := V74) hG dX12_more_332 l_X12_582 y0X12_pointOf yvX12_pointOf rfl (Nat.le_of_ble_eq_true rfl) lay_146 kr_12 (by decide) (Nat.le_of_ble_eq_true rfl) rfl rfl rfl (t_X12_pointOf hG ⟨rfl, rfl⟩ g75) ?_
    refine sx_istore_n (pc := 335) (lo' := [(2, .int x76), (0, .ref 146), (1, .int l1)]) dX12_more_335 (by decide) rfl ?_
    refine sx_aload_n (pc := 336) dX12_more_336 sx_m1 ?_
    refine sx_aload_n (pc := 337) dX12_more_337 sx_m1 ?_
    refine sv_getI (pc := 338) hG dX12_more_338 f_12_463 lay_146 rfl ?_
    refine sx_aload_n (pc := 341) dX12_more_341 sx_m1 ?_
    obtain ⟨⟨x79, V77⟩, g78, h⟩ := sx_bnd h
    refine sv_cV (pc := 342) (y := qX12_pop) (o := (some (.int x79))) (as := []) (V1 := V77) hG dX12_more_342 l_X12_579 y0X12_pop yvX12_pop rfl (Nat.le_of_ble_eq_true rfl) lay_146 kr_12 (by decide) (Nat.le_of_ble_eq_true rfl) rfl rfl rfl (t_X12_pop hG ⟨rfl, rfl⟩ g78) ?_
    obtain ⟨⟨x82, V80⟩, g81, h⟩ := sx_bnd h
    refine sv_cV (pc := 345) (y := qX12_pointOf) (o := (some (.int x82))) (as := [.int (V74.1 146 73), .int x79]) (V1 := V80) hG dX12_more_345 l_X12_582 y0X12_pointOf yvX12_pointOf rfl (Nat.le_of_ble_eq_true rfl) lay_146 kr_12 (by decide) (Nat.le_of_ble_eq_true rfl) rfl rfl rfl (t_X12_pointOf hG ⟨rfl, rfl⟩ g81) ?_
    refine sx_istore_n (pc := 348) (lo' := [(3, .int x82), (2, .int x76), (0, .ref 146), (1, .int l1)]) dX12_more_348 (by decide) rfl ?_
    refine sx_aload_n (pc := 349) dX12_more_349 sx_m2 ?_
    refine sv_getI (pc := 350) hG dX12_more_350 f_12_409 lay_146 rfl ?_
    refine sx_if_ne (pc := 353) (tgt := 512) dX12_more_353 (by decide) (fun c83 => ?_) (fun c83 => ?_)
    · have h := sx_neg c83 h
      exact sv_vret (pc := 512) dX12_more_512 rfl h hP
    · have h := sx_pos c83 h
      refine sx_iload_n (pc := 356) dX12_more_356 sx_m3 ?_
      refine sx_sipush (pc := 357) (v := 135) dX12_more_357 (by decide) ?_
      refine sx_icmp_ne (pc := 360) (tgt := 367) dX12_more_360 (by decide) (fun c84 => ?_) (fun c84 => ?_)
      · have h := sx_neg c84 h
        refine sx_iconst (pc := 367) (v := 0) dX12_more_367 (by decide) ?_
        refine sx_wk (sx_s1 sx_m2 (sx_s1 sx_m1 (sx_s1 sx_m0 sx_s0))) ?_
        exact tB_X12_more_368 hG hP  h
      · have h := sx_pos c84 h
        refine sx_iconst (pc := 363) (v := 1) dX12_more_363 (by decide) ?_
        refine sx_goto (pc := 364) (tgt := 368) dX12_more_364 (by decide) ?_
        refine sx_wk (sx_s1 sx_m2 (sx_s1 sx_m1 (sx_s1 sx_m0 sx_s0))) ?_
        exact tB_X12_more_368 hG hP  h
def B_X12_more_538 (N : Nat)  (s1 : Int64) (V : sv_V) : Option sv_V := (F_X12_push s1 V).bind (fun V85 => some V85)
set_option maxRecDepth 20000 in
theorem tB_X12_more_538 {g : sx_G} (hG : sx_Go g) {P : Option Value → sv_V → Prop} {Vr : sv_V} (hP : P none Vr) {N : Nat}   {s1 : Int64} {V : sv_V} (h : B_X12_more_538 N  s1 V = some Vr) : sv_N g qX12_more 5 538 [] [.long s1, .ref 146] V P := by
  unfold B_X12_more_538 at h
  obtain ⟨V85, g86, h⟩ := sx_bnd h
  refine sv_cV (pc := 538) (y := qX12_push) (o := none) (as := [.long s1]) (V1 := V85) hG dX12_more_538 l_X12_564 y0X12_push yvX12_push rfl (Nat.le_of_ble_eq_true rfl) lay_146 kr_12 (by decide) (Nat.le_of_ble_eq_true rfl) rfl rfl rfl (t_X12_push hG ⟨rfl, rfl⟩ g86) ?_
  exact sv_vret (pc := 541) dX12_more_541 rfl h hP
def B_X12_more_645 (N : Nat)  (l1 : Int32) (V : sv_V) : Option sv_V := (F_X12_unknown l1 V).bind (fun V87 => some V87)
set_option maxRecDepth 20000 in
theorem tB_X12_more_645 {g : sx_G} (hG : sx_Go g) {P : Option Value → sv_V → Prop} {Vr : sv_V} (hP : P none Vr) {N : Nat}   {l1 : Int32} {V : sv_V} (h : B_X12_more_645 N  l1 V = some Vr) : sv_N g qX12_more 5 645 [(0, .ref 146), (1, .int l1)] [] V P := by
  unfold B_X12_more_645 at h
  refine sx_aload_n (pc := 645) dX12_more_645 sx_m0 ?_
  refine sx_iload_n (pc := 646) dX12_more_646 sx_m1 ?_
  obtain ⟨V87, g88, h⟩ := sx_bnd h
  refine sv_cV (pc := 647) (y := qX12_unknown) (o := none) (as := [.int l1]) (V1 := V87) hG dX12_more_647 l_X12_650 y0X12_unknown yvX12_unknown rfl (Nat.le_of_ble_eq_true rfl) lay_146 kr_12 (by decide) (Nat.le_of_ble_eq_true rfl) rfl rfl rfl (t_X12_unknown hG ⟨rfl, rfl⟩ g88) ?_
  exact sv_vret (pc := 650) dX12_more_650 rfl h hP
def F_X12_more (N : Nat) (l1 : Int32) (V : sv_V) : Option sv_V := if l1 = 128 then ((F_X12_has (V.1 146 75) V).bind (fun (x92, V90) => if x92 = 0 then (some V90) else (sx_lp2 (B_X12_more_85 N ) N (0 : Int32) V90))) else (if l1 = 129 then (B_X12_more_194 N  l1 V) else (if l1 = 130 then (B_X12_more_194 N  l1 V) else (if l1 = 131 then (B_X12_more_645 N  l1 V) else (if l1 = 132 then (B_X12_more_645 N  l1 V) else (if l1 = 133 then ((F_X12_has (1 : Int32) V).bind (fun (x101, V99) => if x101 = 0 then (sx_let (sv_I V99 146 87 (0 : Int32)) (fun V103 => some V103)) else ((F_X12_pop  V99).bind (fun (x106, V104) => sx_let (sv_I V104 146 87 x106) (fun V107 => some V107))))) else (if l1 = 134 then (B_X12_more_315 N  l1 V) else (if l1 = 135 then (B_X12_more_315 N  l1 V) else (if l1 = 136 then ((F_X12_has (1 : Int32) V).bind (fun (x113, V111) => if x113 = 0 then (some V111) else ((F_X12_pop  V111).bind (fun (x117, V115) => if (x117 &&& (1 : Int32)) = 0 then (B_X12_more_538 N  (0 : Int64) V115) else (B_X12_more_538 N  (35 : Int64) V115))))) else (if l1 = 137 then ((F_X12_defineOwn N  V).bind (fun V120 => some V120)) else (if l1 = 138 then ((F_X12_has (3 : Int32) V).bind (fun (x125, V123) => if x125 = 0 then (some V123) else (if sx_in ((V123.1 146 56) - (3 : Int32)) 256 = true then sx_let (V123.1 173 ((V123.1 146 56) - (3 : Int32)).toNatClampNeg) (fun x128 => if sx_in ((V123.1 146 56) - (2 : Int32)) 256 = true then if sx_in ((V123.1 146 56) - (3 : Int32)) 256 = true then sx_let (sv_I V123 173 ((V123.1 146 56) - (3 : Int32)).toNatClampNeg (V123.1 173 ((V123.1 146 56) - (2 : Int32)).toNatClampNeg)) (fun V131 => if sx_in ((V131.1 146 56) - (1 : Int32)) 256 = true then if sx_in ((V131.1 146 56) - (2 : Int32)) 256 = true then sx_let (sv_I V131 173 ((V131.1 146 56) - (2 : Int32)).toNatClampNeg (V131.1 173 ((V131.1 146 56) - (1 : Int32)).toNatClampNeg)) (fun V134 => if sx_in ((V134.1 146 56) - (1 : Int32)) 256 = true then sx_let (sv_I V134 173 ((V134.1 146 56) - (1 : Int32)).toNatClampNeg x128) (fun V136 => some V136) else none) else none else none) else none else none) else none))) else (if l1 = 139 then (B_X12_more_645 N  l1 V) else (if l1 = 140 then (B_X12_more_645 N  l1 V) else (if l1 = 141 then ((F_X12_has (1 : Int32) V).bind (fun (x142, V140) => if x142 = 0 then (sx_let (sv_I V140 146 88 (0 : Int32)) (fun V144 => some V144)) else ((F_X12_pop  V140).bind (fun (x147, V145) => sx_let (sv_I V145 146 88 x147) (fun V148 => some V148))))) else (B_X12_more_645 N  l1 V))))))))))))))
set_option maxRecDepth 20000 in
theorem t_X12_more {g : sx_G} (hG : sx_Go g) {P : Option Value → sv_V → Prop} {Vr : sv_V} (hP : P none Vr) {N : Nat} {l1 : Int32} {V : sv_V} (h : F_X12_more N l1 V = some Vr) : sv_N g qX12_more 5 0 [(0, .ref 146), (1, .int l1)] [] V P := by
  unfold F_X12_more at h
  refine sx_iload_n (pc := 0) dX12_more_0 sx_m1 ?_
  by_cases c89 : l1 = 128
  · have h := sx_pos c89 h
    refine sx_tabI (pc := 1) (off := 71) (tgt := 72) dX12_more_1 (by rw [c89]; decide) (by rw [c89]; decide) (by rw [c89]; rfl) (by decide) ?_
    refine sx_aload_n (pc := 72) dX12_more_72 sx_m0 ?_
    refine sx_aload_n (pc := 73) dX12_more_73 sx_m0 ?_
    refine sv_getI (pc := 74) hG dX12_more_74 f_12_469 lay_146 rfl ?_
    obtain ⟨⟨x92, V90⟩, g91, h⟩ := sx_bnd h
    refine sv_cV (pc := 77) (y := qX12_has) (o := (some (.int x92))) (as := [.int (V.1 146 75)]) (V1 := V90) hG dX12_more_77 l_X12_576 y0X12_has yvX12_has rfl (Nat.le_of_ble_eq_true rfl) lay_146 kr_12 (by decide) (Nat.le_of_ble_eq_true rfl) rfl rfl rfl (t_X12_has hG ⟨rfl, rfl⟩ g91) ?_
    refine sx_if_eq (pc := 80) (tgt := 193) dX12_more_80 (by decide) (fun c93 => ?_) (fun c93 => ?_)
    · have h := sx_pos c93 h
      exact sv_vret (pc := 193) dX12_more_193 rfl h hP
    · have h := sx_neg c93 h
      refine sx_iconst (pc := 83) (v := 0) dX12_more_83 (by decide) ?_
      refine sx_istore_n (pc := 84) (lo' := [(2, .int (0 : Int32)), (0, .ref 146), (1, .int l1)]) dX12_more_84 (by decide) rfl ?_
      refine sx_wk (sx_s1 sx_m1 (sx_s1 sx_m0 sx_s0)) ?_
      exact tL_X12_more_85 hG hP  N _ _ h
  have h := sx_neg c89 h
  by_cases c94 : l1 = 129
  · have h := sx_pos c94 h
    refine sx_tabI (pc := 1) (off := 193) (tgt := 194) dX12_more_1 (by rw [c94]; decide) (by rw [c94]; decide) (by rw [c94]; rfl) (by decide) ?_
    refine sx_wk (sx_s1 sx_m0 (sx_s1 sx_m1 sx_s0)) ?_
    exact tB_X12_more_194 hG hP  h
  have h := sx_neg c94 h
  by_cases c95 : l1 = 130
  · have h := sx_pos c95 h
    refine sx_tabI (pc := 1) (off := 193) (tgt := 194) dX12_more_1 (by rw [c95]; decide) (by rw [c95]; decide) (by rw [c95]; rfl) (by decide) ?_
    refine sx_wk (sx_s1 sx_m0 (sx_s1 sx_m1 sx_s0)) ?_
    exact tB_X12_more_194 hG hP  h
  have h := sx_neg c95 h
  by_cases c96 : l1 = 131
  · have h := sx_pos c96 h
    refine sx_tabI (pc := 1) (off := 644) (tgt := 645) dX12_more_1 (by rw [c96]; decide) (by rw [c96]; decide) (by rw [c96]; rfl) (by decide) ?_
    refine sx_wk (sx_s1 sx_m0 (sx_s1 sx_m1 sx_s0)) ?_
    exact tB_X12_more_645 hG hP  h
  have h := sx_neg c96 h
  by_cases c97 : l1 = 132
  · have h := sx_pos c97 h
    refine sx_tabI (pc := 1) (off := 644) (tgt := 645) dX12_more_1 (by rw [c97]; decide) (by rw [c97]; decide) (by rw [c97]; rfl) (by decide) ?_
    refine sx_wk (sx_s1 sx_m0 (sx_s1 sx_m1 sx_s0)) ?_
    exact tB_X12_more_645 hG hP  h
  have h := sx_neg c97 h
  by_cases c98 : l1 = 133
  · have h := sx_pos c98 h
    refine sx_tabI (pc := 1) (off := 293) (tgt := 294) dX12_more_1 (by rw [c98]; decide) (by rw [c98]; decide) (by rw [c98]; rfl) (by decide) ?_
    refine sx_aload_n (pc := 294) dX12_more_294 sx_m0 ?_
    refine sx_aload_n (pc := 295) dX12_more_295 sx_m0 ?_
    refine sx_iconst (pc := 296) (v := 1) dX12_more_296 (by decide) ?_
    obtain ⟨⟨x101, V99⟩, g100, h⟩ := sx_bnd h
    refine sv_cV (pc := 297) (y := qX12_has) (o := (some (.int x101))) (as := [.int (1 : Int32)]) (V1 := V99) hG dX12_more_297 l_X12_576 y0X12_has yvX12_has rfl (Nat.le_of_ble_eq_true rfl) lay_146 kr_12 (by decide) (Nat.le_of_ble_eq_true rfl) rfl rfl rfl (t_X12_has hG ⟨rfl, rfl⟩ g100) ?_
    refine sx_if_eq (pc := 300) (tgt := 310) dX12_more_300 (by decide) (fun c102 => ?_) (fun c102 => ?_)
    · have h := sx_pos c102 h
      refine sx_iconst (pc := 310) (v := 0) dX12_more_310 (by decide) ?_
      obtain ⟨V103, hV103⟩ : ∃ z : sv_V, z = sv_I V99 146 87 (0 : Int32) := ⟨_, rfl⟩
      have h := sx_letE hV103 h
      refine sv_putI (pc := 311) hG dX12_more_311 f_12_739 lay_146 rfl hV103 ?_
      exact sv_vret (pc := 314) dX12_more_314 rfl h hP
    · have h := sx_neg c102 h
      refine sx_aload_n (pc := 303) dX12_more_303 sx_m0 ?_
      obtain ⟨⟨x106, V104⟩, g105, h⟩ := sx_bnd h
      refine sv_cV (pc := 304) (y := qX12_pop) (o := (some (.int x106))) (as := []) (V1 := V104) hG dX12_more_304 l_X12_579 y0X12_pop yvX12_pop rfl (Nat.le_of_ble_eq_true rfl) lay_146 kr_12 (by decide) (Nat.le_of_ble_eq_true rfl) rfl rfl rfl (t_X12_pop hG ⟨rfl, rfl⟩ g105) ?_
      refine sx_goto (pc := 307) (tgt := 311) dX12_more_307 (by decide) ?_
      obtain ⟨V107, hV107⟩ : ∃ z : sv_V, z = sv_I V104 146 87 x106 := ⟨_, rfl⟩
      have h := sx_letE hV107 h
      refine sv_putI (pc := 311) hG dX12_more_311 f_12_739 lay_146 rfl hV107 ?_
      exact sv_vret (pc := 314) dX12_more_314 rfl h hP
  have h := sx_neg c98 h
  by_cases c108 : l1 = 134
  · have h := sx_pos c108 h
    refine sx_tabI (pc := 1) (off := 314) (tgt := 315) dX12_more_1 (by rw [c108]; decide) (by rw [c108]; decide) (by rw [c108]; rfl) (by decide) ?_
    refine sx_wk (sx_s1 sx_m0 (sx_s1 sx_m1 sx_s0)) ?_
    exact tB_X12_more_315 hG hP  h
  have h := sx_neg c108 h
  by_cases c109 : l1 = 135
  · have h := sx_pos c109 h
    refine sx_tabI (pc := 1) (off := 314) (tgt := 315) dX12_more_1 (by rw [c109]; decide) (by rw [c109]; decide) (by rw [c109]; rfl) (by decide) ?_
    refine sx_wk (sx_s1 sx_m0 (sx_s1 sx_m1 sx_s0)) ?_
    exact tB_X12_more_315 hG hP  h
  have h := sx_neg c109 h
  by_cases c110 : l1 = 136
  · have h := sx_pos c110 h
    refine sx_tabI (pc := 1) (off := 512) (tgt := 513) dX12_more_1 (by rw [c110]; decide) (by rw [c110]; decide) (by rw [c110]; rfl) (by decide) ?_
    refine sx_aload_n (pc := 513) dX12_more_513 sx_m0 ?_
    refine sx_iconst (pc := 514) (v := 1) dX12_more_514 (by decide) ?_
    obtain ⟨⟨x113, V111⟩, g112, h⟩ := sx_bnd h
    refine sv_cV (pc := 515) (y := qX12_has) (o := (some (.int x113))) (as := [.int (1 : Int32)]) (V1 := V111) hG dX12_more_515 l_X12_576 y0X12_has yvX12_has rfl (Nat.le_of_ble_eq_true rfl) lay_146 kr_12 (by decide) (Nat.le_of_ble_eq_true rfl) rfl rfl rfl (t_X12_has hG ⟨rfl, rfl⟩ g112) ?_
    refine sx_if_eq (pc := 518) (tgt := 541) dX12_more_518 (by decide) (fun c114 => ?_) (fun c114 => ?_)
    · have h := sx_pos c114 h
      exact sv_vret (pc := 541) dX12_more_541 rfl h hP
    · have h := sx_neg c114 h
      refine sx_aload_n (pc := 521) dX12_more_521 sx_m0 ?_
      refine sx_aload_n (pc := 522) dX12_more_522 sx_m0 ?_
      obtain ⟨⟨x117, V115⟩, g116, h⟩ := sx_bnd h
      refine sv_cV (pc := 523) (y := qX12_pop) (o := (some (.int x117))) (as := []) (V1 := V115) hG dX12_more_523 l_X12_579 y0X12_pop yvX12_pop rfl (Nat.le_of_ble_eq_true rfl) lay_146 kr_12 (by decide) (Nat.le_of_ble_eq_true rfl) rfl rfl rfl (t_X12_pop hG ⟨rfl, rfl⟩ g116) ?_
      refine sx_iconst (pc := 526) (v := 1) dX12_more_526 (by decide) ?_
      refine sx_iand (pc := 527) dX12_more_527 ?_
      refine sx_if_eq (pc := 528) (tgt := 537) dX12_more_528 (by decide) (fun c118 => ?_) (fun c118 => ?_)
      · have h := sx_pos c118 h
        refine sx_lconst (pc := 537) (v := 0) dX12_more_537 rfl ?_
        refine sx_wk sx_s0 ?_
        exact tB_X12_more_538 hG hP  h
      · have h := sx_neg c118 h
        refine sx_ldc2 (pc := 531) dX12_more_531 k_X12_742 ?_
        refine sx_goto (pc := 534) (tgt := 538) dX12_more_534 (by decide) ?_
        refine sx_wk sx_s0 ?_
        exact tB_X12_more_538 hG hP  h
  have h := sx_neg c110 h
  by_cases c119 : l1 = 137
  · have h := sx_pos c119 h
    refine sx_tabI (pc := 1) (off := 541) (tgt := 542) dX12_more_1 (by rw [c119]; decide) (by rw [c119]; decide) (by rw [c119]; rfl) (by decide) ?_
    refine sx_aload_n (pc := 542) dX12_more_542 sx_m0 ?_
    obtain ⟨V120, g121, h⟩ := sx_bnd h
    refine sv_cV (pc := 543) (y := qX12_defineOwn) (o := none) (as := []) (V1 := V120) hG dX12_more_543 l_X12_744 y0X12_defineOwn yvX12_defineOwn rfl (Nat.le_of_ble_eq_true rfl) lay_146 kr_12 (by decide) (Nat.le_of_ble_eq_true rfl) rfl rfl rfl (t_X12_defineOwn hG ⟨rfl, rfl⟩ g121) ?_
    exact sv_vret (pc := 546) dX12_more_546 rfl h hP
  have h := sx_neg c119 h
  by_cases c122 : l1 = 138
  · have h := sx_pos c122 h
    refine sx_tabI (pc := 1) (off := 546) (tgt := 547) dX12_more_1 (by rw [c122]; decide) (by rw [c122]; decide) (by rw [c122]; rfl) (by decide) ?_
    refine sx_aload_n (pc := 547) dX12_more_547 sx_m0 ?_
    refine sx_iconst (pc := 548) (v := 3) dX12_more_548 (by decide) ?_
    obtain ⟨⟨x125, V123⟩, g124, h⟩ := sx_bnd h
    refine sv_cV (pc := 549) (y := qX12_has) (o := (some (.int x125))) (as := [.int (3 : Int32)]) (V1 := V123) hG dX12_more_549 l_X12_576 y0X12_has yvX12_has rfl (Nat.le_of_ble_eq_true rfl) lay_146 kr_12 (by decide) (Nat.le_of_ble_eq_true rfl) rfl rfl rfl (t_X12_has hG ⟨rfl, rfl⟩ g124) ?_
    refine sx_if_eq (pc := 552) (tgt := 623) dX12_more_552 (by decide) (fun c126 => ?_) (fun c126 => ?_)
    · have h := sx_pos c126 h
      exact sv_vret (pc := 623) dX12_more_623 rfl h hP
    · have h := sx_neg c126 h
      refine sx_aload_n (pc := 555) dX12_more_555 sx_m0 ?_
      refine sv_getA (pc := 556) hG dX12_more_556 f_12_91 lay_146 rfl cr_146_55 ?_
      refine sx_aload_n (pc := 559) dX12_more_559 sx_m0 ?_
      refine sv_getI (pc := 560) hG dX12_more_560 f_12_418 lay_146 rfl ?_
      refine sx_iconst (pc := 563) (v := 3) dX12_more_563 (by decide) ?_
      refine sx_isub (pc := 564) dX12_more_564 ?_
      obtain ⟨g127, h⟩ := sx_grd h
      refine sv_iald (pc := 565) hG dX12_more_565 lay_173 g127 ?_
      refine sv_tI (fun x128 hx128 => ?_)
      have h := sx_letE hx128 h
      refine sx_istore_n (pc := 566) (lo' := [(2, .int x128), (0, .ref 146), (1, .int l1)]) dX12_more_566 (by decide) rfl ?_
      refine sx_aload_n (pc := 567) dX12_more_567 sx_m1 ?_
      refine sv_getA (pc := 568) hG dX12_more_568 f_12_91 lay_146 rfl cr_146_55 ?_
      refine sx_aload_n (pc := 571) dX12_more_571 sx_m1 ?_
      refine sv_getI (pc := 572) hG dX12_more_572 f_12_418 lay_146 rfl ?_
      refine sx_iconst (pc := 575) (v := 3) dX12_more_575 (by decide) ?_
      refine sx_isub (pc := 576) dX12_more_576 ?_
      refine sx_aload_n (pc := 577) dX12_more_577 sx_m1 ?_
      refine sv_getA (pc := 578) hG dX12_more_578 f_12_91 lay_146 rfl cr_146_55 ?_
      refine sx_aload_n (pc := 581) dX12_more_581 sx_m1 ?_
      refine sv_getI (pc := 582) hG dX12_more_582 f_12_418 lay_146 rfl ?_
      refine sx_iconst (pc := 585) (v := 2) dX12_more_585 (by decide) ?_
      refine sx_isub (pc := 586) dX12_more_586 ?_
      obtain ⟨g129, h⟩ := sx_grd h
      refine sv_iald (pc := 587) hG dX12_more_587 lay_173 g129 ?_
      obtain ⟨g130, h⟩ := sx_grd h
      obtain ⟨V131, hV131⟩ : ∃ z : sv_V, z = sv_I V123 173 ((V123.1 146 56) - (3 : Int32)).toNatClampNeg (V123.1 173 ((V123.1 146 56) - (2 : Int32)).toNatClampNeg) := ⟨_, rfl⟩
      have h := sx_letE hV131 h
      refine sv_iast (pc := 588) hG dX12_more_588 lay_173 g130 hV131 ?_
      refine sx_aload_n (pc := 589) dX12_more_589 sx_m1 ?_
      refine sv_getA (pc := 590) hG dX12_more_590 f_12_91 lay_146 rfl cr_146_55 ?_
      refine sx_aload_n (pc := 593) dX12_more_593 sx_m1 ?_
      refine sv_getI (pc := 594) hG dX12_more_594 f_12_418 lay_146 rfl ?_
      refine sx_iconst (pc := 597) (v := 2) dX12_more_597 (by decide) ?_
      refine sx_isub (pc := 598) dX12_more_598 ?_
      refine sx_aload_n (pc := 599) dX12_more_599 sx_m1 ?_
      refine sv_getA (pc := 600) hG dX12_more_600 f_12_91 lay_146 rfl cr_146_55 ?_
      refine sx_aload_n (pc := 603) dX12_more_603 sx_m1 ?_
      refine sv_getI (pc := 604) hG dX12_more_604 f_12_418 lay_146 rfl ?_
      refine sx_iconst (pc := 607) (v := 1) dX12_more_607 (by decide) ?_
      refine sx_isub (pc := 608) dX12_more_608 ?_
      obtain ⟨g132, h⟩ := sx_grd h
      refine sv_iald (pc := 609) hG dX12_more_609 lay_173 g132 ?_
      obtain ⟨g133, h⟩ := sx_grd h
      obtain ⟨V134, hV134⟩ : ∃ z : sv_V, z = sv_I V131 173 ((V131.1 146 56) - (2 : Int32)).toNatClampNeg (V131.1 173 ((V131.1 146 56) - (1 : Int32)).toNatClampNeg) := ⟨_, rfl⟩
      have h := sx_letE hV134 h
      refine sv_iast (pc := 610) hG dX12_more_610 lay_173 g133 hV134 ?_
      refine sx_aload_n (pc := 611) dX12_more_611 sx_m1 ?_
      refine sv_getA (pc := 612) hG dX12_more_612 f_12_91 lay_146 rfl cr_146_55 ?_
      refine sx_aload_n (pc := 615) dX12_more_615 sx_m1 ?_
      refine sv_getI (pc := 616) hG dX12_more_616 f_12_418 lay_146 rfl ?_
      refine sx_iconst (pc := 619) (v := 1) dX12_more_619 (by decide) ?_
      refine sx_isub (pc := 620) dX12_more_620 ?_
      refine sx_iload_n (pc := 621) dX12_more_621 sx_m0 ?_
      obtain ⟨g135, h⟩ := sx_grd h
      obtain ⟨V136, hV136⟩ : ∃ z : sv_V, z = sv_I V134 173 ((V134.1 146 56) - (1 : Int32)).toNatClampNeg x128 := ⟨_, rfl⟩
      have h := sx_letE hV136 h
      refine sv_iast (pc := 622) hG dX12_more_622 lay_173 g135 hV136 ?_
      exact sv_vret (pc := 623) dX12_more_623 rfl h hP
  have h := sx_neg c122 h
  by_cases c137 : l1 = 139
  · have h := sx_pos c137 h
    refine sx_tabI (pc := 1) (off := 644) (tgt := 645) dX12_more_1 (by rw [c137]; decide) (by rw [c137]; decide) (by rw [c137]; rfl) (by decide) ?_
    refine sx_wk (sx_s1 sx_m0 (sx_s1 sx_m1 sx_s0)) ?_
    exact tB_X12_more_645 hG hP  h
  have h := sx_neg c137 h
  by_cases c138 : l1 = 140
  · have h := sx_pos c138 h
    refine sx_tabI (pc := 1) (off := 644) (tgt := 645) dX12_more_1 (by rw [c138]; decide) (by rw [c138]; decide) (by rw [c138]; rfl) (by decide) ?_
    refine sx_wk (sx_s1 sx_m0 (sx_s1 sx_m1 sx_s0)) ?_
    exact tB_X12_more_645 hG hP  h
  have h := sx_neg c138 h
  by_cases c139 : l1 = 141
  · have h := sx_pos c139 h
    refine sx_tabI (pc := 1) (off := 623) (tgt := 624) dX12_more_1 (by rw [c139]; decide) (by rw [c139]; decide) (by rw [c139]; rfl) (by decide) ?_
    refine sx_aload_n (pc := 624) dX12_more_624 sx_m0 ?_
    refine sx_aload_n (pc := 625) dX12_more_625 sx_m0 ?_
    refine sx_iconst (pc := 626) (v := 1) dX12_more_626 (by decide) ?_
    obtain ⟨⟨x142, V140⟩, g141, h⟩ := sx_bnd h
    refine sv_cV (pc := 627) (y := qX12_has) (o := (some (.int x142))) (as := [.int (1 : Int32)]) (V1 := V140) hG dX12_more_627 l_X12_576 y0X12_has yvX12_has rfl (Nat.le_of_ble_eq_true rfl) lay_146 kr_12 (by decide) (Nat.le_of_ble_eq_true rfl) rfl rfl rfl (t_X12_has hG ⟨rfl, rfl⟩ g141) ?_
    refine sx_if_eq (pc := 630) (tgt := 640) dX12_more_630 (by decide) (fun c143 => ?_) (fun c143 => ?_)
    · have h := sx_pos c143 h
      refine sx_iconst (pc := 640) (v := 0) dX12_more_640 (by decide) ?_
      obtain ⟨V144, hV144⟩ : ∃ z : sv_V, z = sv_I V140 146 88 (0 : Int32) := ⟨_, rfl⟩
      have h := sx_letE hV144 h
      refine sv_putI (pc := 641) hG dX12_more_641 f_12_747 lay_146 rfl hV144 ?_
      exact sv_vret (pc := 644) dX12_more_644 rfl h hP
    · have h := sx_neg c143 h
      refine sx_aload_n (pc := 633) dX12_more_633 sx_m0 ?_
      obtain ⟨⟨x147, V145⟩, g146, h⟩ := sx_bnd h
      refine sv_cV (pc := 634) (y := qX12_pop) (o := (some (.int x147))) (as := []) (V1 := V145) hG dX12_more_634 l_X12_579 y0X12_pop yvX12_pop rfl (Nat.le_of_ble_eq_true rfl) lay_146 kr_12 (by decide) (Nat.le_of_ble_eq_true rfl) rfl rfl rfl (t_X12_pop hG ⟨rfl, rfl⟩ g146) ?_
      refine sx_goto (pc := 637) (tgt := 641) dX12_more_637 (by decide) ?_
      obtain ⟨V148, hV148⟩ : ∃ z : sv_V, z = sv_I V145 146 88 x147 := ⟨_, rfl⟩
      have h := sx_letE hV148 h
      refine sv_putI (pc := 641) hG dX12_more_641 f_12_747 lay_146 rfl hV148 ?_
      exact sv_vret (pc := 644) dX12_more_644 rfl h hP
  have h := sx_neg c139 h
  refine sx_tabO (pc := 1) (tgt := 645) dX12_more_1 (by have ec89 := lv_neT (a := 128) c89 rfl; have ec94 := lv_neT (a := 129) c94 rfl; have ec95 := lv_neT (a := 130) c95 rfl; have ec96 := lv_neT (a := 131) c96 rfl; have ec97 := lv_neT (a := 132) c97 rfl; have ec98 := lv_neT (a := 133) c98 rfl; have ec108 := lv_neT (a := 134) c108 rfl; have ec109 := lv_neT (a := 135) c109 rfl; have ec110 := lv_neT (a := 136) c110 rfl; have ec119 := lv_neT (a := 137) c119 rfl; have ec122 := lv_neT (a := 138) c122 rfl; have ec137 := lv_neT (a := 139) c137 rfl; have ec138 := lv_neT (a := 140) c138 rfl; have ec139 := lv_neT (a := 141) c139 rfl; omega) (by decide) ?_
  refine sx_wk (sx_s1 sx_m0 (sx_s1 sx_m1 sx_s0)) ?_
  exact tB_X12_more_645 hG hP  h
theorem dX2_findGlyph_0 : decode cX2_findGlyph 0 = .ok (.lconst 0, 1) := by decide +kernel
theorem dX2_findGlyph_1 : decode cX2_findGlyph 1 = .ok (.lstore_n 2, 1) := by decide +kernel
theorem dX2_findGlyph_2 : decode cX2_findGlyph 2 = .ok (.aload_n 0, 1) := by decide +kernel
theorem dX2_findGlyph_3 : decode cX2_findGlyph 3 = .ok (.getfield 72, 3) := by decide +kernel
theorem dX2_findGlyph_6 : decode cX2_findGlyph 6 = .ok (.bipush 12, 2) := by decide +kernel
theorem dX2_findGlyph_8 : decode cX2_findGlyph 8 = .ok (.if_icmp .ne 12, 3) := by decide +kernel
theorem dX2_findGlyph_11 : decode cX2_findGlyph 11 = .ok (.aload_n 0, 1) := by decide +kernel
theorem dX2_findGlyph_12 : decode cX2_findGlyph 12 = .ok (.iload_n 1, 1) := by decide +kernel
theorem dX2_findGlyph_13 : decode cX2_findGlyph 13 = .ok (.invokevirtual 75, 3) := by decide +kernel
theorem dX2_findGlyph_16 : decode cX2_findGlyph 16 = .ok (.lstore_n 2, 1) := by decide +kernel
theorem dX2_findGlyph_17 : decode cX2_findGlyph 17 = .ok (.goto 43, 3) := by decide +kernel
theorem dX2_findGlyph_20 : decode cX2_findGlyph 20 = .ok (.aload_n 0, 1) := by decide +kernel
theorem dX2_findGlyph_21 : decode cX2_findGlyph 21 = .ok (.getfield 72, 3) := by decide +kernel
theorem dX2_findGlyph_24 : decode cX2_findGlyph 24 = .ok (.iconst 4, 1) := by decide +kernel
theorem dX2_findGlyph_25 : decode cX2_findGlyph 25 = .ok (.if_icmp .ne 13, 3) := by decide +kernel
theorem dX2_findGlyph_28 : decode cX2_findGlyph 28 = .ok (.aload_n 0, 1) := by decide +kernel
theorem dX2_findGlyph_29 : decode cX2_findGlyph 29 = .ok (.iload_n 1, 1) := by decide +kernel
theorem dX2_findGlyph_30 : decode cX2_findGlyph 30 = .ok (.invokevirtual 79, 3) := by decide +kernel
theorem dX2_findGlyph_33 : decode cX2_findGlyph 33 = .ok (.i2l, 1) := by decide +kernel
theorem dX2_findGlyph_34 : decode cX2_findGlyph 34 = .ok (.lstore_n 2, 1) := by decide +kernel
theorem dX2_findGlyph_35 : decode cX2_findGlyph 35 = .ok (.goto 25, 3) := by decide +kernel
theorem dX2_findGlyph_38 : decode cX2_findGlyph 38 = .ok (.iload_n 1, 1) := by decide +kernel
theorem dX2_findGlyph_39 : decode cX2_findGlyph 39 = .ok (.sipush 256, 3) := by decide +kernel
theorem dX2_findGlyph_42 : decode cX2_findGlyph 42 = .ok (.if_icmp .ge 18, 3) := by decide +kernel
theorem dX2_findGlyph_45 : decode cX2_findGlyph 45 = .ok (.aload_n 0, 1) := by decide +kernel
theorem dX2_findGlyph_46 : decode cX2_findGlyph 46 = .ok (.aload_n 0, 1) := by decide +kernel
theorem dX2_findGlyph_47 : decode cX2_findGlyph 47 = .ok (.getfield 82, 3) := by decide +kernel
theorem dX2_findGlyph_50 : decode cX2_findGlyph 50 = .ok (.bipush 6, 2) := by decide +kernel
theorem dX2_findGlyph_52 : decode cX2_findGlyph 52 = .ok (.iadd, 1) := by decide +kernel
theorem dX2_findGlyph_53 : decode cX2_findGlyph 53 = .ok (.iload_n 1, 1) := by decide +kernel
theorem dX2_findGlyph_54 : decode cX2_findGlyph 54 = .ok (.iadd, 1) := by decide +kernel
theorem dX2_findGlyph_55 : decode cX2_findGlyph 55 = .ok (.invokevirtual 85, 3) := by decide +kernel
theorem dX2_findGlyph_58 : decode cX2_findGlyph 58 = .ok (.i2l, 1) := by decide +kernel
theorem dX2_findGlyph_59 : decode cX2_findGlyph 59 = .ok (.lstore_n 2, 1) := by decide +kernel
theorem dX2_findGlyph_60 : decode cX2_findGlyph 60 = .ok (.lload_n 2, 1) := by decide +kernel
theorem dX2_findGlyph_61 : decode cX2_findGlyph 61 = .ok (.aload_n 0, 1) := by decide +kernel
theorem dX2_findGlyph_62 : decode cX2_findGlyph 62 = .ok (.getfield 54, 3) := by decide +kernel
theorem dX2_findGlyph_65 : decode cX2_findGlyph 65 = .ok (.i2l, 1) := by decide +kernel
theorem dX2_findGlyph_66 : decode cX2_findGlyph 66 = .ok (.lcmp, 1) := by decide +kernel
theorem dX2_findGlyph_67 : decode cX2_findGlyph 67 = .ok (.ifCond .ge 8, 3) := by decide +kernel
theorem dX2_findGlyph_70 : decode cX2_findGlyph 70 = .ok (.lload_n 2, 1) := by decide +kernel
theorem dX2_findGlyph_71 : decode cX2_findGlyph 71 = .ok (.l2i, 1) := by decide +kernel
theorem dX2_findGlyph_72 : decode cX2_findGlyph 72 = .ok (.goto 4, 3) := by decide +kernel
theorem dX2_findGlyph_75 : decode cX2_findGlyph 75 = .ok (.iconst 0, 1) := by decide +kernel
theorem dX2_findGlyph_76 : decode cX2_findGlyph 76 = .ok (.ireturn, 1) := by decide +kernel
def B_X2_findGlyph_60 (N : Nat)  (l2 : Int64) (V : sv_V) : Option (Int32 × sv_V) := if 0 ≤ (lg_cmp l2 ((V.1 2 7).toInt64)) then (some ((0 : Int32), V)) else (some (l2.toInt32, V))
set_option maxRecDepth 20000 in
theorem tB_X2_findGlyph_60 {g : sx_G} (hG : sx_Go g) {P : Option Value → sv_V → Prop} {r : Int32} {Vr : sv_V} (hP : P (some (.int r)) Vr) {N : Nat}   {l2 : Int64} {V : sv_V} (h : B_X2_findGlyph_60 N  l2 V = some (r, Vr)) : sv_N g qX2_findGlyph 3 60 [(0, .ref 2), (2, .long l2)] [] V P := by
  unfold B_X2_findGlyph_60 at h
  refine sx_lload_n (pc := 60) dX2_findGlyph_60 sx_m1 ?_
  refine sx_aload_n (pc := 61) dX2_findGlyph_61 sx_m0 ?_
  refine sv_getI (pc := 62) hG dX2_findGlyph_62 f_2_54 lay_2 rfl ?_
  refine sx_i2l (pc := 65) dX2_findGlyph_65 ?_
  refine sx_lcmp (pc := 66) dX2_findGlyph_66 ?_
  refine sx_if_ge (pc := 67) (tgt := 75) dX2_findGlyph_67 (by decide) (fun c1 => ?_) (fun c1 => ?_)
  · have h := sx_pos c1 h
    refine sx_iconst (pc := 75) (v := 0) dX2_findGlyph_75 (by decide) ?_
    exact sv_iret (pc := 76) dX2_findGlyph_76 rfl h hP
  · have h := sx_neg c1 h
    refine sx_lload_n (pc := 70) dX2_findGlyph_70 sx_m1 ?_
    refine sx_l2i (pc := 71) dX2_findGlyph_71 ?_
    refine sx_goto (pc := 72) (tgt := 76) dX2_findGlyph_72 (by decide) ?_
    exact sv_iret (pc := 76) dX2_findGlyph_76 rfl h hP
def F_X2_findGlyph (N : Nat) (l1 : Int32) (V : sv_V) : Option (Int32 × sv_V) := if (V.1 2 11) = (12 : Int32) then ((F_X2_findInGroups N l1 V).bind (fun (x15, V13) => B_X2_findGlyph_60 N  x15 V13)) else (if (V.1 2 11) = (4 : Int32) then ((F_X2_findInSegments N l1 V).bind (fun (x11, V9) => sx_let (x11.toInt64) (fun x12 => B_X2_findGlyph_60 N  x12 V9))) else (if (256 : Int32) ≤ l1 then (B_X2_findGlyph_60 N  (0 : Int64) V) else ((F_X2_u1 (((V.1 2 12) + (6 : Int32)) + l1) V).bind (fun (x7, V5) => sx_let (x7.toInt64) (fun x8 => B_X2_findGlyph_60 N  x8 V5)))))
set_option maxRecDepth 20000 in
theorem t_X2_findGlyph {g : sx_G} (hG : sx_Go g) {P : Option Value → sv_V → Prop} {r : Int32} {Vr : sv_V} (hP : P (some (.int r)) Vr) {N : Nat} {l1 : Int32} {V : sv_V} (h : F_X2_findGlyph N l1 V = some (r, Vr)) : sv_N g qX2_findGlyph 3 0 [(0, .ref 2), (1, .int l1)] [] V P := by
  unfold F_X2_findGlyph at h
  refine sx_lconst (pc := 0) (v := 0) dX2_findGlyph_0 rfl ?_
  refine sx_lstore_n (pc := 1) (lo' := [(2, .long (0 : Int64)), (0, .ref 2), (1, .int l1)]) dX2_findGlyph_1 (by decide) rfl ?_
  refine sx_aload_n (pc := 2) dX2_findGlyph_2 sx_m1 ?_
  refine sv_getI (pc := 3) hG dX2_findGlyph_3 f_2_72 lay_2 rfl ?_
  refine sx_bipush (pc := 6) (v := 12) dX2_findGlyph_6 (by decide) ?_
  refine sx_icmp_ne (pc := 8) (tgt := 20) dX2_findGlyph_8 (by decide) (fun c2 => ?_) (fun c2 => ?_)
  · have h := sx_neg c2 h
    refine sx_aload_n (pc := 20) dX2_findGlyph_20 sx_m1 ?_
    refine sv_getI (pc := 21) hG dX2_findGlyph_21 f_2_72 lay_2 rfl ?_
    refine sx_iconst (pc := 24) (v := 4) dX2_findGlyph_24 (by decide) ?_
    refine sx_icmp_ne (pc := 25) (tgt := 38) dX2_findGlyph_25 (by decide) (fun c3 => ?_) (fun c3 => ?_)
    · have h := sx_neg c3 h
      refine sx_iload_n (pc := 38) dX2_findGlyph_38 sx_m2 ?_
      refine sx_sipush (pc := 39) (v := 256) dX2_findGlyph_39 (by decide) ?_
      refine sx_icmp_ge (pc := 42) (tgt := 60) dX2_findGlyph_42 (by decide) (fun c4 => ?_) (fun c4 => ?_)
      · have h := sx_pos c4 h
        refine sx_wk (sx_s1 sx_m1 (sx_s1 sx_m0 sx_s0)) ?_
        exact tB_X2_findGlyph_60 hG hP  h
      · have h := sx_neg c4 h
        refine sx_aload_n (pc := 45) dX2_findGlyph_45 sx_m1 ?_
        refine sx_aload_n (pc := 46) dX2_findGlyph_46 sx_m1 ?_
        refine sv_getI (pc := 47) hG dX2_findGlyph_47 f_2_82 lay_2 rfl ?_
        refine sx_bipush (pc := 50) (v := 6) dX2_findGlyph_50 (by decide) ?_
        refine sx_iadd (pc := 52) dX2_findGlyph_52 ?_
        refine sx_iload_n (pc := 53) dX2_findGlyph_53 sx_m2 ?_
        refine sx_iadd (pc := 54) dX2_findGlyph_54 ?_
        obtain ⟨⟨x7, V5⟩, g6, h⟩ := sx_bnd h
        refine sv_cV (pc := 55) (y := qX2_u1) (o := (some (.int x7))) (as := [.int (((V.1 2 12) + (6 : Int32)) + l1)]) (V1 := V5) hG dX2_findGlyph_55 l_X2_85 y0X2_u1 yvX2_u1 rfl (Nat.le_of_ble_eq_true rfl) lay_2 kr_2 (by decide) (Nat.le_of_ble_eq_true rfl) rfl rfl rfl (t_X2_u1 hG ⟨rfl, rfl⟩ g6) ?_
        refine sx_i2l (pc := 58) dX2_findGlyph_58 ?_
        refine sv_tJ (fun x8 hx8 => ?_)
        have h := sx_letE hx8 h
        refine sx_lstore_n (pc := 59) (lo' := [(2, .long x8), (0, .ref 2), (1, .int l1)]) dX2_findGlyph_59 (by decide) rfl ?_
        refine sx_wk (sx_s1 sx_m1 (sx_s1 sx_m0 sx_s0)) ?_
        exact tB_X2_findGlyph_60 hG hP  h
    · have h := sx_pos c3 h
      refine sx_aload_n (pc := 28) dX2_findGlyph_28 sx_m1 ?_
      refine sx_iload_n (pc := 29) dX2_findGlyph_29 sx_m2 ?_
      obtain ⟨⟨x11, V9⟩, g10, h⟩ := sx_bnd h
      refine sv_cV (pc := 30) (y := qX2_findInSegments) (o := (some (.int x11))) (as := [.int l1]) (V1 := V9) hG dX2_findGlyph_30 l_X2_79 y0X2_findInSegments yvX2_findInSegments rfl (Nat.le_of_ble_eq_true rfl) lay_2 kr_2 (by decide) (Nat.le_of_ble_eq_true rfl) rfl rfl rfl (t_X2_findInSegments hG ⟨rfl, rfl⟩ g10) ?_
      refine sx_i2l (pc := 33) dX2_findGlyph_33 ?_
      refine sv_tJ (fun x12 hx12 => ?_)
      have h := sx_letE hx12 h
      refine sx_lstore_n (pc := 34) (lo' := [(2, .long x12), (0, .ref 2), (1, .int l1)]) dX2_findGlyph_34 (by decide) rfl ?_
      refine sx_goto (pc := 35) (tgt := 60) dX2_findGlyph_35 (by decide) ?_
      refine sx_wk (sx_s1 sx_m1 (sx_s1 sx_m0 sx_s0)) ?_
      exact tB_X2_findGlyph_60 hG hP  h
  · have h := sx_pos c2 h
    refine sx_aload_n (pc := 11) dX2_findGlyph_11 sx_m1 ?_
    refine sx_iload_n (pc := 12) dX2_findGlyph_12 sx_m2 ?_
    obtain ⟨⟨x15, V13⟩, g14, h⟩ := sx_bnd h
    refine sv_cV (pc := 13) (y := qX2_findInGroups) (o := (some (.long x15))) (as := [.int l1]) (V1 := V13) hG dX2_findGlyph_13 l_X2_75 y0X2_findInGroups yvX2_findInGroups rfl (Nat.le_of_ble_eq_true rfl) lay_2 kr_2 (by decide) (Nat.le_of_ble_eq_true rfl) rfl rfl rfl (t_X2_findInGroups hG ⟨rfl, rfl⟩ g14) ?_
    refine sx_lstore_n (pc := 16) (lo' := [(2, .long x15), (0, .ref 2), (1, .int l1)]) dX2_findGlyph_16 (by decide) rfl ?_
    refine sx_goto (pc := 17) (tgt := 60) dX2_findGlyph_17 (by decide) ?_
    refine sx_wk (sx_s1 sx_m1 (sx_s1 sx_m0 sx_s0)) ?_
    exact tB_X2_findGlyph_60 hG hP  h
theorem dX3_glyphHolds_0 : decode cX3_glyphHolds 0 = .ok (.iconst 2, 1) := by decide +kernel
theorem dX3_glyphHolds_1 : decode cX3_glyphHolds 1 = .ok (.istore_n 2, 1) := by decide +kernel
theorem dX3_glyphHolds_2 : decode cX3_glyphHolds 2 = .ok (.iload_n 2, 1) := by decide +kernel
theorem dX3_glyphHolds_3 : decode cX3_glyphHolds 3 = .ok (.bipush 7, 2) := by decide +kernel
theorem dX3_glyphHolds_5 : decode cX3_glyphHolds 5 = .ok (.if_icmp .gt 21, 3) := by decide +kernel
theorem dX3_glyphHolds_8 : decode cX3_glyphHolds 8 = .ok (.aload_n 0, 1) := by decide +kernel
theorem dX3_glyphHolds_9 : decode cX3_glyphHolds 9 = .ok (.getfield 27, 3) := by decide +kernel
theorem dX3_glyphHolds_12 : decode cX3_glyphHolds 12 = .ok (.getfield 45, 3) := by decide +kernel
theorem dX3_glyphHolds_15 : decode cX3_glyphHolds 15 = .ok (.iload_n 2, 1) := by decide +kernel
theorem dX3_glyphHolds_16 : decode cX3_glyphHolds 16 = .ok (.aaload, 1) := by decide +kernel
theorem dX3_glyphHolds_17 : decode cX3_glyphHolds 17 = .ok (.iload_n 1, 1) := by decide +kernel
theorem dX3_glyphHolds_18 : decode cX3_glyphHolds 18 = .ok (.iconst 0, 1) := by decide +kernel
theorem dX3_glyphHolds_19 : decode cX3_glyphHolds 19 = .ok (.iastore, 1) := by decide +kernel
theorem dX3_glyphHolds_20 : decode cX3_glyphHolds 20 = .ok (.iinc 2 1, 3) := by decide +kernel
theorem dX3_glyphHolds_23 : decode cX3_glyphHolds 23 = .ok (.goto (-21), 3) := by decide +kernel
theorem dX3_glyphHolds_26 : decode cX3_glyphHolds 26 = .ok (.aload_n 0, 1) := by decide +kernel
theorem dX3_glyphHolds_27 : decode cX3_glyphHolds 27 = .ok (.getfield 27, 3) := by decide +kernel
theorem dX3_glyphHolds_30 : decode cX3_glyphHolds 30 = .ok (.getfield 45, 3) := by decide +kernel
theorem dX3_glyphHolds_33 : decode cX3_glyphHolds 33 = .ok (.iconst 1, 1) := by decide +kernel
theorem dX3_glyphHolds_34 : decode cX3_glyphHolds 34 = .ok (.aaload, 1) := by decide +kernel
theorem dX3_glyphHolds_35 : decode cX3_glyphHolds 35 = .ok (.iload_n 1, 1) := by decide +kernel
theorem dX3_glyphHolds_36 : decode cX3_glyphHolds 36 = .ok (.iaload, 1) := by decide +kernel
theorem dX3_glyphHolds_37 : decode cX3_glyphHolds 37 = .ok (.ifCond .ne 5, 3) := by decide +kernel
theorem dX3_glyphHolds_40 : decode cX3_glyphHolds 40 = .ok (.iconst 1, 1) := by decide +kernel
theorem dX3_glyphHolds_41 : decode cX3_glyphHolds 41 = .ok (.ireturn, 1) := by decide +kernel
theorem dX3_glyphHolds_42 : decode cX3_glyphHolds 42 = .ok (.aload_n 0, 1) := by decide +kernel
theorem dX3_glyphHolds_43 : decode cX3_glyphHolds 43 = .ok (.getfield 27, 3) := by decide +kernel
theorem dX3_glyphHolds_46 : decode cX3_glyphHolds 46 = .ok (.getfield 45, 3) := by decide +kernel
theorem dX3_glyphHolds_49 : decode cX3_glyphHolds 49 = .ok (.iconst 1, 1) := by decide +kernel
theorem dX3_glyphHolds_50 : decode cX3_glyphHolds 50 = .ok (.aaload, 1) := by decide +kernel
theorem dX3_glyphHolds_51 : decode cX3_glyphHolds 51 = .ok (.iload_n 1, 1) := by decide +kernel
theorem dX3_glyphHolds_52 : decode cX3_glyphHolds 52 = .ok (.iaload, 1) := by decide +kernel
theorem dX3_glyphHolds_53 : decode cX3_glyphHolds 53 = .ok (.bipush 10, 2) := by decide +kernel
theorem dX3_glyphHolds_55 : decode cX3_glyphHolds 55 = .ok (.if_icmp .ge 5, 3) := by decide +kernel
theorem dX3_glyphHolds_58 : decode cX3_glyphHolds 58 = .ok (.iconst 0, 1) := by decide +kernel
theorem dX3_glyphHolds_59 : decode cX3_glyphHolds 59 = .ok (.ireturn, 1) := by decide +kernel
theorem dX3_glyphHolds_60 : decode cX3_glyphHolds 60 = .ok (.aload_n 0, 1) := by decide +kernel
theorem dX3_glyphHolds_61 : decode cX3_glyphHolds 61 = .ok (.getfield 27, 3) := by decide +kernel
theorem dX3_glyphHolds_64 : decode cX3_glyphHolds 64 = .ok (.aload_n 0, 1) := by decide +kernel
theorem dX3_glyphHolds_65 : decode cX3_glyphHolds 65 = .ok (.getfield 27, 3) := by decide +kernel
theorem dX3_glyphHolds_68 : decode cX3_glyphHolds 68 = .ok (.getfield 45, 3) := by decide +kernel
theorem dX3_glyphHolds_71 : decode cX3_glyphHolds 71 = .ok (.iconst 0, 1) := by decide +kernel
theorem dX3_glyphHolds_72 : decode cX3_glyphHolds 72 = .ok (.aaload, 1) := by decide +kernel
theorem dX3_glyphHolds_73 : decode cX3_glyphHolds 73 = .ok (.iload_n 1, 1) := by decide +kernel
theorem dX3_glyphHolds_74 : decode cX3_glyphHolds 74 = .ok (.iaload, 1) := by decide +kernel
theorem dX3_glyphHolds_75 : decode cX3_glyphHolds 75 = .ok (.invokevirtual 49, 3) := by decide +kernel
theorem dX3_glyphHolds_78 : decode cX3_glyphHolds 78 = .ok (.istore_n 2, 1) := by decide +kernel
theorem dX3_glyphHolds_79 : decode cX3_glyphHolds 79 = .ok (.aload_n 0, 1) := by decide +kernel
theorem dX3_glyphHolds_80 : decode cX3_glyphHolds 80 = .ok (.getfield 27, 3) := by decide +kernel
theorem dX3_glyphHolds_83 : decode cX3_glyphHolds 83 = .ok (.getfield 45, 3) := by decide +kernel
theorem dX3_glyphHolds_86 : decode cX3_glyphHolds 86 = .ok (.iconst 2, 1) := by decide +kernel
theorem dX3_glyphHolds_87 : decode cX3_glyphHolds 87 = .ok (.aaload, 1) := by decide +kernel
theorem dX3_glyphHolds_88 : decode cX3_glyphHolds 88 = .ok (.iload_n 1, 1) := by decide +kernel
theorem dX3_glyphHolds_89 : decode cX3_glyphHolds 89 = .ok (.iload_n 2, 1) := by decide +kernel
theorem dX3_glyphHolds_90 : decode cX3_glyphHolds 90 = .ok (.iastore, 1) := by decide +kernel
theorem dX3_glyphHolds_91 : decode cX3_glyphHolds 91 = .ok (.aload_n 0, 1) := by decide +kernel
theorem dX3_glyphHolds_92 : decode cX3_glyphHolds 92 = .ok (.getfield 27, 3) := by decide +kernel
theorem dX3_glyphHolds_95 : decode cX3_glyphHolds 95 = .ok (.getfield 45, 3) := by decide +kernel
theorem dX3_glyphHolds_98 : decode cX3_glyphHolds 98 = .ok (.iconst 3, 1) := by decide +kernel
theorem dX3_glyphHolds_99 : decode cX3_glyphHolds 99 = .ok (.aaload, 1) := by decide +kernel
theorem dX3_glyphHolds_100 : decode cX3_glyphHolds 100 = .ok (.iload_n 1, 1) := by decide +kernel
theorem dX3_glyphHolds_101 : decode cX3_glyphHolds 101 = .ok (.aload_n 0, 1) := by decide +kernel
theorem dX3_glyphHolds_102 : decode cX3_glyphHolds 102 = .ok (.getfield 27, 3) := by decide +kernel
theorem dX3_glyphHolds_105 : decode cX3_glyphHolds 105 = .ok (.aload_n 0, 1) := by decide +kernel
theorem dX3_glyphHolds_106 : decode cX3_glyphHolds 106 = .ok (.getfield 27, 3) := by decide +kernel
theorem dX3_glyphHolds_109 : decode cX3_glyphHolds 109 = .ok (.getfield 45, 3) := by decide +kernel
theorem dX3_glyphHolds_112 : decode cX3_glyphHolds 112 = .ok (.iconst 0, 1) := by decide +kernel
theorem dX3_glyphHolds_113 : decode cX3_glyphHolds 113 = .ok (.aaload, 1) := by decide +kernel
theorem dX3_glyphHolds_114 : decode cX3_glyphHolds 114 = .ok (.iload_n 1, 1) := by decide +kernel
theorem dX3_glyphHolds_115 : decode cX3_glyphHolds 115 = .ok (.iaload, 1) := by decide +kernel
theorem dX3_glyphHolds_116 : decode cX3_glyphHolds 116 = .ok (.iconst 2, 1) := by decide +kernel
theorem dX3_glyphHolds_117 : decode cX3_glyphHolds 117 = .ok (.iadd, 1) := by decide +kernel
theorem dX3_glyphHolds_118 : decode cX3_glyphHolds 118 = .ok (.invokevirtual 49, 3) := by decide +kernel
theorem dX3_glyphHolds_121 : decode cX3_glyphHolds 121 = .ok (.iastore, 1) := by decide +kernel
theorem dX3_glyphHolds_122 : decode cX3_glyphHolds 122 = .ok (.iload_n 2, 1) := by decide +kernel
theorem dX3_glyphHolds_123 : decode cX3_glyphHolds 123 = .ok (.iconst (-1), 1) := by decide +kernel
theorem dX3_glyphHolds_124 : decode cX3_glyphHolds 124 = .ok (.if_icmp .ne 9, 3) := by decide +kernel
theorem dX3_glyphHolds_127 : decode cX3_glyphHolds 127 = .ok (.aload_n 0, 1) := by decide +kernel
theorem dX3_glyphHolds_128 : decode cX3_glyphHolds 128 = .ok (.iload_n 1, 1) := by decide +kernel
theorem dX3_glyphHolds_129 : decode cX3_glyphHolds 129 = .ok (.invokevirtual 53, 3) := by decide +kernel
theorem dX3_glyphHolds_132 : decode cX3_glyphHolds 132 = .ok (.ireturn, 1) := by decide +kernel
theorem dX3_glyphHolds_133 : decode cX3_glyphHolds 133 = .ok (.iload_n 2, 1) := by decide +kernel
theorem dX3_glyphHolds_134 : decode cX3_glyphHolds 134 = .ok (.ifCond .lt 21, 3) := by decide +kernel
theorem dX3_glyphHolds_137 : decode cX3_glyphHolds 137 = .ok (.iload_n 2, 1) := by decide +kernel
theorem dX3_glyphHolds_138 : decode cX3_glyphHolds 138 = .ok (.bipush 12, 2) := by decide +kernel
theorem dX3_glyphHolds_140 : decode cX3_glyphHolds 140 = .ok (.if_icmp .gt 15, 3) := by decide +kernel
theorem dX3_glyphHolds_143 : decode cX3_glyphHolds 143 = .ok (.aload_n 0, 1) := by decide +kernel
theorem dX3_glyphHolds_144 : decode cX3_glyphHolds 144 = .ok (.iload_n 1, 1) := by decide +kernel
theorem dX3_glyphHolds_145 : decode cX3_glyphHolds 145 = .ok (.aload_n 0, 1) := by decide +kernel
theorem dX3_glyphHolds_146 : decode cX3_glyphHolds 146 = .ok (.getfield 14, 3) := by decide +kernel
theorem dX3_glyphHolds_149 : decode cX3_glyphHolds 149 = .ok (.invokevirtual 56, 3) := by decide +kernel
theorem dX3_glyphHolds_152 : decode cX3_glyphHolds 152 = .ok (.ifCond .ne 5, 3) := by decide +kernel
theorem dX3_glyphHolds_155 : decode cX3_glyphHolds 155 = .ok (.iconst 0, 1) := by decide +kernel
theorem dX3_glyphHolds_156 : decode cX3_glyphHolds 156 = .ok (.ireturn, 1) := by decide +kernel
theorem dX3_glyphHolds_157 : decode cX3_glyphHolds 157 = .ok (.aload_n 0, 1) := by decide +kernel
theorem dX3_glyphHolds_158 : decode cX3_glyphHolds 158 = .ok (.getfield 27, 3) := by decide +kernel
theorem dX3_glyphHolds_161 : decode cX3_glyphHolds 161 = .ok (.getfield 45, 3) := by decide +kernel
theorem dX3_glyphHolds_164 : decode cX3_glyphHolds 164 = .ok (.iconst 4, 1) := by decide +kernel
theorem dX3_glyphHolds_165 : decode cX3_glyphHolds 165 = .ok (.aaload, 1) := by decide +kernel
theorem dX3_glyphHolds_166 : decode cX3_glyphHolds 166 = .ok (.iload_n 1, 1) := by decide +kernel
theorem dX3_glyphHolds_167 : decode cX3_glyphHolds 167 = .ok (.aload_n 0, 1) := by decide +kernel
theorem dX3_glyphHolds_168 : decode cX3_glyphHolds 168 = .ok (.getfield 14, 3) := by decide +kernel
theorem dX3_glyphHolds_171 : decode cX3_glyphHolds 171 = .ok (.getfield 60, 3) := by decide +kernel
theorem dX3_glyphHolds_174 : decode cX3_glyphHolds 174 = .ok (.iastore, 1) := by decide +kernel
theorem dX3_glyphHolds_175 : decode cX3_glyphHolds 175 = .ok (.iconst 1, 1) := by decide +kernel
theorem dX3_glyphHolds_176 : decode cX3_glyphHolds 176 = .ok (.ireturn, 1) := by decide +kernel
def B_X3_glyphHolds_2 (N : Nat) (k2 : Int32 → Int32 → sv_V → Option (Int32 × sv_V)) (l1 : Int32) (l2 : Int32) (V : sv_V) : Option (Int32 × sv_V) := if (7 : Int32) < l2 then ((cr 7 (1 : Int32).toNatClampNeg).bind (fun b2 => (sv_len 0 b2).bind (fun n4 => if sx_in l1 n4 = true then if (V.1 b2 l1.toNatClampNeg) = 0 then (some ((1 : Int32), V)) else ((cr 7 (1 : Int32).toNatClampNeg).bind (fun b8 => (sv_len 0 b8).bind (fun n10 => if sx_in l1 n10 = true then if (10 : Int32) ≤ (V.1 b8 l1.toNatClampNeg) then ((cr 7 (0 : Int32).toNatClampNeg).bind (fun b14 => (sv_len 0 b14).bind (fun n16 => if sx_in l1 n16 = true then (F_X2_s2 (V.1 b14 l1.toNatClampNeg) V).bind (fun (x21, V19) => (cr 7 (2 : Int32).toNatClampNeg).bind (fun b22 => (sv_len 0 b22).bind (fun n24 => if sx_in l1 n24 = true then sx_let (sv_I V19 b22 l1.toNatClampNeg x21) (fun V27 => (cr 7 (3 : Int32).toNatClampNeg).bind (fun b28 => (cr 7 (0 : Int32).toNatClampNeg).bind (fun b30 => (sv_len 0 b30).bind (fun n32 => if sx_in l1 n32 = true then (F_X2_s2 ((V27.1 b30 l1.toNatClampNeg) + (2 : Int32)) V27).bind (fun (x37, V35) => (sv_len 0 b28).bind (fun n38 => if sx_in l1 n38 = true then sx_let (sv_I V35 b28 l1.toNatClampNeg x37) (fun V41 => if x21 = (-1 : Int32) then ((F_X3_partsHold N l1 V41).bind (fun (x57, V55) => if sv_bl x57 = true then some (x57, V55) else none)) else (if x21 < 0 then (some ((0 : Int32), V41)) else (if (12 : Int32) < x21 then (some ((0 : Int32), V41)) else ((F_X3_readOutline N l1 17 V41).bind (fun (x47, V45) => if x47 = 0 then (some ((0 : Int32), V45)) else ((cr 7 (4 : Int32).toNatClampNeg).bind (fun b49 => (sv_len 0 b49).bind (fun n51 => if sx_in l1 n51 = true then sx_let (sv_I V45 b49 l1.toNatClampNeg (V45.1 17 9)) (fun V54 => some ((1 : Int32), V54)) else none)))))))) else none)) else none)))) else none))) else none))) else (some ((0 : Int32), V)) else none))) else none))) else (if sx_in l2 8 = true then (cr 7 l2.toNatClampNeg).bind (fun b60 => (sv_len 0 b60).bind (fun n62 => if sx_in l1 n62 = true then sx_let (sv_I V b60 l1.toNatClampNeg (0 : Int32)) (fun V65 => sx_let (l2 + 1) (fun x66 => k2 l1 x66 V65)) else none)) else none)
set_option maxRecDepth 20000 in
theorem tB_X3_glyphHolds_2 {g : sx_G} (hG : sx_Go g) {P : Option Value → sv_V → Prop} {r : Int32} {Vr : sv_V} (hP : P (some (.int r)) Vr) {N : Nat} {k2 : Int32 → Int32 → sv_V → Option (Int32 × sv_V)} (hk2 : ∀ (l1 : Int32) (l2 : Int32) (V : sv_V), k2 l1 l2 V = some (r, Vr) → sv_N g qX3_glyphHolds 4 2 [(0, .ref 16), (1, .int l1), (2, .int l2)] [] V P) {l1 : Int32} {l2 : Int32} {V : sv_V} (h : B_X3_glyphHolds_2 N k2 l1 l2 V = some (r, Vr)) : sv_N g qX3_glyphHolds 4 2 [(0, .ref 16), (1, .int l1), (2, .int l2)] [] V P := by
  unfold B_X3_glyphHolds_2 at h
  refine sx_iload_n (pc := 2) dX3_glyphHolds_2 sx_m2 ?_
  refine sx_bipush (pc := 3) (v := 7) dX3_glyphHolds_3 (by decide) ?_
  refine sx_icmp_gt (pc := 5) (tgt := 26) dX3_glyphHolds_5 (by decide) (fun c1 => ?_) (fun c1 => ?_)
  · have h := sx_pos c1 h
    refine sx_aload_n (pc := 26) dX3_glyphHolds_26 sx_m0 ?_
    refine sv_getO (pc := 27) hG dX3_glyphHolds_27 f_3_27 lay_16 rfl cr_16_0 ?_
    refine sv_getA (pc := 30) hG dX3_glyphHolds_30 f_3_45 lay_2 rfl cr_2_16 ?_
    refine sx_iconst (pc := 33) (v := 1) dX3_glyphHolds_33 (by decide) ?_
    obtain ⟨b2, g3, h⟩ := sx_bnd h
    refine sv_aald (pc := 34) hG dX3_glyphHolds_34 (by decide) lay_7 (by decide) g3 ?_
    refine sx_iload_n (pc := 35) dX3_glyphHolds_35 sx_m1 ?_
    obtain ⟨n4, g5, h⟩ := sx_bnd h
    obtain ⟨g6, h⟩ := sx_grd h
    refine sv_iald (pc := 36) hG dX3_glyphHolds_36 (sv_len_e g5) g6 ?_
    refine sx_if_ne (pc := 37) (tgt := 42) dX3_glyphHolds_37 (by decide) (fun c7 => ?_) (fun c7 => ?_)
    · have h := sx_neg c7 h
      refine sx_aload_n (pc := 42) dX3_glyphHolds_42 sx_m0 ?_
      refine sv_getO (pc := 43) hG dX3_glyphHolds_43 f_3_27 lay_16 rfl cr_16_0 ?_
      refine sv_getA (pc := 46) hG dX3_glyphHolds_46 f_3_45 lay_2 rfl cr_2_16 ?_
      refine sx_iconst (pc := 49) (v := 1) dX3_glyphHolds_49 (by decide) ?_
      obtain ⟨b8, g9, h⟩ := sx_bnd h
      refine sv_aald (pc := 50) hG dX3_glyphHolds_50 (by decide) lay_7 (by decide) g9 ?_
      refine sx_iload_n (pc := 51) dX3_glyphHolds_51 sx_m1 ?_
      obtain ⟨n10, g11, h⟩ := sx_bnd h
      obtain ⟨g12, h⟩ := sx_grd h
      refine sv_iald (pc := 52) hG dX3_glyphHolds_52 (sv_len_e g11) g12 ?_
      refine sx_bipush (pc := 53) (v := 10) dX3_glyphHolds_53 (by decide) ?_
      refine sx_icmp_ge (pc := 55) (tgt := 60) dX3_glyphHolds_55 (by decide) (fun c13 => ?_) (fun c13 => ?_)
      · have h := sx_pos c13 h
        refine sx_aload_n (pc := 60) dX3_glyphHolds_60 sx_m0 ?_
        refine sv_getO (pc := 61) hG dX3_glyphHolds_61 f_3_27 lay_16 rfl cr_16_0 ?_
        refine sx_aload_n (pc := 64) dX3_glyphHolds_64 sx_m0 ?_
        refine sv_getO (pc := 65) hG dX3_glyphHolds_65 f_3_27 lay_16 rfl cr_16_0 ?_
        refine sv_getA (pc := 68) hG dX3_glyphHolds_68 f_3_45 lay_2 rfl cr_2_16 ?_
        refine sx_iconst (pc := 71) (v := 0) dX3_glyphHolds_71 (by decide) ?_
        obtain ⟨b14, g15, h⟩ := sx_bnd h
        refine sv_aald (pc := 72) hG dX3_glyphHolds_72 (by decide) lay_7 (by decide) g15 ?_
        refine sx_iload_n (pc := 73) dX3_glyphHolds_73 sx_m1 ?_
        obtain ⟨n16, g17, h⟩ := sx_bnd h
        obtain ⟨g18, h⟩ := sx_grd h
        refine sv_iald (pc := 74) hG dX3_glyphHolds_74 (sv_len_e g17) g18 ?_
        obtain ⟨⟨x21, V19⟩, g20, h⟩ := sx_bnd h
        refine sv_cV (pc := 75) (y := qX2_s2) (o := (some (.int x21))) (as := [.int (V.1 b14 l1.toNatClampNeg)]) (V1 := V19) hG dX3_glyphHolds_75 l_X3_49 y0X2_s2 yvX2_s2 rfl (Nat.le_of_ble_eq_true rfl) lay_2 kr_2 (by decide) (Nat.le_of_ble_eq_true rfl) rfl rfl rfl (t_X2_s2 hG ⟨rfl, rfl⟩ g20) ?_
        refine sx_istore_n (pc := 78) (lo' := [(2, .int x21), (0, .ref 16), (1, .int l1)]) dX3_glyphHolds_78 (by decide) rfl ?_
        refine sx_aload_n (pc := 79) dX3_glyphHolds_79 sx_m1 ?_
        refine sv_getO (pc := 80) hG dX3_glyphHolds_80 f_3_27 lay_16 rfl cr_16_0 ?_
        refine sv_getA (pc := 83) hG dX3_glyphHolds_83 f_3_45 lay_2 rfl cr_2_16 ?_
        refine sx_iconst (pc := 86) (v := 2) dX3_glyphHolds_86 (by decide) ?_
        obtain ⟨b22, g23, h⟩ := sx_bnd h
        refine sv_aald (pc := 87) hG dX3_glyphHolds_87 (by decide) lay_7 (by decide) g23 ?_
        refine sx_iload_n (pc := 88) dX3_glyphHolds_88 sx_m2 ?_
        refine sx_iload_n (pc := 89) dX3_glyphHolds_89 sx_m0 ?_
        obtain ⟨n24, g25, h⟩ := sx_bnd h
        obtain ⟨g26, h⟩ := sx_grd h
        obtain ⟨V27, hV27⟩ : ∃ z : sv_V, z = sv_I V19 b22 l1.toNatClampNeg x21 := ⟨_, rfl⟩
        have h := sx_letE hV27 h
        refine sv_iast (pc := 90) hG dX3_glyphHolds_90 (sv_len_e g25) g26 hV27 ?_
        refine sx_aload_n (pc := 91) dX3_glyphHolds_91 sx_m1 ?_
        refine sv_getO (pc := 92) hG dX3_glyphHolds_92 f_3_27 lay_16 rfl cr_16_0 ?_
        refine sv_getA (pc := 95) hG dX3_glyphHolds_95 f_3_45 lay_2 rfl cr_2_16 ?_
        refine sx_iconst (pc := 98) (v := 3) dX3_glyphHolds_98 (by decide) ?_
        obtain ⟨b28, g29, h⟩ := sx_bnd h
        refine sv_aald (pc := 99) hG dX3_glyphHolds_99 (by decide) lay_7 (by decide) g29 ?_
        refine sx_iload_n (pc := 100) dX3_glyphHolds_100 sx_m2 ?_
        refine sx_aload_n (pc := 101) dX3_glyphHolds_101 sx_m1 ?_
        refine sv_getO (pc := 102) hG dX3_glyphHolds_102 f_3_27 lay_16 rfl cr_16_0 ?_
        refine sx_aload_n (pc := 105) dX3_glyphHolds_105 sx_m1 ?_
        refine sv_getO (pc := 106) hG dX3_glyphHolds_106 f_3_27 lay_16 rfl cr_16_0 ?_
        refine sv_getA (pc := 109) hG dX3_glyphHolds_109 f_3_45 lay_2 rfl cr_2_16 ?_
        refine sx_iconst (pc := 112) (v := 0) dX3_glyphHolds_112 (by decide) ?_
        obtain ⟨b30, g31, h⟩ := sx_bnd h
        refine sv_aald (pc := 113) hG dX3_glyphHolds_113 (by decide) lay_7 (by decide) g31 ?_
        refine sx_iload_n (pc := 114) dX3_glyphHolds_114 sx_m2 ?_
        obtain ⟨n32, g33, h⟩ := sx_bnd h
        obtain ⟨g34, h⟩ := sx_grd h
        refine sv_iald (pc := 115) hG dX3_glyphHolds_115 (sv_len_e g33) g34 ?_
        refine sx_iconst (pc := 116) (v := 2) dX3_glyphHolds_116 (by decide) ?_
        refine sx_iadd (pc := 117) dX3_glyphHolds_117 ?_
        obtain ⟨⟨x37, V35⟩, g36, h⟩ := sx_bnd h
        refine sv_cV (pc := 118) (y := qX2_s2) (o := (some (.int x37))) (as := [.int ((V27.1 b30 l1.toNatClampNeg) + (2 : Int32))]) (V1 := V35) hG dX3_glyphHolds_118 l_X3_49 y0X2_s2 yvX2_s2 rfl (Nat.le_of_ble_eq_true rfl) lay_2 kr_2 (by decide) (Nat.le_of_ble_eq_true rfl) rfl rfl rfl (t_X2_s2 hG ⟨rfl, rfl⟩ g36) ?_
        obtain ⟨n38, g39, h⟩ := sx_bnd h
        obtain ⟨g40, h⟩ := sx_grd h
        obtain ⟨V41, hV41⟩ : ∃ z : sv_V, z = sv_I V35 b28 l1.toNatClampNeg x37 := ⟨_, rfl⟩
        have h := sx_letE hV41 h
        refine sv_iast (pc := 121) hG dX3_glyphHolds_121 (sv_len_e g39) g40 hV41 ?_
        refine sx_iload_n (pc := 122) dX3_glyphHolds_122 sx_m0 ?_
        refine sx_iconst (pc := 123) (v := (-1)) dX3_glyphHolds_123 (by decide) ?_
        refine sx_icmp_ne (pc := 124) (tgt := 133) dX3_glyphHolds_124 (by decide) (fun c42 => ?_) (fun c42 => ?_)
        · have h := sx_neg c42 h
          refine sx_iload_n (pc := 133) dX3_glyphHolds_133 sx_m0 ?_
          refine sx_if_lt (pc := 134) (tgt := 155) dX3_glyphHolds_134 (by decide) (fun c43 => ?_) (fun c43 => ?_)
          · have h := sx_pos c43 h
            refine sx_iconst (pc := 155) (v := 0) dX3_glyphHolds_155 (by decide) ?_
            exact sv_zret (pc := 156) dX3_glyphHolds_156 rfl rfl h hP
          · have h := sx_neg c43 h
            refine sx_iload_n (pc := 137) dX3_glyphHolds_137 sx_m0 ?_
            refine sx_bipush (pc := 138) (v := 12) dX3_glyphHolds_138 (by decide) ?_
            refine sx_icmp_gt (pc := 140) (tgt := 155) dX3_glyphHolds_140 (by decide) (fun c44 => ?_) (fun c44 => ?_)
            · have h := sx_pos c44 h
              refine sx_iconst (pc := 155) (v := 0) dX3_glyphHolds_155 (by decide) ?_
              exact sv_zret (pc := 156) dX3_glyphHolds_156 rfl rfl h hP
            · have h := sx_neg c44 h
              refine sx_aload_n (pc := 143) dX3_glyphHolds_143 sx_m1 ?_
              refine sx_iload_n (pc := 144) dX3_glyphHolds_144 sx_m2 ?_
              refine sx_aload_n (pc := 145) dX3_glyphHolds_145 sx_m1 ?_
              refine sv_getO (pc := 146) hG dX3_glyphHolds_146 f_3_14 lay_16 rfl cr_16_1 ?_
              obtain ⟨⟨x47, V45⟩, g46, h⟩ := sx_bnd h
              refine sv_cV (pc := 149) (y := qX3_readOutline) (o := (some (.int x47))) (as := [.int l1, .ref 17]) (V1 := V45) hG dX3_glyphHolds_149 l_X3_56 y0X3_readOutline yvX3_readOutline rfl (Nat.le_of_ble_eq_true rfl) lay_16 kr_3 (by decide) (Nat.le_of_ble_eq_true rfl) rfl rfl rfl (t_X3_readOutline hG ⟨rfl, rfl⟩ g46) ?_
              refine sx_if_ne (pc := 152) (tgt := 157) dX3_glyphHolds_152 (by decide) (fun c48 => ?_) (fun c48 => ?_)
              · have h := sx_neg c48 h
                refine sx_aload_n (pc := 157) dX3_glyphHolds_157 sx_m1 ?_
                refine sv_getO (pc := 158) hG dX3_glyphHolds_158 f_3_27 lay_16 rfl cr_16_0 ?_
                refine sv_getA (pc := 161) hG dX3_glyphHolds_161 f_3_45 lay_2 rfl cr_2_16 ?_
                refine sx_iconst (pc := 164) (v := 4) dX3_glyphHolds_164 (by decide) ?_
                obtain ⟨b49, g50, h⟩ := sx_bnd h
                refine sv_aald (pc := 165) hG dX3_glyphHolds_165 (by decide) lay_7 (by decide) g50 ?_
                refine sx_iload_n (pc := 166) dX3_glyphHolds_166 sx_m2 ?_
                refine sx_aload_n (pc := 167) dX3_glyphHolds_167 sx_m1 ?_
                refine sv_getO (pc := 168) hG dX3_glyphHolds_168 f_3_14 lay_16 rfl cr_16_1 ?_
                refine sv_getI (pc := 171) hG dX3_glyphHolds_171 f_3_60 lay_17 rfl ?_
                obtain ⟨n51, g52, h⟩ := sx_bnd h
                obtain ⟨g53, h⟩ := sx_grd h
                obtain ⟨V54, hV54⟩ : ∃ z : sv_V, z = sv_I V45 b49 l1.toNatClampNeg (V45.1 17 9) := ⟨_, rfl⟩
                have h := sx_letE hV54 h
                refine sv_iast (pc := 174) hG dX3_glyphHolds_174 (sv_len_e g52) g53 hV54 ?_
                refine sx_iconst (pc := 175) (v := 1) dX3_glyphHolds_175 (by decide) ?_
                exact sv_zret (pc := 176) dX3_glyphHolds_176 rfl rfl h hP
              · have h := sx_pos c48 h
                refine sx_iconst (pc := 155) (v := 0) dX3_glyphHolds_155 (by decide) ?_
                exact sv_zret (pc := 156) dX3_glyphHolds_156 rfl rfl h hP
        · have h := sx_pos c42 h
          refine sx_aload_n (pc := 127) dX3_glyphHolds_127 sx_m1 ?_
          refine sx_iload_n (pc := 128) dX3_glyphHolds_128 sx_m2 ?_
          obtain ⟨⟨x57, V55⟩, g56, h⟩ := sx_bnd h
          refine sv_cV (pc := 129) (y := qX3_partsHold) (o := (some (.int x57))) (as := [.int l1]) (V1 := V55) hG dX3_glyphHolds_129 l_X3_53 y0X3_partsHold yvX3_partsHold rfl (Nat.le_of_ble_eq_true rfl) lay_16 kr_3 (by decide) (Nat.le_of_ble_eq_true rfl) rfl rfl rfl (t_X3_partsHold hG ⟨rfl, rfl⟩ g56) ?_
          obtain ⟨g58, h⟩ := sx_grd h
          exact sv_zret (pc := 132) dX3_glyphHolds_132 rfl g58 h hP
      · have h := sx_neg c13 h
        refine sx_iconst (pc := 58) (v := 0) dX3_glyphHolds_58 (by decide) ?_
        exact sv_zret (pc := 59) dX3_glyphHolds_59 rfl rfl h hP
    · have h := sx_pos c7 h
      refine sx_iconst (pc := 40) (v := 1) dX3_glyphHolds_40 (by decide) ?_
      exact sv_zret (pc := 41) dX3_glyphHolds_41 rfl rfl h hP
  · have h := sx_neg c1 h
    refine sx_aload_n (pc := 8) dX3_glyphHolds_8 sx_m0 ?_
    refine sv_getO (pc := 9) hG dX3_glyphHolds_9 f_3_27 lay_16 rfl cr_16_0 ?_
    refine sv_getA (pc := 12) hG dX3_glyphHolds_12 f_3_45 lay_2 rfl cr_2_16 ?_
    refine sx_iload_n (pc := 15) dX3_glyphHolds_15 sx_m2 ?_
    obtain ⟨g59, h⟩ := sx_grd h
    obtain ⟨b60, g61, h⟩ := sx_bnd h
    refine sv_aald (pc := 16) hG dX3_glyphHolds_16 (by decide) lay_7 g59 g61 ?_
    refine sx_iload_n (pc := 17) dX3_glyphHolds_17 sx_m1 ?_
    refine sx_iconst (pc := 18) (v := 0) dX3_glyphHolds_18 (by decide) ?_
    obtain ⟨n62, g63, h⟩ := sx_bnd h
    obtain ⟨g64, h⟩ := sx_grd h
    obtain ⟨V65, hV65⟩ : ∃ z : sv_V, z = sv_I V b60 l1.toNatClampNeg (0 : Int32) := ⟨_, rfl⟩
    have h := sx_letE hV65 h
    refine sv_iast (pc := 19) hG dX3_glyphHolds_19 (sv_len_e g63) g64 hV65 ?_
    obtain ⟨x66, hx66⟩ : ∃ z : Int32, z = l2 + 1 := ⟨_, rfl⟩
    have h := sx_letE hx66 h
    refine sx_iinc (pc := 20) (v := x66) (lo' := [(2, .int x66), (0, .ref 16), (1, .int l1)]) dX3_glyphHolds_20 sx_m2 (by rw [hx66]; rfl) (by decide) rfl ?_
    refine sx_goto (pc := 23) (tgt := 2) dX3_glyphHolds_23 (by decide) ?_
    refine sx_wk (sx_s1 sx_m1 (sx_s1 sx_m2 (sx_s1 sx_m0 sx_s0))) ?_
    exact hk2 _ _ _ h
theorem tL_X3_glyphHolds_2 {g : sx_G} (hG : sx_Go g) {P : Option Value → sv_V → Prop} {r : Int32} {Vr : sv_V} (hP : P (some (.int r)) Vr) {N : Nat}   : ∀ (n : Nat) (l1 : Int32) (l2 : Int32) (V : sv_V), sx_lp3 (B_X3_glyphHolds_2 N ) n l1 l2 V = some (r, Vr) → sv_N g qX3_glyphHolds 4 2 [(0, .ref 16), (1, .int l1), (2, .int l2)] [] V P :=
  sx_lp3_ind (fun k0 ih _ _ V h => tB_X3_glyphHolds_2 hG hP ih h)
def F_X3_glyphHolds (N : Nat) (l1 : Int32) (V : sv_V) : Option (Int32 × sv_V) := sx_lp3 (B_X3_glyphHolds_2 N ) N l1 (2 : Int32) V
set_option maxRecDepth 20000 in
theorem t_X3_glyphHolds {g : sx_G} (hG : sx_Go g) {P : Option Value → sv_V → Prop} {r : Int32} {Vr : sv_V} (hP : P (some (.int r)) Vr) {N : Nat} {l1 : Int32} {V : sv_V} (h : F_X3_glyphHolds N l1 V = some (r, Vr)) : sv_N g qX3_glyphHolds 4 0 [(0, .ref 16), (1, .int l1)] [] V P := by
  unfold F_X3_glyphHolds at h
  refine sx_iconst (pc := 0) (v := 2) dX3_glyphHolds_0 (by decide) ?_
  refine sx_istore_n (pc := 1) (lo' := [(2, .int (2 : Int32)), (0, .ref 16), (1, .int l1)]) dX3_glyphHolds_1 (by decide) rfl ?_
  refine sx_wk (sx_s1 sx_m1 (sx_s1 sx_m2 (sx_s1 sx_m0 sx_s0))) ?_
  exact tL_X3_glyphHolds_2 hG hP  N _ _ _ h
theorem dX3_depthsHold_0 : decode cX3_depthsHold 0 = .ok (.aload_n 0, 1) := by decide +kernel
theorem dX3_depthsHold_1 : decode cX3_depthsHold 1 = .ok (.getfield 27, 3) := by decide +kernel
theorem dX3_depthsHold_4 : decode cX3_depthsHold 4 = .ok (.getfield 154, 3) := by decide +kernel
theorem dX3_depthsHold_7 : decode cX3_depthsHold 7 = .ok (.bipush 6, 2) := by decide +kernel
theorem dX3_depthsHold_9 : decode cX3_depthsHold 9 = .ok (.iaload, 1) := by decide +kernel
theorem dX3_depthsHold_10 : decode cX3_depthsHold 10 = .ok (.istore_n 1, 1) := by decide +kernel
theorem dX3_depthsHold_11 : decode cX3_depthsHold 11 = .ok (.aload_n 0, 1) := by decide +kernel
theorem dX3_depthsHold_12 : decode cX3_depthsHold 12 = .ok (.getfield 24, 3) := by decide +kernel
theorem dX3_depthsHold_15 : decode cX3_depthsHold 15 = .ok (.iconst 0, 1) := by decide +kernel
theorem dX3_depthsHold_16 : decode cX3_depthsHold 16 = .ok (.invokestatic 157, 3) := by decide +kernel
theorem dX3_depthsHold_19 : decode cX3_depthsHold 19 = .ok (.iconst 0, 1) := by decide +kernel
theorem dX3_depthsHold_20 : decode cX3_depthsHold 20 = .ok (.istore_n 2, 1) := by decide +kernel
theorem dX3_depthsHold_21 : decode cX3_depthsHold 21 = .ok (.iload_n 2, 1) := by decide +kernel
theorem dX3_depthsHold_22 : decode cX3_depthsHold 22 = .ok (.iload_n 1, 1) := by decide +kernel
theorem dX3_depthsHold_23 : decode cX3_depthsHold 23 = .ok (.if_icmp .gt 67, 3) := by decide +kernel
theorem dX3_depthsHold_26 : decode cX3_depthsHold 26 = .ok (.iconst 0, 1) := by decide +kernel
theorem dX3_depthsHold_27 : decode cX3_depthsHold 27 = .ok (.istore_n 3, 1) := by decide +kernel
theorem dX3_depthsHold_28 : decode cX3_depthsHold 28 = .ok (.iload_n 3, 1) := by decide +kernel
theorem dX3_depthsHold_29 : decode cX3_depthsHold 29 = .ok (.aload_n 0, 1) := by decide +kernel
theorem dX3_depthsHold_30 : decode cX3_depthsHold 30 = .ok (.getfield 27, 3) := by decide +kernel
theorem dX3_depthsHold_33 : decode cX3_depthsHold 33 = .ok (.getfield 31, 3) := by decide +kernel
theorem dX3_depthsHold_36 : decode cX3_depthsHold 36 = .ok (.if_icmp .ge 48, 3) := by decide +kernel
theorem dX3_depthsHold_39 : decode cX3_depthsHold 39 = .ok (.aload_n 0, 1) := by decide +kernel
theorem dX3_depthsHold_40 : decode cX3_depthsHold 40 = .ok (.getfield 27, 3) := by decide +kernel
theorem dX3_depthsHold_43 : decode cX3_depthsHold 43 = .ok (.getfield 45, 3) := by decide +kernel
theorem dX3_depthsHold_46 : decode cX3_depthsHold 46 = .ok (.iconst 5, 1) := by decide +kernel
theorem dX3_depthsHold_47 : decode cX3_depthsHold 47 = .ok (.aaload, 1) := by decide +kernel
theorem dX3_depthsHold_48 : decode cX3_depthsHold 48 = .ok (.iload_n 3, 1) := by decide +kernel
theorem dX3_depthsHold_49 : decode cX3_depthsHold 49 = .ok (.iaload, 1) := by decide +kernel
theorem dX3_depthsHold_50 : decode cX3_depthsHold 50 = .ok (.ifCond .le 16, 3) := by decide +kernel
theorem dX3_depthsHold_53 : decode cX3_depthsHold 53 = .ok (.aload_n 0, 1) := by decide +kernel
theorem dX3_depthsHold_54 : decode cX3_depthsHold 54 = .ok (.getfield 24, 3) := by decide +kernel
theorem dX3_depthsHold_57 : decode cX3_depthsHold 57 = .ok (.iload_n 3, 1) := by decide +kernel
theorem dX3_depthsHold_58 : decode cX3_depthsHold 58 = .ok (.iconst 1, 1) := by decide +kernel
theorem dX3_depthsHold_59 : decode cX3_depthsHold 59 = .ok (.aload_n 0, 1) := by decide +kernel
theorem dX3_depthsHold_60 : decode cX3_depthsHold 60 = .ok (.iload_n 3, 1) := by decide +kernel
theorem dX3_depthsHold_61 : decode cX3_depthsHold 61 = .ok (.invokevirtual 163, 3) := by decide +kernel
theorem dX3_depthsHold_64 : decode cX3_depthsHold 64 = .ok (.iadd, 1) := by decide +kernel
theorem dX3_depthsHold_65 : decode cX3_depthsHold 65 = .ok (.iastore, 1) := by decide +kernel
theorem dX3_depthsHold_66 : decode cX3_depthsHold 66 = .ok (.aload_n 0, 1) := by decide +kernel
theorem dX3_depthsHold_67 : decode cX3_depthsHold 67 = .ok (.getfield 24, 3) := by decide +kernel
theorem dX3_depthsHold_70 : decode cX3_depthsHold 70 = .ok (.iload_n 3, 1) := by decide +kernel
theorem dX3_depthsHold_71 : decode cX3_depthsHold 71 = .ok (.iaload, 1) := by decide +kernel
theorem dX3_depthsHold_72 : decode cX3_depthsHold 72 = .ok (.iload_n 1, 1) := by decide +kernel
theorem dX3_depthsHold_73 : decode cX3_depthsHold 73 = .ok (.if_icmp .le 5, 3) := by decide +kernel
theorem dX3_depthsHold_76 : decode cX3_depthsHold 76 = .ok (.iconst 0, 1) := by decide +kernel
theorem dX3_depthsHold_77 : decode cX3_depthsHold 77 = .ok (.ireturn, 1) := by decide +kernel
theorem dX3_depthsHold_78 : decode cX3_depthsHold 78 = .ok (.iinc 3 1, 3) := by decide +kernel
theorem dX3_depthsHold_81 : decode cX3_depthsHold 81 = .ok (.goto (-53), 3) := by decide +kernel
theorem dX3_depthsHold_84 : decode cX3_depthsHold 84 = .ok (.iinc 2 1, 3) := by decide +kernel
theorem dX3_depthsHold_87 : decode cX3_depthsHold 87 = .ok (.goto (-66), 3) := by decide +kernel
theorem dX3_depthsHold_90 : decode cX3_depthsHold 90 = .ok (.iconst 1, 1) := by decide +kernel
theorem dX3_depthsHold_91 : decode cX3_depthsHold 91 = .ok (.ireturn, 1) := by decide +kernel
def B_X3_depthsHold_66 (N : Nat) (k21 : Int32 → Int32 → sv_V → Option (Int32 × sv_V)) (k28 : Int32 → Int32 → Int32 → sv_V → Option (Int32 × sv_V)) (l1 : Int32) (l2 : Int32) (l3 : Int32) (V : sv_V) : Option (Int32 × sv_V) := if sx_in l3 200 = true then if (V.1 28 l3.toNatClampNeg) ≤ l1 then (sx_let (l3 + 1) (fun x3 => k28 l1 l2 x3 V)) else (some ((0 : Int32), V)) else none
set_option maxRecDepth 20000 in
theorem tB_X3_depthsHold_66 {g : sx_G} (hG : sx_Go g) {P : Option Value → sv_V → Prop} {r : Int32} {Vr : sv_V} (hP : P (some (.int r)) Vr) {N : Nat} {k21 : Int32 → Int32 → sv_V → Option (Int32 × sv_V)} {k28 : Int32 → Int32 → Int32 → sv_V → Option (Int32 × sv_V)} (hk21 : ∀ (l1 : Int32) (l2 : Int32) (V : sv_V), k21 l1 l2 V = some (r, Vr) → sv_N g qX3_depthsHold 4 21 [(0, .ref 16), (1, .int l1), (2, .int l2)] [] V P) (hk28 : ∀ (l1 : Int32) (l2 : Int32) (l3 : Int32) (V : sv_V), k28 l1 l2 l3 V = some (r, Vr) → sv_N g qX3_depthsHold 4 28 [(0, .ref 16), (1, .int l1), (2, .int l2), (3, .int l3)] [] V P) {l1 : Int32} {l2 : Int32} {l3 : Int32} {V : sv_V} (h : B_X3_depthsHold_66 N k21 k28 l1 l2 l3 V = some (r, Vr)) : sv_N g qX3_depthsHold 4 66 [(0, .ref 16), (1, .int l1), (2, .int l2), (3, .int l3)] [] V P := by
  unfold B_X3_depthsHold_66 at h
  refine sx_aload_n (pc := 66) dX3_depthsHold_66 sx_m0 ?_
  refine sv_getA (pc := 67) hG dX3_depthsHold_67 f_3_24 lay_16 rfl cr_16_3 ?_
  refine sx_iload_n (pc := 70) dX3_depthsHold_70 sx_m3 ?_
  obtain ⟨g1, h⟩ := sx_grd h
  refine sv_iald (pc := 71) hG dX3_depthsHold_71 lay_28 g1 ?_
  refine sx_iload_n (pc := 72) dX3_depthsHold_72 sx_m1 ?_
  refine sx_icmp_le (pc := 73) (tgt := 78) dX3_depthsHold_73 (by decide) (fun c2 => ?_) (fun c2 => ?_)
  · have h := sx_pos c2 h
    obtain ⟨x3, hx3⟩ : ∃ z : Int32, z = l3 + 1 := ⟨_, rfl⟩
    have h := sx_letE hx3 h
    refine sx_iinc (pc := 78) (v := x3) (lo' := [(3, .int x3), (0, .ref 16), (1, .int l1), (2, .int l2)]) dX3_depthsHold_78 sx_m3 (by rw [hx3]; rfl) (by decide) rfl ?_
    refine sx_goto (pc := 81) (tgt := 28) dX3_depthsHold_81 (by decide) ?_
    refine sx_wk (sx_s1 sx_m1 (sx_s1 sx_m2 (sx_s1 sx_m3 (sx_s1 sx_m0 sx_s0)))) ?_
    exact hk28 _ _ _ _ h
  · have h := sx_neg c2 h
    refine sx_iconst (pc := 76) (v := 0) dX3_depthsHold_76 (by decide) ?_
    exact sv_zret (pc := 77) dX3_depthsHold_77 rfl rfl h hP
def B_X3_depthsHold_28 (N : Nat) (k21 : Int32 → Int32 → sv_V → Option (Int32 × sv_V)) (k28 : Int32 → Int32 → Int32 → sv_V → Option (Int32 × sv_V)) (l1 : Int32) (l2 : Int32) (l3 : Int32) (V : sv_V) : Option (Int32 × sv_V) := if (V.1 2 7) ≤ l3 then (sx_let (l2 + 1) (fun x5 => k21 l1 x5 V)) else ((cr 7 (5 : Int32).toNatClampNeg).bind (fun b6 => (sv_len 0 b6).bind (fun n8 => if sx_in l3 n8 = true then if (V.1 b6 l3.toNatClampNeg) ≤ 0 then (B_X3_depthsHold_66 N k21 k28 l1 l2 l3 V) else ((F_X3_deepestPart N l3 V).bind (fun (x14, V12) => if sx_in l3 200 = true then sx_let (sv_I V12 28 l3.toNatClampNeg ((1 : Int32) + x14)) (fun V16 => B_X3_depthsHold_66 N k21 k28 l1 l2 l3 V16) else none)) else none)))
set_option maxRecDepth 20000 in
theorem tB_X3_depthsHold_28 {g : sx_G} (hG : sx_Go g) {P : Option Value → sv_V → Prop} {r : Int32} {Vr : sv_V} (hP : P (some (.int r)) Vr) {N : Nat} {k21 : Int32 → Int32 → sv_V → Option (Int32 × sv_V)} {k28 : Int32 → Int32 → Int32 → sv_V → Option (Int32 × sv_V)} (hk21 : ∀ (l1 : Int32) (l2 : Int32) (V : sv_V), k21 l1 l2 V = some (r, Vr) → sv_N g qX3_depthsHold 4 21 [(0, .ref 16), (1, .int l1), (2, .int l2)] [] V P) (hk28 : ∀ (l1 : Int32) (l2 : Int32) (l3 : Int32) (V : sv_V), k28 l1 l2 l3 V = some (r, Vr) → sv_N g qX3_depthsHold 4 28 [(0, .ref 16), (1, .int l1), (2, .int l2), (3, .int l3)] [] V P) {l1 : Int32} {l2 : Int32} {l3 : Int32} {V : sv_V} (h : B_X3_depthsHold_28 N k21 k28 l1 l2 l3 V = some (r, Vr)) : sv_N g qX3_depthsHold 4 28 [(0, .ref 16), (1, .int l1), (2, .int l2), (3, .int l3)] [] V P := by
  unfold B_X3_depthsHold_28 at h
  refine sx_iload_n (pc := 28) dX3_depthsHold_28 sx_m3 ?_
  refine sx_aload_n (pc := 29) dX3_depthsHold_29 sx_m0 ?_
  refine sv_getO (pc := 30) hG dX3_depthsHold_30 f_3_27 lay_16 rfl cr_16_0 ?_
  refine sv_getI (pc := 33) hG dX3_depthsHold_33 f_3_31 lay_2 rfl ?_
  refine sx_icmp_ge (pc := 36) (tgt := 84) dX3_depthsHold_36 (by decide) (fun c4 => ?_) (fun c4 => ?_)
  · have h := sx_pos c4 h
    obtain ⟨x5, hx5⟩ : ∃ z : Int32, z = l2 + 1 := ⟨_, rfl⟩
    have h := sx_letE hx5 h
    refine sx_iinc (pc := 84) (v := x5) (lo' := [(2, .int x5), (0, .ref 16), (1, .int l1), (3, .int l3)]) dX3_depthsHold_84 sx_m2 (by rw [hx5]; rfl) (by decide) rfl ?_
    refine sx_goto (pc := 87) (tgt := 21) dX3_depthsHold_87 (by decide) ?_
    refine sx_wk (sx_s1 sx_m1 (sx_s1 sx_m2 (sx_s1 sx_m0 sx_s0))) ?_
    exact hk21 _ _ _ h
  · have h := sx_neg c4 h
    refine sx_aload_n (pc := 39) dX3_depthsHold_39 sx_m0 ?_
    refine sv_getO (pc := 40) hG dX3_depthsHold_40 f_3_27 lay_16 rfl cr_16_0 ?_
    refine sv_getA (pc := 43) hG dX3_depthsHold_43 f_3_45 lay_2 rfl cr_2_16 ?_
    refine sx_iconst (pc := 46) (v := 5) dX3_depthsHold_46 (by decide) ?_
    obtain ⟨b6, g7, h⟩ := sx_bnd h
    refine sv_aald (pc := 47) hG dX3_depthsHold_47 (by decide) lay_7 (by decide) g7 ?_
    refine sx_iload_n (pc := 48) dX3_depthsHold_48 sx_m3 ?_
    obtain ⟨n8, g9, h⟩ := sx_bnd h
    obtain ⟨g10, h⟩ := sx_grd h
    refine sv_iald (pc := 49) hG dX3_depthsHold_49 (sv_len_e g9) g10 ?_
    refine sx_if_le (pc := 50) (tgt := 66) dX3_depthsHold_50 (by decide) (fun c11 => ?_) (fun c11 => ?_)
    · have h := sx_pos c11 h
      refine sx_wk (sx_s1 sx_m0 (sx_s1 sx_m1 (sx_s1 sx_m2 (sx_s1 sx_m3 sx_s0)))) ?_
      exact tB_X3_depthsHold_66 hG hP hk21 hk28 h
    · have h := sx_neg c11 h
      refine sx_aload_n (pc := 53) dX3_depthsHold_53 sx_m0 ?_
      refine sv_getA (pc := 54) hG dX3_depthsHold_54 f_3_24 lay_16 rfl cr_16_3 ?_
      refine sx_iload_n (pc := 57) dX3_depthsHold_57 sx_m3 ?_
      refine sx_iconst (pc := 58) (v := 1) dX3_depthsHold_58 (by decide) ?_
      refine sx_aload_n (pc := 59) dX3_depthsHold_59 sx_m0 ?_
      refine sx_iload_n (pc := 60) dX3_depthsHold_60 sx_m3 ?_
      obtain ⟨⟨x14, V12⟩, g13, h⟩ := sx_bnd h
      refine sv_cV (pc := 61) (y := qX3_deepestPart) (o := (some (.int x14))) (as := [.int l3]) (V1 := V12) hG dX3_depthsHold_61 l_X3_163 y0X3_deepestPart yvX3_deepestPart rfl (Nat.le_of_ble_eq_true rfl) lay_16 kr_3 (by decide) (Nat.le_of_ble_eq_true rfl) rfl rfl rfl (t_X3_deepestPart hG ⟨rfl, rfl⟩ g13) ?_
      refine sx_iadd (pc := 64) dX3_depthsHold_64 ?_
      obtain ⟨g15, h⟩ := sx_grd h
      obtain ⟨V16, hV16⟩ : ∃ z : sv_V, z = sv_I V12 28 l3.toNatClampNeg ((1 : Int32) + x14) := ⟨_, rfl⟩
      have h := sx_letE hV16 h
      refine sv_iast (pc := 65) hG dX3_depthsHold_65 lay_28 g15 hV16 ?_
      refine sx_wk (sx_s1 sx_m0 (sx_s1 sx_m1 (sx_s1 sx_m2 (sx_s1 sx_m3 sx_s0)))) ?_
      exact tB_X3_depthsHold_66 hG hP hk21 hk28 h
theorem tL_X3_depthsHold_28 {g : sx_G} (hG : sx_Go g) {P : Option Value → sv_V → Prop} {r : Int32} {Vr : sv_V} (hP : P (some (.int r)) Vr) {N : Nat} {k21 : Int32 → Int32 → sv_V → Option (Int32 × sv_V)} (hk21 : ∀ (l1 : Int32) (l2 : Int32) (V : sv_V), k21 l1 l2 V = some (r, Vr) → sv_N g qX3_depthsHold 4 21 [(0, .ref 16), (1, .int l1), (2, .int l2)] [] V P) : ∀ (n : Nat) (l1 : Int32) (l2 : Int32) (l3 : Int32) (V : sv_V), sx_lp4 (B_X3_depthsHold_28 N k21) n l1 l2 l3 V = some (r, Vr) → sv_N g qX3_depthsHold 4 28 [(0, .ref 16), (1, .int l1), (2, .int l2), (3, .int l3)] [] V P :=
  sx_lp4_ind (fun k0 ih _ _ _ V h => tB_X3_depthsHold_28 hG hP hk21 ih h)
def B_X3_depthsHold_21 (N : Nat) (k21 : Int32 → Int32 → sv_V → Option (Int32 × sv_V)) (l1 : Int32) (l2 : Int32) (V : sv_V) : Option (Int32 × sv_V) := if l1 < l2 then (some ((1 : Int32), V)) else (sx_lp4 (B_X3_depthsHold_28 N k21) N l1 l2 (0 : Int32) V)
set_option maxRecDepth 20000 in
theorem tB_X3_depthsHold_21 {g : sx_G} (hG : sx_Go g) {P : Option Value → sv_V → Prop} {r : Int32} {Vr : sv_V} (hP : P (some (.int r)) Vr) {N : Nat} {k21 : Int32 → Int32 → sv_V → Option (Int32 × sv_V)} (hk21 : ∀ (l1 : Int32) (l2 : Int32) (V : sv_V), k21 l1 l2 V = some (r, Vr) → sv_N g qX3_depthsHold 4 21 [(0, .ref 16), (1, .int l1), (2, .int l2)] [] V P) {l1 : Int32} {l2 : Int32} {V : sv_V} (h : B_X3_depthsHold_21 N k21 l1 l2 V = some (r, Vr)) : sv_N g qX3_depthsHold 4 21 [(0, .ref 16), (1, .int l1), (2, .int l2)] [] V P := by
  unfold B_X3_depthsHold_21 at h
  refine sx_iload_n (pc := 21) dX3_depthsHold_21 sx_m2 ?_
  refine sx_iload_n (pc := 22) dX3_depthsHold_22 sx_m1 ?_
  refine sx_icmp_gt (pc := 23) (tgt := 90) dX3_depthsHold_23 (by decide) (fun c17 => ?_) (fun c17 => ?_)
  · have h := sx_pos c17 h
    refine sx_iconst (pc := 90) (v := 1) dX3_depthsHold_90 (by decide) ?_
    exact sv_zret (pc := 91) dX3_depthsHold_91 rfl rfl h hP
  · have h := sx_neg c17 h
    refine sx_iconst (pc := 26) (v := 0) dX3_depthsHold_26 (by decide) ?_
    refine sx_istore_n (pc := 27) (lo' := [(3, .int (0 : Int32)), (0, .ref 16), (1, .int l1), (2, .int l2)]) dX3_depthsHold_27 (by decide) rfl ?_
    refine sx_wk (sx_s1 sx_m1 (sx_s1 sx_m2 (sx_s1 sx_m3 (sx_s1 sx_m0 sx_s0)))) ?_
    exact tL_X3_depthsHold_28 hG hP hk21 N _ _ _ _ h
theorem tL_X3_depthsHold_21 {g : sx_G} (hG : sx_Go g) {P : Option Value → sv_V → Prop} {r : Int32} {Vr : sv_V} (hP : P (some (.int r)) Vr) {N : Nat}   : ∀ (n : Nat) (l1 : Int32) (l2 : Int32) (V : sv_V), sx_lp3 (B_X3_depthsHold_21 N ) n l1 l2 V = some (r, Vr) → sv_N g qX3_depthsHold 4 21 [(0, .ref 16), (1, .int l1), (2, .int l2)] [] V P :=
  sx_lp3_ind (fun k0 ih _ _ V h => tB_X3_depthsHold_21 hG hP ih h)
def F_X3_depthsHold (N : Nat)  (V : sv_V) : Option (Int32 × sv_V) := sx_let (V.1 6 (6 : Int32).toNatClampNeg) (fun x18 => (F_J7_fill_53178 N 28 (0 : Int32) V).bind (fun V19 => sx_lp3 (B_X3_depthsHold_21 N ) N x18 (0 : Int32) V19))
set_option maxRecDepth 20000 in
theorem t_X3_depthsHold {g : sx_G} (hG : sx_Go g) {P : Option Value → sv_V → Prop} {r : Int32} {Vr : sv_V} (hP : P (some (.int r)) Vr) {N : Nat}  {V : sv_V} (h : F_X3_depthsHold N  V = some (r, Vr)) : sv_N g qX3_depthsHold 4 0 [(0, .ref 16)] [] V P := by
  unfold F_X3_depthsHold at h
  refine sx_aload_n (pc := 0) dX3_depthsHold_0 sx_m0 ?_
  refine sv_getO (pc := 1) hG dX3_depthsHold_1 f_3_27 lay_16 rfl cr_16_0 ?_
  refine sv_getA (pc := 4) hG dX3_depthsHold_4 f_3_154 lay_2 rfl cr_2_10 ?_
  refine sx_bipush (pc := 7) (v := 6) dX3_depthsHold_7 (by decide) ?_
  refine sv_iald (pc := 9) hG dX3_depthsHold_9 lay_6 (by decide) ?_
  refine sv_tI (fun x18 hx18 => ?_)
  have h := sx_letE hx18 h
  refine sx_istore_n (pc := 10) (lo' := [(1, .int x18), (0, .ref 16)]) dX3_depthsHold_10 (by decide) rfl ?_
  refine sx_aload_n (pc := 11) dX3_depthsHold_11 sx_m1 ?_
  refine sv_getA (pc := 12) hG dX3_depthsHold_12 f_3_24 lay_16 rfl cr_16_3 ?_
  refine sx_iconst (pc := 15) (v := 0) dX3_depthsHold_15 (by decide) ?_
  obtain ⟨V19, g20, h⟩ := sx_bnd h
  refine sv_cS (pc := 16) (y := qJ7_fill_53178) (o := none) (as := [.ref 28, .int (0 : Int32)]) (V1 := V19) dX3_depthsHold_16 l_X3_157 y0J7_fill_53178 ysJ7_fill_53178 rfl (Nat.le_of_ble_eq_true rfl) (by decide) (Nat.le_of_ble_eq_true rfl) rfl rfl rfl (t_J7_fill_53178 hG ⟨rfl, rfl⟩ g20) ?_
  refine sx_iconst (pc := 19) (v := 0) dX3_depthsHold_19 (by decide) ?_
  refine sx_istore_n (pc := 20) (lo' := [(2, .int (0 : Int32)), (1, .int x18), (0, .ref 16)]) dX3_depthsHold_20 (by decide) rfl ?_
  refine sx_wk (sx_s1 sx_m2 (sx_s1 sx_m1 (sx_s1 sx_m0 sx_s0))) ?_
  exact tL_X3_depthsHold_21 hG hP  N _ _ _ h
theorem dX4_tablesLieRight_0 : decode cX4_tablesLieRight 0 = .ok (.iconst 0, 1) := by decide +kernel
theorem dX4_tablesLieRight_1 : decode cX4_tablesLieRight 1 = .ok (.istore_n 1, 1) := by decide +kernel
theorem dX4_tablesLieRight_2 : decode cX4_tablesLieRight 2 = .ok (.iload_n 1, 1) := by decide +kernel
theorem dX4_tablesLieRight_3 : decode cX4_tablesLieRight 3 = .ok (.aload_n 0, 1) := by decide +kernel
theorem dX4_tablesLieRight_4 : decode cX4_tablesLieRight 4 = .ok (.getfield 9, 3) := by decide +kernel
theorem dX4_tablesLieRight_7 : decode cX4_tablesLieRight 7 = .ok (.getfield 80, 3) := by decide +kernel
theorem dX4_tablesLieRight_10 : decode cX4_tablesLieRight 10 = .ok (.if_icmp .ge 94, 3) := by decide +kernel
theorem dX4_tablesLieRight_13 : decode cX4_tablesLieRight 13 = .ok (.aload_n 0, 1) := by decide +kernel
theorem dX4_tablesLieRight_14 : decode cX4_tablesLieRight 14 = .ok (.iload_n 1, 1) := by decide +kernel
theorem dX4_tablesLieRight_15 : decode cX4_tablesLieRight 15 = .ok (.iconst 2, 1) := by decide +kernel
theorem dX4_tablesLieRight_16 : decode cX4_tablesLieRight 16 = .ok (.invokevirtual 83, 3) := by decide +kernel
theorem dX4_tablesLieRight_19 : decode cX4_tablesLieRight 19 = .ok (.lstore_n 2, 1) := by decide +kernel
theorem dX4_tablesLieRight_20 : decode cX4_tablesLieRight 20 = .ok (.lload_n 2, 1) := by decide +kernel
theorem dX4_tablesLieRight_21 : decode cX4_tablesLieRight 21 = .ok (.ldc2_w 87, 3) := by decide +kernel
theorem dX4_tablesLieRight_24 : decode cX4_tablesLieRight 24 = .ok (.lrem, 1) := by decide +kernel
theorem dX4_tablesLieRight_25 : decode cX4_tablesLieRight 25 = .ok (.lconst 0, 1) := by decide +kernel
theorem dX4_tablesLieRight_26 : decode cX4_tablesLieRight 26 = .ok (.lcmp, 1) := by decide +kernel
theorem dX4_tablesLieRight_27 : decode cX4_tablesLieRight 27 = .ok (.ifCond .ne 42, 3) := by decide +kernel
theorem dX4_tablesLieRight_30 : decode cX4_tablesLieRight 30 = .ok (.lload_n 2, 1) := by decide +kernel
theorem dX4_tablesLieRight_31 : decode cX4_tablesLieRight 31 = .ok (.bipush 12, 2) := by decide +kernel
theorem dX4_tablesLieRight_33 : decode cX4_tablesLieRight 33 = .ok (.bipush 16, 2) := by decide +kernel
theorem dX4_tablesLieRight_35 : decode cX4_tablesLieRight 35 = .ok (.aload_n 0, 1) := by decide +kernel
theorem dX4_tablesLieRight_36 : decode cX4_tablesLieRight 36 = .ok (.getfield 9, 3) := by decide +kernel
theorem dX4_tablesLieRight_39 : decode cX4_tablesLieRight 39 = .ok (.getfield 80, 3) := by decide +kernel
theorem dX4_tablesLieRight_42 : decode cX4_tablesLieRight 42 = .ok (.imul, 1) := by decide +kernel
theorem dX4_tablesLieRight_43 : decode cX4_tablesLieRight 43 = .ok (.iadd, 1) := by decide +kernel
theorem dX4_tablesLieRight_44 : decode cX4_tablesLieRight 44 = .ok (.i2l, 1) := by decide +kernel
theorem dX4_tablesLieRight_45 : decode cX4_tablesLieRight 45 = .ok (.lcmp, 1) := by decide +kernel
theorem dX4_tablesLieRight_46 : decode cX4_tablesLieRight 46 = .ok (.ifCond .lt 23, 3) := by decide +kernel
theorem dX4_tablesLieRight_49 : decode cX4_tablesLieRight 49 = .ok (.lload_n 2, 1) := by decide +kernel
theorem dX4_tablesLieRight_50 : decode cX4_tablesLieRight 50 = .ok (.aload_n 0, 1) := by decide +kernel
theorem dX4_tablesLieRight_51 : decode cX4_tablesLieRight 51 = .ok (.iload_n 1, 1) := by decide +kernel
theorem dX4_tablesLieRight_52 : decode cX4_tablesLieRight 52 = .ok (.iconst 3, 1) := by decide +kernel
theorem dX4_tablesLieRight_53 : decode cX4_tablesLieRight 53 = .ok (.invokevirtual 83, 3) := by decide +kernel
theorem dX4_tablesLieRight_56 : decode cX4_tablesLieRight 56 = .ok (.ladd, 1) := by decide +kernel
theorem dX4_tablesLieRight_57 : decode cX4_tablesLieRight 57 = .ok (.aload_n 0, 1) := by decide +kernel
theorem dX4_tablesLieRight_58 : decode cX4_tablesLieRight 58 = .ok (.getfield 9, 3) := by decide +kernel
theorem dX4_tablesLieRight_61 : decode cX4_tablesLieRight 61 = .ok (.getfield 70, 3) := by decide +kernel
theorem dX4_tablesLieRight_64 : decode cX4_tablesLieRight 64 = .ok (.i2l, 1) := by decide +kernel
theorem dX4_tablesLieRight_65 : decode cX4_tablesLieRight 65 = .ok (.lcmp, 1) := by decide +kernel
theorem dX4_tablesLieRight_66 : decode cX4_tablesLieRight 66 = .ok (.ifCond .le 5, 3) := by decide +kernel
theorem dX4_tablesLieRight_69 : decode cX4_tablesLieRight 69 = .ok (.iconst 0, 1) := by decide +kernel
theorem dX4_tablesLieRight_70 : decode cX4_tablesLieRight 70 = .ok (.ireturn, 1) := by decide +kernel
theorem dX4_tablesLieRight_71 : decode cX4_tablesLieRight 71 = .ok (.iconst 0, 1) := by decide +kernel
theorem dX4_tablesLieRight_72 : decode cX4_tablesLieRight 72 = .ok (.istore 4, 2) := by decide +kernel
theorem dX4_tablesLieRight_74 : decode cX4_tablesLieRight 74 = .ok (.iload 4, 2) := by decide +kernel
theorem dX4_tablesLieRight_76 : decode cX4_tablesLieRight 76 = .ok (.iload_n 1, 1) := by decide +kernel
theorem dX4_tablesLieRight_77 : decode cX4_tablesLieRight 77 = .ok (.if_icmp .ge 21, 3) := by decide +kernel
theorem dX4_tablesLieRight_80 : decode cX4_tablesLieRight 80 = .ok (.aload_n 0, 1) := by decide +kernel
theorem dX4_tablesLieRight_81 : decode cX4_tablesLieRight 81 = .ok (.iload 4, 2) := by decide +kernel
theorem dX4_tablesLieRight_83 : decode cX4_tablesLieRight 83 = .ok (.iload_n 1, 1) := by decide +kernel
theorem dX4_tablesLieRight_84 : decode cX4_tablesLieRight 84 = .ok (.invokevirtual 89, 3) := by decide +kernel
theorem dX4_tablesLieRight_87 : decode cX4_tablesLieRight 87 = .ok (.ifCond .eq 5, 3) := by decide +kernel
theorem dX4_tablesLieRight_90 : decode cX4_tablesLieRight 90 = .ok (.iconst 0, 1) := by decide +kernel
theorem dX4_tablesLieRight_91 : decode cX4_tablesLieRight 91 = .ok (.ireturn, 1) := by decide +kernel
theorem dX4_tablesLieRight_92 : decode cX4_tablesLieRight 92 = .ok (.iinc 4 1, 3) := by decide +kernel
theorem dX4_tablesLieRight_95 : decode cX4_tablesLieRight 95 = .ok (.goto (-21), 3) := by decide +kernel
theorem dX4_tablesLieRight_98 : decode cX4_tablesLieRight 98 = .ok (.iinc 1 1, 3) := by decide +kernel
theorem dX4_tablesLieRight_101 : decode cX4_tablesLieRight 101 = .ok (.goto (-99), 3) := by decide +kernel
theorem dX4_tablesLieRight_104 : decode cX4_tablesLieRight 104 = .ok (.iconst 1, 1) := by decide +kernel
theorem dX4_tablesLieRight_105 : decode cX4_tablesLieRight 105 = .ok (.ireturn, 1) := by decide +kernel
def B_X4_tablesLieRight_74 (N : Nat) (k2 : Int32 → sv_V → Option (Int32 × sv_V)) (k74 : Int32 → Int32 → sv_V → Option (Int32 × sv_V)) (l1 : Int32) (l4 : Int32) (V : sv_V) : Option (Int32 × sv_V) := if l1 ≤ l4 then (sx_let (l1 + 1) (fun x2 => k2 x2 V)) else ((F_X4_shareBytes l4 l1 V).bind (fun (x5, V3) => if x5 = 0 then (sx_let (l4 + 1) (fun x7 => k74 l1 x7 V3)) else (some ((0 : Int32), V3))))
set_option maxRecDepth 20000 in
theorem tB_X4_tablesLieRight_74 {g : sx_G} (hG : sx_Go g) {P : Option Value → sv_V → Prop} {r : Int32} {Vr : sv_V} (hP : P (some (.int r)) Vr) {N : Nat} {k2 : Int32 → sv_V → Option (Int32 × sv_V)} {k74 : Int32 → Int32 → sv_V → Option (Int32 × sv_V)} (hk2 : ∀ (l1 : Int32) (V : sv_V), k2 l1 V = some (r, Vr) → sv_N g qX4_tablesLieRight 4 2 [(0, .ref 29), (1, .int l1)] [] V P) (hk74 : ∀ (l1 : Int32) (l4 : Int32) (V : sv_V), k74 l1 l4 V = some (r, Vr) → sv_N g qX4_tablesLieRight 4 74 [(0, .ref 29), (1, .int l1), (4, .int l4)] [] V P) {l1 : Int32} {l4 : Int32} {V : sv_V} (h : B_X4_tablesLieRight_74 N k2 k74 l1 l4 V = some (r, Vr)) : sv_N g qX4_tablesLieRight 4 74 [(0, .ref 29), (1, .int l1), (4, .int l4)] [] V P := by
  unfold B_X4_tablesLieRight_74 at h
  refine sx_iload (pc := 74) dX4_tablesLieRight_74 sx_m2 ?_
  refine sx_iload_n (pc := 76) dX4_tablesLieRight_76 sx_m1 ?_
  refine sx_icmp_ge (pc := 77) (tgt := 98) dX4_tablesLieRight_77 (by decide) (fun c1 => ?_) (fun c1 => ?_)
  · have h := sx_pos c1 h
    obtain ⟨x2, hx2⟩ : ∃ z : Int32, z = l1 + 1 := ⟨_, rfl⟩
    have h := sx_letE hx2 h
    refine sx_iinc (pc := 98) (v := x2) (lo' := [(1, .int x2), (0, .ref 29), (4, .int l4)]) dX4_tablesLieRight_98 sx_m1 (by rw [hx2]; rfl) (by decide) rfl ?_
    refine sx_goto (pc := 101) (tgt := 2) dX4_tablesLieRight_101 (by decide) ?_
    refine sx_wk (sx_s1 sx_m1 (sx_s1 sx_m0 sx_s0)) ?_
    exact hk2 _ _ h
  · have h := sx_neg c1 h
    refine sx_aload_n (pc := 80) dX4_tablesLieRight_80 sx_m0 ?_
    refine sx_iload (pc := 81) dX4_tablesLieRight_81 sx_m2 ?_
    refine sx_iload_n (pc := 83) dX4_tablesLieRight_83 sx_m1 ?_
    obtain ⟨⟨x5, V3⟩, g4, h⟩ := sx_bnd h
    refine sv_cV (pc := 84) (y := qX4_shareBytes) (o := (some (.int x5))) (as := [.int l4, .int l1]) (V1 := V3) hG dX4_tablesLieRight_84 l_X4_89 y0X4_shareBytes yvX4_shareBytes rfl (Nat.le_of_ble_eq_true rfl) lay_29 kr_4 (by decide) (Nat.le_of_ble_eq_true rfl) rfl rfl rfl (t_X4_shareBytes hG ⟨rfl, rfl⟩ g4) ?_
    refine sx_if_eq (pc := 87) (tgt := 92) dX4_tablesLieRight_87 (by decide) (fun c6 => ?_) (fun c6 => ?_)
    · have h := sx_pos c6 h
      obtain ⟨x7, hx7⟩ : ∃ z : Int32, z = l4 + 1 := ⟨_, rfl⟩
      have h := sx_letE hx7 h
      refine sx_iinc (pc := 92) (v := x7) (lo' := [(4, .int x7), (0, .ref 29), (1, .int l1)]) dX4_tablesLieRight_92 sx_m2 (by rw [hx7]; rfl) (by decide) rfl ?_
      refine sx_goto (pc := 95) (tgt := 74) dX4_tablesLieRight_95 (by decide) ?_
      refine sx_wk (sx_s1 sx_m1 (sx_s1 sx_m2 (sx_s1 sx_m0 sx_s0))) ?_
      exact hk74 _ _ _ h
    · have h := sx_neg c6 h
      refine sx_iconst (pc := 90) (v := 0) dX4_tablesLieRight_90 (by decide) ?_
      exact sv_zret (pc := 91) dX4_tablesLieRight_91 rfl rfl h hP
theorem tL_X4_tablesLieRight_74 {g : sx_G} (hG : sx_Go g) {P : Option Value → sv_V → Prop} {r : Int32} {Vr : sv_V} (hP : P (some (.int r)) Vr) {N : Nat} {k2 : Int32 → sv_V → Option (Int32 × sv_V)} (hk2 : ∀ (l1 : Int32) (V : sv_V), k2 l1 V = some (r, Vr) → sv_N g qX4_tablesLieRight 4 2 [(0, .ref 29), (1, .int l1)] [] V P) : ∀ (n : Nat) (l1 : Int32) (l4 : Int32) (V : sv_V), sx_lp3 (B_X4_tablesLieRight_74 N k2) n l1 l4 V = some (r, Vr) → sv_N g qX4_tablesLieRight 4 74 [(0, .ref 29), (1, .int l1), (4, .int l4)] [] V P :=
  sx_lp3_ind (fun k0 ih _ _ V h => tB_X4_tablesLieRight_74 hG hP hk2 ih h)
def B_X4_tablesLieRight_2 (N : Nat) (k2 : Int32 → sv_V → Option (Int32 × sv_V)) (l1 : Int32) (V : sv_V) : Option (Int32 × sv_V) := if (V.1 2 5) ≤ l1 then (some ((1 : Int32), V)) else ((F_X4_entry l1 (2 : Int32) V).bind (fun (x11, V9) => if (lg_cmp (x11 - x11 / (4 : Int64) * (4 : Int64)) (0 : Int64)) = 0 then (if (lg_cmp x11 (((12 : Int32) + ((16 : Int32) * (V9.1 2 5))).toInt64)) < 0 then (some ((0 : Int32), V9)) else ((F_X4_entry l1 (3 : Int32) V9).bind (fun (x16, V14) => if (lg_cmp (x11 + x16) ((V14.1 2 1).toInt64)) ≤ 0 then (sx_lp3 (B_X4_tablesLieRight_74 N k2) N l1 (0 : Int32) V14) else (some ((0 : Int32), V14))))) else (some ((0 : Int32), V9))))
set_option maxRecDepth 20000 in
theorem tB_X4_tablesLieRight_2 {g : sx_G} (hG : sx_Go g) {P : Option Value → sv_V → Prop} {r : Int32} {Vr : sv_V} (hP : P (some (.int r)) Vr) {N : Nat} {k2 : Int32 → sv_V → Option (Int32 × sv_V)} (hk2 : ∀ (l1 : Int32) (V : sv_V), k2 l1 V = some (r, Vr) → sv_N g qX4_tablesLieRight 4 2 [(0, .ref 29), (1, .int l1)] [] V P) {l1 : Int32} {V : sv_V} (h : B_X4_tablesLieRight_2 N k2 l1 V = some (r, Vr)) : sv_N g qX4_tablesLieRight 4 2 [(0, .ref 29), (1, .int l1)] [] V P := by
  unfold B_X4_tablesLieRight_2 at h
  refine sx_iload_n (pc := 2) dX4_tablesLieRight_2 sx_m1 ?_
  refine sx_aload_n (pc := 3) dX4_tablesLieRight_3 sx_m0 ?_
  refine sv_getO (pc := 4) hG dX4_tablesLieRight_4 f_4_9 lay_29 rfl cr_29_0 ?_
  refine sv_getI (pc := 7) hG dX4_tablesLieRight_7 f_4_80 lay_2 rfl ?_
  refine sx_icmp_ge (pc := 10) (tgt := 104) dX4_tablesLieRight_10 (by decide) (fun c8 => ?_) (fun c8 => ?_)
  · have h := sx_pos c8 h
    refine sx_iconst (pc := 104) (v := 1) dX4_tablesLieRight_104 (by decide) ?_
    exact sv_zret (pc := 105) dX4_tablesLieRight_105 rfl rfl h hP
  · have h := sx_neg c8 h
    refine sx_aload_n (pc := 13) dX4_tablesLieRight_13 sx_m0 ?_
    refine sx_iload_n (pc := 14) dX4_tablesLieRight_14 sx_m1 ?_
    refine sx_iconst (pc := 15) (v := 2) dX4_tablesLieRight_15 (by decide) ?_
    obtain ⟨⟨x11, V9⟩, g10, h⟩ := sx_bnd h
    refine sv_cV (pc := 16) (y := qX4_entry) (o := (some (.long x11))) (as := [.int l1, .int (2 : Int32)]) (V1 := V9) hG dX4_tablesLieRight_16 l_X4_83 y0X4_entry yvX4_entry rfl (Nat.le_of_ble_eq_true rfl) lay_29 kr_4 (by decide) (Nat.le_of_ble_eq_true rfl) rfl rfl rfl (t_X4_entry hG ⟨rfl, rfl⟩ g10) ?_
    refine sx_lstore_n (pc := 19) (lo' := [(2, .long x11), (0, .ref 29), (1, .int l1)]) dX4_tablesLieRight_19 (by decide) rfl ?_
    refine sx_lload_n (pc := 20) dX4_tablesLieRight_20 sx_m0 ?_
    refine sx_ldc2 (pc := 21) dX4_tablesLieRight_21 k_X4_87 ?_
    refine sx_lrem (pc := 24) dX4_tablesLieRight_24 (by decide) ?_
    refine sx_lconst (pc := 25) (v := 0) dX4_tablesLieRight_25 rfl ?_
    refine sx_lcmp (pc := 26) dX4_tablesLieRight_26 ?_
    refine sx_if_ne (pc := 27) (tgt := 69) dX4_tablesLieRight_27 (by decide) (fun c12 => ?_) (fun c12 => ?_)
    · have h := sx_neg c12 h
      refine sx_iconst (pc := 69) (v := 0) dX4_tablesLieRight_69 (by decide) ?_
      exact sv_zret (pc := 70) dX4_tablesLieRight_70 rfl rfl h hP
    · have h := sx_pos c12 h
      refine sx_lload_n (pc := 30) dX4_tablesLieRight_30 sx_m0 ?_
      refine sx_bipush (pc := 31) (v := 12) dX4_tablesLieRight_31 (by decide) ?_
      refine sx_bipush (pc := 33) (v := 16) dX4_tablesLieRight_33 (by decide) ?_
      refine sx_aload_n (pc := 35) dX4_tablesLieRight_35 sx_m1 ?_
      refine sv_getO (pc := 36) hG dX4_tablesLieRight_36 f_4_9 lay_29 rfl cr_29_0 ?_
      refine sv_getI (pc := 39) hG dX4_tablesLieRight_39 f_4_80 lay_2 rfl ?_
      refine sx_imul (pc := 42) dX4_tablesLieRight_42 ?_
      refine sx_iadd (pc := 43) dX4_tablesLieRight_43 ?_
      refine sx_i2l (pc := 44) dX4_tablesLieRight_44 ?_
      refine sx_lcmp (pc := 45) dX4_tablesLieRight_45 ?_
      refine sx_if_lt (pc := 46) (tgt := 69) dX4_tablesLieRight_46 (by decide) (fun c13 => ?_) (fun c13 => ?_)
      · have h := sx_pos c13 h
        refine sx_iconst (pc := 69) (v := 0) dX4_tablesLieRight_69 (by decide) ?_
        exact sv_zret (pc := 70) dX4_tablesLieRight_70 rfl rfl h hP
      · have h := sx_neg c13 h
        refine sx_lload_n (pc := 49) dX4_tablesLieRight_49 sx_m0 ?_
        refine sx_aload_n (pc := 50) dX4_tablesLieRight_50 sx_m1 ?_
        refine sx_iload_n (pc := 51) dX4_tablesLieRight_51 sx_m2 ?_
        refine sx_iconst (pc := 52) (v := 3) dX4_tablesLieRight_52 (by decide) ?_
        obtain ⟨⟨x16, V14⟩, g15, h⟩ := sx_bnd h
        refine sv_cV (pc := 53) (y := qX4_entry) (o := (some (.long x16))) (as := [.int l1, .int (3 : Int32)]) (V1 := V14) hG dX4_tablesLieRight_53 l_X4_83 y0X4_entry yvX4_entry rfl (Nat.le_of_ble_eq_true rfl) lay_29 kr_4 (by decide) (Nat.le_of_ble_eq_true rfl) rfl rfl rfl (t_X4_entry hG ⟨rfl, rfl⟩ g15) ?_
        refine sx_ladd (pc := 56) dX4_tablesLieRight_56 ?_
        refine sx_aload_n (pc := 57) dX4_tablesLieRight_57 sx_m1 ?_
        refine sv_getO (pc := 58) hG dX4_tablesLieRight_58 f_4_9 lay_29 rfl cr_29_0 ?_
        refine sv_getI (pc := 61) hG dX4_tablesLieRight_61 f_4_70 lay_2 rfl ?_
        refine sx_i2l (pc := 64) dX4_tablesLieRight_64 ?_
        refine sx_lcmp (pc := 65) dX4_tablesLieRight_65 ?_
        refine sx_if_le (pc := 66) (tgt := 71) dX4_tablesLieRight_66 (by decide) (fun c17 => ?_) (fun c17 => ?_)
        · have h := sx_pos c17 h
          refine sx_iconst (pc := 71) (v := 0) dX4_tablesLieRight_71 (by decide) ?_
          refine sx_istore (pc := 72) (lo' := [(4, .int (0 : Int32)), (2, .long x11), (0, .ref 29), (1, .int l1)]) dX4_tablesLieRight_72 (by decide) rfl ?_
          refine sx_wk (sx_s1 sx_m2 (sx_s1 sx_m3 (sx_s1 sx_m0 sx_s0))) ?_
          exact tL_X4_tablesLieRight_74 hG hP hk2 N _ _ _ h
        · have h := sx_neg c17 h
          refine sx_iconst (pc := 69) (v := 0) dX4_tablesLieRight_69 (by decide) ?_
          exact sv_zret (pc := 70) dX4_tablesLieRight_70 rfl rfl h hP
theorem tL_X4_tablesLieRight_2 {g : sx_G} (hG : sx_Go g) {P : Option Value → sv_V → Prop} {r : Int32} {Vr : sv_V} (hP : P (some (.int r)) Vr) {N : Nat}   : ∀ (n : Nat) (l1 : Int32) (V : sv_V), sx_lp2 (B_X4_tablesLieRight_2 N ) n l1 V = some (r, Vr) → sv_N g qX4_tablesLieRight 4 2 [(0, .ref 29), (1, .int l1)] [] V P :=
  sx_lp2_ind (fun k0 ih _ V h => tB_X4_tablesLieRight_2 hG hP ih h)
def F_X4_tablesLieRight (N : Nat)  (V : sv_V) : Option (Int32 × sv_V) := sx_lp2 (B_X4_tablesLieRight_2 N ) N (0 : Int32) V
set_option maxRecDepth 20000 in
theorem t_X4_tablesLieRight {g : sx_G} (hG : sx_Go g) {P : Option Value → sv_V → Prop} {r : Int32} {Vr : sv_V} (hP : P (some (.int r)) Vr) {N : Nat}  {V : sv_V} (h : F_X4_tablesLieRight N  V = some (r, Vr)) : sv_N g qX4_tablesLieRight 4 0 [(0, .ref 29)] [] V P := by
  unfold F_X4_tablesLieRight at h
  refine sx_iconst (pc := 0) (v := 0) dX4_tablesLieRight_0 (by decide) ?_
  refine sx_istore_n (pc := 1) (lo' := [(1, .int (0 : Int32)), (0, .ref 29)]) dX4_tablesLieRight_1 (by decide) rfl ?_
  refine sx_wk (sx_s1 sx_m1 (sx_s1 sx_m0 sx_s0)) ?_
  exact tL_X4_tablesLieRight_2 hG hP  N _ _ h
theorem dX5_goAlongNumbers_0 : decode cX5_goAlongNumbers 0 = .ok (.aload_n 0, 1) := by decide +kernel
theorem dX5_goAlongNumbers_1 : decode cX5_goAlongNumbers 1 = .ok (.invokevirtual 242, 3) := by decide +kernel
theorem dX5_goAlongNumbers_4 : decode cX5_goAlongNumbers 4 = .ok (.istore_n 2, 1) := by decide +kernel
theorem dX5_goAlongNumbers_5 : decode cX5_goAlongNumbers 5 = .ok (.aload_n 0, 1) := by decide +kernel
theorem dX5_goAlongNumbers_6 : decode cX5_goAlongNumbers 6 = .ok (.invokevirtual 242, 3) := by decide +kernel
theorem dX5_goAlongNumbers_9 : decode cX5_goAlongNumbers 9 = .ok (.istore_n 3, 1) := by decide +kernel
theorem dX5_goAlongNumbers_10 : decode cX5_goAlongNumbers 10 = .ok (.aload_n 0, 1) := by decide +kernel
theorem dX5_goAlongNumbers_11 : decode cX5_goAlongNumbers 11 = .ok (.getfield 12, 3) := by decide +kernel
theorem dX5_goAlongNumbers_14 : decode cX5_goAlongNumbers 14 = .ok (.iload_n 3, 1) := by decide +kernel
theorem dX5_goAlongNumbers_15 : decode cX5_goAlongNumbers 15 = .ok (.i2s, 1) := by decide +kernel
theorem dX5_goAlongNumbers_16 : decode cX5_goAlongNumbers 16 = .ok (.i2l, 1) := by decide +kernel
theorem dX5_goAlongNumbers_17 : decode cX5_goAlongNumbers 17 = .ok (.iload_n 2, 1) := by decide +kernel
theorem dX5_goAlongNumbers_18 : decode cX5_goAlongNumbers 18 = .ok (.i2s, 1) := by decide +kernel
theorem dX5_goAlongNumbers_19 : decode cX5_goAlongNumbers 19 = .ok (.i2l, 1) := by decide +kernel
theorem dX5_goAlongNumbers_20 : decode cX5_goAlongNumbers 20 = .ok (.invokevirtual 245, 3) := by decide +kernel
theorem dX5_goAlongNumbers_23 : decode cX5_goAlongNumbers 23 = .ok (.iload_n 1, 1) := by decide +kernel
theorem dX5_goAlongNumbers_24 : decode cX5_goAlongNumbers 24 = .ok (.bipush 10, 2) := by decide +kernel
theorem dX5_goAlongNumbers_26 : decode cX5_goAlongNumbers 26 = .ok (.if_icmp .ne 13, 3) := by decide +kernel
theorem dX5_goAlongNumbers_29 : decode cX5_goAlongNumbers 29 = .ok (.aload_n 0, 1) := by decide +kernel
theorem dX5_goAlongNumbers_30 : decode cX5_goAlongNumbers 30 = .ok (.getfield 12, 3) := by decide +kernel
theorem dX5_goAlongNumbers_33 : decode cX5_goAlongNumbers 33 = .ok (.invokevirtual 249, 3) := by decide +kernel
theorem dX5_goAlongNumbers_36 : decode cX5_goAlongNumbers 36 = .ok (.goto 10, 3) := by decide +kernel
theorem dX5_goAlongNumbers_39 : decode cX5_goAlongNumbers 39 = .ok (.aload_n 0, 1) := by decide +kernel
theorem dX5_goAlongNumbers_40 : decode cX5_goAlongNumbers 40 = .ok (.getfield 12, 3) := by decide +kernel
theorem dX5_goAlongNumbers_43 : decode cX5_goAlongNumbers 43 = .ok (.invokevirtual 252, 3) := by decide +kernel
theorem dX5_goAlongNumbers_46 : decode cX5_goAlongNumbers 46 = .ok (.return_, 1) := by decide +kernel
def F_X5_goAlongNumbers (N : Nat) (l1 : Int32) (V : sv_V) : Option sv_V := (F_X5_pop  V).bind (fun (x3, V1) => (F_X5_pop  V1).bind (fun (x6, V4) => (F_X9_findWay N x6.toInt16.toInt32.toInt64 x3.toInt16.toInt32.toInt64 V4).bind (fun V7 => if l1 = (10 : Int32) then ((F_X9_useWayForP  V7).bind (fun V12 => some V12)) else ((F_X9_useWayForF  V7).bind (fun V10 => some V10)))))
set_option maxRecDepth 20000 in
theorem t_X5_goAlongNumbers {g : sx_G} (hG : sx_Go g) {P : Option Value → sv_V → Prop} {Vr : sv_V} (hP : P none Vr) {N : Nat} {l1 : Int32} {V : sv_V} (h : F_X5_goAlongNumbers N l1 V = some Vr) : sv_N g qX5_goAlongNumbers 2 0 [(0, .ref 69), (1, .int l1)] [] V P := by
  unfold F_X5_goAlongNumbers at h
  refine sx_aload_n (pc := 0) dX5_goAlongNumbers_0 sx_m0 ?_
  obtain ⟨⟨x3, V1⟩, g2, h⟩ := sx_bnd h
  refine sv_cV (pc := 1) (y := qX5_pop) (o := (some (.int x3))) (as := []) (V1 := V1) hG dX5_goAlongNumbers_1 l_X5_242 y0X5_pop yvX5_pop rfl (Nat.le_of_ble_eq_true rfl) lay_69 kr_5 (by decide) (Nat.le_of_ble_eq_true rfl) rfl rfl rfl (t_X5_pop hG ⟨rfl, rfl⟩ g2) ?_
  refine sx_istore_n (pc := 4) (lo' := [(2, .int x3), (0, .ref 69), (1, .int l1)]) dX5_goAlongNumbers_4 (by decide) rfl ?_
  refine sx_aload_n (pc := 5) dX5_goAlongNumbers_5 sx_m1 ?_
  obtain ⟨⟨x6, V4⟩, g5, h⟩ := sx_bnd h
  refine sv_cV (pc := 6) (y := qX5_pop) (o := (some (.int x6))) (as := []) (V1 := V4) hG dX5_goAlongNumbers_6 l_X5_242 y0X5_pop yvX5_pop rfl (Nat.le_of_ble_eq_true rfl) lay_69 kr_5 (by decide) (Nat.le_of_ble_eq_true rfl) rfl rfl rfl (t_X5_pop hG ⟨rfl, rfl⟩ g5) ?_
  refine sx_istore_n (pc := 9) (lo' := [(3, .int x6), (2, .int x3), (0, .ref 69), (1, .int l1)]) dX5_goAlongNumbers_9 (by decide) rfl ?_
  refine sx_aload_n (pc := 10) dX5_goAlongNumbers_10 sx_m2 ?_
  refine sv_getO (pc := 11) hG dX5_goAlongNumbers_11 f_5_12 lay_69 rfl cr_69_1 ?_
  refine sx_iload_n (pc := 14) dX5_goAlongNumbers_14 sx_m0 ?_
  refine sx_i2s (pc := 15) dX5_goAlongNumbers_15 ?_
  refine sx_i2l (pc := 16) dX5_goAlongNumbers_16 ?_
  refine sx_iload_n (pc := 17) dX5_goAlongNumbers_17 sx_m1 ?_
  refine sx_i2s (pc := 18) dX5_goAlongNumbers_18 ?_
  refine sx_i2l (pc := 19) dX5_goAlongNumbers_19 ?_
  obtain ⟨V7, g8, h⟩ := sx_bnd h
  refine sv_cV (pc := 20) (y := qX9_findWay) (o := none) (as := [.long x6.toInt16.toInt32.toInt64, .long x3.toInt16.toInt32.toInt64]) (V1 := V7) hG dX5_goAlongNumbers_20 l_X5_245 y0X9_findWay yvX9_findWay rfl (Nat.le_of_ble_eq_true rfl) lay_70 kr_9 (by decide) (Nat.le_of_ble_eq_true rfl) rfl rfl rfl (t_X9_findWay hG ⟨rfl, rfl⟩ g8) ?_
  refine sx_iload_n (pc := 23) dX5_goAlongNumbers_23 sx_m3 ?_
  refine sx_bipush (pc := 24) (v := 10) dX5_goAlongNumbers_24 (by decide) ?_
  refine sx_icmp_ne (pc := 26) (tgt := 39) dX5_goAlongNumbers_26 (by decide) (fun c9 => ?_) (fun c9 => ?_)
  · have h := sx_neg c9 h
    refine sx_aload_n (pc := 39) dX5_goAlongNumbers_39 sx_m2 ?_
    refine sv_getO (pc := 40) hG dX5_goAlongNumbers_40 f_5_12 lay_69 rfl cr_69_1 ?_
    obtain ⟨V10, g11, h⟩ := sx_bnd h
    refine sv_cV (pc := 43) (y := qX9_useWayForF) (o := none) (as := []) (V1 := V10) hG dX5_goAlongNumbers_43 l_X5_252 y0X9_useWayForF yvX9_useWayForF rfl (Nat.le_of_ble_eq_true rfl) lay_70 kr_9 (by decide) (Nat.le_of_ble_eq_true rfl) rfl rfl rfl (t_X9_useWayForF hG ⟨rfl, rfl⟩ g11) ?_
    exact sv_vret (pc := 46) dX5_goAlongNumbers_46 rfl h hP
  · have h := sx_pos c9 h
    refine sx_aload_n (pc := 29) dX5_goAlongNumbers_29 sx_m2 ?_
    refine sv_getO (pc := 30) hG dX5_goAlongNumbers_30 f_5_12 lay_69 rfl cr_69_1 ?_
    obtain ⟨V12, g13, h⟩ := sx_bnd h
    refine sv_cV (pc := 33) (y := qX9_useWayForP) (o := none) (as := []) (V1 := V12) hG dX5_goAlongNumbers_33 l_X5_249 y0X9_useWayForP yvX9_useWayForP rfl (Nat.le_of_ble_eq_true rfl) lay_70 kr_9 (by decide) (Nat.le_of_ble_eq_true rfl) rfl rfl rfl (t_X9_useWayForP hG ⟨rfl, rfl⟩ g13) ?_
    refine sx_goto (pc := 36) (tgt := 46) dX5_goAlongNumbers_36 (by decide) ?_
    exact sv_vret (pc := 46) dX5_goAlongNumbers_46 rfl h hP
theorem dX5_goAlongLine_0 : decode cX5_goAlongLine 0 = .ok (.aload_n 0, 1) := by decide +kernel
theorem dX5_goAlongLine_1 : decode cX5_goAlongLine 1 = .ok (.invokevirtual 242, 3) := by decide +kernel
theorem dX5_goAlongLine_4 : decode cX5_goAlongLine 4 = .ok (.istore_n 2, 1) := by decide +kernel
theorem dX5_goAlongLine_5 : decode cX5_goAlongLine 5 = .ok (.aload_n 0, 1) := by decide +kernel
theorem dX5_goAlongLine_6 : decode cX5_goAlongLine 6 = .ok (.invokevirtual 242, 3) := by decide +kernel
theorem dX5_goAlongLine_9 : decode cX5_goAlongLine 9 = .ok (.istore_n 3, 1) := by decide +kernel
theorem dX5_goAlongLine_10 : decode cX5_goAlongLine 10 = .ok (.aload_n 0, 1) := by decide +kernel
theorem dX5_goAlongLine_11 : decode cX5_goAlongLine 11 = .ok (.iconst 1, 1) := by decide +kernel
theorem dX5_goAlongLine_12 : decode cX5_goAlongLine 12 = .ok (.invokevirtual 255, 3) := by decide +kernel
theorem dX5_goAlongLine_15 : decode cX5_goAlongLine 15 = .ok (.astore 4, 2) := by decide +kernel
theorem dX5_goAlongLine_17 : decode cX5_goAlongLine 17 = .ok (.aload_n 0, 1) := by decide +kernel
theorem dX5_goAlongLine_18 : decode cX5_goAlongLine 18 = .ok (.iconst 2, 1) := by decide +kernel
theorem dX5_goAlongLine_19 : decode cX5_goAlongLine 19 = .ok (.invokevirtual 255, 3) := by decide +kernel
theorem dX5_goAlongLine_22 : decode cX5_goAlongLine 22 = .ok (.astore 5, 2) := by decide +kernel
theorem dX5_goAlongLine_24 : decode cX5_goAlongLine 24 = .ok (.aload_n 0, 1) := by decide +kernel
theorem dX5_goAlongLine_25 : decode cX5_goAlongLine 25 = .ok (.aload 4, 2) := by decide +kernel
theorem dX5_goAlongLine_27 : decode cX5_goAlongLine 27 = .ok (.iload_n 3, 1) := by decide +kernel
theorem dX5_goAlongLine_28 : decode cX5_goAlongLine 28 = .ok (.invokevirtual 259, 3) := by decide +kernel
theorem dX5_goAlongLine_31 : decode cX5_goAlongLine 31 = .ok (.ifCond .eq 13, 3) := by decide +kernel
theorem dX5_goAlongLine_34 : decode cX5_goAlongLine 34 = .ok (.aload_n 0, 1) := by decide +kernel
theorem dX5_goAlongLine_35 : decode cX5_goAlongLine 35 = .ok (.aload 5, 2) := by decide +kernel
theorem dX5_goAlongLine_37 : decode cX5_goAlongLine 37 = .ok (.iload_n 2, 1) := by decide +kernel
theorem dX5_goAlongLine_38 : decode cX5_goAlongLine 38 = .ok (.invokevirtual 259, 3) := by decide +kernel
theorem dX5_goAlongLine_41 : decode cX5_goAlongLine 41 = .ok (.ifCond .ne 4, 3) := by decide +kernel
theorem dX5_goAlongLine_44 : decode cX5_goAlongLine 44 = .ok (.return_, 1) := by decide +kernel
theorem dX5_goAlongLine_45 : decode cX5_goAlongLine 45 = .ok (.aload_n 0, 1) := by decide +kernel
theorem dX5_goAlongLine_46 : decode cX5_goAlongLine 46 = .ok (.getfield 12, 3) := by decide +kernel
theorem dX5_goAlongLine_49 : decode cX5_goAlongLine 49 = .ok (.aload 4, 2) := by decide +kernel
theorem dX5_goAlongLine_51 : decode cX5_goAlongLine 51 = .ok (.getfield 198, 3) := by decide +kernel
theorem dX5_goAlongLine_54 : decode cX5_goAlongLine 54 = .ok (.iload_n 3, 1) := by decide +kernel
theorem dX5_goAlongLine_55 : decode cX5_goAlongLine 55 = .ok (.iaload, 1) := by decide +kernel
theorem dX5_goAlongLine_56 : decode cX5_goAlongLine 56 = .ok (.aload 5, 2) := by decide +kernel
theorem dX5_goAlongLine_58 : decode cX5_goAlongLine 58 = .ok (.getfield 198, 3) := by decide +kernel
theorem dX5_goAlongLine_61 : decode cX5_goAlongLine 61 = .ok (.iload_n 2, 1) := by decide +kernel
theorem dX5_goAlongLine_62 : decode cX5_goAlongLine 62 = .ok (.iaload, 1) := by decide +kernel
theorem dX5_goAlongLine_63 : decode cX5_goAlongLine 63 = .ok (.isub, 1) := by decide +kernel
theorem dX5_goAlongLine_64 : decode cX5_goAlongLine 64 = .ok (.i2l, 1) := by decide +kernel
theorem dX5_goAlongLine_65 : decode cX5_goAlongLine 65 = .ok (.aload 4, 2) := by decide +kernel
theorem dX5_goAlongLine_67 : decode cX5_goAlongLine 67 = .ok (.getfield 201, 3) := by decide +kernel
theorem dX5_goAlongLine_70 : decode cX5_goAlongLine 70 = .ok (.iload_n 3, 1) := by decide +kernel
theorem dX5_goAlongLine_71 : decode cX5_goAlongLine 71 = .ok (.iaload, 1) := by decide +kernel
theorem dX5_goAlongLine_72 : decode cX5_goAlongLine 72 = .ok (.aload 5, 2) := by decide +kernel
theorem dX5_goAlongLine_74 : decode cX5_goAlongLine 74 = .ok (.getfield 201, 3) := by decide +kernel
theorem dX5_goAlongLine_77 : decode cX5_goAlongLine 77 = .ok (.iload_n 2, 1) := by decide +kernel
theorem dX5_goAlongLine_78 : decode cX5_goAlongLine 78 = .ok (.iaload, 1) := by decide +kernel
theorem dX5_goAlongLine_79 : decode cX5_goAlongLine 79 = .ok (.isub, 1) := by decide +kernel
theorem dX5_goAlongLine_80 : decode cX5_goAlongLine 80 = .ok (.i2l, 1) := by decide +kernel
theorem dX5_goAlongLine_81 : decode cX5_goAlongLine 81 = .ok (.invokevirtual 245, 3) := by decide +kernel
theorem dX5_goAlongLine_84 : decode cX5_goAlongLine 84 = .ok (.iload_n 1, 1) := by decide +kernel
theorem dX5_goAlongLine_85 : decode cX5_goAlongLine 85 = .ok (.iconst 1, 1) := by decide +kernel
theorem dX5_goAlongLine_86 : decode cX5_goAlongLine 86 = .ok (.iand, 1) := by decide +kernel
theorem dX5_goAlongLine_87 : decode cX5_goAlongLine 87 = .ok (.iconst 1, 1) := by decide +kernel
theorem dX5_goAlongLine_88 : decode cX5_goAlongLine 88 = .ok (.if_icmp .ne 10, 3) := by decide +kernel
theorem dX5_goAlongLine_91 : decode cX5_goAlongLine 91 = .ok (.aload_n 0, 1) := by decide +kernel
theorem dX5_goAlongLine_92 : decode cX5_goAlongLine 92 = .ok (.getfield 12, 3) := by decide +kernel
theorem dX5_goAlongLine_95 : decode cX5_goAlongLine 95 = .ok (.invokevirtual 263, 3) := by decide +kernel
theorem dX5_goAlongLine_98 : decode cX5_goAlongLine 98 = .ok (.iload_n 1, 1) := by decide +kernel
theorem dX5_goAlongLine_99 : decode cX5_goAlongLine 99 = .ok (.bipush 8, 2) := by decide +kernel
theorem dX5_goAlongLine_101 : decode cX5_goAlongLine 101 = .ok (.if_icmp .ge 13, 3) := by decide +kernel
theorem dX5_goAlongLine_104 : decode cX5_goAlongLine 104 = .ok (.aload_n 0, 1) := by decide +kernel
theorem dX5_goAlongLine_105 : decode cX5_goAlongLine 105 = .ok (.getfield 12, 3) := by decide +kernel
theorem dX5_goAlongLine_108 : decode cX5_goAlongLine 108 = .ok (.invokevirtual 249, 3) := by decide +kernel
theorem dX5_goAlongLine_111 : decode cX5_goAlongLine 111 = .ok (.goto 10, 3) := by decide +kernel
theorem dX5_goAlongLine_114 : decode cX5_goAlongLine 114 = .ok (.aload_n 0, 1) := by decide +kernel
theorem dX5_goAlongLine_115 : decode cX5_goAlongLine 115 = .ok (.getfield 12, 3) := by decide +kernel
theorem dX5_goAlongLine_118 : decode cX5_goAlongLine 118 = .ok (.invokevirtual 252, 3) := by decide +kernel
theorem dX5_goAlongLine_121 : decode cX5_goAlongLine 121 = .ok (.return_, 1) := by decide +kernel
def B_X5_goAlongLine_98 (N : Nat)  (l1 : Int32) (V : sv_V) : Option sv_V := if (8 : Int32) ≤ l1 then ((F_X9_useWayForF  V).bind (fun V2 => some V2)) else ((F_X9_useWayForP  V).bind (fun V4 => some V4))
set_option maxRecDepth 20000 in
theorem tB_X5_goAlongLine_98 {g : sx_G} (hG : sx_Go g) {P : Option Value → sv_V → Prop} {Vr : sv_V} (hP : P none Vr) {N : Nat}   {l1 : Int32} {V : sv_V} (h : B_X5_goAlongLine_98 N  l1 V = some Vr) : sv_N g qX5_goAlongLine 2 98 [(0, .ref 69), (1, .int l1)] [] V P := by
  unfold B_X5_goAlongLine_98 at h
  refine sx_iload_n (pc := 98) dX5_goAlongLine_98 sx_m1 ?_
  refine sx_bipush (pc := 99) (v := 8) dX5_goAlongLine_99 (by decide) ?_
  refine sx_icmp_ge (pc := 101) (tgt := 114) dX5_goAlongLine_101 (by decide) (fun c1 => ?_) (fun c1 => ?_)
  · have h := sx_pos c1 h
    refine sx_aload_n (pc := 114) dX5_goAlongLine_114 sx_m0 ?_
    refine sv_getO (pc := 115) hG dX5_goAlongLine_115 f_5_12 lay_69 rfl cr_69_1 ?_
    obtain ⟨V2, g3, h⟩ := sx_bnd h
    refine sv_cV (pc := 118) (y := qX9_useWayForF) (o := none) (as := []) (V1 := V2) hG dX5_goAlongLine_118 l_X5_252 y0X9_useWayForF yvX9_useWayForF rfl (Nat.le_of_ble_eq_true rfl) lay_70 kr_9 (by decide) (Nat.le_of_ble_eq_true rfl) rfl rfl rfl (t_X9_useWayForF hG ⟨rfl, rfl⟩ g3) ?_
    exact sv_vret (pc := 121) dX5_goAlongLine_121 rfl h hP
  · have h := sx_neg c1 h
    refine sx_aload_n (pc := 104) dX5_goAlongLine_104 sx_m0 ?_
    refine sv_getO (pc := 105) hG dX5_goAlongLine_105 f_5_12 lay_69 rfl cr_69_1 ?_
    obtain ⟨V4, g5, h⟩ := sx_bnd h
    refine sv_cV (pc := 108) (y := qX9_useWayForP) (o := none) (as := []) (V1 := V4) hG dX5_goAlongLine_108 l_X5_249 y0X9_useWayForP yvX9_useWayForP rfl (Nat.le_of_ble_eq_true rfl) lay_70 kr_9 (by decide) (Nat.le_of_ble_eq_true rfl) rfl rfl rfl (t_X9_useWayForP hG ⟨rfl, rfl⟩ g5) ?_
    refine sx_goto (pc := 111) (tgt := 121) dX5_goAlongLine_111 (by decide) ?_
    exact sv_vret (pc := 121) dX5_goAlongLine_121 rfl h hP
def F_X5_goAlongLine (N : Nat) (l1 : Int32) (V : sv_V) : Option sv_V := (F_X5_pop  V).bind (fun (x8, V6) => (F_X5_pop  V6).bind (fun (x11, V9) => (F_X5_zone (1 : Int32) V9).bind (fun (x14, V12) => (F_X5_zone (2 : Int32) V12).bind (fun (x17, V15) => (F_X5_isThere x14 x11 V15).bind (fun (x20, V18) => if x20 = 0 then (some V18) else ((F_X5_isThere x17 x8 V18).bind (fun (x24, V22) => if x24 = 0 then (some V22) else (if lay x14 = .inl 8 then (cr x14 0).bind (fun b27 => (sv_len 0 b27).bind (fun n29 => if sx_in x11 n29 = true then if lay x17 = .inl 8 then (cr x17 0).bind (fun b33 => (sv_len 0 b33).bind (fun n35 => if sx_in x8 n35 = true then (cr x14 1).bind (fun b38 => (sv_len 0 b38).bind (fun n40 => if sx_in x11 n40 = true then (cr x17 1).bind (fun b43 => (sv_len 0 b43).bind (fun n45 => if sx_in x8 n45 = true then (F_X9_findWay N (((V22.1 b27 x11.toNatClampNeg) - (V22.1 b33 x8.toNatClampNeg)).toInt64) (((V22.1 b38 x11.toNatClampNeg) - (V22.1 b43 x8.toNatClampNeg)).toInt64) V22).bind (fun V48 => if (l1 &&& (1 : Int32)) = (1 : Int32) then ((F_X9_turnWayLeft  V48).bind (fun V51 => B_X5_goAlongLine_98 N  l1 V51)) else (B_X5_goAlongLine_98 N  l1 V48)) else none)) else none)) else none)) else none else none)) else none))))))))
set_option maxRecDepth 20000 in
theorem t_X5_goAlongLine {g : sx_G} (hG : sx_Go g) {P : Option Value → sv_V → Prop} {Vr : sv_V} (hP : P none Vr) {N : Nat} {l1 : Int32} {V : sv_V} (h : F_X5_goAlongLine N l1 V = some Vr) : sv_N g qX5_goAlongLine 2 0 [(0, .ref 69), (1, .int l1)] [] V P := by
  unfold F_X5_goAlongLine at h
  refine sx_aload_n (pc := 0) dX5_goAlongLine_0 sx_m0 ?_
  obtain ⟨⟨x8, V6⟩, g7, h⟩ := sx_bnd h
  refine sv_cV (pc := 1) (y := qX5_pop) (o := (some (.int x8))) (as := []) (V1 := V6) hG dX5_goAlongLine_1 l_X5_242 y0X5_pop yvX5_pop rfl (Nat.le_of_ble_eq_true rfl) lay_69 kr_5 (by decide) (Nat.le_of_ble_eq_true rfl) rfl rfl rfl (t_X5_pop hG ⟨rfl, rfl⟩ g7) ?_
  refine sx_istore_n (pc := 4) (lo' := [(2, .int x8), (0, .ref 69), (1, .int l1)]) dX5_goAlongLine_4 (by decide) rfl ?_
  refine sx_aload_n (pc := 5) dX5_goAlongLine_5 sx_m1 ?_
  obtain ⟨⟨x11, V9⟩, g10, h⟩ := sx_bnd h
  refine sv_cV (pc := 6) (y := qX5_pop) (o := (some (.int x11))) (as := []) (V1 := V9) hG dX5_goAlongLine_6 l_X5_242 y0X5_pop yvX5_pop rfl (Nat.le_of_ble_eq_true rfl) lay_69 kr_5 (by decide) (Nat.le_of_ble_eq_true rfl) rfl rfl rfl (t_X5_pop hG ⟨rfl, rfl⟩ g10) ?_
  refine sx_istore_n (pc := 9) (lo' := [(3, .int x11), (2, .int x8), (0, .ref 69), (1, .int l1)]) dX5_goAlongLine_9 (by decide) rfl ?_
  refine sx_aload_n (pc := 10) dX5_goAlongLine_10 sx_m2 ?_
  refine sx_iconst (pc := 11) (v := 1) dX5_goAlongLine_11 (by decide) ?_
  obtain ⟨⟨x14, V12⟩, g13, h⟩ := sx_bnd h
  refine sv_cV (pc := 12) (y := qX5_zone) (o := (some (.ref x14))) (as := [.int (1 : Int32)]) (V1 := V12) hG dX5_goAlongLine_12 l_X5_255 y0X5_zone yvX5_zone rfl (Nat.le_of_ble_eq_true rfl) lay_69 kr_5 (by decide) (Nat.le_of_ble_eq_true rfl) rfl rfl rfl (t_X5_zone hG ⟨rfl, rfl⟩ g13) ?_
  refine sx_astore (pc := 15) (lo' := [(4, .ref x14), (3, .int x11), (2, .int x8), (0, .ref 69), (1, .int l1)]) dX5_goAlongLine_15 (by decide) rfl ?_
  refine sx_aload_n (pc := 17) dX5_goAlongLine_17 sx_m3 ?_
  refine sx_iconst (pc := 18) (v := 2) dX5_goAlongLine_18 (by decide) ?_
  obtain ⟨⟨x17, V15⟩, g16, h⟩ := sx_bnd h
  refine sv_cV (pc := 19) (y := qX5_zone) (o := (some (.ref x17))) (as := [.int (2 : Int32)]) (V1 := V15) hG dX5_goAlongLine_19 l_X5_255 y0X5_zone yvX5_zone rfl (Nat.le_of_ble_eq_true rfl) lay_69 kr_5 (by decide) (Nat.le_of_ble_eq_true rfl) rfl rfl rfl (t_X5_zone hG ⟨rfl, rfl⟩ g16) ?_
  refine sx_astore (pc := 22) (lo' := [(5, .ref x17), (4, .ref x14), (3, .int x11), (2, .int x8), (0, .ref 69), (1, .int l1)]) dX5_goAlongLine_22 (by decide) rfl ?_
  refine sx_aload_n (pc := 24) dX5_goAlongLine_24 sx_m4 ?_
  refine sx_aload (pc := 25) dX5_goAlongLine_25 sx_m1 ?_
  refine sx_iload_n (pc := 27) dX5_goAlongLine_27 sx_m2 ?_
  obtain ⟨⟨x20, V18⟩, g19, h⟩ := sx_bnd h
  refine sv_cV (pc := 28) (y := qX5_isThere) (o := (some (.int x20))) (as := [.ref x14, .int x11]) (V1 := V18) hG dX5_goAlongLine_28 l_X5_259 y0X5_isThere yvX5_isThere rfl (Nat.le_of_ble_eq_true rfl) lay_69 kr_5 (by decide) (Nat.le_of_ble_eq_true rfl) rfl rfl rfl (t_X5_isThere hG ⟨rfl, rfl⟩ g19) ?_
  refine sx_if_eq (pc := 31) (tgt := 44) dX5_goAlongLine_31 (by decide) (fun c21 => ?_) (fun c21 => ?_)
  · have h := sx_pos c21 h
    exact sv_vret (pc := 44) dX5_goAlongLine_44 rfl h hP
  · have h := sx_neg c21 h
    refine sx_aload_n (pc := 34) dX5_goAlongLine_34 sx_m4 ?_
    refine sx_aload (pc := 35) dX5_goAlongLine_35 sx_m0 ?_
    refine sx_iload_n (pc := 37) dX5_goAlongLine_37 sx_m3 ?_
    obtain ⟨⟨x24, V22⟩, g23, h⟩ := sx_bnd h
    refine sv_cV (pc := 38) (y := qX5_isThere) (o := (some (.int x24))) (as := [.ref x17, .int x8]) (V1 := V22) hG dX5_goAlongLine_38 l_X5_259 y0X5_isThere yvX5_isThere rfl (Nat.le_of_ble_eq_true rfl) lay_69 kr_5 (by decide) (Nat.le_of_ble_eq_true rfl) rfl rfl rfl (t_X5_isThere hG ⟨rfl, rfl⟩ g23) ?_
    refine sx_if_ne (pc := 41) (tgt := 45) dX5_goAlongLine_41 (by decide) (fun c25 => ?_) (fun c25 => ?_)
    · have h := sx_neg c25 h
      refine sx_aload_n (pc := 45) dX5_goAlongLine_45 sx_m4 ?_
      refine sv_getO (pc := 46) hG dX5_goAlongLine_46 f_5_12 lay_69 rfl cr_69_1 ?_
      refine sx_aload (pc := 49) dX5_goAlongLine_49 sx_m1 ?_
      obtain ⟨g26, h⟩ := sx_grd h
      obtain ⟨b27, g28, h⟩ := sx_bnd h
      refine sv_getA (pc := 51) hG dX5_goAlongLine_51 f_5_198 g26 rfl g28 ?_
      refine sx_iload_n (pc := 54) dX5_goAlongLine_54 sx_m2 ?_
      obtain ⟨n29, g30, h⟩ := sx_bnd h
      obtain ⟨g31, h⟩ := sx_grd h
      refine sv_iald (pc := 55) hG dX5_goAlongLine_55 (sv_len_e g30) g31 ?_
      refine sx_aload (pc := 56) dX5_goAlongLine_56 sx_m0 ?_
      obtain ⟨g32, h⟩ := sx_grd h
      obtain ⟨b33, g34, h⟩ := sx_bnd h
      refine sv_getA (pc := 58) hG dX5_goAlongLine_58 f_5_198 g32 rfl g34 ?_
      refine sx_iload_n (pc := 61) dX5_goAlongLine_61 sx_m3 ?_
      obtain ⟨n35, g36, h⟩ := sx_bnd h
      obtain ⟨g37, h⟩ := sx_grd h
      refine sv_iald (pc := 62) hG dX5_goAlongLine_62 (sv_len_e g36) g37 ?_
      refine sx_isub (pc := 63) dX5_goAlongLine_63 ?_
      refine sx_i2l (pc := 64) dX5_goAlongLine_64 ?_
      refine sx_aload (pc := 65) dX5_goAlongLine_65 sx_m1 ?_
      obtain ⟨b38, g39, h⟩ := sx_bnd h
      refine sv_getA (pc := 67) hG dX5_goAlongLine_67 f_5_201 g26 rfl g39 ?_
      refine sx_iload_n (pc := 70) dX5_goAlongLine_70 sx_m2 ?_
      obtain ⟨n40, g41, h⟩ := sx_bnd h
      obtain ⟨g42, h⟩ := sx_grd h
      refine sv_iald (pc := 71) hG dX5_goAlongLine_71 (sv_len_e g41) g42 ?_
      refine sx_aload (pc := 72) dX5_goAlongLine_72 sx_m0 ?_
      obtain ⟨b43, g44, h⟩ := sx_bnd h
      refine sv_getA (pc := 74) hG dX5_goAlongLine_74 f_5_201 g32 rfl g44 ?_
      refine sx_iload_n (pc := 77) dX5_goAlongLine_77 sx_m3 ?_
      obtain ⟨n45, g46, h⟩ := sx_bnd h
      obtain ⟨g47, h⟩ := sx_grd h
      refine sv_iald (pc := 78) hG dX5_goAlongLine_78 (sv_len_e g46) g47 ?_
      refine sx_isub (pc := 79) dX5_goAlongLine_79 ?_
      refine sx_i2l (pc := 80) dX5_goAlongLine_80 ?_
      obtain ⟨V48, g49, h⟩ := sx_bnd h
      refine sv_cV (pc := 81) (y := qX9_findWay) (o := none) (as := [.long (((V22.1 b27 x11.toNatClampNeg) - (V22.1 b33 x8.toNatClampNeg)).toInt64), .long (((V22.1 b38 x11.toNatClampNeg) - (V22.1 b43 x8.toNatClampNeg)).toInt64)]) (V1 := V48) hG dX5_goAlongLine_81 l_X5_245 y0X9_findWay yvX9_findWay rfl (Nat.le_of_ble_eq_true rfl) lay_70 kr_9 (by decide) (Nat.le_of_ble_eq_true rfl) rfl rfl rfl (t_X9_findWay hG ⟨rfl, rfl⟩ g49) ?_
      refine sx_iload_n (pc := 84) dX5_goAlongLine_84 sx_m5 ?_
      refine sx_iconst (pc := 85) (v := 1) dX5_goAlongLine_85 (by decide) ?_
      refine sx_iand (pc := 86) dX5_goAlongLine_86 ?_
      refine sx_iconst (pc := 87) (v := 1) dX5_goAlongLine_87 (by decide) ?_
      refine sx_icmp_ne (pc := 88) (tgt := 98) dX5_goAlongLine_88 (by decide) (fun c50 => ?_) (fun c50 => ?_)
      · have h := sx_neg c50 h
        refine sx_wk (sx_s1 sx_m4 (sx_s1 sx_m5 sx_s0)) ?_
        exact tB_X5_goAlongLine_98 hG hP  h
      · have h := sx_pos c50 h
        refine sx_aload_n (pc := 91) dX5_goAlongLine_91 sx_m4 ?_
        refine sv_getO (pc := 92) hG dX5_goAlongLine_92 f_5_12 lay_69 rfl cr_69_1 ?_
        obtain ⟨V51, g52, h⟩ := sx_bnd h
        refine sv_cV (pc := 95) (y := qX9_turnWayLeft) (o := none) (as := []) (V1 := V51) hG dX5_goAlongLine_95 l_X5_263 y0X9_turnWayLeft yvX9_turnWayLeft rfl (Nat.le_of_ble_eq_true rfl) lay_70 kr_9 (by decide) (Nat.le_of_ble_eq_true rfl) rfl rfl rfl (t_X9_turnWayLeft hG ⟨rfl, rfl⟩ g52) ?_
        refine sx_wk (sx_s1 sx_m4 (sx_s1 sx_m5 sx_s0)) ?_
        exact tB_X5_goAlongLine_98 hG hP  h
    · have h := sx_pos c25 h
      exact sv_vret (pc := 44) dX5_goAlongLine_44 rfl h hP
theorem dX5_goAlongBothLines_0 : decode cX5_goAlongBothLines 0 = .ok (.aload_n 0, 1) := by decide +kernel
theorem dX5_goAlongBothLines_1 : decode cX5_goAlongBothLines 1 = .ok (.invokevirtual 242, 3) := by decide +kernel
theorem dX5_goAlongBothLines_4 : decode cX5_goAlongBothLines 4 = .ok (.istore_n 2, 1) := by decide +kernel
theorem dX5_goAlongBothLines_5 : decode cX5_goAlongBothLines 5 = .ok (.aload_n 0, 1) := by decide +kernel
theorem dX5_goAlongBothLines_6 : decode cX5_goAlongBothLines 6 = .ok (.invokevirtual 242, 3) := by decide +kernel
theorem dX5_goAlongBothLines_9 : decode cX5_goAlongBothLines 9 = .ok (.istore_n 3, 1) := by decide +kernel
theorem dX5_goAlongBothLines_10 : decode cX5_goAlongBothLines 10 = .ok (.aload_n 0, 1) := by decide +kernel
theorem dX5_goAlongBothLines_11 : decode cX5_goAlongBothLines 11 = .ok (.iconst 1, 1) := by decide +kernel
theorem dX5_goAlongBothLines_12 : decode cX5_goAlongBothLines 12 = .ok (.invokevirtual 255, 3) := by decide +kernel
theorem dX5_goAlongBothLines_15 : decode cX5_goAlongBothLines 15 = .ok (.astore 4, 2) := by decide +kernel
theorem dX5_goAlongBothLines_17 : decode cX5_goAlongBothLines 17 = .ok (.aload_n 0, 1) := by decide +kernel
theorem dX5_goAlongBothLines_18 : decode cX5_goAlongBothLines 18 = .ok (.iconst 2, 1) := by decide +kernel
theorem dX5_goAlongBothLines_19 : decode cX5_goAlongBothLines 19 = .ok (.invokevirtual 255, 3) := by decide +kernel
theorem dX5_goAlongBothLines_22 : decode cX5_goAlongBothLines 22 = .ok (.astore 5, 2) := by decide +kernel
theorem dX5_goAlongBothLines_24 : decode cX5_goAlongBothLines 24 = .ok (.aload_n 0, 1) := by decide +kernel
theorem dX5_goAlongBothLines_25 : decode cX5_goAlongBothLines 25 = .ok (.aload 4, 2) := by decide +kernel
theorem dX5_goAlongBothLines_27 : decode cX5_goAlongBothLines 27 = .ok (.iload_n 3, 1) := by decide +kernel
theorem dX5_goAlongBothLines_28 : decode cX5_goAlongBothLines 28 = .ok (.invokevirtual 259, 3) := by decide +kernel
theorem dX5_goAlongBothLines_31 : decode cX5_goAlongBothLines 31 = .ok (.ifCond .eq 13, 3) := by decide +kernel
theorem dX5_goAlongBothLines_34 : decode cX5_goAlongBothLines 34 = .ok (.aload_n 0, 1) := by decide +kernel
theorem dX5_goAlongBothLines_35 : decode cX5_goAlongBothLines 35 = .ok (.aload 5, 2) := by decide +kernel
theorem dX5_goAlongBothLines_37 : decode cX5_goAlongBothLines 37 = .ok (.iload_n 2, 1) := by decide +kernel
theorem dX5_goAlongBothLines_38 : decode cX5_goAlongBothLines 38 = .ok (.invokevirtual 259, 3) := by decide +kernel
theorem dX5_goAlongBothLines_41 : decode cX5_goAlongBothLines 41 = .ok (.ifCond .ne 4, 3) := by decide +kernel
theorem dX5_goAlongBothLines_44 : decode cX5_goAlongBothLines 44 = .ok (.return_, 1) := by decide +kernel
theorem dX5_goAlongBothLines_45 : decode cX5_goAlongBothLines 45 = .ok (.aload_n 0, 1) := by decide +kernel
theorem dX5_goAlongBothLines_46 : decode cX5_goAlongBothLines 46 = .ok (.getfield 12, 3) := by decide +kernel
theorem dX5_goAlongBothLines_49 : decode cX5_goAlongBothLines 49 = .ok (.aload 4, 2) := by decide +kernel
theorem dX5_goAlongBothLines_51 : decode cX5_goAlongBothLines 51 = .ok (.getfield 198, 3) := by decide +kernel
theorem dX5_goAlongBothLines_54 : decode cX5_goAlongBothLines 54 = .ok (.iload_n 3, 1) := by decide +kernel
theorem dX5_goAlongBothLines_55 : decode cX5_goAlongBothLines 55 = .ok (.iaload, 1) := by decide +kernel
theorem dX5_goAlongBothLines_56 : decode cX5_goAlongBothLines 56 = .ok (.aload 5, 2) := by decide +kernel
theorem dX5_goAlongBothLines_58 : decode cX5_goAlongBothLines 58 = .ok (.getfield 198, 3) := by decide +kernel
theorem dX5_goAlongBothLines_61 : decode cX5_goAlongBothLines 61 = .ok (.iload_n 2, 1) := by decide +kernel
theorem dX5_goAlongBothLines_62 : decode cX5_goAlongBothLines 62 = .ok (.iaload, 1) := by decide +kernel
theorem dX5_goAlongBothLines_63 : decode cX5_goAlongBothLines 63 = .ok (.isub, 1) := by decide +kernel
theorem dX5_goAlongBothLines_64 : decode cX5_goAlongBothLines 64 = .ok (.i2l, 1) := by decide +kernel
theorem dX5_goAlongBothLines_65 : decode cX5_goAlongBothLines 65 = .ok (.aload 4, 2) := by decide +kernel
theorem dX5_goAlongBothLines_67 : decode cX5_goAlongBothLines 67 = .ok (.getfield 201, 3) := by decide +kernel
theorem dX5_goAlongBothLines_70 : decode cX5_goAlongBothLines 70 = .ok (.iload_n 3, 1) := by decide +kernel
theorem dX5_goAlongBothLines_71 : decode cX5_goAlongBothLines 71 = .ok (.iaload, 1) := by decide +kernel
theorem dX5_goAlongBothLines_72 : decode cX5_goAlongBothLines 72 = .ok (.aload 5, 2) := by decide +kernel
theorem dX5_goAlongBothLines_74 : decode cX5_goAlongBothLines 74 = .ok (.getfield 201, 3) := by decide +kernel
theorem dX5_goAlongBothLines_77 : decode cX5_goAlongBothLines 77 = .ok (.iload_n 2, 1) := by decide +kernel
theorem dX5_goAlongBothLines_78 : decode cX5_goAlongBothLines 78 = .ok (.iaload, 1) := by decide +kernel
theorem dX5_goAlongBothLines_79 : decode cX5_goAlongBothLines 79 = .ok (.isub, 1) := by decide +kernel
theorem dX5_goAlongBothLines_80 : decode cX5_goAlongBothLines 80 = .ok (.i2l, 1) := by decide +kernel
theorem dX5_goAlongBothLines_81 : decode cX5_goAlongBothLines 81 = .ok (.invokevirtual 245, 3) := by decide +kernel
theorem dX5_goAlongBothLines_84 : decode cX5_goAlongBothLines 84 = .ok (.iload_n 1, 1) := by decide +kernel
theorem dX5_goAlongBothLines_85 : decode cX5_goAlongBothLines 85 = .ok (.sipush 135, 3) := by decide +kernel
theorem dX5_goAlongBothLines_88 : decode cX5_goAlongBothLines 88 = .ok (.if_icmp .ne 10, 3) := by decide +kernel
theorem dX5_goAlongBothLines_91 : decode cX5_goAlongBothLines 91 = .ok (.aload_n 0, 1) := by decide +kernel
theorem dX5_goAlongBothLines_92 : decode cX5_goAlongBothLines 92 = .ok (.getfield 12, 3) := by decide +kernel
theorem dX5_goAlongBothLines_95 : decode cX5_goAlongBothLines 95 = .ok (.invokevirtual 263, 3) := by decide +kernel
theorem dX5_goAlongBothLines_98 : decode cX5_goAlongBothLines 98 = .ok (.aload_n 0, 1) := by decide +kernel
theorem dX5_goAlongBothLines_99 : decode cX5_goAlongBothLines 99 = .ok (.getfield 12, 3) := by decide +kernel
theorem dX5_goAlongBothLines_102 : decode cX5_goAlongBothLines 102 = .ok (.invokevirtual 249, 3) := by decide +kernel
theorem dX5_goAlongBothLines_105 : decode cX5_goAlongBothLines 105 = .ok (.aload_n 0, 1) := by decide +kernel
theorem dX5_goAlongBothLines_106 : decode cX5_goAlongBothLines 106 = .ok (.getfield 12, 3) := by decide +kernel
theorem dX5_goAlongBothLines_109 : decode cX5_goAlongBothLines 109 = .ok (.aload 4, 2) := by decide +kernel
theorem dX5_goAlongBothLines_111 : decode cX5_goAlongBothLines 111 = .ok (.getfield 204, 3) := by decide +kernel
theorem dX5_goAlongBothLines_114 : decode cX5_goAlongBothLines 114 = .ok (.iload_n 3, 1) := by decide +kernel
theorem dX5_goAlongBothLines_115 : decode cX5_goAlongBothLines 115 = .ok (.iaload, 1) := by decide +kernel
theorem dX5_goAlongBothLines_116 : decode cX5_goAlongBothLines 116 = .ok (.aload 5, 2) := by decide +kernel
theorem dX5_goAlongBothLines_118 : decode cX5_goAlongBothLines 118 = .ok (.getfield 204, 3) := by decide +kernel
theorem dX5_goAlongBothLines_121 : decode cX5_goAlongBothLines 121 = .ok (.iload_n 2, 1) := by decide +kernel
theorem dX5_goAlongBothLines_122 : decode cX5_goAlongBothLines 122 = .ok (.iaload, 1) := by decide +kernel
theorem dX5_goAlongBothLines_123 : decode cX5_goAlongBothLines 123 = .ok (.isub, 1) := by decide +kernel
theorem dX5_goAlongBothLines_124 : decode cX5_goAlongBothLines 124 = .ok (.i2l, 1) := by decide +kernel
theorem dX5_goAlongBothLines_125 : decode cX5_goAlongBothLines 125 = .ok (.aload 4, 2) := by decide +kernel
theorem dX5_goAlongBothLines_127 : decode cX5_goAlongBothLines 127 = .ok (.getfield 207, 3) := by decide +kernel
theorem dX5_goAlongBothLines_130 : decode cX5_goAlongBothLines 130 = .ok (.iload_n 3, 1) := by decide +kernel
theorem dX5_goAlongBothLines_131 : decode cX5_goAlongBothLines 131 = .ok (.iaload, 1) := by decide +kernel
theorem dX5_goAlongBothLines_132 : decode cX5_goAlongBothLines 132 = .ok (.aload 5, 2) := by decide +kernel
theorem dX5_goAlongBothLines_134 : decode cX5_goAlongBothLines 134 = .ok (.getfield 207, 3) := by decide +kernel
theorem dX5_goAlongBothLines_137 : decode cX5_goAlongBothLines 137 = .ok (.iload_n 2, 1) := by decide +kernel
theorem dX5_goAlongBothLines_138 : decode cX5_goAlongBothLines 138 = .ok (.iaload, 1) := by decide +kernel
theorem dX5_goAlongBothLines_139 : decode cX5_goAlongBothLines 139 = .ok (.isub, 1) := by decide +kernel
theorem dX5_goAlongBothLines_140 : decode cX5_goAlongBothLines 140 = .ok (.i2l, 1) := by decide +kernel
theorem dX5_goAlongBothLines_141 : decode cX5_goAlongBothLines 141 = .ok (.invokevirtual 245, 3) := by decide +kernel
theorem dX5_goAlongBothLines_144 : decode cX5_goAlongBothLines 144 = .ok (.iload_n 1, 1) := by decide +kernel
theorem dX5_goAlongBothLines_145 : decode cX5_goAlongBothLines 145 = .ok (.sipush 135, 3) := by decide +kernel
theorem dX5_goAlongBothLines_148 : decode cX5_goAlongBothLines 148 = .ok (.if_icmp .ne 10, 3) := by decide +kernel
theorem dX5_goAlongBothLines_151 : decode cX5_goAlongBothLines 151 = .ok (.aload_n 0, 1) := by decide +kernel
theorem dX5_goAlongBothLines_152 : decode cX5_goAlongBothLines 152 = .ok (.getfield 12, 3) := by decide +kernel
theorem dX5_goAlongBothLines_155 : decode cX5_goAlongBothLines 155 = .ok (.invokevirtual 263, 3) := by decide +kernel
theorem dX5_goAlongBothLines_158 : decode cX5_goAlongBothLines 158 = .ok (.aload_n 0, 1) := by decide +kernel
theorem dX5_goAlongBothLines_159 : decode cX5_goAlongBothLines 159 = .ok (.getfield 12, 3) := by decide +kernel
theorem dX5_goAlongBothLines_162 : decode cX5_goAlongBothLines 162 = .ok (.aload_n 0, 1) := by decide +kernel
theorem dX5_goAlongBothLines_163 : decode cX5_goAlongBothLines 163 = .ok (.getfield 12, 3) := by decide +kernel
theorem dX5_goAlongBothLines_166 : decode cX5_goAlongBothLines 166 = .ok (.getfield 266, 3) := by decide +kernel
theorem dX5_goAlongBothLines_169 : decode cX5_goAlongBothLines 169 = .ok (.putfield 192, 3) := by decide +kernel
theorem dX5_goAlongBothLines_172 : decode cX5_goAlongBothLines 172 = .ok (.aload_n 0, 1) := by decide +kernel
theorem dX5_goAlongBothLines_173 : decode cX5_goAlongBothLines 173 = .ok (.getfield 12, 3) := by decide +kernel
theorem dX5_goAlongBothLines_176 : decode cX5_goAlongBothLines 176 = .ok (.aload_n 0, 1) := by decide +kernel
theorem dX5_goAlongBothLines_177 : decode cX5_goAlongBothLines 177 = .ok (.getfield 12, 3) := by decide +kernel
theorem dX5_goAlongBothLines_180 : decode cX5_goAlongBothLines 180 = .ok (.getfield 269, 3) := by decide +kernel
theorem dX5_goAlongBothLines_183 : decode cX5_goAlongBothLines 183 = .ok (.putfield 195, 3) := by decide +kernel
theorem dX5_goAlongBothLines_186 : decode cX5_goAlongBothLines 186 = .ok (.return_, 1) := by decide +kernel
def B_X5_goAlongBothLines_158 (N : Nat)   (V : sv_V) : Option sv_V := sx_let (sv_I V 70 4 (V.1 70 12)) (fun V1 => sx_let (sv_I V1 70 5 (V1.1 70 13)) (fun V2 => some V2))
set_option maxRecDepth 20000 in
theorem tB_X5_goAlongBothLines_158 {g : sx_G} (hG : sx_Go g) {P : Option Value → sv_V → Prop} {Vr : sv_V} (hP : P none Vr) {N : Nat}    {V : sv_V} (h : B_X5_goAlongBothLines_158 N   V = some Vr) : sv_N g qX5_goAlongBothLines 2 158 [(0, .ref 69)] [] V P := by
  unfold B_X5_goAlongBothLines_158 at h
  refine sx_aload_n (pc := 158) dX5_goAlongBothLines_158 sx_m0 ?_
  refine sv_getO (pc := 159) hG dX5_goAlongBothLines_159 f_5_12 lay_69 rfl cr_69_1 ?_
  refine sx_aload_n (pc := 162) dX5_goAlongBothLines_162 sx_m0 ?_
  refine sv_getO (pc := 163) hG dX5_goAlongBothLines_163 f_5_12 lay_69 rfl cr_69_1 ?_
  refine sv_getI (pc := 166) hG dX5_goAlongBothLines_166 f_5_266 lay_70 rfl ?_
  obtain ⟨V1, hV1⟩ : ∃ z : sv_V, z = sv_I V 70 4 (V.1 70 12) := ⟨_, rfl⟩
  have h := sx_letE hV1 h
  refine sv_putI (pc := 169) hG dX5_goAlongBothLines_169 f_5_192 lay_70 rfl hV1 ?_
  refine sx_aload_n (pc := 172) dX5_goAlongBothLines_172 sx_m0 ?_
  refine sv_getO (pc := 173) hG dX5_goAlongBothLines_173 f_5_12 lay_69 rfl cr_69_1 ?_
  refine sx_aload_n (pc := 176) dX5_goAlongBothLines_176 sx_m0 ?_
  refine sv_getO (pc := 177) hG dX5_goAlongBothLines_177 f_5_12 lay_69 rfl cr_69_1 ?_
  refine sv_getI (pc := 180) hG dX5_goAlongBothLines_180 f_5_269 lay_70 rfl ?_
  obtain ⟨V2, hV2⟩ : ∃ z : sv_V, z = sv_I V1 70 5 (V1.1 70 13) := ⟨_, rfl⟩
  have h := sx_letE hV2 h
  refine sv_putI (pc := 183) hG dX5_goAlongBothLines_183 f_5_195 lay_70 rfl hV2 ?_
  exact sv_vret (pc := 186) dX5_goAlongBothLines_186 rfl h hP
def B_X5_goAlongBothLines_98 (N : Nat)  (l1 : Int32) (l2 : Int32) (l3 : Int32) (l4 : Nat) (l5 : Nat) (V : sv_V) : Option sv_V := (F_X9_useWayForP  V).bind (fun V3 => if lay l4 = .inl 8 then (cr l4 2).bind (fun b6 => (sv_len 0 b6).bind (fun n8 => if sx_in l3 n8 = true then if lay l5 = .inl 8 then (cr l5 2).bind (fun b12 => (sv_len 0 b12).bind (fun n14 => if sx_in l2 n14 = true then (cr l4 3).bind (fun b17 => (sv_len 0 b17).bind (fun n19 => if sx_in l3 n19 = true then (cr l5 3).bind (fun b22 => (sv_len 0 b22).bind (fun n24 => if sx_in l2 n24 = true then (F_X9_findWay N (((V3.1 b6 l3.toNatClampNeg) - (V3.1 b12 l2.toNatClampNeg)).toInt64) (((V3.1 b17 l3.toNatClampNeg) - (V3.1 b22 l2.toNatClampNeg)).toInt64) V3).bind (fun V27 => if l1 = (135 : Int32) then ((F_X9_turnWayLeft  V27).bind (fun V30 => B_X5_goAlongBothLines_158 N   V30)) else (B_X5_goAlongBothLines_158 N   V27)) else none)) else none)) else none)) else none else none)) else none)
set_option maxRecDepth 20000 in
theorem tB_X5_goAlongBothLines_98 {g : sx_G} (hG : sx_Go g) {P : Option Value → sv_V → Prop} {Vr : sv_V} (hP : P none Vr) {N : Nat}   {l1 : Int32} {l2 : Int32} {l3 : Int32} {l4 : Nat} {l5 : Nat} {V : sv_V} (h : B_X5_goAlongBothLines_98 N  l1 l2 l3 l4 l5 V = some Vr) : sv_N g qX5_goAlongBothLines 2 98 [(0, .ref 69), (1, .int l1), (2, .int l2), (3, .int l3), (4, .ref l4), (5, .ref l5)] [] V P := by
  unfold B_X5_goAlongBothLines_98 at h
  refine sx_aload_n (pc := 98) dX5_goAlongBothLines_98 sx_m0 ?_
  refine sv_getO (pc := 99) hG dX5_goAlongBothLines_99 f_5_12 lay_69 rfl cr_69_1 ?_
  obtain ⟨V3, g4, h⟩ := sx_bnd h
  refine sv_cV (pc := 102) (y := qX9_useWayForP) (o := none) (as := []) (V1 := V3) hG dX5_goAlongBothLines_102 l_X5_249 y0X9_useWayForP yvX9_useWayForP rfl (Nat.le_of_ble_eq_true rfl) lay_70 kr_9 (by decide) (Nat.le_of_ble_eq_true rfl) rfl rfl rfl (t_X9_useWayForP hG ⟨rfl, rfl⟩ g4) ?_
  refine sx_aload_n (pc := 105) dX5_goAlongBothLines_105 sx_m0 ?_
  refine sv_getO (pc := 106) hG dX5_goAlongBothLines_106 f_5_12 lay_69 rfl cr_69_1 ?_
  refine sx_aload (pc := 109) dX5_goAlongBothLines_109 sx_m4 ?_
  obtain ⟨g5, h⟩ := sx_grd h
  obtain ⟨b6, g7, h⟩ := sx_bnd h
  refine sv_getA (pc := 111) hG dX5_goAlongBothLines_111 f_5_204 g5 rfl g7 ?_
  refine sx_iload_n (pc := 114) dX5_goAlongBothLines_114 sx_m3 ?_
  obtain ⟨n8, g9, h⟩ := sx_bnd h
  obtain ⟨g10, h⟩ := sx_grd h
  refine sv_iald (pc := 115) hG dX5_goAlongBothLines_115 (sv_len_e g9) g10 ?_
  refine sx_aload (pc := 116) dX5_goAlongBothLines_116 sx_m5 ?_
  obtain ⟨g11, h⟩ := sx_grd h
  obtain ⟨b12, g13, h⟩ := sx_bnd h
  refine sv_getA (pc := 118) hG dX5_goAlongBothLines_118 f_5_204 g11 rfl g13 ?_
  refine sx_iload_n (pc := 121) dX5_goAlongBothLines_121 sx_m2 ?_
  obtain ⟨n14, g15, h⟩ := sx_bnd h
  obtain ⟨g16, h⟩ := sx_grd h
  refine sv_iald (pc := 122) hG dX5_goAlongBothLines_122 (sv_len_e g15) g16 ?_
  refine sx_isub (pc := 123) dX5_goAlongBothLines_123 ?_
  refine sx_i2l (pc := 124) dX5_goAlongBothLines_124 ?_
  refine sx_aload (pc := 125) dX5_goAlongBothLines_125 sx_m4 ?_
  obtain ⟨b17, g18, h⟩ := sx_bnd h
  refine sv_getA (pc := 127) hG dX5_goAlongBothLines_127 f_5_207 g5 rfl g18 ?_
  refine sx_iload_n (pc := 130) dX5_goAlongBothLines_130 sx_m3 ?_
  obtain ⟨n19, g20, h⟩ := sx_bnd h
  obtain ⟨g21, h⟩ := sx_grd h
  refine sv_iald (pc := 131) hG dX5_goAlongBothLines_131 (sv_len_e g20) g21 ?_
  refine sx_aload (pc := 132) dX5_goAlongBothLines_132 sx_m5 ?_
  obtain ⟨b22, g23, h⟩ := sx_bnd h
  refine sv_getA (pc := 134) hG dX5_goAlongBothLines_134 f_5_207 g11 rfl g23 ?_
  refine sx_iload_n (pc := 137) dX5_goAlongBothLines_137 sx_m2 ?_
  obtain ⟨n24, g25, h⟩ := sx_bnd h
  obtain ⟨g26, h⟩ := sx_grd h
  refine sv_iald (pc := 138) hG dX5_goAlongBothLines_138 (sv_len_e g25) g26 ?_
  refine sx_isub (pc := 139) dX5_goAlongBothLines_139 ?_
  refine sx_i2l (pc := 140) dX5_goAlongBothLines_140 ?_
  obtain ⟨V27, g28, h⟩ := sx_bnd h
  refine sv_cV (pc := 141) (y := qX9_findWay) (o := none) (as := [.long (((V3.1 b6 l3.toNatClampNeg) - (V3.1 b12 l2.toNatClampNeg)).toInt64), .long (((V3.1 b17 l3.toNatClampNeg) - (V3.1 b22 l2.toNatClampNeg)).toInt64)]) (V1 := V27) hG dX5_goAlongBothLines_141 l_X5_245 y0X9_findWay yvX9_findWay rfl (Nat.le_of_ble_eq_true rfl) lay_70 kr_9 (by decide) (Nat.le_of_ble_eq_true rfl) rfl rfl rfl (t_X9_findWay hG ⟨rfl, rfl⟩ g28) ?_
  refine sx_iload_n (pc := 144) dX5_goAlongBothLines_144 sx_m1 ?_
  refine sx_sipush (pc := 145) (v := 135) dX5_goAlongBothLines_145 (by decide) ?_
  refine sx_icmp_ne (pc := 148) (tgt := 158) dX5_goAlongBothLines_148 (by decide) (fun c29 => ?_) (fun c29 => ?_)
  · have h := sx_neg c29 h
    refine sx_wk (sx_s1 sx_m0 sx_s0) ?_
    exact tB_X5_goAlongBothLines_158 hG hP  h
  · have h := sx_pos c29 h
    refine sx_aload_n (pc := 151) dX5_goAlongBothLines_151 sx_m0 ?_
    refine sv_getO (pc := 152) hG dX5_goAlongBothLines_152 f_5_12 lay_69 rfl cr_69_1 ?_
    obtain ⟨V30, g31, h⟩ := sx_bnd h
    refine sv_cV (pc := 155) (y := qX9_turnWayLeft) (o := none) (as := []) (V1 := V30) hG dX5_goAlongBothLines_155 l_X5_263 y0X9_turnWayLeft yvX9_turnWayLeft rfl (Nat.le_of_ble_eq_true rfl) lay_70 kr_9 (by decide) (Nat.le_of_ble_eq_true rfl) rfl rfl rfl (t_X9_turnWayLeft hG ⟨rfl, rfl⟩ g31) ?_
    refine sx_wk (sx_s1 sx_m0 sx_s0) ?_
    exact tB_X5_goAlongBothLines_158 hG hP  h
def F_X5_goAlongBothLines (N : Nat) (l1 : Int32) (V : sv_V) : Option sv_V := (F_X5_pop  V).bind (fun (x34, V32) => (F_X5_pop  V32).bind (fun (x37, V35) => (F_X5_zone (1 : Int32) V35).bind (fun (x40, V38) => (F_X5_zone (2 : Int32) V38).bind (fun (x43, V41) => (F_X5_isThere x40 x37 V41).bind (fun (x46, V44) => if x46 = 0 then (some V44) else ((F_X5_isThere x43 x34 V44).bind (fun (x50, V48) => if x50 = 0 then (some V48) else (if lay x40 = .inl 8 then (cr x40 0).bind (fun b53 => (sv_len 0 b53).bind (fun n55 => if sx_in x37 n55 = true then if lay x43 = .inl 8 then (cr x43 0).bind (fun b59 => (sv_len 0 b59).bind (fun n61 => if sx_in x34 n61 = true then (cr x40 1).bind (fun b64 => (sv_len 0 b64).bind (fun n66 => if sx_in x37 n66 = true then (cr x43 1).bind (fun b69 => (sv_len 0 b69).bind (fun n71 => if sx_in x34 n71 = true then (F_X9_findWay N (((V48.1 b53 x37.toNatClampNeg) - (V48.1 b59 x34.toNatClampNeg)).toInt64) (((V48.1 b64 x37.toNatClampNeg) - (V48.1 b69 x34.toNatClampNeg)).toInt64) V48).bind (fun V74 => if l1 = (135 : Int32) then ((F_X9_turnWayLeft  V74).bind (fun V77 => B_X5_goAlongBothLines_98 N  l1 x34 x37 x40 x43 V77)) else (B_X5_goAlongBothLines_98 N  l1 x34 x37 x40 x43 V74)) else none)) else none)) else none)) else none else none)) else none))))))))
set_option maxRecDepth 20000 in
theorem t_X5_goAlongBothLines {g : sx_G} (hG : sx_Go g) {P : Option Value → sv_V → Prop} {Vr : sv_V} (hP : P none Vr) {N : Nat} {l1 : Int32} {V : sv_V} (h : F_X5_goAlongBothLines N l1 V = some Vr) : sv_N g qX5_goAlongBothLines 2 0 [(0, .ref 69), (1, .int l1)] [] V P := by
  unfold F_X5_goAlongBothLines at h
  refine sx_aload_n (pc := 0) dX5_goAlongBothLines_0 sx_m0 ?_
  obtain ⟨⟨x34, V32⟩, g33, h⟩ := sx_bnd h
  refine sv_cV (pc := 1) (y := qX5_pop) (o := (some (.int x34))) (as := []) (V1 := V32) hG dX5_goAlongBothLines_1 l_X5_242 y0X5_pop yvX5_pop rfl (Nat.le_of_ble_eq_true rfl) lay_69 kr_5 (by decide) (Nat.le_of_ble_eq_true rfl) rfl rfl rfl (t_X5_pop hG ⟨rfl, rfl⟩ g33) ?_
  refine sx_istore_n (pc := 4) (lo' := [(2, .int x34), (0, .ref 69), (1, .int l1)]) dX5_goAlongBothLines_4 (by decide) rfl ?_
  refine sx_aload_n (pc := 5) dX5_goAlongBothLines_5 sx_m1 ?_
  obtain ⟨⟨x37, V35⟩, g36, h⟩ := sx_bnd h
  refine sv_cV (pc := 6) (y := qX5_pop) (o := (some (.int x37))) (as := []) (V1 := V35) hG dX5_goAlongBothLines_6 l_X5_242 y0X5_pop yvX5_pop rfl (Nat.le_of_ble_eq_true rfl) lay_69 kr_5 (by decide) (Nat.le_of_ble_eq_true rfl) rfl rfl rfl (t_X5_pop hG ⟨rfl, rfl⟩ g36) ?_
  refine sx_istore_n (pc := 9) (lo' := [(3, .int x37), (2, .int x34), (0, .ref 69), (1, .int l1)]) dX5_goAlongBothLines_9 (by decide) rfl ?_
  refine sx_aload_n (pc := 10) dX5_goAlongBothLines_10 sx_m2 ?_
  refine sx_iconst (pc := 11) (v := 1) dX5_goAlongBothLines_11 (by decide) ?_
  obtain ⟨⟨x40, V38⟩, g39, h⟩ := sx_bnd h
  refine sv_cV (pc := 12) (y := qX5_zone) (o := (some (.ref x40))) (as := [.int (1 : Int32)]) (V1 := V38) hG dX5_goAlongBothLines_12 l_X5_255 y0X5_zone yvX5_zone rfl (Nat.le_of_ble_eq_true rfl) lay_69 kr_5 (by decide) (Nat.le_of_ble_eq_true rfl) rfl rfl rfl (t_X5_zone hG ⟨rfl, rfl⟩ g39) ?_
  refine sx_astore (pc := 15) (lo' := [(4, .ref x40), (3, .int x37), (2, .int x34), (0, .ref 69), (1, .int l1)]) dX5_goAlongBothLines_15 (by decide) rfl ?_
  refine sx_aload_n (pc := 17) dX5_goAlongBothLines_17 sx_m3 ?_
  refine sx_iconst (pc := 18) (v := 2) dX5_goAlongBothLines_18 (by decide) ?_
  obtain ⟨⟨x43, V41⟩, g42, h⟩ := sx_bnd h
  refine sv_cV (pc := 19) (y := qX5_zone) (o := (some (.ref x43))) (as := [.int (2 : Int32)]) (V1 := V41) hG dX5_goAlongBothLines_19 l_X5_255 y0X5_zone yvX5_zone rfl (Nat.le_of_ble_eq_true rfl) lay_69 kr_5 (by decide) (Nat.le_of_ble_eq_true rfl) rfl rfl rfl (t_X5_zone hG ⟨rfl, rfl⟩ g42) ?_
  refine sx_astore (pc := 22) (lo' := [(5, .ref x43), (4, .ref x40), (3, .int x37), (2, .int x34), (0, .ref 69), (1, .int l1)]) dX5_goAlongBothLines_22 (by decide) rfl ?_
  refine sx_aload_n (pc := 24) dX5_goAlongBothLines_24 sx_m4 ?_
  refine sx_aload (pc := 25) dX5_goAlongBothLines_25 sx_m1 ?_
  refine sx_iload_n (pc := 27) dX5_goAlongBothLines_27 sx_m2 ?_
  obtain ⟨⟨x46, V44⟩, g45, h⟩ := sx_bnd h
  refine sv_cV (pc := 28) (y := qX5_isThere) (o := (some (.int x46))) (as := [.ref x40, .int x37]) (V1 := V44) hG dX5_goAlongBothLines_28 l_X5_259 y0X5_isThere yvX5_isThere rfl (Nat.le_of_ble_eq_true rfl) lay_69 kr_5 (by decide) (Nat.le_of_ble_eq_true rfl) rfl rfl rfl (t_X5_isThere hG ⟨rfl, rfl⟩ g45) ?_
  refine sx_if_eq (pc := 31) (tgt := 44) dX5_goAlongBothLines_31 (by decide) (fun c47 => ?_) (fun c47 => ?_)
  · have h := sx_pos c47 h
    exact sv_vret (pc := 44) dX5_goAlongBothLines_44 rfl h hP
  · have h := sx_neg c47 h
    refine sx_aload_n (pc := 34) dX5_goAlongBothLines_34 sx_m4 ?_
    refine sx_aload (pc := 35) dX5_goAlongBothLines_35 sx_m0 ?_
    refine sx_iload_n (pc := 37) dX5_goAlongBothLines_37 sx_m3 ?_
    obtain ⟨⟨x50, V48⟩, g49, h⟩ := sx_bnd h
    refine sv_cV (pc := 38) (y := qX5_isThere) (o := (some (.int x50))) (as := [.ref x43, .int x34]) (V1 := V48) hG dX5_goAlongBothLines_38 l_X5_259 y0X5_isThere yvX5_isThere rfl (Nat.le_of_ble_eq_true rfl) lay_69 kr_5 (by decide) (Nat.le_of_ble_eq_true rfl) rfl rfl rfl (t_X5_isThere hG ⟨rfl, rfl⟩ g49) ?_
    refine sx_if_ne (pc := 41) (tgt := 45) dX5_goAlongBothLines_41 (by decide) (fun c51 => ?_) (fun c51 => ?_)
    · have h := sx_neg c51 h
      refine sx_aload_n (pc := 45) dX5_goAlongBothLines_45 sx_m4 ?_
      refine sv_getO (pc := 46) hG dX5_goAlongBothLines_46 f_5_12 lay_69 rfl cr_69_1 ?_
      refine sx_aload (pc := 49) dX5_goAlongBothLines_49 sx_m1 ?_
      obtain ⟨g52, h⟩ := sx_grd h
      obtain ⟨b53, g54, h⟩ := sx_bnd h
      refine sv_getA (pc := 51) hG dX5_goAlongBothLines_51 f_5_198 g52 rfl g54 ?_
      refine sx_iload_n (pc := 54) dX5_goAlongBothLines_54 sx_m2 ?_
      obtain ⟨n55, g56, h⟩ := sx_bnd h
      obtain ⟨g57, h⟩ := sx_grd h
      refine sv_iald (pc := 55) hG dX5_goAlongBothLines_55 (sv_len_e g56) g57 ?_
      refine sx_aload (pc := 56) dX5_goAlongBothLines_56 sx_m0 ?_
      obtain ⟨g58, h⟩ := sx_grd h
      obtain ⟨b59, g60, h⟩ := sx_bnd h
      refine sv_getA (pc := 58) hG dX5_goAlongBothLines_58 f_5_198 g58 rfl g60 ?_
      refine sx_iload_n (pc := 61) dX5_goAlongBothLines_61 sx_m3 ?_
      obtain ⟨n61, g62, h⟩ := sx_bnd h
      obtain ⟨g63, h⟩ := sx_grd h
      refine sv_iald (pc := 62) hG dX5_goAlongBothLines_62 (sv_len_e g62) g63 ?_
      refine sx_isub (pc := 63) dX5_goAlongBothLines_63 ?_
      refine sx_i2l (pc := 64) dX5_goAlongBothLines_64 ?_
      refine sx_aload (pc := 65) dX5_goAlongBothLines_65 sx_m1 ?_
      obtain ⟨b64, g65, h⟩ := sx_bnd h
      refine sv_getA (pc := 67) hG dX5_goAlongBothLines_67 f_5_201 g52 rfl g65 ?_
      refine sx_iload_n (pc := 70) dX5_goAlongBothLines_70 sx_m2 ?_
      obtain ⟨n66, g67, h⟩ := sx_bnd h
      obtain ⟨g68, h⟩ := sx_grd h
      refine sv_iald (pc := 71) hG dX5_goAlongBothLines_71 (sv_len_e g67) g68 ?_
      refine sx_aload (pc := 72) dX5_goAlongBothLines_72 sx_m0 ?_
      obtain ⟨b69, g70, h⟩ := sx_bnd h
      refine sv_getA (pc := 74) hG dX5_goAlongBothLines_74 f_5_201 g58 rfl g70 ?_
      refine sx_iload_n (pc := 77) dX5_goAlongBothLines_77 sx_m3 ?_
      obtain ⟨n71, g72, h⟩ := sx_bnd h
      obtain ⟨g73, h⟩ := sx_grd h
      refine sv_iald (pc := 78) hG dX5_goAlongBothLines_78 (sv_len_e g72) g73 ?_
      refine sx_isub (pc := 79) dX5_goAlongBothLines_79 ?_
      refine sx_i2l (pc := 80) dX5_goAlongBothLines_80 ?_
      obtain ⟨V74, g75, h⟩ := sx_bnd h
      refine sv_cV (pc := 81) (y := qX9_findWay) (o := none) (as := [.long (((V48.1 b53 x37.toNatClampNeg) - (V48.1 b59 x34.toNatClampNeg)).toInt64), .long (((V48.1 b64 x37.toNatClampNeg) - (V48.1 b69 x34.toNatClampNeg)).toInt64)]) (V1 := V74) hG dX5_goAlongBothLines_81 l_X5_245 y0X9_findWay yvX9_findWay rfl (Nat.le_of_ble_eq_true rfl) lay_70 kr_9 (by decide) (Nat.le_of_ble_eq_true rfl) rfl rfl rfl (t_X9_findWay hG ⟨rfl, rfl⟩ g75) ?_
      refine sx_iload_n (pc := 84) dX5_goAlongBothLines_84 sx_m5 ?_
      refine sx_sipush (pc := 85) (v := 135) dX5_goAlongBothLines_85 (by decide) ?_
      refine sx_icmp_ne (pc := 88) (tgt := 98) dX5_goAlongBothLines_88 (by decide) (fun c76 => ?_) (fun c76 => ?_)
      · have h := sx_neg c76 h
        refine sx_wk (sx_s1 sx_m4 (sx_s1 sx_m5 (sx_s1 sx_m3 (sx_s1 sx_m2 (sx_s1 sx_m1 (sx_s1 sx_m0 sx_s0)))))) ?_
        exact tB_X5_goAlongBothLines_98 hG hP  h
      · have h := sx_pos c76 h
        refine sx_aload_n (pc := 91) dX5_goAlongBothLines_91 sx_m4 ?_
        refine sv_getO (pc := 92) hG dX5_goAlongBothLines_92 f_5_12 lay_69 rfl cr_69_1 ?_
        obtain ⟨V77, g78, h⟩ := sx_bnd h
        refine sv_cV (pc := 95) (y := qX9_turnWayLeft) (o := none) (as := []) (V1 := V77) hG dX5_goAlongBothLines_95 l_X5_263 y0X9_turnWayLeft yvX9_turnWayLeft rfl (Nat.le_of_ble_eq_true rfl) lay_70 kr_9 (by decide) (Nat.le_of_ble_eq_true rfl) rfl rfl rfl (t_X9_turnWayLeft hG ⟨rfl, rfl⟩ g78) ?_
        refine sx_wk (sx_s1 sx_m4 (sx_s1 sx_m5 (sx_s1 sx_m3 (sx_s1 sx_m2 (sx_s1 sx_m1 (sx_s1 sx_m0 sx_s0)))))) ?_
        exact tB_X5_goAlongBothLines_98 hG hP  h
    · have h := sx_pos c51 h
      exact sv_vret (pc := 44) dX5_goAlongBothLines_44 rfl h hP
