/-! methods: X12_more, X2_findGlyph, X5_goAlongNumbers, X5_goAlongLine, X5_goAlongBothLines, X5_flowCodes, X5_stackCodes, X5_memoryCodes, X5_fillUntouched -/
theorem dX12_more_0 : decode cX12_more 0 = .ok (.iload_n 1, 1) := by decide +kernel
theorem dX12_more_1 : decode cX12_more 1 = .ok (.tableswitch 644 128 141 #[71, 193, 193, 644, 644, 293, 314, 314, 512, 541, 546, 644, 644, 623], 71) := by decide +kernel
theorem dX12_more_72 : decode cX12_more 72 = .ok (.aload_n 0, 1) := by decide +kernel
theorem dX12_more_73 : decode cX12_more 73 = .ok (.aload_n 0, 1) := by decide +kernel
theorem dX12_more_74 : decode cX12_more 74 = .ok (.getfield 469, 3) := by decide +kernel
theorem dX12_more_77 : decode cX12_more 77 = .ok (.invokevirtual 576, 3) := by decide +kernel
theorem dX12_more_80 : decode cX12_more 80 = .ok (.ifCond .eq 113, 3) := by decide +kernel
theorem dX12_more_83 : decode cX12_more 83 = .ok (.iconst 0, 1) := by decide +kernel
theorem dX12_more_84 : decode cX12_more 84 = .ok (.istore_n 2, 1) := by decide +kernel
theorem dX12_more_85 : decode cX12_more 85 = .ok (.iload_n 2, 1) := by decide +kernel
theorem dX12_more_86 : decode cX12_more 86 = .ok (.aload_n 0, 1) := by decide +kernel
theorem dX12_more_87 : decode cX12_more 87 = .ok (.getfield 469, 3) := by decide +kernel
theorem dX12_more_90 : decode cX12_more 90 = .ok (.if_icmp .ge 98, 3) := by decide +kernel
theorem dX12_more_93 : decode cX12_more 93 = .ok (.aload_n 0, 1) := by decide +kernel
theorem dX12_more_94 : decode cX12_more 94 = .ok (.getfield 409, 3) := by decide +kernel
theorem dX12_more_97 : decode cX12_more 97 = .ok (.ifCond .ne 91, 3) := by decide +kernel
theorem dX12_more_100 : decode cX12_more 100 = .ok (.aload_n 0, 1) := by decide +kernel
theorem dX12_more_101 : decode cX12_more 101 = .ok (.aload_n 0, 1) := by decide +kernel
theorem dX12_more_102 : decode cX12_more 102 = .ok (.getfield 460, 3) := by decide +kernel
theorem dX12_more_105 : decode cX12_more 105 = .ok (.aload_n 0, 1) := by decide +kernel
theorem dX12_more_106 : decode cX12_more 106 = .ok (.invokevirtual 579, 3) := by decide +kernel
theorem dX12_more_109 : decode cX12_more 109 = .ok (.invokevirtual 582, 3) := by decide +kernel
theorem dX12_more_112 : decode cX12_more 112 = .ok (.istore_n 3, 1) := by decide +kernel
theorem dX12_more_113 : decode cX12_more 113 = .ok (.aload_n 0, 1) := by decide +kernel
theorem dX12_more_114 : decode cX12_more 114 = .ok (.getfield 409, 3) := by decide +kernel
theorem dX12_more_117 : decode cX12_more 117 = .ok (.ifCond .ne 32, 3) := by decide +kernel
theorem dX12_more_120 : decode cX12_more 120 = .ok (.aload_n 0, 1) := by decide +kernel
theorem dX12_more_121 : decode cX12_more 121 = .ok (.getfield 460, 3) := by decide +kernel
theorem dX12_more_124 : decode cX12_more 124 = .ok (.iconst 1, 1) := by decide +kernel
theorem dX12_more_125 : decode cX12_more 125 = .ok (.if_icmp .ne 16, 3) := by decide +kernel
theorem dX12_more_128 : decode cX12_more 128 = .ok (.iload_n 3, 1) := by decide +kernel
theorem dX12_more_129 : decode cX12_more 129 = .ok (.bipush 102, 2) := by decide +kernel
theorem dX12_more_131 : decode cX12_more 131 = .ok (.isub, 1) := by decide +kernel
theorem dX12_more_132 : decode cX12_more 132 = .ok (.aload_n 0, 1) := by decide +kernel
theorem dX12_more_133 : decode cX12_more 133 = .ok (.getfield 514, 3) := by decide +kernel
theorem dX12_more_136 : decode cX12_more 136 = .ok (.iconst 2, 1) := by decide +kernel
theorem dX12_more_137 : decode cX12_more 137 = .ok (.isub, 1) := by decide +kernel
theorem dX12_more_138 : decode cX12_more 138 = .ok (.if_icmp .lt 11, 3) := by decide +kernel
theorem dX12_more_141 : decode cX12_more 141 = .ok (.aload_n 0, 1) := by decide +kernel
theorem dX12_more_142 : decode cX12_more 142 = .ok (.iconst 5, 1) := by decide +kernel
theorem dX12_more_143 : decode cX12_more 143 = .ok (.invokevirtual 421, 3) := by decide +kernel
theorem dX12_more_146 : decode cX12_more 146 = .ok (.goto 36, 3) := by decide +kernel
theorem dX12_more_149 : decode cX12_more 149 = .ok (.aload_n 0, 1) := by decide +kernel
theorem dX12_more_150 : decode cX12_more 150 = .ok (.getfield 409, 3) := by decide +kernel
theorem dX12_more_153 : decode cX12_more 153 = .ok (.ifCond .ne 29, 3) := by decide +kernel
theorem dX12_more_156 : decode cX12_more 156 = .ok (.aload_n 0, 1) := by decide +kernel
theorem dX12_more_157 : decode cX12_more 157 = .ok (.getfield 85, 3) := by decide +kernel
theorem dX12_more_160 : decode cX12_more 160 = .ok (.iload_n 3, 1) := by decide +kernel
theorem dX12_more_161 : decode cX12_more 161 = .ok (.bipush 102, 2) := by decide +kernel
theorem dX12_more_163 : decode cX12_more 163 = .ok (.isub, 1) := by decide +kernel
theorem dX12_more_164 : decode cX12_more 164 = .ok (.aload_n 0, 1) := by decide +kernel
theorem dX12_more_165 : decode cX12_more 165 = .ok (.getfield 85, 3) := by decide +kernel
theorem dX12_more_168 : decode cX12_more 168 = .ok (.iload_n 3, 1) := by decide +kernel
theorem dX12_more_169 : decode cX12_more 169 = .ok (.bipush 102, 2) := by decide +kernel
theorem dX12_more_171 : decode cX12_more 171 = .ok (.isub, 1) := by decide +kernel
theorem dX12_more_172 : decode cX12_more 172 = .ok (.baload, 1) := by decide +kernel
theorem dX12_more_173 : decode cX12_more 173 = .ok (.ifCond .ne 7, 3) := by decide +kernel
theorem dX12_more_176 : decode cX12_more 176 = .ok (.iconst 1, 1) := by decide +kernel
theorem dX12_more_177 : decode cX12_more 177 = .ok (.goto 4, 3) := by decide +kernel
theorem dX12_more_180 : decode cX12_more 180 = .ok (.iconst 0, 1) := by decide +kernel
theorem dX12_more_181 : decode cX12_more 181 = .ok (.bastore, 1) := by decide +kernel
theorem dX12_more_182 : decode cX12_more 182 = .ok (.iinc 2 1, 3) := by decide +kernel
theorem dX12_more_185 : decode cX12_more 185 = .ok (.goto (-100), 3) := by decide +kernel
theorem dX12_more_188 : decode cX12_more 188 = .ok (.aload_n 0, 1) := by decide +kernel
theorem dX12_more_189 : decode cX12_more 189 = .ok (.iconst 1, 1) := by decide +kernel
theorem dX12_more_190 : decode cX12_more 190 = .ok (.putfield 469, 3) := by decide +kernel
theorem dX12_more_193 : decode cX12_more 193 = .ok (.return_, 1) := by decide +kernel
theorem dX12_more_194 : decode cX12_more 194 = .ok (.aload_n 0, 1) := by decide +kernel
theorem dX12_more_195 : decode cX12_more 195 = .ok (.iconst 2, 1) := by decide +kernel
theorem dX12_more_196 : decode cX12_more 196 = .ok (.invokevirtual 576, 3) := by decide +kernel
theorem dX12_more_199 : decode cX12_more 199 = .ok (.ifCond .eq 94, 3) := by decide +kernel
theorem dX12_more_202 : decode cX12_more 202 = .ok (.aload_n 0, 1) := by decide +kernel
theorem dX12_more_203 : decode cX12_more 203 = .ok (.invokevirtual 579, 3) := by decide +kernel
theorem dX12_more_206 : decode cX12_more 206 = .ok (.istore_n 2, 1) := by decide +kernel
theorem dX12_more_207 : decode cX12_more 207 = .ok (.aload_n 0, 1) := by decide +kernel
theorem dX12_more_208 : decode cX12_more 208 = .ok (.invokevirtual 579, 3) := by decide +kernel
theorem dX12_more_211 : decode cX12_more 211 = .ok (.istore_n 3, 1) := by decide +kernel
theorem dX12_more_212 : decode cX12_more 212 = .ok (.aload_n 0, 1) := by decide +kernel
theorem dX12_more_213 : decode cX12_more 213 = .ok (.getfield 706, 3) := by decide +kernel
theorem dX12_more_216 : decode cX12_more 216 = .ok (.ifCond .ne 7, 3) := by decide +kernel
theorem dX12_more_219 : decode cX12_more 219 = .ok (.iconst 0, 1) := by decide +kernel
theorem dX12_more_220 : decode cX12_more 220 = .ok (.goto 16, 3) := by decide +kernel
theorem dX12_more_223 : decode cX12_more 223 = .ok (.aload_n 0, 1) := by decide +kernel
theorem dX12_more_224 : decode cX12_more 224 = .ok (.getfield 88, 3) := by decide +kernel
theorem dX12_more_227 : decode cX12_more 227 = .ok (.aload_n 0, 1) := by decide +kernel
theorem dX12_more_228 : decode cX12_more 228 = .ok (.getfield 706, 3) := by decide +kernel
theorem dX12_more_231 : decode cX12_more 231 = .ok (.iconst 1, 1) := by decide +kernel
theorem dX12_more_232 : decode cX12_more 232 = .ok (.isub, 1) := by decide +kernel
theorem dX12_more_233 : decode cX12_more 233 = .ok (.iaload, 1) := by decide +kernel
theorem dX12_more_234 : decode cX12_more 234 = .ok (.iconst 1, 1) := by decide +kernel
theorem dX12_more_235 : decode cX12_more 235 = .ok (.iadd, 1) := by decide +kernel
theorem dX12_more_236 : decode cX12_more 236 = .ok (.istore 4, 2) := by decide +kernel
theorem dX12_more_238 : decode cX12_more 238 = .ok (.iload_n 3, 1) := by decide +kernel
theorem dX12_more_239 : decode cX12_more 239 = .ok (.iload_n 2, 1) := by decide +kernel
theorem dX12_more_240 : decode cX12_more 240 = .ok (.if_icmp .gt 19, 3) := by decide +kernel
theorem dX12_more_243 : decode cX12_more 243 = .ok (.iload_n 3, 1) := by decide +kernel
theorem dX12_more_244 : decode cX12_more 244 = .ok (.ifCond .lt 9, 3) := by decide +kernel
theorem dX12_more_247 : decode cX12_more 247 = .ok (.iload_n 2, 1) := by decide +kernel
theorem dX12_more_248 : decode cX12_more 248 = .ok (.iload 4, 2) := by decide +kernel
theorem dX12_more_250 : decode cX12_more 250 = .ok (.if_icmp .lt 9, 3) := by decide +kernel
theorem dX12_more_253 : decode cX12_more 253 = .ok (.aload_n 0, 1) := by decide +kernel
theorem dX12_more_254 : decode cX12_more 254 = .ok (.iconst 5, 1) := by decide +kernel
theorem dX12_more_255 : decode cX12_more 255 = .ok (.invokevirtual 421, 3) := by decide +kernel
theorem dX12_more_258 : decode cX12_more 258 = .ok (.return_, 1) := by decide +kernel
theorem dX12_more_259 : decode cX12_more 259 = .ok (.iload_n 3, 1) := by decide +kernel
theorem dX12_more_260 : decode cX12_more 260 = .ok (.istore 5, 2) := by decide +kernel
theorem dX12_more_262 : decode cX12_more 262 = .ok (.iload 5, 2) := by decide +kernel
theorem dX12_more_264 : decode cX12_more 264 = .ok (.iload_n 2, 1) := by decide +kernel
theorem dX12_more_265 : decode cX12_more 265 = .ok (.if_icmp .gt 28, 3) := by decide +kernel
theorem dX12_more_268 : decode cX12_more 268 = .ok (.aload_n 0, 1) := by decide +kernel
theorem dX12_more_269 : decode cX12_more 269 = .ok (.getfield 85, 3) := by decide +kernel
theorem dX12_more_272 : decode cX12_more 272 = .ok (.iload 5, 2) := by decide +kernel
theorem dX12_more_274 : decode cX12_more 274 = .ok (.iload_n 1, 1) := by decide +kernel
theorem dX12_more_275 : decode cX12_more 275 = .ok (.sipush 129, 3) := by decide +kernel
theorem dX12_more_278 : decode cX12_more 278 = .ok (.if_icmp .ne 7, 3) := by decide +kernel
theorem dX12_more_281 : decode cX12_more 281 = .ok (.iconst 1, 1) := by decide +kernel
theorem dX12_more_282 : decode cX12_more 282 = .ok (.goto 4, 3) := by decide +kernel
theorem dX12_more_285 : decode cX12_more 285 = .ok (.iconst 0, 1) := by decide +kernel
theorem dX12_more_286 : decode cX12_more 286 = .ok (.bastore, 1) := by decide +kernel
theorem dX12_more_287 : decode cX12_more 287 = .ok (.iinc 5 1, 3) := by decide +kernel
theorem dX12_more_290 : decode cX12_more 290 = .ok (.goto (-28), 3) := by decide +kernel
theorem dX12_more_293 : decode cX12_more 293 = .ok (.return_, 1) := by decide +kernel
theorem dX12_more_294 : decode cX12_more 294 = .ok (.aload_n 0, 1) := by decide +kernel
theorem dX12_more_295 : decode cX12_more 295 = .ok (.aload_n 0, 1) := by decide +kernel
theorem dX12_more_296 : decode cX12_more 296 = .ok (.iconst 1, 1) := by decide +kernel
theorem dX12_more_297 : decode cX12_more 297 = .ok (.invokevirtual 576, 3) := by decide +kernel
theorem dX12_more_300 : decode cX12_more 300 = .ok (.ifCond .eq 10, 3) := by decide +kernel
theorem dX12_more_303 : decode cX12_more 303 = .ok (.aload_n 0, 1) := by decide +kernel
theorem dX12_more_304 : decode cX12_more 304 = .ok (.invokevirtual 579, 3) := by decide +kernel
theorem dX12_more_307 : decode cX12_more 307 = .ok (.goto 4, 3) := by decide +kernel
theorem dX12_more_310 : decode cX12_more 310 = .ok (.iconst 0, 1) := by decide +kernel
theorem dX12_more_311 : decode cX12_more 311 = .ok (.putfield 739, 3) := by decide +kernel
theorem dX12_more_314 : decode cX12_more 314 = .ok (.return_, 1) := by decide +kernel
theorem dX12_more_315 : decode cX12_more 315 = .ok (.aload_n 0, 1) := by decide +kernel
theorem dX12_more_316 : decode cX12_more 316 = .ok (.iconst 2, 1) := by decide +kernel
theorem dX12_more_317 : decode cX12_more 317 = .ok (.invokevirtual 576, 3) := by decide +kernel
theorem dX12_more_320 : decode cX12_more 320 = .ok (.ifCond .eq 192, 3) := by decide +kernel
theorem dX12_more_323 : decode cX12_more 323 = .ok (.aload_n 0, 1) := by decide +kernel
theorem dX12_more_324 : decode cX12_more 324 = .ok (.aload_n 0, 1) := by decide +kernel
theorem dX12_more_325 : decode cX12_more 325 = .ok (.getfield 466, 3) := by decide +kernel
theorem dX12_more_328 : decode cX12_more 328 = .ok (.aload_n 0, 1) := by decide +kernel
theorem dX12_more_329 : decode cX12_more 329 = .ok (.invokevirtual 579, 3) := by decide +kernel
theorem dX12_more_332 : decode cX12_more 332 = .ok (.invokevirtual 582, 3) := by decide +kernel
theorem dX12_more_335 : decode cX12_more 335 = .ok (.istore_n 2, 1) := by decide +kernel
theorem dX12_more_336 : decode cX12_more 336 = .ok (.aload_n 0, 1) := by decide +kernel
theorem dX12_more_337 : decode cX12_more 337 = .ok (.aload_n 0, 1) := by decide +kernel
theorem dX12_more_338 : decode cX12_more 338 = .ok (.getfield 463, 3) := by decide +kernel
theorem dX12_more_341 : decode cX12_more 341 = .ok (.aload_n 0, 1) := by decide +kernel
theorem dX12_more_342 : decode cX12_more 342 = .ok (.invokevirtual 579, 3) := by decide +kernel
theorem dX12_more_345 : decode cX12_more 345 = .ok (.invokevirtual 582, 3) := by decide +kernel
theorem dX12_more_348 : decode cX12_more 348 = .ok (.istore_n 3, 1) := by decide +kernel
theorem dX12_more_349 : decode cX12_more 349 = .ok (.aload_n 0, 1) := by decide +kernel
theorem dX12_more_350 : decode cX12_more 350 = .ok (.getfield 409, 3) := by decide +kernel
theorem dX12_more_353 : decode cX12_more 353 = .ok (.ifCond .ne 159, 3) := by decide +kernel
theorem dX12_more_356 : decode cX12_more 356 = .ok (.iload_n 1, 1) := by decide +kernel
theorem dX12_more_357 : decode cX12_more 357 = .ok (.sipush 135, 3) := by decide +kernel
theorem dX12_more_360 : decode cX12_more 360 = .ok (.if_icmp .ne 7, 3) := by decide +kernel
theorem dX12_more_363 : decode cX12_more 363 = .ok (.iconst 1, 1) := by decide +kernel
theorem dX12_more_364 : decode cX12_more 364 = .ok (.goto 4, 3) := by decide +kernel
theorem dX12_more_367 : decode cX12_more 367 = .ok (.iconst 0, 1) := by decide +kernel
theorem dX12_more_368 : decode cX12_more 368 = .ok (.istore 4, 2) := by decide +kernel
theorem dX12_more_370 : decode cX12_more 370 = .ok (.aload_n 0, 1) := by decide +kernel
theorem dX12_more_371 : decode cX12_more 371 = .ok (.aload_n 0, 1) := by decide +kernel
theorem dX12_more_372 : decode cX12_more 372 = .ok (.getfield 70, 3) := by decide +kernel
theorem dX12_more_375 : decode cX12_more 375 = .ok (.iload_n 3, 1) := by decide +kernel
theorem dX12_more_376 : decode cX12_more 376 = .ok (.iaload, 1) := by decide +kernel
theorem dX12_more_377 : decode cX12_more 377 = .ok (.aload_n 0, 1) := by decide +kernel
theorem dX12_more_378 : decode cX12_more 378 = .ok (.getfield 70, 3) := by decide +kernel
theorem dX12_more_381 : decode cX12_more 381 = .ok (.iload_n 2, 1) := by decide +kernel
theorem dX12_more_382 : decode cX12_more 382 = .ok (.iaload, 1) := by decide +kernel
theorem dX12_more_383 : decode cX12_more 383 = .ok (.isub, 1) := by decide +kernel
theorem dX12_more_384 : decode cX12_more 384 = .ok (.aload_n 0, 1) := by decide +kernel
theorem dX12_more_385 : decode cX12_more 385 = .ok (.getfield 73, 3) := by decide +kernel
theorem dX12_more_388 : decode cX12_more 388 = .ok (.iload_n 3, 1) := by decide +kernel
theorem dX12_more_389 : decode cX12_more 389 = .ok (.iaload, 1) := by decide +kernel
theorem dX12_more_390 : decode cX12_more 390 = .ok (.aload_n 0, 1) := by decide +kernel
theorem dX12_more_391 : decode cX12_more 391 = .ok (.getfield 73, 3) := by decide +kernel
theorem dX12_more_394 : decode cX12_more 394 = .ok (.iload_n 2, 1) := by decide +kernel
theorem dX12_more_395 : decode cX12_more 395 = .ok (.iaload, 1) := by decide +kernel
theorem dX12_more_396 : decode cX12_more 396 = .ok (.isub, 1) := by decide +kernel
theorem dX12_more_397 : decode cX12_more 397 = .ok (.invokevirtual 586, 3) := by decide +kernel
theorem dX12_more_400 : decode cX12_more 400 = .ok (.aload_n 0, 1) := by decide +kernel
theorem dX12_more_401 : decode cX12_more 401 = .ok (.iload 4, 2) := by decide +kernel
theorem dX12_more_403 : decode cX12_more 403 = .ok (.ifCond .eq 11, 3) := by decide +kernel
theorem dX12_more_406 : decode cX12_more 406 = .ok (.aload_n 0, 1) := by decide +kernel
theorem dX12_more_407 : decode cX12_more 407 = .ok (.getfield 536, 3) := by decide +kernel
theorem dX12_more_410 : decode cX12_more 410 = .ok (.ineg, 1) := by decide +kernel
theorem dX12_more_411 : decode cX12_more 411 = .ok (.goto 7, 3) := by decide +kernel
theorem dX12_more_414 : decode cX12_more 414 = .ok (.aload_n 0, 1) := by decide +kernel
theorem dX12_more_415 : decode cX12_more 415 = .ok (.getfield 533, 3) := by decide +kernel
theorem dX12_more_418 : decode cX12_more 418 = .ok (.putfield 445, 3) := by decide +kernel
theorem dX12_more_421 : decode cX12_more 421 = .ok (.aload_n 0, 1) := by decide +kernel
theorem dX12_more_422 : decode cX12_more 422 = .ok (.iload 4, 2) := by decide +kernel
theorem dX12_more_424 : decode cX12_more 424 = .ok (.ifCond .eq 10, 3) := by decide +kernel
theorem dX12_more_427 : decode cX12_more 427 = .ok (.aload_n 0, 1) := by decide +kernel
theorem dX12_more_428 : decode cX12_more 428 = .ok (.getfield 533, 3) := by decide +kernel
theorem dX12_more_431 : decode cX12_more 431 = .ok (.goto 7, 3) := by decide +kernel
theorem dX12_more_434 : decode cX12_more 434 = .ok (.aload_n 0, 1) := by decide +kernel
theorem dX12_more_435 : decode cX12_more 435 = .ok (.getfield 536, 3) := by decide +kernel
theorem dX12_more_438 : decode cX12_more 438 = .ok (.putfield 448, 3) := by decide +kernel
theorem dX12_more_441 : decode cX12_more 441 = .ok (.aload_n 0, 1) := by decide +kernel
theorem dX12_more_442 : decode cX12_more 442 = .ok (.aload_n 0, 1) := by decide +kernel
theorem dX12_more_443 : decode cX12_more 443 = .ok (.getfield 76, 3) := by decide +kernel
theorem dX12_more_446 : decode cX12_more 446 = .ok (.iload_n 3, 1) := by decide +kernel
theorem dX12_more_447 : decode cX12_more 447 = .ok (.iaload, 1) := by decide +kernel
theorem dX12_more_448 : decode cX12_more 448 = .ok (.aload_n 0, 1) := by decide +kernel
theorem dX12_more_449 : decode cX12_more 449 = .ok (.getfield 76, 3) := by decide +kernel
theorem dX12_more_452 : decode cX12_more 452 = .ok (.iload_n 2, 1) := by decide +kernel
theorem dX12_more_453 : decode cX12_more 453 = .ok (.iaload, 1) := by decide +kernel
theorem dX12_more_454 : decode cX12_more 454 = .ok (.isub, 1) := by decide +kernel
theorem dX12_more_455 : decode cX12_more 455 = .ok (.aload_n 0, 1) := by decide +kernel
theorem dX12_more_456 : decode cX12_more 456 = .ok (.getfield 79, 3) := by decide +kernel
theorem dX12_more_459 : decode cX12_more 459 = .ok (.iload_n 3, 1) := by decide +kernel
theorem dX12_more_460 : decode cX12_more 460 = .ok (.iaload, 1) := by decide +kernel
theorem dX12_more_461 : decode cX12_more 461 = .ok (.aload_n 0, 1) := by decide +kernel
theorem dX12_more_462 : decode cX12_more 462 = .ok (.getfield 79, 3) := by decide +kernel
theorem dX12_more_465 : decode cX12_more 465 = .ok (.iload_n 2, 1) := by decide +kernel
theorem dX12_more_466 : decode cX12_more 466 = .ok (.iaload, 1) := by decide +kernel
theorem dX12_more_467 : decode cX12_more 467 = .ok (.isub, 1) := by decide +kernel
theorem dX12_more_468 : decode cX12_more 468 = .ok (.invokevirtual 586, 3) := by decide +kernel
theorem dX12_more_471 : decode cX12_more 471 = .ok (.aload_n 0, 1) := by decide +kernel
theorem dX12_more_472 : decode cX12_more 472 = .ok (.iload 4, 2) := by decide +kernel
theorem dX12_more_474 : decode cX12_more 474 = .ok (.ifCond .eq 11, 3) := by decide +kernel
theorem dX12_more_477 : decode cX12_more 477 = .ok (.aload_n 0, 1) := by decide +kernel
theorem dX12_more_478 : decode cX12_more 478 = .ok (.getfield 536, 3) := by decide +kernel
theorem dX12_more_481 : decode cX12_more 481 = .ok (.ineg, 1) := by decide +kernel
theorem dX12_more_482 : decode cX12_more 482 = .ok (.goto 7, 3) := by decide +kernel
theorem dX12_more_485 : decode cX12_more 485 = .ok (.aload_n 0, 1) := by decide +kernel
theorem dX12_more_486 : decode cX12_more 486 = .ok (.getfield 533, 3) := by decide +kernel
theorem dX12_more_489 : decode cX12_more 489 = .ok (.putfield 439, 3) := by decide +kernel
theorem dX12_more_492 : decode cX12_more 492 = .ok (.aload_n 0, 1) := by decide +kernel
theorem dX12_more_493 : decode cX12_more 493 = .ok (.iload 4, 2) := by decide +kernel
theorem dX12_more_495 : decode cX12_more 495 = .ok (.ifCond .eq 10, 3) := by decide +kernel
theorem dX12_more_498 : decode cX12_more 498 = .ok (.aload_n 0, 1) := by decide +kernel
theorem dX12_more_499 : decode cX12_more 499 = .ok (.getfield 533, 3) := by decide +kernel
theorem dX12_more_502 : decode cX12_more 502 = .ok (.goto 7, 3) := by decide +kernel
theorem dX12_more_505 : decode cX12_more 505 = .ok (.aload_n 0, 1) := by decide +kernel
theorem dX12_more_506 : decode cX12_more 506 = .ok (.getfield 536, 3) := by decide +kernel
theorem dX12_more_509 : decode cX12_more 509 = .ok (.putfield 442, 3) := by decide +kernel
theorem dX12_more_512 : decode cX12_more 512 = .ok (.return_, 1) := by decide +kernel
theorem dX12_more_513 : decode cX12_more 513 = .ok (.aload_n 0, 1) := by decide +kernel
theorem dX12_more_514 : decode cX12_more 514 = .ok (.iconst 1, 1) := by decide +kernel
theorem dX12_more_515 : decode cX12_more 515 = .ok (.invokevirtual 576, 3) := by decide +kernel
theorem dX12_more_518 : decode cX12_more 518 = .ok (.ifCond .eq 23, 3) := by decide +kernel
theorem dX12_more_521 : decode cX12_more 521 = .ok (.aload_n 0, 1) := by decide +kernel
theorem dX12_more_522 : decode cX12_more 522 = .ok (.aload_n 0, 1) := by decide +kernel
theorem dX12_more_523 : decode cX12_more 523 = .ok (.invokevirtual 579, 3) := by decide +kernel
theorem dX12_more_526 : decode cX12_more 526 = .ok (.iconst 1, 1) := by decide +kernel
theorem dX12_more_527 : decode cX12_more 527 = .ok (.iand, 1) := by decide +kernel
theorem dX12_more_528 : decode cX12_more 528 = .ok (.ifCond .eq 9, 3) := by decide +kernel
theorem dX12_more_531 : decode cX12_more 531 = .ok (.ldc2_w 742, 3) := by decide +kernel
theorem dX12_more_534 : decode cX12_more 534 = .ok (.goto 4, 3) := by decide +kernel
theorem dX12_more_537 : decode cX12_more 537 = .ok (.lconst 0, 1) := by decide +kernel
theorem dX12_more_538 : decode cX12_more 538 = .ok (.invokevirtual 564, 3) := by decide +kernel
theorem dX12_more_541 : decode cX12_more 541 = .ok (.return_, 1) := by decide +kernel
theorem dX12_more_542 : decode cX12_more 542 = .ok (.aload_n 0, 1) := by decide +kernel
theorem dX12_more_543 : decode cX12_more 543 = .ok (.invokevirtual 744, 3) := by decide +kernel
theorem dX12_more_546 : decode cX12_more 546 = .ok (.return_, 1) := by decide +kernel
theorem dX12_more_547 : decode cX12_more 547 = .ok (.aload_n 0, 1) := by decide +kernel
theorem dX12_more_548 : decode cX12_more 548 = .ok (.iconst 3, 1) := by decide +kernel
theorem dX12_more_549 : decode cX12_more 549 = .ok (.invokevirtual 576, 3) := by decide +kernel
theorem dX12_more_552 : decode cX12_more 552 = .ok (.ifCond .eq 71, 3) := by decide +kernel
theorem dX12_more_555 : decode cX12_more 555 = .ok (.aload_n 0, 1) := by decide +kernel
theorem dX12_more_556 : decode cX12_more 556 = .ok (.getfield 91, 3) := by decide +kernel
theorem dX12_more_559 : decode cX12_more 559 = .ok (.aload_n 0, 1) := by decide +kernel
theorem dX12_more_560 : decode cX12_more 560 = .ok (.getfield 418, 3) := by decide +kernel
theorem dX12_more_563 : decode cX12_more 563 = .ok (.iconst 3, 1) := by decide +kernel
theorem dX12_more_564 : decode cX12_more 564 = .ok (.isub, 1) := by decide +kernel
theorem dX12_more_565 : decode cX12_more 565 = .ok (.iaload, 1) := by decide +kernel
theorem dX12_more_566 : decode cX12_more 566 = .ok (.istore_n 2, 1) := by decide +kernel
theorem dX12_more_567 : decode cX12_more 567 = .ok (.aload_n 0, 1) := by decide +kernel
theorem dX12_more_568 : decode cX12_more 568 = .ok (.getfield 91, 3) := by decide +kernel
theorem dX12_more_571 : decode cX12_more 571 = .ok (.aload_n 0, 1) := by decide +kernel
theorem dX12_more_572 : decode cX12_more 572 = .ok (.getfield 418, 3) := by decide +kernel
theorem dX12_more_575 : decode cX12_more 575 = .ok (.iconst 3, 1) := by decide +kernel
theorem dX12_more_576 : decode cX12_more 576 = .ok (.isub, 1) := by decide +kernel
theorem dX12_more_577 : decode cX12_more 577 = .ok (.aload_n 0, 1) := by decide +kernel
theorem dX12_more_578 : decode cX12_more 578 = .ok (.getfield 91, 3) := by decide +kernel
theorem dX12_more_581 : decode cX12_more 581 = .ok (.aload_n 0, 1) := by decide +kernel
theorem dX12_more_582 : decode cX12_more 582 = .ok (.getfield 418, 3) := by decide +kernel
theorem dX12_more_585 : decode cX12_more 585 = .ok (.iconst 2, 1) := by decide +kernel
theorem dX12_more_586 : decode cX12_more 586 = .ok (.isub, 1) := by decide +kernel
theorem dX12_more_587 : decode cX12_more 587 = .ok (.iaload, 1) := by decide +kernel
theorem dX12_more_588 : decode cX12_more 588 = .ok (.iastore, 1) := by decide +kernel
theorem dX12_more_589 : decode cX12_more 589 = .ok (.aload_n 0, 1) := by decide +kernel
theorem dX12_more_590 : decode cX12_more 590 = .ok (.getfield 91, 3) := by decide +kernel
theorem dX12_more_593 : decode cX12_more 593 = .ok (.aload_n 0, 1) := by decide +kernel
theorem dX12_more_594 : decode cX12_more 594 = .ok (.getfield 418, 3) := by decide +kernel
theorem dX12_more_597 : decode cX12_more 597 = .ok (.iconst 2, 1) := by decide +kernel
theorem dX12_more_598 : decode cX12_more 598 = .ok (.isub, 1) := by decide +kernel
theorem dX12_more_599 : decode cX12_more 599 = .ok (.aload_n 0, 1) := by decide +kernel
theorem dX12_more_600 : decode cX12_more 600 = .ok (.getfield 91, 3) := by decide +kernel
theorem dX12_more_603 : decode cX12_more 603 = .ok (.aload_n 0, 1) := by decide +kernel
theorem dX12_more_604 : decode cX12_more 604 = .ok (.getfield 418, 3) := by decide +kernel
theorem dX12_more_607 : decode cX12_more 607 = .ok (.iconst 1, 1) := by decide +kernel
theorem dX12_more_608 : decode cX12_more 608 = .ok (.isub, 1) := by decide +kernel
theorem dX12_more_609 : decode cX12_more 609 = .ok (.iaload, 1) := by decide +kernel
theorem dX12_more_610 : decode cX12_more 610 = .ok (.iastore, 1) := by decide +kernel
theorem dX12_more_611 : decode cX12_more 611 = .ok (.aload_n 0, 1) := by decide +kernel
theorem dX12_more_612 : decode cX12_more 612 = .ok (.getfield 91, 3) := by decide +kernel
theorem dX12_more_615 : decode cX12_more 615 = .ok (.aload_n 0, 1) := by decide +kernel
theorem dX12_more_616 : decode cX12_more 616 = .ok (.getfield 418, 3) := by decide +kernel
theorem dX12_more_619 : decode cX12_more 619 = .ok (.iconst 1, 1) := by decide +kernel
theorem dX12_more_620 : decode cX12_more 620 = .ok (.isub, 1) := by decide +kernel
theorem dX12_more_621 : decode cX12_more 621 = .ok (.iload_n 2, 1) := by decide +kernel
theorem dX12_more_622 : decode cX12_more 622 = .ok (.iastore, 1) := by decide +kernel
theorem dX12_more_623 : decode cX12_more 623 = .ok (.return_, 1) := by decide +kernel
theorem dX12_more_624 : decode cX12_more 624 = .ok (.aload_n 0, 1) := by decide +kernel
theorem dX12_more_625 : decode cX12_more 625 = .ok (.aload_n 0, 1) := by decide +kernel
theorem dX12_more_626 : decode cX12_more 626 = .ok (.iconst 1, 1) := by decide +kernel
theorem dX12_more_627 : decode cX12_more 627 = .ok (.invokevirtual 576, 3) := by decide +kernel
theorem dX12_more_630 : decode cX12_more 630 = .ok (.ifCond .eq 10, 3) := by decide +kernel
theorem dX12_more_633 : decode cX12_more 633 = .ok (.aload_n 0, 1) := by decide +kernel
theorem dX12_more_634 : decode cX12_more 634 = .ok (.invokevirtual 579, 3) := by decide +kernel
theorem dX12_more_637 : decode cX12_more 637 = .ok (.goto 4, 3) := by decide +kernel
theorem dX12_more_640 : decode cX12_more 640 = .ok (.iconst 0, 1) := by decide +kernel
theorem dX12_more_641 : decode cX12_more 641 = .ok (.putfield 747, 3) := by decide +kernel
theorem dX12_more_644 : decode cX12_more 644 = .ok (.return_, 1) := by decide +kernel
theorem dX12_more_645 : decode cX12_more 645 = .ok (.aload_n 0, 1) := by decide +kernel
theorem dX12_more_646 : decode cX12_more 646 = .ok (.iload_n 1, 1) := by decide +kernel
theorem dX12_more_647 : decode cX12_more 647 = .ok (.invokevirtual 650, 3) := by decide +kernel
theorem dX12_more_650 : decode cX12_more 650 = .ok (.return_, 1) := by decide +kernel
def B_X12_more_182 (N : Nat) (k85 : Int32 → sv_V → Option sv_V) (l2 : Int32) (V : sv_V) : Option sv_V := sx_let (l2 + 1) (fun x1 => k85 x1 V)
set_option maxRecDepth 20000 in
theorem tB_X12_more_182 {g : sx_G} (hG : sx_Go g) {P : Option Value → sv_V → Prop} {Vr : sv_V} (hP : P none Vr) {N : Nat} {k85 : Int32 → sv_V → Option sv_V} (hk85 : ∀ (l2 : Int32) (V : sv_V), k85 l2 V = some Vr → sv_N g qX12_more 5 85 [(0, .ref 146), (2, .int l2)] [] V P) {l2 : Int32} {V : sv_V} (h : B_X12_more_182 N k85 l2 V = some Vr) : sv_N g qX12_more 5 182 [(0, .ref 146), (2, .int l2)] [] V P := by
  unfold B_X12_more_182 at h
  obtain ⟨x1, hx1⟩ : ∃ z : Int32, z = l2 + 1 := ⟨_, rfl⟩
  have h := sx_letE hx1 h
  refine sx_iinc (pc := 182) (v := x1) (lo' := [(2, .int x1), (0, .ref 146)]) dX12_more_182 sx_m1 (by rw [hx1]; rfl) (by decide) rfl ?_
  refine sx_goto (pc := 185) (tgt := 85) dX12_more_185 (by decide) ?_
  refine sx_wk (sx_s1 sx_m1 (sx_s1 sx_m0 sx_s0)) ?_
  exact hk85 _ _ h
def B_X12_more_141 (N : Nat) (k85 : Int32 → sv_V → Option sv_V) (l2 : Int32) (V : sv_V) : Option sv_V := (F_X12_fail (5 : Int32) V).bind (fun V2 => B_X12_more_182 N k85 l2 V2)
set_option maxRecDepth 20000 in
theorem tB_X12_more_141 {g : sx_G} (hG : sx_Go g) {P : Option Value → sv_V → Prop} {Vr : sv_V} (hP : P none Vr) {N : Nat} {k85 : Int32 → sv_V → Option sv_V} (hk85 : ∀ (l2 : Int32) (V : sv_V), k85 l2 V = some Vr → sv_N g qX12_more 5 85 [(0, .ref 146), (2, .int l2)] [] V P) {l2 : Int32} {V : sv_V} (h : B_X12_more_141 N k85 l2 V = some Vr) : sv_N g qX12_more 5 141 [(0, .ref 146), (2, .int l2)] [] V P := by
  unfold B_X12_more_141 at h
  refine sx_aload_n (pc := 141) dX12_more_141 sx_m0 ?_
  refine sx_iconst (pc := 142) (v := 5) dX12_more_142 (by decide) ?_
  obtain ⟨V2, g3, h⟩ := sx_bnd h
  refine sv_cV (pc := 143) (y := qX12_fail) (o := none) (as := [.int (5 : Int32)]) (V1 := V2) hG dX12_more_143 l_X12_421 y0X12_fail yvX12_fail rfl (Nat.le_of_ble_eq_true rfl) lay_146 kr_12 (by decide) (Nat.le_of_ble_eq_true rfl) rfl rfl rfl (t_X12_fail hG ⟨rfl, rfl⟩ g3) ?_
  refine sx_goto (pc := 146) (tgt := 182) dX12_more_146 (by decide) ?_
  refine sx_wk (sx_s1 sx_m0 (sx_s1 sx_m1 sx_s0)) ?_
  exact tB_X12_more_182 hG hP hk85 h
def B_X12_more_181 (N : Nat) (k85 : Int32 → sv_V → Option sv_V) (l2 : Int32) (s1 : Int32) (s2 : Int32) (V : sv_V) : Option sv_V := if sx_in s1 102 = true then if sv_bl s2 = true then sx_let (sv_I V 171 s1.toNatClampNeg s2) (fun V6 => B_X12_more_182 N k85 l2 V6) else none else none
set_option maxRecDepth 20000 in
theorem tB_X12_more_181 {g : sx_G} (hG : sx_Go g) {P : Option Value → sv_V → Prop} {Vr : sv_V} (hP : P none Vr) {N : Nat} {k85 : Int32 → sv_V → Option sv_V} (hk85 : ∀ (l2 : Int32) (V : sv_V), k85 l2 V = some Vr → sv_N g qX12_more 5 85 [(0, .ref 146), (2, .int l2)] [] V P) {l2 : Int32} {s1 : Int32} {s2 : Int32} {V : sv_V} (h : B_X12_more_181 N k85 l2 s1 s2 V = some Vr) : sv_N g qX12_more 5 181 [(0, .ref 146), (2, .int l2)] [.int s2, .int s1, .ref 171] V P := by
  unfold B_X12_more_181 at h
  obtain ⟨g4, h⟩ := sx_grd h
  obtain ⟨g5, h⟩ := sx_grd h
  obtain ⟨V6, hV6⟩ : ∃ z : sv_V, z = sv_I V 171 s1.toNatClampNeg s2 := ⟨_, rfl⟩
  have h := sx_letE hV6 h
  refine sv_zast (pc := 181) hG dX12_more_181 lay_171 g4 g5 hV6 ?_
  refine sx_wk (sx_s1 sx_m0 (sx_s1 sx_m1 sx_s0)) ?_
  exact tB_X12_more_182 hG hP hk85 h
def B_X12_more_149 (N : Nat) (k85 : Int32 → sv_V → Option sv_V) (l2 : Int32) (l3 : Int32) (V : sv_V) : Option sv_V := if (V.1 146 59) = 0 then (if sx_in (l3 - (102 : Int32)) 102 = true then if (V.1 171 (l3 - (102 : Int32)).toNatClampNeg) = 0 then (B_X12_more_181 N k85 l2 (l3 - (102 : Int32)) (1 : Int32) V) else (B_X12_more_181 N k85 l2 (l3 - (102 : Int32)) (0 : Int32) V) else none) else (B_X12_more_182 N k85 l2 V)
set_option maxRecDepth 20000 in
theorem tB_X12_more_149 {g : sx_G} (hG : sx_Go g) {P : Option Value → sv_V → Prop} {Vr : sv_V} (hP : P none Vr) {N : Nat} {k85 : Int32 → sv_V → Option sv_V} (hk85 : ∀ (l2 : Int32) (V : sv_V), k85 l2 V = some Vr → sv_N g qX12_more 5 85 [(0, .ref 146), (2, .int l2)] [] V P) {l2 : Int32} {l3 : Int32} {V : sv_V} (h : B_X12_more_149 N k85 l2 l3 V = some Vr) : sv_N g qX12_more 5 149 [(0, .ref 146), (2, .int l2), (3, .int l3)] [] V P := by
  unfold B_X12_more_149 at h
  refine sx_aload_n (pc := 149) dX12_more_149 sx_m0 ?_
  refine sv_getI (pc := 150) hG dX12_more_150 f_12_409 lay_146 rfl ?_
  refine sx_if_ne (pc := 153) (tgt := 182) dX12_more_153 (by decide) (fun c7 => ?_) (fun c7 => ?_)
  · have h := sx_neg c7 h
    refine sx_wk (sx_s1 sx_m0 (sx_s1 sx_m1 sx_s0)) ?_
    exact tB_X12_more_182 hG hP hk85 h
  · have h := sx_pos c7 h
    refine sx_aload_n (pc := 156) dX12_more_156 sx_m0 ?_
    refine sv_getA (pc := 157) hG dX12_more_157 f_12_85 lay_146 rfl cr_146_51 ?_
    refine sx_iload_n (pc := 160) dX12_more_160 sx_m2 ?_
    refine sx_bipush (pc := 161) (v := 102) dX12_more_161 (by decide) ?_
    refine sx_isub (pc := 163) dX12_more_163 ?_
    refine sx_aload_n (pc := 164) dX12_more_164 sx_m0 ?_
    refine sv_getA (pc := 165) hG dX12_more_165 f_12_85 lay_146 rfl cr_146_51 ?_
    refine sx_iload_n (pc := 168) dX12_more_168 sx_m2 ?_
    refine sx_bipush (pc := 169) (v := 102) dX12_more_169 (by decide) ?_
    refine sx_isub (pc := 171) dX12_more_171 ?_
    obtain ⟨g8, h⟩ := sx_grd h
    refine sv_zald (pc := 172) hG dX12_more_172 lay_171 g8 ?_
    refine sx_if_ne (pc := 173) (tgt := 180) dX12_more_173 (by decide) (fun c9 => ?_) (fun c9 => ?_)
    · have h := sx_neg c9 h
      refine sx_iconst (pc := 180) (v := 0) dX12_more_180 (by decide) ?_
      refine sx_wk (sx_s1 sx_m0 (sx_s1 sx_m1 sx_s0)) ?_
      exact tB_X12_more_181 hG hP hk85 h
    · have h := sx_pos c9 h
      refine sx_iconst (pc := 176) (v := 1) dX12_more_176 (by decide) ?_
      refine sx_goto (pc := 177) (tgt := 181) dX12_more_177 (by decide) ?_
      refine sx_wk (sx_s1 sx_m0 (sx_s1 sx_m1 sx_s0)) ?_
      exact tB_X12_more_181 hG hP hk85 h
def B_X12_more_85 (N : Nat) (k85 : Int32 → sv_V → Option sv_V) (l2 : Int32) (V : sv_V) : Option sv_V := if (V.1 146 75) ≤ l2 then (sx_let (sv_I V 146 75 (1 : Int32)) (fun V11 => some V11)) else (if (V.1 146 59) = 0 then ((F_X12_pop  V).bind (fun (x16, V14) => (F_X12_pointOf (V.1 146 72) x16 V14).bind (fun (x19, V17) => if (V17.1 146 59) = 0 then (if (V17.1 146 72) = (1 : Int32) then (if (x19 - (102 : Int32)) < ((V17.1 146 52) - (2 : Int32)) then (B_X12_more_149 N k85 l2 x19 V17) else (B_X12_more_141 N k85 l2 V17)) else (B_X12_more_141 N k85 l2 V17)) else (B_X12_more_149 N k85 l2 x19 V17)))) else (sx_let (sv_I V 146 75 (1 : Int32)) (fun V13 => some V13)))
set_option maxRecDepth 20000 in
theorem tB_X12_more_85 {g : sx_G} (hG : sx_Go g) {P : Option Value → sv_V → Prop} {Vr : sv_V} (hP : P none Vr) {N : Nat} {k85 : Int32 → sv_V → Option sv_V} (hk85 : ∀ (l2 : Int32) (V : sv_V), k85 l2 V = some Vr → sv_N g qX12_more 5 85 [(0, .ref 146), (2, .int l2)] [] V P) {l2 : Int32} {V : sv_V} (h : B_X12_more_85 N k85 l2 V = some Vr) : sv_N g qX12_more 5 85 [(0, .ref 146), (2, .int l2)] [] V P := by
  unfold B_X12_more_85 at h
  refine sx_iload_n (pc := 85) dX12_more_85 sx_m1 ?_
  refine sx_aload_n (pc := 86) dX12_more_86 sx_m0 ?_
  refine sv_getI (pc := 87) hG dX12_more_87 f_12_469 lay_146 rfl ?_
  refine sx_icmp_ge (pc := 90) (tgt := 188) dX12_more_90 (by decide) (fun c10 => ?_) (fun c10 => ?_)
  · have h := sx_pos c10 h
    refine sx_aload_n (pc := 188) dX12_more_188 sx_m0 ?_
    refine sx_iconst (pc := 189) (v := 1) dX12_more_189 (by decide) ?_
    obtain ⟨V11, hV11⟩ : ∃ z : sv_V, z = sv_I V 146 75 (1 : Int32) := ⟨_, rfl⟩
    have h := sx_letE hV11 h
    refine sv_putI (pc := 190) hG dX12_more_190 f_12_469 lay_146 rfl hV11 ?_
    exact sv_vret (pc := 193) dX12_more_193 rfl h hP
  · have h := sx_neg c10 h
    refine sx_aload_n (pc := 93) dX12_more_93 sx_m0 ?_
    refine sv_getI (pc := 94) hG dX12_more_94 f_12_409 lay_146 rfl ?_
    refine sx_if_ne (pc := 97) (tgt := 188) dX12_more_97 (by decide) (fun c12 => ?_) (fun c12 => ?_)
    · have h := sx_neg c12 h
      refine sx_aload_n (pc := 188) dX12_more_188 sx_m0 ?_
      refine sx_iconst (pc := 189) (v := 1) dX12_more_189 (by decide) ?_
      obtain ⟨V13, hV13⟩ : ∃ z : sv_V, z = sv_I V 146 75 (1 : Int32) := ⟨_, rfl⟩
      have h := sx_letE hV13 h
      refine sv_putI (pc := 190) hG dX12_more_190 f_12_469 lay_146 rfl hV13 ?_
      exact sv_vret (pc := 193) dX12_more_193 rfl h hP
    · have h := sx_pos c12 h
      refine sx_aload_n (pc := 100) dX12_more_100 sx_m0 ?_
      refine sx_aload_n (pc := 101) dX12_more_101 sx_m0 ?_
      refine sv_getI (pc := 102) hG dX12_more_102 f_12_460 lay_146 rfl ?_
      refine sx_aload_n (pc := 105) dX12_more_105 sx_m0 ?_
      obtain ⟨⟨x16, V14⟩, g15, h⟩ := sx_bnd h
      refine sv_cV (pc := 106) (y := qX12_pop) (o := (some (.int x16))) (as := []) (V1 := V14) hG dX12_more_106 l_X12_579 y0X12_pop yvX12_pop rfl (Nat.le_of_ble_eq_true rfl) lay_146 kr_12 (by decide) (Nat.le_of_ble_eq_true rfl) rfl rfl rfl (t_X12_pop hG ⟨rfl, rfl⟩ g15) ?_
      obtain ⟨⟨x19, V17⟩, g18, h⟩ := sx_bnd h
      refine sv_cV (pc := 109) (y := qX12_pointOf) (o := (some (.int x19))) (as := [.int (V.1 146 72), .int x16]) (V1 := V17) hG dX12_more_109 l_X12_582 y0X12_pointOf yvX12_pointOf rfl (Nat.le_of_ble_eq_true rfl) lay_146 kr_12 (by decide) (Nat.le_of_ble_eq_true rfl) rfl rfl rfl (t_X12_pointOf hG ⟨rfl, rfl⟩ g18) ?_
      refine sx_istore_n (pc := 112) (lo' := [(3, .int x19), (0, .ref 146), (2, .int l2)]) dX12_more_112 (by decide) rfl ?_
      refine sx_aload_n (pc := 113) dX12_more_113 sx_m1 ?_
      refine sv_getI (pc := 114) hG dX12_more_114 f_12_409 lay_146 rfl ?_
      refine sx_if_ne (pc := 117) (tgt := 149) dX12_more_117 (by decide) (fun c20 => ?_) (fun c20 => ?_)
      · have h := sx_neg c20 h
        refine sx_wk (sx_s1 sx_m1 (sx_s1 sx_m2 (sx_s1 sx_m0 sx_s0))) ?_
        exact tB_X12_more_149 hG hP hk85 h
      · have h := sx_pos c20 h
        refine sx_aload_n (pc := 120) dX12_more_120 sx_m1 ?_
        refine sv_getI (pc := 121) hG dX12_more_121 f_12_460 lay_146 rfl ?_
        refine sx_iconst (pc := 124) (v := 1) dX12_more_124 (by decide) ?_
        refine sx_icmp_ne (pc := 125) (tgt := 141) dX12_more_125 (by decide) (fun c21 => ?_) (fun c21 => ?_)
        · have h := sx_neg c21 h
          refine sx_wk (sx_s1 sx_m1 (sx_s1 sx_m2 sx_s0)) ?_
          exact tB_X12_more_141 hG hP hk85 h
        · have h := sx_pos c21 h
          refine sx_iload_n (pc := 128) dX12_more_128 sx_m0 ?_
          refine sx_bipush (pc := 129) (v := 102) dX12_more_129 (by decide) ?_
          refine sx_isub (pc := 131) dX12_more_131 ?_
          refine sx_aload_n (pc := 132) dX12_more_132 sx_m1 ?_
          refine sv_getI (pc := 133) hG dX12_more_133 f_12_514 lay_146 rfl ?_
          refine sx_iconst (pc := 136) (v := 2) dX12_more_136 (by decide) ?_
          refine sx_isub (pc := 137) dX12_more_137 ?_
          refine sx_icmp_lt (pc := 138) (tgt := 149) dX12_more_138 (by decide) (fun c22 => ?_) (fun c22 => ?_)
          · have h := sx_pos c22 h
            refine sx_wk (sx_s1 sx_m1 (sx_s1 sx_m2 (sx_s1 sx_m0 sx_s0))) ?_
            exact tB_X12_more_149 hG hP hk85 h
          · have h := sx_neg c22 h
            refine sx_wk (sx_s1 sx_m1 (sx_s1 sx_m2 sx_s0)) ?_
            exact tB_X12_more_141 hG hP hk85 h
theorem tL_X12_more_85 {g : sx_G} (hG : sx_Go g) {P : Option Value → sv_V → Prop} {Vr : sv_V} (hP : P none Vr) {N : Nat}   : ∀ (n : Nat) (l2 : Int32) (V : sv_V), sx_lp2 (B_X12_more_85 N ) n l2 V = some Vr → sv_N g qX12_more 5 85 [(0, .ref 146), (2, .int l2)] [] V P :=
  sx_lp2_ind (fun k0 ih _ V h => tB_X12_more_85 hG hP ih h)
def B_X12_more_253 (N : Nat)   (V : sv_V) : Option sv_V := (F_X12_fail (5 : Int32) V).bind (fun V23 => some V23)
set_option maxRecDepth 20000 in
theorem tB_X12_more_253 {g : sx_G} (hG : sx_Go g) {P : Option Value → sv_V → Prop} {Vr : sv_V} (hP : P none Vr) {N : Nat}    {V : sv_V} (h : B_X12_more_253 N   V = some Vr) : sv_N g qX12_more 5 253 [(0, .ref 146)] [] V P := by
  unfold B_X12_more_253 at h
  refine sx_aload_n (pc := 253) dX12_more_253 sx_m0 ?_
  refine sx_iconst (pc := 254) (v := 5) dX12_more_254 (by decide) ?_
  obtain ⟨V23, g24, h⟩ := sx_bnd h
  refine sv_cV (pc := 255) (y := qX12_fail) (o := none) (as := [.int (5 : Int32)]) (V1 := V23) hG dX12_more_255 l_X12_421 y0X12_fail yvX12_fail rfl (Nat.le_of_ble_eq_true rfl) lay_146 kr_12 (by decide) (Nat.le_of_ble_eq_true rfl) rfl rfl rfl (t_X12_fail hG ⟨rfl, rfl⟩ g24) ?_
  exact sv_vret (pc := 258) dX12_more_258 rfl h hP
def B_X12_more_286 (N : Nat) (k262 : Int32 → Int32 → Int32 → sv_V → Option sv_V) (l1 : Int32) (l2 : Int32) (l5 : Int32) (s1 : Int32) (s2 : Int32) (V : sv_V) : Option sv_V := if sx_in s1 102 = true then if sv_bl s2 = true then sx_let (sv_I V 171 s1.toNatClampNeg s2) (fun V27 => sx_let (l5 + 1) (fun x28 => k262 l1 l2 x28 V27)) else none else none
set_option maxRecDepth 20000 in
theorem tB_X12_more_286 {g : sx_G} (hG : sx_Go g) {P : Option Value → sv_V → Prop} {Vr : sv_V} (hP : P none Vr) {N : Nat} {k262 : Int32 → Int32 → Int32 → sv_V → Option sv_V} (hk262 : ∀ (l1 : Int32) (l2 : Int32) (l5 : Int32) (V : sv_V), k262 l1 l2 l5 V = some Vr → sv_N g qX12_more 5 262 [(0, .ref 146), (1, .int l1), (2, .int l2), (5, .int l5)] [] V P) {l1 : Int32} {l2 : Int32} {l5 : Int32} {s1 : Int32} {s2 : Int32} {V : sv_V} (h : B_X12_more_286 N k262 l1 l2 l5 s1 s2 V = some Vr) : sv_N g qX12_more 5 286 [(0, .ref 146), (1, .int l1), (2, .int l2), (5, .int l5)] [.int s2, .int s1, .ref 171] V P := by
  unfold B_X12_more_286 at h
  obtain ⟨g25, h⟩ := sx_grd h
  obtain ⟨g26, h⟩ := sx_grd h
  obtain ⟨V27, hV27⟩ : ∃ z : sv_V, z = sv_I V 171 s1.toNatClampNeg s2 := ⟨_, rfl⟩
  have h := sx_letE hV27 h
  refine sv_zast (pc := 286) hG dX12_more_286 lay_171 g25 g26 hV27 ?_
  obtain ⟨x28, hx28⟩ : ∃ z : Int32, z = l5 + 1 := ⟨_, rfl⟩
  have h := sx_letE hx28 h
  refine sx_iinc (pc := 287) (v := x28) (lo' := [(5, .int x28), (0, .ref 146), (1, .int l1), (2, .int l2)]) dX12_more_287 sx_m3 (by rw [hx28]; rfl) (by decide) rfl ?_
  refine sx_goto (pc := 290) (tgt := 262) dX12_more_290 (by decide) ?_
  refine sx_wk (sx_s1 sx_m1 (sx_s1 sx_m2 (sx_s1 sx_m3 (sx_s1 sx_m0 sx_s0)))) ?_
  exact hk262 _ _ _ _ h
def B_X12_more_262 (N : Nat) (k262 : Int32 → Int32 → Int32 → sv_V → Option sv_V) (l1 : Int32) (l2 : Int32) (l5 : Int32) (V : sv_V) : Option sv_V := if l2 < l5 then (some V) else (if l1 = (129 : Int32) then (B_X12_more_286 N k262 l1 l2 l5 l5 (1 : Int32) V) else (B_X12_more_286 N k262 l1 l2 l5 l5 (0 : Int32) V))
set_option maxRecDepth 20000 in
theorem tB_X12_more_262 {g : sx_G} (hG : sx_Go g) {P : Option Value → sv_V → Prop} {Vr : sv_V} (hP : P none Vr) {N : Nat} {k262 : Int32 → Int32 → Int32 → sv_V → Option sv_V} (hk262 : ∀ (l1 : Int32) (l2 : Int32) (l5 : Int32) (V : sv_V), k262 l1 l2 l5 V = some Vr → sv_N g qX12_more 5 262 [(0, .ref 146), (1, .int l1), (2, .int l2), (5, .int l5)] [] V P) {l1 : Int32} {l2 : Int32} {l5 : Int32} {V : sv_V} (h : B_X12_more_262 N k262 l1 l2 l5 V = some Vr) : sv_N g qX12_more 5 262 [(0, .ref 146), (1, .int l1), (2, .int l2), (5, .int l5)] [] V P := by
  unfold B_X12_more_262 at h
  refine sx_iload (pc := 262) dX12_more_262 sx_m3 ?_
  refine sx_iload_n (pc := 264) dX12_more_264 sx_m2 ?_
  refine sx_icmp_gt (pc := 265) (tgt := 293) dX12_more_265 (by decide) (fun c29 => ?_) (fun c29 => ?_)
  · have h := sx_pos c29 h
    exact sv_vret (pc := 293) dX12_more_293 rfl h hP
  · have h := sx_neg c29 h
    refine sx_aload_n (pc := 268) dX12_more_268 sx_m0 ?_
    refine sv_getA (pc := 269) hG dX12_more_269 f_12_85 lay_146 rfl cr_146_51 ?_
    refine sx_iload (pc := 272) dX12_more_272 sx_m3 ?_
    refine sx_iload_n (pc := 274) dX12_more_274 sx_m1 ?_
    refine sx_sipush (pc := 275) (v := 129) dX12_more_275 (by decide) ?_
    refine sx_icmp_ne (pc := 278) (tgt := 285) dX12_more_278 (by decide) (fun c30 => ?_) (fun c30 => ?_)
    · have h := sx_neg c30 h
      refine sx_iconst (pc := 285) (v := 0) dX12_more_285 (by decide) ?_
      refine sx_wk (sx_s1 sx_m0 (sx_s1 sx_m1 (sx_s1 sx_m2 (sx_s1 sx_m3 sx_s0)))) ?_
      exact tB_X12_more_286 hG hP hk262 h
    · have h := sx_pos c30 h
      refine sx_iconst (pc := 281) (v := 1) dX12_more_281 (by decide) ?_
      refine sx_goto (pc := 282) (tgt := 286) dX12_more_282 (by decide) ?_
      refine sx_wk (sx_s1 sx_m0 (sx_s1 sx_m1 (sx_s1 sx_m2 (sx_s1 sx_m3 sx_s0)))) ?_
      exact tB_X12_more_286 hG hP hk262 h
theorem tL_X12_more_262 {g : sx_G} (hG : sx_Go g) {P : Option Value → sv_V → Prop} {Vr : sv_V} (hP : P none Vr) {N : Nat}   : ∀ (n : Nat) (l1 : Int32) (l2 : Int32) (l5 : Int32) (V : sv_V), sx_lp4 (B_X12_more_262 N ) n l1 l2 l5 V = some Vr → sv_N g qX12_more 5 262 [(0, .ref 146), (1, .int l1), (2, .int l2), (5, .int l5)] [] V P :=
  sx_lp4_ind (fun k0 ih _ _ _ V h => tB_X12_more_262 hG hP ih h)
def B_X12_more_259 (N : Nat)  (l1 : Int32) (l2 : Int32) (l3 : Int32) (V : sv_V) : Option sv_V := sx_lp4 (B_X12_more_262 N ) N l1 l2 l3 V
set_option maxRecDepth 20000 in
theorem tB_X12_more_259 {g : sx_G} (hG : sx_Go g) {P : Option Value → sv_V → Prop} {Vr : sv_V} (hP : P none Vr) {N : Nat}   {l1 : Int32} {l2 : Int32} {l3 : Int32} {V : sv_V} (h : B_X12_more_259 N  l1 l2 l3 V = some Vr) : sv_N g qX12_more 5 259 [(0, .ref 146), (1, .int l1), (2, .int l2), (3, .int l3)] [] V P := by
  unfold B_X12_more_259 at h
  refine sx_iload_n (pc := 259) dX12_more_259 sx_m3 ?_
  refine sx_istore (pc := 260) (lo' := [(5, .int l3), (0, .ref 146), (1, .int l1), (2, .int l2), (3, .int l3)]) dX12_more_260 (by decide) rfl ?_
  refine sx_wk (sx_s1 sx_m1 (sx_s1 sx_m2 (sx_s1 sx_m3 (sx_s1 sx_m0 sx_s0)))) ?_
  exact tL_X12_more_262 hG hP  N _ _ _ _ h
def B_X12_more_236 (N : Nat)  (l1 : Int32) (l2 : Int32) (l3 : Int32) (s0 : Int32) (V : sv_V) : Option sv_V := if l2 < l3 then (B_X12_more_259 N  l1 l2 l3 V) else (if l3 < 0 then (B_X12_more_253 N   V) else (if l2 < s0 then (B_X12_more_259 N  l1 l2 l3 V) else (B_X12_more_253 N   V)))
set_option maxRecDepth 20000 in
theorem tB_X12_more_236 {g : sx_G} (hG : sx_Go g) {P : Option Value → sv_V → Prop} {Vr : sv_V} (hP : P none Vr) {N : Nat}   {l1 : Int32} {l2 : Int32} {l3 : Int32} {s0 : Int32} {V : sv_V} (h : B_X12_more_236 N  l1 l2 l3 s0 V = some Vr) : sv_N g qX12_more 5 236 [(0, .ref 146), (1, .int l1), (2, .int l2), (3, .int l3)] [.int s0] V P := by
  unfold B_X12_more_236 at h
  refine sx_istore (pc := 236) (lo' := [(4, .int s0), (0, .ref 146), (1, .int l1), (2, .int l2), (3, .int l3)]) dX12_more_236 (by decide) rfl ?_
  refine sx_iload_n (pc := 238) dX12_more_238 sx_m4 ?_
  refine sx_iload_n (pc := 239) dX12_more_239 sx_m3 ?_
  refine sx_icmp_gt (pc := 240) (tgt := 259) dX12_more_240 (by decide) (fun c31 => ?_) (fun c31 => ?_)
  · have h := sx_pos c31 h
    refine sx_wk (sx_s1 sx_m1 (sx_s1 sx_m2 (sx_s1 sx_m3 (sx_s1 sx_m4 sx_s0)))) ?_
    exact tB_X12_more_259 hG hP  h
  · have h := sx_neg c31 h
    refine sx_iload_n (pc := 243) dX12_more_243 sx_m4 ?_
    refine sx_if_lt (pc := 244) (tgt := 253) dX12_more_244 (by decide) (fun c32 => ?_) (fun c32 => ?_)
    · have h := sx_pos c32 h
      refine sx_wk (sx_s1 sx_m1 sx_s0) ?_
      exact tB_X12_more_253 hG hP  h
    · have h := sx_neg c32 h
      refine sx_iload_n (pc := 247) dX12_more_247 sx_m3 ?_
      refine sx_iload (pc := 248) dX12_more_248 sx_m0 ?_
      refine sx_icmp_lt (pc := 250) (tgt := 259) dX12_more_250 (by decide) (fun c33 => ?_) (fun c33 => ?_)
      · have h := sx_pos c33 h
        refine sx_wk (sx_s1 sx_m1 (sx_s1 sx_m2 (sx_s1 sx_m3 (sx_s1 sx_m4 sx_s0)))) ?_
        exact tB_X12_more_259 hG hP  h
      · have h := sx_neg c33 h
        refine sx_wk (sx_s1 sx_m1 sx_s0) ?_
        exact tB_X12_more_253 hG hP  h
def B_X12_more_194 (N : Nat)  (l1 : Int32) (V : sv_V) : Option sv_V := (F_X12_has (2 : Int32) V).bind (fun (x36, V34) => if x36 = 0 then (some V34) else ((F_X12_pop  V34).bind (fun (x40, V38) => (F_X12_pop  V38).bind (fun (x43, V41) => if (V41.1 146 53) = 0 then (B_X12_more_236 N  l1 x40 x43 (0 : Int32) V41) else (if sx_in ((V41.1 146 53) - (1 : Int32)) 20 = true then B_X12_more_236 N  l1 x40 x43 ((V41.1 172 ((V41.1 146 53) - (1 : Int32)).toNatClampNeg) + (1 : Int32)) V41 else none)))))
set_option maxRecDepth 20000 in
theorem tB_X12_more_194 {g : sx_G} (hG : sx_Go g) {P : Option Value → sv_V → Prop} {Vr : sv_V} (hP : P none Vr) {N : Nat}   {l1 : Int32} {V : sv_V} (h : B_X12_more_194 N  l1 V = some Vr) : sv_N g qX12_more 5 194 [(0, .ref 146), (1, .int l1)] [] V P := by
  unfold B_X12_more_194 at h
  refine sx_aload_n (pc := 194) dX12_more_194 sx_m0 ?_
  refine sx_iconst (pc := 195) (v := 2) dX12_more_195 (by decide) ?_
  obtain ⟨⟨x36, V34⟩, g35, h⟩ := sx_bnd h
  refine sv_cV (pc := 196) (y := qX12_has) (o := (some (.int x36))) (as := [.int (2 : Int32)]) (V1 := V34) hG dX12_more_196 l_X12_576 y0X12_has yvX12_has rfl (Nat.le_of_ble_eq_true rfl) lay_146 kr_12 (by decide) (Nat.le_of_ble_eq_true rfl) rfl rfl rfl (t_X12_has hG ⟨rfl, rfl⟩ g35) ?_
  refine sx_if_eq (pc := 199) (tgt := 293) dX12_more_199 (by decide) (fun c37 => ?_) (fun c37 => ?_)
  · have h := sx_pos c37 h
    exact sv_vret (pc := 293) dX12_more_293 rfl h hP
  · have h := sx_neg c37 h
    refine sx_aload_n (pc := 202) dX12_more_202 sx_m0 ?_
    obtain ⟨⟨x40, V38⟩, g39, h⟩ := sx_bnd h
    refine sv_cV (pc := 203) (y := qX12_pop) (o := (some (.int x40))) (as := []) (V1 := V38) hG dX12_more_203 l_X12_579 y0X12_pop yvX12_pop rfl (Nat.le_of_ble_eq_true rfl) lay_146 kr_12 (by decide) (Nat.le_of_ble_eq_true rfl) rfl rfl rfl (t_X12_pop hG ⟨rfl, rfl⟩ g39) ?_
    refine sx_istore_n (pc := 206) (lo' := [(2, .int x40), (0, .ref 146), (1, .int l1)]) dX12_more_206 (by decide) rfl ?_
    refine sx_aload_n (pc := 207) dX12_more_207 sx_m1 ?_
    obtain ⟨⟨x43, V41⟩, g42, h⟩ := sx_bnd h
    refine sv_cV (pc := 208) (y := qX12_pop) (o := (some (.int x43))) (as := []) (V1 := V41) hG dX12_more_208 l_X12_579 y0X12_pop yvX12_pop rfl (Nat.le_of_ble_eq_true rfl) lay_146 kr_12 (by decide) (Nat.le_of_ble_eq_true rfl) rfl rfl rfl (t_X12_pop hG ⟨rfl, rfl⟩ g42) ?_
    refine sx_istore_n (pc := 211) (lo' := [(3, .int x43), (2, .int x40), (0, .ref 146), (1, .int l1)]) dX12_more_211 (by decide) rfl ?_
    refine sx_aload_n (pc := 212) dX12_more_212 sx_m2 ?_
    refine sv_getI (pc := 213) hG dX12_more_213 f_12_706 lay_146 rfl ?_
    refine sx_if_ne (pc := 216) (tgt := 223) dX12_more_216 (by decide) (fun c44 => ?_) (fun c44 => ?_)
    · have h := sx_neg c44 h
      refine sx_aload_n (pc := 223) dX12_more_223 sx_m2 ?_
      refine sv_getA (pc := 224) hG dX12_more_224 f_12_88 lay_146 rfl cr_146_54 ?_
      refine sx_aload_n (pc := 227) dX12_more_227 sx_m2 ?_
      refine sv_getI (pc := 228) hG dX12_more_228 f_12_706 lay_146 rfl ?_
      refine sx_iconst (pc := 231) (v := 1) dX12_more_231 (by decide) ?_
      refine sx_isub (pc := 232) dX12_more_232 ?_
      obtain ⟨g45, h⟩ := sx_grd h
      refine sv_iald (pc := 233) hG dX12_more_233 lay_172 g45 ?_
      refine sx_iconst (pc := 234) (v := 1) dX12_more_234 (by decide) ?_
      refine sx_iadd (pc := 235) dX12_more_235 ?_
      refine sx_wk (sx_s1 sx_m2 (sx_s1 sx_m3 (sx_s1 sx_m1 (sx_s1 sx_m0 sx_s0)))) ?_
      exact tB_X12_more_236 hG hP  h
    · have h := sx_pos c44 h
      refine sx_iconst (pc := 219) (v := 0) dX12_more_219 (by decide) ?_
      refine sx_goto (pc := 220) (tgt := 236) dX12_more_220 (by decide) ?_
      refine sx_wk (sx_s1 sx_m2 (sx_s1 sx_m3 (sx_s1 sx_m1 (sx_s1 sx_m0 sx_s0)))) ?_
      exact tB_X12_more_236 hG hP  h
def B_X12_more_489 (N : Nat)  (l4 : Int32) (s1 : Int32) (V : sv_V) : Option sv_V := sx_let (sv_I V 146 65 s1) (fun V46 => if l4 = 0 then (sx_let (sv_I V46 146 66 (V46.1 146 106)) (fun V48 => some V48)) else (sx_let (sv_I V46 146 66 (V46.1 146 105)) (fun V49 => some V49)))
set_option maxRecDepth 20000 in
theorem tB_X12_more_489 {g : sx_G} (hG : sx_Go g) {P : Option Value → sv_V → Prop} {Vr : sv_V} (hP : P none Vr) {N : Nat}   {l4 : Int32} {s1 : Int32} {V : sv_V} (h : B_X12_more_489 N  l4 s1 V = some Vr) : sv_N g qX12_more 5 489 [(0, .ref 146), (4, .int l4)] [.int s1, .ref 146] V P := by
  unfold B_X12_more_489 at h
  obtain ⟨V46, hV46⟩ : ∃ z : sv_V, z = sv_I V 146 65 s1 := ⟨_, rfl⟩
  have h := sx_letE hV46 h
  refine sv_putI (pc := 489) hG dX12_more_489 f_12_439 lay_146 rfl hV46 ?_
  refine sx_aload_n (pc := 492) dX12_more_492 sx_m0 ?_
  refine sx_iload (pc := 493) dX12_more_493 sx_m1 ?_
  refine sx_if_eq (pc := 495) (tgt := 505) dX12_more_495 (by decide) (fun c47 => ?_) (fun c47 => ?_)
  · have h := sx_pos c47 h
    refine sx_aload_n (pc := 505) dX12_more_505 sx_m0 ?_
    refine sv_getI (pc := 506) hG dX12_more_506 f_12_536 lay_146 rfl ?_
    obtain ⟨V48, hV48⟩ : ∃ z : sv_V, z = sv_I V46 146 66 (V46.1 146 106) := ⟨_, rfl⟩
    have h := sx_letE hV48 h
    refine sv_putI (pc := 509) hG dX12_more_509 f_12_442 lay_146 rfl hV48 ?_
    exact sv_vret (pc := 512) dX12_more_512 rfl h hP
  · have h := sx_neg c47 h
    refine sx_aload_n (pc := 498) dX12_more_498 sx_m0 ?_
    refine sv_getI (pc := 499) hG dX12_more_499 f_12_533 lay_146 rfl ?_
    refine sx_goto (pc := 502) (tgt := 509) dX12_more_502 (by decide) ?_
    obtain ⟨V49, hV49⟩ : ∃ z : sv_V, z = sv_I V46 146 66 (V46.1 146 105) := ⟨_, rfl⟩
    have h := sx_letE hV49 h
    refine sv_putI (pc := 509) hG dX12_more_509 f_12_442 lay_146 rfl hV49 ?_
    exact sv_vret (pc := 512) dX12_more_512 rfl h hP
def B_X12_more_438 (N : Nat)  (l2 : Int32) (l3 : Int32) (l4 : Int32) (s1 : Int32) (V : sv_V) : Option sv_V := sx_let (sv_I V 146 68 s1) (fun V50 => if sx_in l3 204 = true then if sx_in l2 204 = true then if sx_in l3 204 = true then if sx_in l2 204 = true then (F_X12_direction N ((V50.1 168 l3.toNatClampNeg) - (V50.1 168 l2.toNatClampNeg)) ((V50.1 169 l3.toNatClampNeg) - (V50.1 169 l2.toNatClampNeg)) V50).bind (fun V55 => if l4 = 0 then (B_X12_more_489 N  l4 (V55.1 146 105) V55) else (B_X12_more_489 N  l4 (-(V55.1 146 106)) V55)) else none else none else none else none)
set_option maxRecDepth 20000 in
theorem tB_X12_more_438 {g : sx_G} (hG : sx_Go g) {P : Option Value → sv_V → Prop} {Vr : sv_V} (hP : P none Vr) {N : Nat}   {l2 : Int32} {l3 : Int32} {l4 : Int32} {s1 : Int32} {V : sv_V} (h : B_X12_more_438 N  l2 l3 l4 s1 V = some Vr) : sv_N g qX12_more 5 438 [(0, .ref 146), (2, .int l2), (3, .int l3), (4, .int l4)] [.int s1, .ref 146] V P := by
  unfold B_X12_more_438 at h
  obtain ⟨V50, hV50⟩ : ∃ z : sv_V, z = sv_I V 146 68 s1 := ⟨_, rfl⟩
  have h := sx_letE hV50 h
  refine sv_putI (pc := 438) hG dX12_more_438 f_12_448 lay_146 rfl hV50 ?_
  refine sx_aload_n (pc := 441) dX12_more_441 sx_m0 ?_
  refine sx_aload_n (pc := 442) dX12_more_442 sx_m0 ?_
  refine sv_getA (pc := 443) hG dX12_more_443 f_12_76 lay_146 rfl cr_146_48 ?_
  refine sx_iload_n (pc := 446) dX12_more_446 sx_m2 ?_
  obtain ⟨g51, h⟩ := sx_grd h
  refine sv_iald (pc := 447) hG dX12_more_447 lay_168 g51 ?_
  refine sx_aload_n (pc := 448) dX12_more_448 sx_m0 ?_
  refine sv_getA (pc := 449) hG dX12_more_449 f_12_76 lay_146 rfl cr_146_48 ?_
  refine sx_iload_n (pc := 452) dX12_more_452 sx_m1 ?_
  obtain ⟨g52, h⟩ := sx_grd h
  refine sv_iald (pc := 453) hG dX12_more_453 lay_168 g52 ?_
  refine sx_isub (pc := 454) dX12_more_454 ?_
  refine sx_aload_n (pc := 455) dX12_more_455 sx_m0 ?_
  refine sv_getA (pc := 456) hG dX12_more_456 f_12_79 lay_146 rfl cr_146_49 ?_
  refine sx_iload_n (pc := 459) dX12_more_459 sx_m2 ?_
  obtain ⟨g53, h⟩ := sx_grd h
  refine sv_iald (pc := 460) hG dX12_more_460 lay_169 g53 ?_
  refine sx_aload_n (pc := 461) dX12_more_461 sx_m0 ?_
  refine sv_getA (pc := 462) hG dX12_more_462 f_12_79 lay_146 rfl cr_146_49 ?_
  refine sx_iload_n (pc := 465) dX12_more_465 sx_m1 ?_
  obtain ⟨g54, h⟩ := sx_grd h
  refine sv_iald (pc := 466) hG dX12_more_466 lay_169 g54 ?_
  refine sx_isub (pc := 467) dX12_more_467 ?_
  obtain ⟨V55, g56, h⟩ := sx_bnd h
  refine sv_cV (pc := 468) (y := qX12_direction) (o := none) (as := [.int ((V50.1 168 l3.toNatClampNeg) - (V50.1 168 l2.toNatClampNeg)), .int ((V50.1 169 l3.toNatClampNeg) - (V50.1 169 l2.toNatClampNeg))]) (V1 := V55) hG dX12_more_468 l_X12_586 y0X12_direction yvX12_direction rfl (Nat.le_of_ble_eq_true rfl) lay_146 kr_12 (by decide) (Nat.le_of_ble_eq_true rfl) rfl rfl rfl (t_X12_direction hG ⟨rfl, rfl⟩ g56) ?_
  refine sx_aload_n (pc := 471) dX12_more_471 sx_m0 ?_
  refine sx_iload (pc := 472) dX12_more_472 sx_m3 ?_
  refine sx_if_eq (pc := 474) (tgt := 485) dX12_more_474 (by decide) (fun c57 => ?_) (fun c57 => ?_)
  · have h := sx_pos c57 h
    refine sx_aload_n (pc := 485) dX12_more_485 sx_m0 ?_
    refine sv_getI (pc := 486) hG dX12_more_486 f_12_533 lay_146 rfl ?_
    refine sx_wk (sx_s1 sx_m0 (sx_s1 sx_m3 sx_s0)) ?_
    exact tB_X12_more_489 hG hP  h
  · have h := sx_neg c57 h
    refine sx_aload_n (pc := 477) dX12_more_477 sx_m0 ?_
    refine sv_getI (pc := 478) hG dX12_more_478 f_12_536 lay_146 rfl ?_
    refine sx_ineg (pc := 481) dX12_more_481 ?_
    refine sx_goto (pc := 482) (tgt := 489) dX12_more_482 (by decide) ?_
    refine sx_wk (sx_s1 sx_m0 (sx_s1 sx_m3 sx_s0)) ?_
    exact tB_X12_more_489 hG hP  h
def B_X12_more_418 (N : Nat)  (l2 : Int32) (l3 : Int32) (l4 : Int32) (s1 : Int32) (V : sv_V) : Option sv_V := sx_let (sv_I V 146 67 s1) (fun V58 => if l4 = 0 then (B_X12_more_438 N  l2 l3 l4 (V58.1 146 106) V58) else (B_X12_more_438 N  l2 l3 l4 (V58.1 146 105) V58))
set_option maxRecDepth 20000 in
theorem tB_X12_more_418 {g : sx_G} (hG : sx_Go g) {P : Option Value → sv_V → Prop} {Vr : sv_V} (hP : P none Vr) {N : Nat}   {l2 : Int32} {l3 : Int32} {l4 : Int32} {s1 : Int32} {V : sv_V} (h : B_X12_more_418 N  l2 l3 l4 s1 V = some Vr) : sv_N g qX12_more 5 418 [(0, .ref 146), (2, .int l2), (3, .int l3), (4, .int l4)] [.int s1, .ref 146] V P := by
  unfold B_X12_more_418 at h
  obtain ⟨V58, hV58⟩ : ∃ z : sv_V, z = sv_I V 146 67 s1 := ⟨_, rfl⟩
  have h := sx_letE hV58 h
  refine sv_putI (pc := 418) hG dX12_more_418 f_12_445 lay_146 rfl hV58 ?_
  refine sx_aload_n (pc := 421) dX12_more_421 sx_m0 ?_
  refine sx_iload (pc := 422) dX12_more_422 sx_m3 ?_
  refine sx_if_eq (pc := 424) (tgt := 434) dX12_more_424 (by decide) (fun c59 => ?_) (fun c59 => ?_)
  · have h := sx_pos c59 h
    refine sx_aload_n (pc := 434) dX12_more_434 sx_m0 ?_
    refine sv_getI (pc := 435) hG dX12_more_435 f_12_536 lay_146 rfl ?_
    refine sx_wk (sx_s1 sx_m0 (sx_s1 sx_m1 (sx_s1 sx_m2 (sx_s1 sx_m3 sx_s0)))) ?_
    exact tB_X12_more_438 hG hP  h
  · have h := sx_neg c59 h
    refine sx_aload_n (pc := 427) dX12_more_427 sx_m0 ?_
    refine sv_getI (pc := 428) hG dX12_more_428 f_12_533 lay_146 rfl ?_
    refine sx_goto (pc := 431) (tgt := 438) dX12_more_431 (by decide) ?_
    refine sx_wk (sx_s1 sx_m0 (sx_s1 sx_m1 (sx_s1 sx_m2 (sx_s1 sx_m3 sx_s0)))) ?_
    exact tB_X12_more_438 hG hP  h
def B_X12_more_368 (N : Nat)  (l2 : Int32) (l3 : Int32) (s0 : Int32) (V : sv_V) : Option sv_V := if sx_in l3 204 = true then if sx_in l2 204 = true then if sx_in l3 204 = true then if sx_in l2 204 = true then (F_X12_direction N ((V.1 166 l3.toNatClampNeg) - (V.1 166 l2.toNatClampNeg)) ((V.1 167 l3.toNatClampNeg) - (V.1 167 l2.toNatClampNeg)) V).bind (fun V64 => if s0 = 0 then (B_X12_more_418 N  l2 l3 s0 (V64.1 146 105) V64) else (B_X12_more_418 N  l2 l3 s0 (-(V64.1 146 106)) V64)) else none else none else none else none
set_option maxRecDepth 20000 in
theorem tB_X12_more_368 {g : sx_G} (hG : sx_Go g) {P : Option Value → sv_V → Prop} {Vr : sv_V} (hP : P none Vr) {N : Nat}   {l2 : Int32} {l3 : Int32} {s0 : Int32} {V : sv_V} (h : B_X12_more_368 N  l2 l3 s0 V = some Vr) : sv_N g qX12_more 5 368 [(0, .ref 146), (2, .int l2), (3, .int l3)] [.int s0] V P := by
  unfold B_X12_more_368 at h
  refine sx_istore (pc := 368) (lo' := [(4, .int s0), (0, .ref 146), (2, .int l2), (3, .int l3)]) dX12_more_368 (by decide) rfl ?_
  refine sx_aload_n (pc := 370) dX12_more_370 sx_m1 ?_
  refine sx_aload_n (pc := 371) dX12_more_371 sx_m1 ?_
  refine sv_getA (pc := 372) hG dX12_more_372 f_12_70 lay_146 rfl cr_146_46 ?_
  refine sx_iload_n (pc := 375) dX12_more_375 sx_m3 ?_
  obtain ⟨g60, h⟩ := sx_grd h
  refine sv_iald (pc := 376) hG dX12_more_376 lay_166 g60 ?_
  refine sx_aload_n (pc := 377) dX12_more_377 sx_m1 ?_
  refine sv_getA (pc := 378) hG dX12_more_378 f_12_70 lay_146 rfl cr_146_46 ?_
  refine sx_iload_n (pc := 381) dX12_more_381 sx_m2 ?_
  obtain ⟨g61, h⟩ := sx_grd h
  refine sv_iald (pc := 382) hG dX12_more_382 lay_166 g61 ?_
  refine sx_isub (pc := 383) dX12_more_383 ?_
  refine sx_aload_n (pc := 384) dX12_more_384 sx_m1 ?_
  refine sv_getA (pc := 385) hG dX12_more_385 f_12_73 lay_146 rfl cr_146_47 ?_
  refine sx_iload_n (pc := 388) dX12_more_388 sx_m3 ?_
  obtain ⟨g62, h⟩ := sx_grd h
  refine sv_iald (pc := 389) hG dX12_more_389 lay_167 g62 ?_
  refine sx_aload_n (pc := 390) dX12_more_390 sx_m1 ?_
  refine sv_getA (pc := 391) hG dX12_more_391 f_12_73 lay_146 rfl cr_146_47 ?_
  refine sx_iload_n (pc := 394) dX12_more_394 sx_m2 ?_
  obtain ⟨g63, h⟩ := sx_grd h
  refine sv_iald (pc := 395) hG dX12_more_395 lay_167 g63 ?_
  refine sx_isub (pc := 396) dX12_more_396 ?_
  obtain ⟨V64, g65, h⟩ := sx_bnd h
  refine sv_cV (pc := 397) (y := qX12_direction) (o := none) (as := [.int ((V.1 166 l3.toNatClampNeg) - (V.1 166 l2.toNatClampNeg)), .int ((V.1 167 l3.toNatClampNeg) - (V.1 167 l2.toNatClampNeg))]) (V1 := V64) hG dX12_more_397 l_X12_586 y0X12_direction yvX12_direction rfl (Nat.le_of_ble_eq_true rfl) lay_146 kr_12 (by decide) (Nat.le_of_ble_eq_true rfl) rfl rfl rfl (t_X12_direction hG ⟨rfl, rfl⟩ g65) ?_
  refine sx_aload_n (pc := 400) dX12_more_400 sx_m1 ?_
  refine sx_iload (pc := 401) dX12_more_401 sx_m0 ?_
  refine sx_if_eq (pc := 403) (tgt := 414) dX12_more_403 (by decide) (fun c66 => ?_) (fun c66 => ?_)
  · have h := sx_pos c66 h
    refine sx_aload_n (pc := 414) dX12_more_414 sx_m1 ?_
    refine sv_getI (pc := 415) hG dX12_more_415 f_12_533 lay_146 rfl ?_
    refine sx_wk (sx_s1 sx_m1 (sx_s1 sx_m2 (sx_s1 sx_m3 (sx_s1 sx_m0 sx_s0)))) ?_
    exact tB_X12_more_418 hG hP  h
  · have h := sx_neg c66 h
    refine sx_aload_n (pc := 406) dX12_more_406 sx_m1 ?_
    refine sv_getI (pc := 407) hG dX12_more_407 f_12_536 lay_146 rfl ?_
    refine sx_ineg (pc := 410) dX12_more_410 ?_
    refine sx_goto (pc := 411) (tgt := 418) dX12_more_411 (by decide) ?_
    refine sx_wk (sx_s1 sx_m1 (sx_s1 sx_m2 (sx_s1 sx_m3 (sx_s1 sx_m0 sx_s0)))) ?_
    exact tB_X12_more_418 hG hP  h
def B_X12_more_315 (N : Nat)  (l1 : Int32) (V : sv_V) : Option sv_V := (F_X12_has (2 : Int32) V).bind (fun (x69, V67) => if x69 = 0 then (some V67) else ((F_X12_pop  V67).bind (fun (x73, V71) => (F_X12_pointOf (V67.1 146 74) x73 V71).bind (fun (x76, V74) => (F_X12_pop  V74).bind (fun (x79, V77) => (F_X12_pointOf (V74.1 146 73) x79 V77).bind (fun (x82, V80) => if (V80.1 146 59) = 0 then (if l1 = (135 : Int32) then (B_X12_more_368 N  x76 x82 (1 : Int32) V80) else (B_X12_more_368 N  x76 x82 (0 : Int32) V80)) else (some V80)))))))
set_option maxRecDepth 20000 in
theorem tB_X12_more_315 {g : sx_G} (hG : sx_Go g) {P : Option Value → sv_V → Prop} {Vr : sv_V} (hP : P none Vr) {N : Nat}   {l1 : Int32} {V : sv_V} (h : B_X12_more_315 N  l1 V = some Vr) : sv_N g qX12_more 5 315 [(0, .ref 146), (1, .int l1)] [] V P := by
  unfold B_X12_more_315 at h
  refine sx_aload_n (pc := 315) dX12_more_315 sx_m0 ?_
  refine sx_iconst (pc := 316) (v := 2) dX12_more_316 (by decide) ?_
  obtain ⟨⟨x69, V67⟩, g68, h⟩ := sx_bnd h
  refine sv_cV (pc := 317) (y := qX12_has) (o := (some (.int x69))) (as := [.int (2 : Int32)]) (V1 := V67) hG dX12_more_317 l_X12_576 y0X12_has yvX12_has rfl (Nat.le_of_ble_eq_true rfl) lay_146 kr_12 (by decide) (Nat.le_of_ble_eq_true rfl) rfl rfl rfl (t_X12_has hG ⟨rfl, rfl⟩ g68) ?_
  refine sx_if_eq (pc := 320) (tgt := 512) dX12_more_320 (by decide) (fun c70 => ?_) (fun c70 => ?_)
  · have h := sx_pos c70 h
    exact sv_vret (pc := 512) dX12_more_512 rfl h hP
  · have h := sx_neg c70 h
    refine sx_aload_n (pc := 323) dX12_more_323 sx_m0 ?_
    refine sx_aload_n (pc := 324) dX12_more_324 sx_m0 ?_
    refine sv_getI (pc := 325) hG dX12_more_325 f_12_466 lay_146 rfl ?_
    refine sx_aload_n (pc := 328) dX12_more_328 sx_m0 ?_
    obtain ⟨⟨x73, V71⟩, g72, h⟩ := sx_bnd h
    refine sv_cV (pc := 329) (y := qX12_pop) (o := (some (.int x73))) (as := []) (V1 := V71) hG dX12_more_329 l_X12_579 y0X12_pop yvX12_pop rfl (Nat.le_of_ble_eq_true rfl) lay_146 kr_12 (by decide) (Nat.le_of_ble_eq_true rfl) rfl rfl rfl (t_X12_pop hG ⟨rfl, rfl⟩ g72) ?_
    obtain ⟨⟨x76, V74⟩, g75, h⟩ := sx_bnd h
    refine sv_cV (pc := 332) (y := qX12_pointOf) (o := (some (.int x76))) (as := [.int (V67.1 146 74), .int x73]) (V1 := V74) hG dX12_more_332 l_X12_582 y0X12_pointOf yvX12_pointOf rfl (Nat.le_of_ble_eq_true rfl) lay_146 kr_12 (by decide) (Nat.le_of_ble_eq_true rfl) rfl rfl rfl (t_X12_pointOf hG ⟨rfl, rfl⟩ g75) ?_
    refine sx_istore_n (pc := 335) (lo' := [(2, .int x76), (0, .ref 146), (1, .int l1)]) dX12_more_335 (by decide) rfl ?_
    refine sx_aload_n (pc := 336) dX12_more_336 sx_m1 ?_
    refine sx_aload_n (pc := 337) dX12_more_337 sx_m1 ?_
    refine sv_getI (pc := 338) hG dX12_more_338 f_12_463 lay_146 rfl ?_
    refine sx_aload_n (pc := 341) dX12_more_341 sx_m1 ?_
    obtain ⟨⟨x79, V77⟩, g78, h⟩ := sx_bnd h
    refine sv_cV (pc := 342) (y := qX12_pop) (o := (some (.int x79))) (as := []) (V1 := V77) hG dX12_more_342 l_X12_579 y0X12_pop yvX12_pop rfl (Nat.le_of_ble_eq_true rfl) lay_146 kr_12 (by decide) (Nat.le_of_ble_eq_true rfl) rfl rfl rfl (t_X12_pop hG ⟨rfl, rfl⟩ g78) ?_
    obtain ⟨⟨x82, V80⟩, g81, h⟩ := sx_bnd h
    refine sv_cV (pc := 345) (y := qX12_pointOf) (o := (some (.int x82))) (as := [.int (V74.1 146 73), .int x79]) (V1 := V80) hG dX12_more_345 l_X12_582 y0X12_pointOf yvX12_pointOf rfl (Nat.le_of_ble_eq_true rfl) lay_146 kr_12 (by decide) (Nat.le_of_ble_eq_true rfl) rfl rfl rfl (t_X12_pointOf hG ⟨rfl, rfl⟩ g81) ?_
    refine sx_istore_n (pc := 348) (lo' := [(3, .int x82), (2, .int x76), (0, .ref 146), (1, .int l1)]) dX12_more_348 (by decide) rfl ?_
    refine sx_aload_n (pc := 349) dX12_more_349 sx_m2 ?_
    refine sv_getI (pc := 350) hG dX12_more_350 f_12_409 lay_146 rfl ?_
    refine sx_if_ne (pc := 353) (tgt := 512) dX12_more_353 (by decide) (fun c83 => ?_) (fun c83 => ?_)
    · have h := sx_neg c83 h
      exact sv_vret (pc := 512) dX12_more_512 rfl h hP
    · have h := sx_pos c83 h
      refine sx_iload_n (pc := 356) dX12_more_356 sx_m3 ?_
      refine sx_sipush (pc := 357) (v := 135) dX12_more_357 (by decide) ?_
      refine sx_icmp_ne (pc := 360) (tgt := 367) dX12_more_360 (by decide) (fun c84 => ?_) (fun c84 => ?_)
      · have h := sx_neg c84 h
        refine sx_iconst (pc := 367) (v := 0) dX12_more_367 (by decide) ?_
        refine sx_wk (sx_s1 sx_m2 (sx_s1 sx_m1 (sx_s1 sx_m0 sx_s0))) ?_
        exact tB_X12_more_368 hG hP  h
      · have h := sx_pos c84 h
        refine sx_iconst (pc := 363) (v := 1) dX12_more_363 (by decide) ?_
        refine sx_goto (pc := 364) (tgt := 368) dX12_more_364 (by decide) ?_
        refine sx_wk (sx_s1 sx_m2 (sx_s1 sx_m1 (sx_s1 sx_m0 sx_s0))) ?_
        exact tB_X12_more_368 hG hP  h
def B_X12_more_538 (N : Nat)  (s1 : Int64) (V : sv_V) : Option sv_V := (F_X12_push s1 V).bind (fun V85 => some V85)
set_option maxRecDepth 20000 in
theorem tB_X12_more_538 {g : sx_G} (hG : sx_Go g) {P : Option Value → sv_V → Prop} {Vr : sv_V} (hP : P none Vr) {N : Nat}   {s1 : Int64} {V : sv_V} (h : B_X12_more_538 N  s1 V = some Vr) : sv_N g qX12_more 5 538 [] [.long s1, .ref 146] V P := by
  unfold B_X12_more_538 at h
  obtain ⟨V85, g86, h⟩ := sx_bnd h
  refine sv_cV (pc := 538) (y := qX12_push) (o := none) (as := [.long s1]) (V1 := V85) hG dX12_more_538 l_X12_564 y0X12_push yvX12_push rfl (Nat.le_of_ble_eq_true rfl) lay_146 kr_12 (by decide) (Nat.le_of_ble_eq_true rfl) rfl rfl rfl (t_X12_push hG ⟨rfl, rfl⟩ g86) ?_
  exact sv_vret (pc := 541) dX12_more_541 rfl h hP
def B_X12_more_645 (N : Nat)  (l1 : Int32) (V : sv_V) : Option sv_V := (F_X12_unknown l1 V).bind (fun V87 => some V87)
set_option maxRecDepth 20000 in
theorem tB_X12_more_645 {g : sx_G} (hG : sx_Go g) {P : Option Value → sv_V → Prop} {Vr : sv_V} (hP : P none Vr) {N : Nat}   {l1 : Int32} {V : sv_V} (h : B_X12_more_645 N  l1 V = some Vr) : sv_N g qX12_more 5 645 [(0, .ref 146), (1, .int l1)] [] V P := by
  unfold B_X12_more_645 at h
  refine sx_aload_n (pc := 645) dX12_more_645 sx_m0 ?_
  refine sx_iload_n (pc := 646) dX12_more_646 sx_m1 ?_
  obtain ⟨V87, g88, h⟩ := sx_bnd h
  refine sv_cV (pc := 647) (y := qX12_unknown) (o := none) (as := [.int l1]) (V1 := V87) hG dX12_more_647 l_X12_650 y0X12_unknown yvX12_unknown rfl (Nat.le_of_ble_eq_true rfl) lay_146 kr_12 (by decide) (Nat.le_of_ble_eq_true rfl) rfl rfl rfl (t_X12_unknown hG ⟨rfl, rfl⟩ g88) ?_
  exact sv_vret (pc := 650) dX12_more_650 rfl h hP
def F_X12_more (N : Nat) (l1 : Int32) (V : sv_V) : Option sv_V := if l1 = 128 then ((F_X12_has (V.1 146 75) V).bind (fun (x92, V90) => if x92 = 0 then (some V90) else (sx_lp2 (B_X12_more_85 N ) N (0 : Int32) V90))) else (if l1 = 129 then (B_X12_more_194 N  l1 V) else (if l1 = 130 then (B_X12_more_194 N  l1 V) else (if l1 = 131 then (B_X12_more_645 N  l1 V) else (if l1 = 132 then (B_X12_more_645 N  l1 V) else (if l1 = 133 then ((F_X12_has (1 : Int32) V).bind (fun (x101, V99) => if x101 = 0 then (sx_let (sv_I V99 146 87 (0 : Int32)) (fun V103 => some V103)) else ((F_X12_pop  V99).bind (fun (x106, V104) => sx_let (sv_I V104 146 87 x106) (fun V107 => some V107))))) else (if l1 = 134 then (B_X12_more_315 N  l1 V) else (if l1 = 135 then (B_X12_more_315 N  l1 V) else (if l1 = 136 then ((F_X12_has (1 : Int32) V).bind (fun (x113, V111) => if x113 = 0 then (some V111) else ((F_X12_pop  V111).bind (fun (x117, V115) => if (x117 &&& (1 : Int32)) = 0 then (B_X12_more_538 N  (0 : Int64) V115) else (B_X12_more_538 N  (35 : Int64) V115))))) else (if l1 = 137 then ((F_X12_defineOwn N  V).bind (fun V120 => some V120)) else (if l1 = 138 then ((F_X12_has (3 : Int32) V).bind (fun (x125, V123) => if x125 = 0 then (some V123) else (if sx_in ((V123.1 146 56) - (3 : Int32)) 256 = true then sx_let (V123.1 173 ((V123.1 146 56) - (3 : Int32)).toNatClampNeg) (fun x128 => if sx_in ((V123.1 146 56) - (2 : Int32)) 256 = true then if sx_in ((V123.1 146 56) - (3 : Int32)) 256 = true then sx_let (sv_I V123 173 ((V123.1 146 56) - (3 : Int32)).toNatClampNeg (V123.1 173 ((V123.1 146 56) - (2 : Int32)).toNatClampNeg)) (fun V131 => if sx_in ((V131.1 146 56) - (1 : Int32)) 256 = true then if sx_in ((V131.1 146 56) - (2 : Int32)) 256 = true then sx_let (sv_I V131 173 ((V131.1 146 56) - (2 : Int32)).toNatClampNeg (V131.1 173 ((V131.1 146 56) - (1 : Int32)).toNatClampNeg)) (fun V134 => if sx_in ((V134.1 146 56) - (1 : Int32)) 256 = true then sx_let (sv_I V134 173 ((V134.1 146 56) - (1 : Int32)).toNatClampNeg x128) (fun V136 => some V136) else none) else none else none) else none else none) else none))) else (if l1 = 139 then (B_X12_more_645 N  l1 V) else (if l1 = 140 then (B_X12_more_645 N  l1 V) else (if l1 = 141 then ((F_X12_has (1 : Int32) V).bind (fun (x142, V140) => if x142 = 0 then (sx_let (sv_I V140 146 88 (0 : Int32)) (fun V144 => some V144)) else ((F_X12_pop  V140).bind (fun (x147, V145) => sx_let (sv_I V145 146 88 x147) (fun V148 => some V148))))) else (B_X12_more_645 N  l1 V))))))))))))))
set_option maxRecDepth 20000 in
theorem t_X12_more {g : sx_G} (hG : sx_Go g) {P : Option Value → sv_V → Prop} {Vr : sv_V} (hP : P none Vr) {N : Nat} {l1 : Int32} {V : sv_V} (h : F_X12_more N l1 V = some Vr) : sv_N g qX12_more 5 0 [(0, .ref 146), (1, .int l1)] [] V P := by
  unfold F_X12_more at h
  refine sx_iload_n (pc := 0) dX12_more_0 sx_m1 ?_
  by_cases c89 : l1 = 128
  · have h := sx_pos c89 h
    refine sx_tabI (pc := 1) (off := 71) (tgt := 72) dX12_more_1 (by rw [c89]; decide) (by rw [c89]; decide) (by rw [c89]; rfl) (by decide) ?_
    refine sx_aload_n (pc := 72) dX12_more_72 sx_m0 ?_
    refine sx_aload_n (pc := 73) dX12_more_73 sx_m0 ?_
    refine sv_getI (pc := 74) hG dX12_more_74 f_12_469 lay_146 rfl ?_
    obtain ⟨⟨x92, V90⟩, g91, h⟩ := sx_bnd h
    refine sv_cV (pc := 77) (y := qX12_has) (o := (some (.int x92))) (as := [.int (V.1 146 75)]) (V1 := V90) hG dX12_more_77 l_X12_576 y0X12_has yvX12_has rfl (Nat.le_of_ble_eq_true rfl) lay_146 kr_12 (by decide) (Nat.le_of_ble_eq_true rfl) rfl rfl rfl (t_X12_has hG ⟨rfl, rfl⟩ g91) ?_
    refine sx_if_eq (pc := 80) (tgt := 193) dX12_more_80 (by decide) (fun c93 => ?_) (fun c93 => ?_)
    · have h := sx_pos c93 h
      exact sv_vret (pc := 193) dX12_more_193 rfl h hP
    · have h := sx_neg c93 h
      refine sx_iconst (pc := 83) (v := 0) dX12_more_83 (by decide) ?_
      refine sx_istore_n (pc := 84) (lo' := [(2, .int (0 : Int32)), (0, .ref 146), (1, .int l1)]) dX12_more_84 (by decide) rfl ?_
      refine sx_wk (sx_s1 sx_m1 (sx_s1 sx_m0 sx_s0)) ?_
      exact tL_X12_more_85 hG hP  N _ _ h
  have h := sx_neg c89 h
  by_cases c94 : l1 = 129
  · have h := sx_pos c94 h
    refine sx_tabI (pc := 1) (off := 193) (tgt := 194) dX12_more_1 (by rw [c94]; decide) (by rw [c94]; decide) (by rw [c94]; rfl) (by decide) ?_
    refine sx_wk (sx_s1 sx_m0 (sx_s1 sx_m1 sx_s0)) ?_
    exact tB_X12_more_194 hG hP  h
  have h := sx_neg c94 h
  by_cases c95 : l1 = 130
  · have h := sx_pos c95 h
    refine sx_tabI (pc := 1) (off := 193) (tgt := 194) dX12_more_1 (by rw [c95]; decide) (by rw [c95]; decide) (by rw [c95]; rfl) (by decide) ?_
    refine sx_wk (sx_s1 sx_m0 (sx_s1 sx_m1 sx_s0)) ?_
    exact tB_X12_more_194 hG hP  h
  have h := sx_neg c95 h
  by_cases c96 : l1 = 131
  · have h := sx_pos c96 h
    refine sx_tabI (pc := 1) (off := 644) (tgt := 645) dX12_more_1 (by rw [c96]; decide) (by rw [c96]; decide) (by rw [c96]; rfl) (by decide) ?_
    refine sx_wk (sx_s1 sx_m0 (sx_s1 sx_m1 sx_s0)) ?_
    exact tB_X12_more_645 hG hP  h
  have h := sx_neg c96 h
  by_cases c97 : l1 = 132
  · have h := sx_pos c97 h
    refine sx_tabI (pc := 1) (off := 644) (tgt := 645) dX12_more_1 (by rw [c97]; decide) (by rw [c97]; decide) (by rw [c97]; rfl) (by decide) ?_
    refine sx_wk (sx_s1 sx_m0 (sx_s1 sx_m1 sx_s0)) ?_
    exact tB_X12_more_645 hG hP  h
  have h := sx_neg c97 h
  by_cases c98 : l1 = 133
  · have h := sx_pos c98 h
    refine sx_tabI (pc := 1) (off := 293) (tgt := 294) dX12_more_1 (by rw [c98]; decide) (by rw [c98]; decide) (by rw [c98]; rfl) (by decide) ?_
    refine sx_aload_n (pc := 294) dX12_more_294 sx_m0 ?_
    refine sx_aload_n (pc := 295) dX12_more_295 sx_m0 ?_
    refine sx_iconst (pc := 296) (v := 1) dX12_more_296 (by decide) ?_
    obtain ⟨⟨x101, V99⟩, g100, h⟩ := sx_bnd h
    refine sv_cV (pc := 297) (y := qX12_has) (o := (some (.int x101))) (as := [.int (1 : Int32)]) (V1 := V99) hG dX12_more_297 l_X12_576 y0X12_has yvX12_has rfl (Nat.le_of_ble_eq_true rfl) lay_146 kr_12 (by decide) (Nat.le_of_ble_eq_true rfl) rfl rfl rfl (t_X12_has hG ⟨rfl, rfl⟩ g100) ?_
    refine sx_if_eq (pc := 300) (tgt := 310) dX12_more_300 (by decide) (fun c102 => ?_) (fun c102 => ?_)
    · have h := sx_pos c102 h
      refine sx_iconst (pc := 310) (v := 0) dX12_more_310 (by decide) ?_
      obtain ⟨V103, hV103⟩ : ∃ z : sv_V, z = sv_I V99 146 87 (0 : Int32) := ⟨_, rfl⟩
      have h := sx_letE hV103 h
      refine sv_putI (pc := 311) hG dX12_more_311 f_12_739 lay_146 rfl hV103 ?_
      exact sv_vret (pc := 314) dX12_more_314 rfl h hP
    · have h := sx_neg c102 h
      refine sx_aload_n (pc := 303) dX12_more_303 sx_m0 ?_
      obtain ⟨⟨x106, V104⟩, g105, h⟩ := sx_bnd h
      refine sv_cV (pc := 304) (y := qX12_pop) (o := (some (.int x106))) (as := []) (V1 := V104) hG dX12_more_304 l_X12_579 y0X12_pop yvX12_pop rfl (Nat.le_of_ble_eq_true rfl) lay_146 kr_12 (by decide) (Nat.le_of_ble_eq_true rfl) rfl rfl rfl (t_X12_pop hG ⟨rfl, rfl⟩ g105) ?_
      refine sx_goto (pc := 307) (tgt := 311) dX12_more_307 (by decide) ?_
      obtain ⟨V107, hV107⟩ : ∃ z : sv_V, z = sv_I V104 146 87 x106 := ⟨_, rfl⟩
      have h := sx_letE hV107 h
      refine sv_putI (pc := 311) hG dX12_more_311 f_12_739 lay_146 rfl hV107 ?_
      exact sv_vret (pc := 314) dX12_more_314 rfl h hP
  have h := sx_neg c98 h
  by_cases c108 : l1 = 134
  · have h := sx_pos c108 h
    refine sx_tabI (pc := 1) (off := 314) (tgt := 315) dX12_more_1 (by rw [c108]; decide) (by rw [c108]; decide) (by rw [c108]; rfl) (by decide) ?_
    refine sx_wk (sx_s1 sx_m0 (sx_s1 sx_m1 sx_s0)) ?_
    exact tB_X12_more_315 hG hP  h
  have h := sx_neg c108 h
  by_cases c109 : l1 = 135
  · have h := sx_pos c109 h
    refine sx_tabI (pc := 1) (off := 314) (tgt := 315) dX12_more_1 (by rw [c109]; decide) (by rw [c109]; decide) (by rw [c109]; rfl) (by decide) ?_
    refine sx_wk (sx_s1 sx_m0 (sx_s1 sx_m1 sx_s0)) ?_
    exact tB_X12_more_315 hG hP  h
  have h := sx_neg c109 h
  by_cases c110 : l1 = 136
  · have h := sx_pos c110 h
    refine sx_tabI (pc := 1) (off := 512) (tgt := 513) dX12_more_1 (by rw [c110]; decide) (by rw [c110]; decide) (by rw [c110]; rfl) (by decide) ?_
    refine sx_aload_n (pc := 513) dX12_more_513 sx_m0 ?_
    refine sx_iconst (pc := 514) (v := 1) dX12_more_514 (by decide) ?_
    obtain ⟨⟨x113, V111⟩, g112, h⟩ := sx_bnd h
    refine sv_cV (pc := 515) (y := qX12_has) (o := (some (.int x113))) (as := [.int (1 : Int32)]) (V1 := V111) hG dX12_more_515 l_X12_576 y0X12_has yvX12_has rfl (Nat.le_of_ble_eq_true rfl) lay_146 kr_12 (by decide) (Nat.le_of_ble_eq_true rfl) rfl rfl rfl (t_X12_has hG ⟨rfl, rfl⟩ g112) ?_
    refine sx_if_eq (pc := 518) (tgt := 541) dX12_more_518 (by decide) (fun c114 => ?_) (fun c114 => ?_)
    · have h := sx_pos c114 h
      exact sv_vret (pc := 541) dX12_more_541 rfl h hP
    · have h := sx_neg c114 h
      refine sx_aload_n (pc := 521) dX12_more_521 sx_m0 ?_
      refine sx_aload_n (pc := 522) dX12_more_522 sx_m0 ?_
      obtain ⟨⟨x117, V115⟩, g116, h⟩ := sx_bnd h
      refine sv_cV (pc := 523) (y := qX12_pop) (o := (some (.int x117))) (as := []) (V1 := V115) hG dX12_more_523 l_X12_579 y0X12_pop yvX12_pop rfl (Nat.le_of_ble_eq_true rfl) lay_146 kr_12 (by decide) (Nat.le_of_ble_eq_true rfl) rfl rfl rfl (t_X12_pop hG ⟨rfl, rfl⟩ g116) ?_
      refine sx_iconst (pc := 526) (v := 1) dX12_more_526 (by decide) ?_
      refine sx_iand (pc := 527) dX12_more_527 ?_
      refine sx_if_eq (pc := 528) (tgt := 537) dX12_more_528 (by decide) (fun c118 => ?_) (fun c118 => ?_)
      · have h := sx_pos c118 h
        refine sx_lconst (pc := 537) (v := 0) dX12_more_537 rfl ?_
        refine sx_wk sx_s0 ?_
        exact tB_X12_more_538 hG hP  h
      · have h := sx_neg c118 h
        refine sx_ldc2 (pc := 531) dX12_more_531 k_X12_742 ?_
        refine sx_goto (pc := 534) (tgt := 538) dX12_more_534 (by decide) ?_
        refine sx_wk sx_s0 ?_
        exact tB_X12_more_538 hG hP  h
  have h := sx_neg c110 h
  by_cases c119 : l1 = 137
  · have h := sx_pos c119 h
    refine sx_tabI (pc := 1) (off := 541) (tgt := 542) dX12_more_1 (by rw [c119]; decide) (by rw [c119]; decide) (by rw [c119]; rfl) (by decide) ?_
    refine sx_aload_n (pc := 542) dX12_more_542 sx_m0 ?_
    obtain ⟨V120, g121, h⟩ := sx_bnd h
    refine sv_cV (pc := 543) (y := qX12_defineOwn) (o := none) (as := []) (V1 := V120) hG dX12_more_543 l_X12_744 y0X12_defineOwn yvX12_defineOwn rfl (Nat.le_of_ble_eq_true rfl) lay_146 kr_12 (by decide) (Nat.le_of_ble_eq_true rfl) rfl rfl rfl (t_X12_defineOwn hG ⟨rfl, rfl⟩ g121) ?_
    exact sv_vret (pc := 546) dX12_more_546 rfl h hP
  have h := sx_neg c119 h
  by_cases c122 : l1 = 138
  · have h := sx_pos c122 h
    refine sx_tabI (pc := 1) (off := 546) (tgt := 547) dX12_more_1 (by rw [c122]; decide) (by rw [c122]; decide) (by rw [c122]; rfl) (by decide) ?_
    refine sx_aload_n (pc := 547) dX12_more_547 sx_m0 ?_
    refine sx_iconst (pc := 548) (v := 3) dX12_more_548 (by decide) ?_
    obtain ⟨⟨x125, V123⟩, g124, h⟩ := sx_bnd h
    refine sv_cV (pc := 549) (y := qX12_has) (o := (some (.int x125))) (as := [.int (3 : Int32)]) (V1 := V123) hG dX12_more_549 l_X12_576 y0X12_has yvX12_has rfl (Nat.le_of_ble_eq_true rfl) lay_146 kr_12 (by decide) (Nat.le_of_ble_eq_true rfl) rfl rfl rfl (t_X12_has hG ⟨rfl, rfl⟩ g124) ?_
    refine sx_if_eq (pc := 552) (tgt := 623) dX12_more_552 (by decide) (fun c126 => ?_) (fun c126 => ?_)
    · have h := sx_pos c126 h
      exact sv_vret (pc := 623) dX12_more_623 rfl h hP
    · have h := sx_neg c126 h
      refine sx_aload_n (pc := 555) dX12_more_555 sx_m0 ?_
      refine sv_getA (pc := 556) hG dX12_more_556 f_12_91 lay_146 rfl cr_146_55 ?_
      refine sx_aload_n (pc := 559) dX12_more_559 sx_m0 ?_
      refine sv_getI (pc := 560) hG dX12_more_560 f_12_418 lay_146 rfl ?_
      refine sx_iconst (pc := 563) (v := 3) dX12_more_563 (by decide) ?_
      refine sx_isub (pc := 564) dX12_more_564 ?_
      obtain ⟨g127, h⟩ := sx_grd h
      refine sv_iald (pc := 565) hG dX12_more_565 lay_173 g127 ?_
      refine sv_tI (fun x128 hx128 => ?_)
      have h := sx_letE hx128 h
      refine sx_istore_n (pc := 566) (lo' := [(2, .int x128), (0, .ref 146), (1, .int l1)]) dX12_more_566 (by decide) rfl ?_
      refine sx_aload_n (pc := 567) dX12_more_567 sx_m1 ?_
      refine sv_getA (pc := 568) hG dX12_more_568 f_12_91 lay_146 rfl cr_146_55 ?_
      refine sx_aload_n (pc := 571) dX12_more_571 sx_m1 ?_
      refine sv_getI (pc := 572) hG dX12_more_572 f_12_418 lay_146 rfl ?_
      refine sx_iconst (pc := 575) (v := 3) dX12_more_575 (by decide) ?_
      refine sx_isub (pc := 576) dX12_more_576 ?_
      refine sx_aload_n (pc := 577) dX12_more_577 sx_m1 ?_
      refine sv_getA (pc := 578) hG dX12_more_578 f_12_91 lay_146 rfl cr_146_55 ?_
      refine sx_aload_n (pc := 581) dX12_more_581 sx_m1 ?_
      refine sv_getI (pc := 582) hG dX12_more_582 f_12_418 lay_146 rfl ?_
      refine sx_iconst (pc := 585) (v := 2) dX12_more_585 (by decide) ?_
      refine sx_isub (pc := 586) dX12_more_586 ?_
      obtain ⟨g129, h⟩ := sx_grd h
      refine sv_iald (pc := 587) hG dX12_more_587 lay_173 g129 ?_
      obtain ⟨g130, h⟩ := sx_grd h
      obtain ⟨V131, hV131⟩ : ∃ z : sv_V, z = sv_I V123 173 ((V123.1 146 56) - (3 : Int32)).toNatClampNeg (V123.1 173 ((V123.1 146 56) - (2 : Int32)).toNatClampNeg) := ⟨_, rfl⟩
      have h := sx_letE hV131 h
      refine sv_iast (pc := 588) hG dX12_more_588 lay_173 g130 hV131 ?_
      refine sx_aload_n (pc := 589) dX12_more_589 sx_m1 ?_
      refine sv_getA (pc := 590) hG dX12_more_590 f_12_91 lay_146 rfl cr_146_55 ?_
      refine sx_aload_n (pc := 593) dX12_more_593 sx_m1 ?_
      refine sv_getI (pc := 594) hG dX12_more_594 f_12_418 lay_146 rfl ?_
      refine sx_iconst (pc := 597) (v := 2) dX12_more_597 (by decide) ?_
      refine sx_isub (pc := 598) dX12_more_598 ?_
      refine sx_aload_n (pc := 599) dX12_more_599 sx_m1 ?_
      refine sv_getA (pc := 600) hG dX12_more_600 f_12_91 lay_146 rfl cr_146_55 ?_
      refine sx_aload_n (pc := 603) dX12_more_603 sx_m1 ?_
      refine sv_getI (pc := 604) hG dX12_more_604 f_12_418 lay_146 rfl ?_
      refine sx_iconst (pc := 607) (v := 1) dX12_more_607 (by decide) ?_
      refine sx_isub (pc := 608) dX12_more_608 ?_
      obtain ⟨g132, h⟩ := sx_grd h
      refine sv_iald (pc := 609) hG dX12_more_609 lay_173 g132 ?_
      obtain ⟨g133, h⟩ := sx_grd h
      obtain ⟨V134, hV134⟩ : ∃ z : sv_V, z = sv_I V131 173 ((V131.1 146 56) - (2 : Int32)).toNatClampNeg (V131.1 173 ((V131.1 146 56) - (1 : Int32)).toNatClampNeg) := ⟨_, rfl⟩
      have h := sx_letE hV134 h
      refine sv_iast (pc := 610) hG dX12_more_610 lay_173 g133 hV134 ?_
      refine sx_aload_n (pc := 611) dX12_more_611 sx_m1 ?_
      refine sv_getA (pc := 612) hG dX12_more_612 f_12_91 lay_146 rfl cr_146_55 ?_
      refine sx_aload_n (pc := 615) dX12_more_615 sx_m1 ?_
      refine sv_getI (pc := 616) hG dX12_more_616 f_12_418 lay_146 rfl ?_
      refine sx_iconst (pc := 619) (v := 1) dX12_more_619 (by decide) ?_
      refine sx_isub (pc := 620) dX12_more_620 ?_
      refine sx_iload_n (pc := 621) dX12_more_621 sx_m0 ?_
      obtain ⟨g135, h⟩ := sx_grd h
      obtain ⟨V136, hV136⟩ : ∃ z : sv_V, z = sv_I V134 173 ((V134.1 146 56) - (1 : Int32)).toNatClampNeg x128 := ⟨_, rfl⟩
      have h := sx_letE hV136 h
      refine sv_iast (pc := 622) hG dX12_more_622 lay_173 g135 hV136 ?_
      exact sv_vret (pc := 623) dX12_more_623 rfl h hP
  have h := sx_neg c122 h
  by_cases c137 : l1 = 139
  · have h := sx_pos c137 h
    refine sx_tabI (pc := 1) (off := 644) (tgt := 645) dX12_more_1 (by rw [c137]; decide) (by rw [c137]; decide) (by rw [c137]; rfl) (by decide) ?_
    refine sx_wk (sx_s1 sx_m0 (sx_s1 sx_m1 sx_s0)) ?_
    exact tB_X12_more_645 hG hP  h
  have h := sx_neg c137 h
  by_cases c138 : l1 = 140
  · have h := sx_pos c138 h
    refine sx_tabI (pc := 1) (off := 644) (tgt := 645) dX12_more_1 (by rw [c138]; decide) (by rw [c138]; decide) (by rw [c138]; rfl) (by decide) ?_
    refine sx_wk (sx_s1 sx_m0 (sx_s1 sx_m1 sx_s0)) ?_
    exact tB_X12_more_645 hG hP  h
  have h := sx_neg c138 h
  by_cases c139 : l1 = 141
  · have h := sx_pos c139 h
    refine sx_tabI (pc := 1) (off := 623) (tgt := 624) dX12_more_1 (by rw [c139]; decide) (by rw [c139]; decide) (by rw [c139]; rfl) (by decide) ?_
    refine sx_aload_n (pc := 624) dX12_more_624 sx_m0 ?_
    refine sx_aload_n (pc := 625) dX12_more_625 sx_m0 ?_
    refine sx_iconst (pc := 626) (v := 1) dX12_more_626 (by decide) ?_
    obtain ⟨⟨x142, V140⟩, g141, h⟩ := sx_bnd h
    refine sv_cV (pc := 627) (y := qX12_has) (o := (some (.int x142))) (as := [.int (1 : Int32)]) (V1 := V140) hG dX12_more_627 l_X12_576 y0X12_has yvX12_has rfl (Nat.le_of_ble_eq_true rfl) lay_146 kr_12 (by decide) (Nat.le_of_ble_eq_true rfl) rfl rfl rfl (t_X12_has hG ⟨rfl, rfl⟩ g141) ?_
    refine sx_if_eq (pc := 630) (tgt := 640) dX12_more_630 (by decide) (fun c143 => ?_) (fun c143 => ?_)
    · have h := sx_pos c143 h
      refine sx_iconst (pc := 640) (v := 0) dX12_more_640 (by decide) ?_
      obtain ⟨V144, hV144⟩ : ∃ z : sv_V, z = sv_I V140 146 88 (0 : Int32) := ⟨_, rfl⟩
      have h := sx_letE hV144 h
      refine sv_putI (pc := 641) hG dX12_more_641 f_12_747 lay_146 rfl hV144 ?_
      exact sv_vret (pc := 644) dX12_more_644 rfl h hP
    · have h := sx_neg c143 h
      refine sx_aload_n (pc := 633) dX12_more_633 sx_m0 ?_
      obtain ⟨⟨x147, V145⟩, g146, h⟩ := sx_bnd h
      refine sv_cV (pc := 634) (y := qX12_pop) (o := (some (.int x147))) (as := []) (V1 := V145) hG dX12_more_634 l_X12_579 y0X12_pop yvX12_pop rfl (Nat.le_of_ble_eq_true rfl) lay_146 kr_12 (by decide) (Nat.le_of_ble_eq_true rfl) rfl rfl rfl (t_X12_pop hG ⟨rfl, rfl⟩ g146) ?_
      refine sx_goto (pc := 637) (tgt := 641) dX12_more_637 (by decide) ?_
      obtain ⟨V148, hV148⟩ : ∃ z : sv_V, z = sv_I V145 146 88 x147 := ⟨_, rfl⟩
      have h := sx_letE hV148 h
      refine sv_putI (pc := 641) hG dX12_more_641 f_12_747 lay_146 rfl hV148 ?_
      exact sv_vret (pc := 644) dX12_more_644 rfl h hP
  have h := sx_neg c139 h
  refine sx_tabO (pc := 1) (tgt := 645) dX12_more_1 (by have ec89 := lv_neT (a := 128) c89 rfl; have ec94 := lv_neT (a := 129) c94 rfl; have ec95 := lv_neT (a := 130) c95 rfl; have ec96 := lv_neT (a := 131) c96 rfl; have ec97 := lv_neT (a := 132) c97 rfl; have ec98 := lv_neT (a := 133) c98 rfl; have ec108 := lv_neT (a := 134) c108 rfl; have ec109 := lv_neT (a := 135) c109 rfl; have ec110 := lv_neT (a := 136) c110 rfl; have ec119 := lv_neT (a := 137) c119 rfl; have ec122 := lv_neT (a := 138) c122 rfl; have ec137 := lv_neT (a := 139) c137 rfl; have ec138 := lv_neT (a := 140) c138 rfl; have ec139 := lv_neT (a := 141) c139 rfl; omega) (by decide) ?_
  refine sx_wk (sx_s1 sx_m0 (sx_s1 sx_m1 sx_s0)) ?_
  exact tB_X12_more_645 hG hP  h
theorem dX2_findGlyph_0 : decode cX2_findGlyph 0 = .ok (.lconst 0, 1) := by decide +kernel
theorem dX2_findGlyph_1 : decode cX2_findGlyph 1 = .ok (.lstore_n 2, 1) := by decide +kernel
theorem dX2_findGlyph_2 : decode cX2_findGlyph 2 = .ok (.aload_n 0, 1) := by decide +kernel
theorem dX2_findGlyph_3 : decode cX2_findGlyph 3 = .ok (.getfield 72, 3) := by decide +kernel
theorem dX2_findGlyph_6 : decode cX2_findGlyph 6 = .ok (.bipush 12, 2) := by decide +kernel
theorem dX2_findGlyph_8 : decode cX2_findGlyph 8 = .ok (.if_icmp .ne 12, 3) := by decide +kernel
theorem dX2_findGlyph_11 : decode cX2_findGlyph 11 = .ok (.aload_n 0, 1) := by decide +kernel
theorem dX2_findGlyph_12 : decode cX2_findGlyph 12 = .ok (.iload_n 1, 1) := by decide +kernel
theorem dX2_findGlyph_13 : decode cX2_findGlyph 13 = .ok (.invokevirtual 75, 3) := by decide +kernel
theorem dX2_findGlyph_16 : decode cX2_findGlyph 16 = .ok (.lstore_n 2, 1) := by decide +kernel
theorem dX2_findGlyph_17 : decode cX2_findGlyph 17 = .ok (.goto 43, 3) := by decide +kernel
theorem dX2_findGlyph_20 : decode cX2_findGlyph 20 = .ok (.aload_n 0, 1) := by decide +kernel
theorem dX2_findGlyph_21 : decode cX2_findGlyph 21 = .ok (.getfield 72, 3) := by decide +kernel
theorem dX2_findGlyph_24 : decode cX2_findGlyph 24 = .ok (.iconst 4, 1) := by decide +kernel
theorem dX2_findGlyph_25 : decode cX2_findGlyph 25 = .ok (.if_icmp .ne 13, 3) := by decide +kernel
theorem dX2_findGlyph_28 : decode cX2_findGlyph 28 = .ok (.aload_n 0, 1) := by decide +kernel
theorem dX2_findGlyph_29 : decode cX2_findGlyph 29 = .ok (.iload_n 1, 1) := by decide +kernel
theorem dX2_findGlyph_30 : decode cX2_findGlyph 30 = .ok (.invokevirtual 79, 3) := by decide +kernel
theorem dX2_findGlyph_33 : decode cX2_findGlyph 33 = .ok (.i2l, 1) := by decide +kernel
theorem dX2_findGlyph_34 : decode cX2_findGlyph 34 = .ok (.lstore_n 2, 1) := by decide +kernel
theorem dX2_findGlyph_35 : decode cX2_findGlyph 35 = .ok (.goto 25, 3) := by decide +kernel
theorem dX2_findGlyph_38 : decode cX2_findGlyph 38 = .ok (.iload_n 1, 1) := by decide +kernel
theorem dX2_findGlyph_39 : decode cX2_findGlyph 39 = .ok (.sipush 256, 3) := by decide +kernel
theorem dX2_findGlyph_42 : decode cX2_findGlyph 42 = .ok (.if_icmp .ge 18, 3) := by decide +kernel
theorem dX2_findGlyph_45 : decode cX2_findGlyph 45 = .ok (.aload_n 0, 1) := by decide +kernel
theorem dX2_findGlyph_46 : decode cX2_findGlyph 46 = .ok (.aload_n 0, 1) := by decide +kernel
theorem dX2_findGlyph_47 : decode cX2_findGlyph 47 = .ok (.getfield 82, 3) := by decide +kernel
theorem dX2_findGlyph_50 : decode cX2_findGlyph 50 = .ok (.bipush 6, 2) := by decide +kernel
theorem dX2_findGlyph_52 : decode cX2_findGlyph 52 = .ok (.iadd, 1) := by decide +kernel
theorem dX2_findGlyph_53 : decode cX2_findGlyph 53 = .ok (.iload_n 1, 1) := by decide +kernel
theorem dX2_findGlyph_54 : decode cX2_findGlyph 54 = .ok (.iadd, 1) := by decide +kernel
theorem dX2_findGlyph_55 : decode cX2_findGlyph 55 = .ok (.invokevirtual 85, 3) := by decide +kernel
theorem dX2_findGlyph_58 : decode cX2_findGlyph 58 = .ok (.i2l, 1) := by decide +kernel
theorem dX2_findGlyph_59 : decode cX2_findGlyph 59 = .ok (.lstore_n 2, 1) := by decide +kernel
theorem dX2_findGlyph_60 : decode cX2_findGlyph 60 = .ok (.lload_n 2, 1) := by decide +kernel
theorem dX2_findGlyph_61 : decode cX2_findGlyph 61 = .ok (.aload_n 0, 1) := by decide +kernel
theorem dX2_findGlyph_62 : decode cX2_findGlyph 62 = .ok (.getfield 54, 3) := by decide +kernel
theorem dX2_findGlyph_65 : decode cX2_findGlyph 65 = .ok (.i2l, 1) := by decide +kernel
theorem dX2_findGlyph_66 : decode cX2_findGlyph 66 = .ok (.lcmp, 1) := by decide +kernel
theorem dX2_findGlyph_67 : decode cX2_findGlyph 67 = .ok (.ifCond .ge 8, 3) := by decide +kernel
theorem dX2_findGlyph_70 : decode cX2_findGlyph 70 = .ok (.lload_n 2, 1) := by decide +kernel
theorem dX2_findGlyph_71 : decode cX2_findGlyph 71 = .ok (.l2i, 1) := by decide +kernel
theorem dX2_findGlyph_72 : decode cX2_findGlyph 72 = .ok (.goto 4, 3) := by decide +kernel
theorem dX2_findGlyph_75 : decode cX2_findGlyph 75 = .ok (.iconst 0, 1) := by decide +kernel
theorem dX2_findGlyph_76 : decode cX2_findGlyph 76 = .ok (.ireturn, 1) := by decide +kernel
def B_X2_findGlyph_60 (N : Nat)  (l2 : Int64) (V : sv_V) : Option (Int32 × sv_V) := if 0 ≤ (lg_cmp l2 ((V.1 2 7).toInt64)) then (some ((0 : Int32), V)) else (some (l2.toInt32, V))
set_option maxRecDepth 20000 in
theorem tB_X2_findGlyph_60 {g : sx_G} (hG : sx_Go g) {P : Option Value → sv_V → Prop} {r : Int32} {Vr : sv_V} (hP : P (some (.int r)) Vr) {N : Nat}   {l2 : Int64} {V : sv_V} (h : B_X2_findGlyph_60 N  l2 V = some (r, Vr)) : sv_N g qX2_findGlyph 3 60 [(0, .ref 2), (2, .long l2)] [] V P := by
  unfold B_X2_findGlyph_60 at h
  refine sx_lload_n (pc := 60) dX2_findGlyph_60 sx_m1 ?_
  refine sx_aload_n (pc := 61) dX2_findGlyph_61 sx_m0 ?_
  refine sv_getI (pc := 62) hG dX2_findGlyph_62 f_2_54 lay_2 rfl ?_
  refine sx_i2l (pc := 65) dX2_findGlyph_65 ?_
  refine sx_lcmp (pc := 66) dX2_findGlyph_66 ?_
  refine sx_if_ge (pc := 67) (tgt := 75) dX2_findGlyph_67 (by decide) (fun c1 => ?_) (fun c1 => ?_)
  · have h := sx_pos c1 h
    refine sx_iconst (pc := 75) (v := 0) dX2_findGlyph_75 (by decide) ?_
    exact sv_iret (pc := 76) dX2_findGlyph_76 rfl h hP
  · have h := sx_neg c1 h
    refine sx_lload_n (pc := 70) dX2_findGlyph_70 sx_m1 ?_
    refine sx_l2i (pc := 71) dX2_findGlyph_71 ?_
    refine sx_goto (pc := 72) (tgt := 76) dX2_findGlyph_72 (by decide) ?_
    exact sv_iret (pc := 76) dX2_findGlyph_76 rfl h hP
def F_X2_findGlyph (N : Nat) (l1 : Int32) (V : sv_V) : Option (Int32 × sv_V) := if (V.1 2 11) = (12 : Int32) then ((F_X2_findInGroups N l1 V).bind (fun (x15, V13) => B_X2_findGlyph_60 N  x15 V13)) else (if (V.1 2 11) = (4 : Int32) then ((F_X2_findInSegments N l1 V).bind (fun (x11, V9) => sx_let (x11.toInt64) (fun x12 => B_X2_findGlyph_60 N  x12 V9))) else (if (256 : Int32) ≤ l1 then (B_X2_findGlyph_60 N  (0 : Int64) V) else ((F_X2_u1 (((V.1 2 12) + (6 : Int32)) + l1) V).bind (fun (x7, V5) => sx_let (x7.toInt64) (fun x8 => B_X2_findGlyph_60 N  x8 V5)))))
set_option maxRecDepth 20000 in
theorem t_X2_findGlyph {g : sx_G} (hG : sx_Go g) {P : Option Value → sv_V → Prop} {r : Int32} {Vr : sv_V} (hP : P (some (.int r)) Vr) {N : Nat} {l1 : Int32} {V : sv_V} (h : F_X2_findGlyph N l1 V = some (r, Vr)) : sv_N g qX2_findGlyph 3 0 [(0, .ref 2), (1, .int l1)] [] V P := by
  unfold F_X2_findGlyph at h
  refine sx_lconst (pc := 0) (v := 0) dX2_findGlyph_0 rfl ?_
  refine sx_lstore_n (pc := 1) (lo' := [(2, .long (0 : Int64)), (0, .ref 2), (1, .int l1)]) dX2_findGlyph_1 (by decide) rfl ?_
  refine sx_aload_n (pc := 2) dX2_findGlyph_2 sx_m1 ?_
  refine sv_getI (pc := 3) hG dX2_findGlyph_3 f_2_72 lay_2 rfl ?_
  refine sx_bipush (pc := 6) (v := 12) dX2_findGlyph_6 (by decide) ?_
  refine sx_icmp_ne (pc := 8) (tgt := 20) dX2_findGlyph_8 (by decide) (fun c2 => ?_) (fun c2 => ?_)
  · have h := sx_neg c2 h
    refine sx_aload_n (pc := 20) dX2_findGlyph_20 sx_m1 ?_
    refine sv_getI (pc := 21) hG dX2_findGlyph_21 f_2_72 lay_2 rfl ?_
    refine sx_iconst (pc := 24) (v := 4) dX2_findGlyph_24 (by decide) ?_
    refine sx_icmp_ne (pc := 25) (tgt := 38) dX2_findGlyph_25 (by decide) (fun c3 => ?_) (fun c3 => ?_)
    · have h := sx_neg c3 h
      refine sx_iload_n (pc := 38) dX2_findGlyph_38 sx_m2 ?_
      refine sx_sipush (pc := 39) (v := 256) dX2_findGlyph_39 (by decide) ?_
      refine sx_icmp_ge (pc := 42) (tgt := 60) dX2_findGlyph_42 (by decide) (fun c4 => ?_) (fun c4 => ?_)
      · have h := sx_pos c4 h
        refine sx_wk (sx_s1 sx_m1 (sx_s1 sx_m0 sx_s0)) ?_
        exact tB_X2_findGlyph_60 hG hP  h
      · have h := sx_neg c4 h
        refine sx_aload_n (pc := 45) dX2_findGlyph_45 sx_m1 ?_
        refine sx_aload_n (pc := 46) dX2_findGlyph_46 sx_m1 ?_
        refine sv_getI (pc := 47) hG dX2_findGlyph_47 f_2_82 lay_2 rfl ?_
        refine sx_bipush (pc := 50) (v := 6) dX2_findGlyph_50 (by decide) ?_
        refine sx_iadd (pc := 52) dX2_findGlyph_52 ?_
        refine sx_iload_n (pc := 53) dX2_findGlyph_53 sx_m2 ?_
        refine sx_iadd (pc := 54) dX2_findGlyph_54 ?_
        obtain ⟨⟨x7, V5⟩, g6, h⟩ := sx_bnd h
        refine sv_cV (pc := 55) (y := qX2_u1) (o := (some (.int x7))) (as := [.int (((V.1 2 12) + (6 : Int32)) + l1)]) (V1 := V5) hG dX2_findGlyph_55 l_X2_85 y0X2_u1 yvX2_u1 rfl (Nat.le_of_ble_eq_true rfl) lay_2 kr_2 (by decide) (Nat.le_of_ble_eq_true rfl) rfl rfl rfl (t_X2_u1 hG ⟨rfl, rfl⟩ g6) ?_
        refine sx_i2l (pc := 58) dX2_findGlyph_58 ?_
        refine sv_tJ (fun x8 hx8 => ?_)
        have h := sx_letE hx8 h
        refine sx_lstore_n (pc := 59) (lo' := [(2, .long x8), (0, .ref 2), (1, .int l1)]) dX2_findGlyph_59 (by decide) rfl ?_
        refine sx_wk (sx_s1 sx_m1 (sx_s1 sx_m0 sx_s0)) ?_
        exact tB_X2_findGlyph_60 hG hP  h
    · have h := sx_pos c3 h
      refine sx_aload_n (pc := 28) dX2_findGlyph_28 sx_m1 ?_
      refine sx_iload_n (pc := 29) dX2_findGlyph_29 sx_m2 ?_
      obtain ⟨⟨x11, V9⟩, g10, h⟩ := sx_bnd h
      refine sv_cV (pc := 30) (y := qX2_findInSegments) (o := (some (.int x11))) (as := [.int l1]) (V1 := V9) hG dX2_findGlyph_30 l_X2_79 y0X2_findInSegments yvX2_findInSegments rfl (Nat.le_of_ble_eq_true rfl) lay_2 kr_2 (by decide) (Nat.le_of_ble_eq_true rfl) rfl rfl rfl (t_X2_findInSegments hG ⟨rfl, rfl⟩ g10) ?_
      refine sx_i2l (pc := 33) dX2_findGlyph_33 ?_
      refine sv_tJ (fun x12 hx12 => ?_)
      have h := sx_letE hx12 h
      refine sx_lstore_n (pc := 34) (lo' := [(2, .long x12), (0, .ref 2), (1, .int l1)]) dX2_findGlyph_34 (by decide) rfl ?_
      refine sx_goto (pc := 35) (tgt := 60) dX2_findGlyph_35 (by decide) ?_
      refine sx_wk (sx_s1 sx_m1 (sx_s1 sx_m0 sx_s0)) ?_
      exact tB_X2_findGlyph_60 hG hP  h
  · have h := sx_pos c2 h
    refine sx_aload_n (pc := 11) dX2_findGlyph_11 sx_m1 ?_
    refine sx_iload_n (pc := 12) dX2_findGlyph_12 sx_m2 ?_
    obtain ⟨⟨x15, V13⟩, g14, h⟩ := sx_bnd h
    refine sv_cV (pc := 13) (y := qX2_findInGroups) (o := (some (.long x15))) (as := [.int l1]) (V1 := V13) hG dX2_findGlyph_13 l_X2_75 y0X2_findInGroups yvX2_findInGroups rfl (Nat.le_of_ble_eq_true rfl) lay_2 kr_2 (by decide) (Nat.le_of_ble_eq_true rfl) rfl rfl rfl (t_X2_findInGroups hG ⟨rfl, rfl⟩ g14) ?_
    refine sx_lstore_n (pc := 16) (lo' := [(2, .long x15), (0, .ref 2), (1, .int l1)]) dX2_findGlyph_16 (by decide) rfl ?_
    refine sx_goto (pc := 17) (tgt := 60) dX2_findGlyph_17 (by decide) ?_
    refine sx_wk (sx_s1 sx_m1 (sx_s1 sx_m0 sx_s0)) ?_
    exact tB_X2_findGlyph_60 hG hP  h
theorem dX5_goAlongNumbers_0 : decode cX5_goAlongNumbers 0 = .ok (.aload_n 0, 1) := by decide +kernel
theorem dX5_goAlongNumbers_1 : decode cX5_goAlongNumbers 1 = .ok (.invokevirtual 242, 3) := by decide +kernel
theorem dX5_goAlongNumbers_4 : decode cX5_goAlongNumbers 4 = .ok (.istore_n 2, 1) := by decide +kernel
theorem dX5_goAlongNumbers_5 : decode cX5_goAlongNumbers 5 = .ok (.aload_n 0, 1) := by decide +kernel
theorem dX5_goAlongNumbers_6 : decode cX5_goAlongNumbers 6 = .ok (.invokevirtual 242, 3) := by decide +kernel
theorem dX5_goAlongNumbers_9 : decode cX5_goAlongNumbers 9 = .ok (.istore_n 3, 1) := by decide +kernel
theorem dX5_goAlongNumbers_10 : decode cX5_goAlongNumbers 10 = .ok (.aload_n 0, 1) := by decide +kernel
theorem dX5_goAlongNumbers_11 : decode cX5_goAlongNumbers 11 = .ok (.getfield 12, 3) := by decide +kernel
theorem dX5_goAlongNumbers_14 : decode cX5_goAlongNumbers 14 = .ok (.iload_n 3, 1) := by decide +kernel
theorem dX5_goAlongNumbers_15 : decode cX5_goAlongNumbers 15 = .ok (.i2s, 1) := by decide +kernel
theorem dX5_goAlongNumbers_16 : decode cX5_goAlongNumbers 16 = .ok (.i2l, 1) := by decide +kernel
theorem dX5_goAlongNumbers_17 : decode cX5_goAlongNumbers 17 = .ok (.iload_n 2, 1) := by decide +kernel
theorem dX5_goAlongNumbers_18 : decode cX5_goAlongNumbers 18 = .ok (.i2s, 1) := by decide +kernel
theorem dX5_goAlongNumbers_19 : decode cX5_goAlongNumbers 19 = .ok (.i2l, 1) := by decide +kernel
theorem dX5_goAlongNumbers_20 : decode cX5_goAlongNumbers 20 = .ok (.invokevirtual 245, 3) := by decide +kernel
theorem dX5_goAlongNumbers_23 : decode cX5_goAlongNumbers 23 = .ok (.iload_n 1, 1) := by decide +kernel
theorem dX5_goAlongNumbers_24 : decode cX5_goAlongNumbers 24 = .ok (.bipush 10, 2) := by decide +kernel
theorem dX5_goAlongNumbers_26 : decode cX5_goAlongNumbers 26 = .ok (.if_icmp .ne 13, 3) := by decide +kernel
theorem dX5_goAlongNumbers_29 : decode cX5_goAlongNumbers 29 = .ok (.aload_n 0, 1) := by decide +kernel
theorem dX5_goAlongNumbers_30 : decode cX5_goAlongNumbers 30 = .ok (.getfield 12, 3) := by decide +kernel
theorem dX5_goAlongNumbers_33 : decode cX5_goAlongNumbers 33 = .ok (.invokevirtual 249, 3) := by decide +kernel
theorem dX5_goAlongNumbers_36 : decode cX5_goAlongNumbers 36 = .ok (.goto 10, 3) := by decide +kernel
theorem dX5_goAlongNumbers_39 : decode cX5_goAlongNumbers 39 = .ok (.aload_n 0, 1) := by decide +kernel
theorem dX5_goAlongNumbers_40 : decode cX5_goAlongNumbers 40 = .ok (.getfield 12, 3) := by decide +kernel
theorem dX5_goAlongNumbers_43 : decode cX5_goAlongNumbers 43 = .ok (.invokevirtual 252, 3) := by decide +kernel
theorem dX5_goAlongNumbers_46 : decode cX5_goAlongNumbers 46 = .ok (.return_, 1) := by decide +kernel
def F_X5_goAlongNumbers (N : Nat) (l1 : Int32) (V : sv_V) : Option sv_V := (F_X5_pop  V).bind (fun (x3, V1) => (F_X5_pop  V1).bind (fun (x6, V4) => (F_X9_findWay N x6.toInt16.toInt32.toInt64 x3.toInt16.toInt32.toInt64 V4).bind (fun V7 => if l1 = (10 : Int32) then ((F_X9_useWayForP  V7).bind (fun V12 => some V12)) else ((F_X9_useWayForF  V7).bind (fun V10 => some V10)))))
set_option maxRecDepth 20000 in
theorem t_X5_goAlongNumbers {g : sx_G} (hG : sx_Go g) {P : Option Value → sv_V → Prop} {Vr : sv_V} (hP : P none Vr) {N : Nat} {l1 : Int32} {V : sv_V} (h : F_X5_goAlongNumbers N l1 V = some Vr) : sv_N g qX5_goAlongNumbers 2 0 [(0, .ref 69), (1, .int l1)] [] V P := by
  unfold F_X5_goAlongNumbers at h
  refine sx_aload_n (pc := 0) dX5_goAlongNumbers_0 sx_m0 ?_
  obtain ⟨⟨x3, V1⟩, g2, h⟩ := sx_bnd h
  refine sv_cV (pc := 1) (y := qX5_pop) (o := (some (.int x3))) (as := []) (V1 := V1) hG dX5_goAlongNumbers_1 l_X5_242 y0X5_pop yvX5_pop rfl (Nat.le_of_ble_eq_true rfl) lay_69 kr_5 (by decide) (Nat.le_of_ble_eq_true rfl) rfl rfl rfl (t_X5_pop hG ⟨rfl, rfl⟩ g2) ?_
  refine sx_istore_n (pc := 4) (lo' := [(2, .int x3), (0, .ref 69), (1, .int l1)]) dX5_goAlongNumbers_4 (by decide) rfl ?_
  refine sx_aload_n (pc := 5) dX5_goAlongNumbers_5 sx_m1 ?_
  obtain ⟨⟨x6, V4⟩, g5, h⟩ := sx_bnd h
  refine sv_cV (pc := 6) (y := qX5_pop) (o := (some (.int x6))) (as := []) (V1 := V4) hG dX5_goAlongNumbers_6 l_X5_242 y0X5_pop yvX5_pop rfl (Nat.le_of_ble_eq_true rfl) lay_69 kr_5 (by decide) (Nat.le_of_ble_eq_true rfl) rfl rfl rfl (t_X5_pop hG ⟨rfl, rfl⟩ g5) ?_
  refine sx_istore_n (pc := 9) (lo' := [(3, .int x6), (2, .int x3), (0, .ref 69), (1, .int l1)]) dX5_goAlongNumbers_9 (by decide) rfl ?_
  refine sx_aload_n (pc := 10) dX5_goAlongNumbers_10 sx_m2 ?_
  refine sv_getO (pc := 11) hG dX5_goAlongNumbers_11 f_5_12 lay_69 rfl cr_69_1 ?_
  refine sx_iload_n (pc := 14) dX5_goAlongNumbers_14 sx_m0 ?_
  refine sx_i2s (pc := 15) dX5_goAlongNumbers_15 ?_
  refine sx_i2l (pc := 16) dX5_goAlongNumbers_16 ?_
  refine sx_iload_n (pc := 17) dX5_goAlongNumbers_17 sx_m1 ?_
  refine sx_i2s (pc := 18) dX5_goAlongNumbers_18 ?_
  refine sx_i2l (pc := 19) dX5_goAlongNumbers_19 ?_
  obtain ⟨V7, g8, h⟩ := sx_bnd h
  refine sv_cV (pc := 20) (y := qX9_findWay) (o := none) (as := [.long x6.toInt16.toInt32.toInt64, .long x3.toInt16.toInt32.toInt64]) (V1 := V7) hG dX5_goAlongNumbers_20 l_X5_245 y0X9_findWay yvX9_findWay rfl (Nat.le_of_ble_eq_true rfl) lay_70 kr_9 (by decide) (Nat.le_of_ble_eq_true rfl) rfl rfl rfl (t_X9_findWay hG ⟨rfl, rfl⟩ g8) ?_
  refine sx_iload_n (pc := 23) dX5_goAlongNumbers_23 sx_m3 ?_
  refine sx_bipush (pc := 24) (v := 10) dX5_goAlongNumbers_24 (by decide) ?_
  refine sx_icmp_ne (pc := 26) (tgt := 39) dX5_goAlongNumbers_26 (by decide) (fun c9 => ?_) (fun c9 => ?_)
  · have h := sx_neg c9 h
    refine sx_aload_n (pc := 39) dX5_goAlongNumbers_39 sx_m2 ?_
    refine sv_getO (pc := 40) hG dX5_goAlongNumbers_40 f_5_12 lay_69 rfl cr_69_1 ?_
    obtain ⟨V10, g11, h⟩ := sx_bnd h
    refine sv_cV (pc := 43) (y := qX9_useWayForF) (o := none) (as := []) (V1 := V10) hG dX5_goAlongNumbers_43 l_X5_252 y0X9_useWayForF yvX9_useWayForF rfl (Nat.le_of_ble_eq_true rfl) lay_70 kr_9 (by decide) (Nat.le_of_ble_eq_true rfl) rfl rfl rfl (t_X9_useWayForF hG ⟨rfl, rfl⟩ g11) ?_
    exact sv_vret (pc := 46) dX5_goAlongNumbers_46 rfl h hP
  · have h := sx_pos c9 h
    refine sx_aload_n (pc := 29) dX5_goAlongNumbers_29 sx_m2 ?_
    refine sv_getO (pc := 30) hG dX5_goAlongNumbers_30 f_5_12 lay_69 rfl cr_69_1 ?_
    obtain ⟨V12, g13, h⟩ := sx_bnd h
    refine sv_cV (pc := 33) (y := qX9_useWayForP) (o := none) (as := []) (V1 := V12) hG dX5_goAlongNumbers_33 l_X5_249 y0X9_useWayForP yvX9_useWayForP rfl (Nat.le_of_ble_eq_true rfl) lay_70 kr_9 (by decide) (Nat.le_of_ble_eq_true rfl) rfl rfl rfl (t_X9_useWayForP hG ⟨rfl, rfl⟩ g13) ?_
    refine sx_goto (pc := 36) (tgt := 46) dX5_goAlongNumbers_36 (by decide) ?_
    exact sv_vret (pc := 46) dX5_goAlongNumbers_46 rfl h hP
theorem dX5_goAlongLine_0 : decode cX5_goAlongLine 0 = .ok (.aload_n 0, 1) := by decide +kernel
theorem dX5_goAlongLine_1 : decode cX5_goAlongLine 1 = .ok (.invokevirtual 242, 3) := by decide +kernel
theorem dX5_goAlongLine_4 : decode cX5_goAlongLine 4 = .ok (.istore_n 2, 1) := by decide +kernel
theorem dX5_goAlongLine_5 : decode cX5_goAlongLine 5 = .ok (.aload_n 0, 1) := by decide +kernel
theorem dX5_goAlongLine_6 : decode cX5_goAlongLine 6 = .ok (.invokevirtual 242, 3) := by decide +kernel
theorem dX5_goAlongLine_9 : decode cX5_goAlongLine 9 = .ok (.istore_n 3, 1) := by decide +kernel
theorem dX5_goAlongLine_10 : decode cX5_goAlongLine 10 = .ok (.aload_n 0, 1) := by decide +kernel
theorem dX5_goAlongLine_11 : decode cX5_goAlongLine 11 = .ok (.iconst 1, 1) := by decide +kernel
theorem dX5_goAlongLine_12 : decode cX5_goAlongLine 12 = .ok (.invokevirtual 255, 3) := by decide +kernel
theorem dX5_goAlongLine_15 : decode cX5_goAlongLine 15 = .ok (.astore 4, 2) := by decide +kernel
theorem dX5_goAlongLine_17 : decode cX5_goAlongLine 17 = .ok (.aload_n 0, 1) := by decide +kernel
theorem dX5_goAlongLine_18 : decode cX5_goAlongLine 18 = .ok (.iconst 2, 1) := by decide +kernel
theorem dX5_goAlongLine_19 : decode cX5_goAlongLine 19 = .ok (.invokevirtual 255, 3) := by decide +kernel
theorem dX5_goAlongLine_22 : decode cX5_goAlongLine 22 = .ok (.astore 5, 2) := by decide +kernel
theorem dX5_goAlongLine_24 : decode cX5_goAlongLine 24 = .ok (.aload_n 0, 1) := by decide +kernel
theorem dX5_goAlongLine_25 : decode cX5_goAlongLine 25 = .ok (.aload 4, 2) := by decide +kernel
theorem dX5_goAlongLine_27 : decode cX5_goAlongLine 27 = .ok (.iload_n 3, 1) := by decide +kernel
theorem dX5_goAlongLine_28 : decode cX5_goAlongLine 28 = .ok (.invokevirtual 259, 3) := by decide +kernel
theorem dX5_goAlongLine_31 : decode cX5_goAlongLine 31 = .ok (.ifCond .eq 13, 3) := by decide +kernel
theorem dX5_goAlongLine_34 : decode cX5_goAlongLine 34 = .ok (.aload_n 0, 1) := by decide +kernel
theorem dX5_goAlongLine_35 : decode cX5_goAlongLine 35 = .ok (.aload 5, 2) := by decide +kernel
theorem dX5_goAlongLine_37 : decode cX5_goAlongLine 37 = .ok (.iload_n 2, 1) := by decide +kernel
theorem dX5_goAlongLine_38 : decode cX5_goAlongLine 38 = .ok (.invokevirtual 259, 3) := by decide +kernel
theorem dX5_goAlongLine_41 : decode cX5_goAlongLine 41 = .ok (.ifCond .ne 4, 3) := by decide +kernel
theorem dX5_goAlongLine_44 : decode cX5_goAlongLine 44 = .ok (.return_, 1) := by decide +kernel
theorem dX5_goAlongLine_45 : decode cX5_goAlongLine 45 = .ok (.aload_n 0, 1) := by decide +kernel
theorem dX5_goAlongLine_46 : decode cX5_goAlongLine 46 = .ok (.getfield 12, 3) := by decide +kernel
theorem dX5_goAlongLine_49 : decode cX5_goAlongLine 49 = .ok (.aload 4, 2) := by decide +kernel
theorem dX5_goAlongLine_51 : decode cX5_goAlongLine 51 = .ok (.getfield 198, 3) := by decide +kernel
theorem dX5_goAlongLine_54 : decode cX5_goAlongLine 54 = .ok (.iload_n 3, 1) := by decide +kernel
theorem dX5_goAlongLine_55 : decode cX5_goAlongLine 55 = .ok (.iaload, 1) := by decide +kernel
theorem dX5_goAlongLine_56 : decode cX5_goAlongLine 56 = .ok (.aload 5, 2) := by decide +kernel
theorem dX5_goAlongLine_58 : decode cX5_goAlongLine 58 = .ok (.getfield 198, 3) := by decide +kernel
theorem dX5_goAlongLine_61 : decode cX5_goAlongLine 61 = .ok (.iload_n 2, 1) := by decide +kernel
theorem dX5_goAlongLine_62 : decode cX5_goAlongLine 62 = .ok (.iaload, 1) := by decide +kernel
theorem dX5_goAlongLine_63 : decode cX5_goAlongLine 63 = .ok (.isub, 1) := by decide +kernel
theorem dX5_goAlongLine_64 : decode cX5_goAlongLine 64 = .ok (.i2l, 1) := by decide +kernel
theorem dX5_goAlongLine_65 : decode cX5_goAlongLine 65 = .ok (.aload 4, 2) := by decide +kernel
theorem dX5_goAlongLine_67 : decode cX5_goAlongLine 67 = .ok (.getfield 201, 3) := by decide +kernel
theorem dX5_goAlongLine_70 : decode cX5_goAlongLine 70 = .ok (.iload_n 3, 1) := by decide +kernel
theorem dX5_goAlongLine_71 : decode cX5_goAlongLine 71 = .ok (.iaload, 1) := by decide +kernel
theorem dX5_goAlongLine_72 : decode cX5_goAlongLine 72 = .ok (.aload 5, 2) := by decide +kernel
theorem dX5_goAlongLine_74 : decode cX5_goAlongLine 74 = .ok (.getfield 201, 3) := by decide +kernel
theorem dX5_goAlongLine_77 : decode cX5_goAlongLine 77 = .ok (.iload_n 2, 1) := by decide +kernel
theorem dX5_goAlongLine_78 : decode cX5_goAlongLine 78 = .ok (.iaload, 1) := by decide +kernel
theorem dX5_goAlongLine_79 : decode cX5_goAlongLine 79 = .ok (.isub, 1) := by decide +kernel
theorem dX5_goAlongLine_80 : decode cX5_goAlongLine 80 = .ok (.i2l, 1) := by decide +kernel
theorem dX5_goAlongLine_81 : decode cX5_goAlongLine 81 = .ok (.invokevirtual 245, 3) := by decide +kernel
theorem dX5_goAlongLine_84 : decode cX5_goAlongLine 84 = .ok (.iload_n 1, 1) := by decide +kernel
theorem dX5_goAlongLine_85 : decode cX5_goAlongLine 85 = .ok (.iconst 1, 1) := by decide +kernel
theorem dX5_goAlongLine_86 : decode cX5_goAlongLine 86 = .ok (.iand, 1) := by decide +kernel
theorem dX5_goAlongLine_87 : decode cX5_goAlongLine 87 = .ok (.iconst 1, 1) := by decide +kernel
theorem dX5_goAlongLine_88 : decode cX5_goAlongLine 88 = .ok (.if_icmp .ne 10, 3) := by decide +kernel
theorem dX5_goAlongLine_91 : decode cX5_goAlongLine 91 = .ok (.aload_n 0, 1) := by decide +kernel
theorem dX5_goAlongLine_92 : decode cX5_goAlongLine 92 = .ok (.getfield 12, 3) := by decide +kernel
theorem dX5_goAlongLine_95 : decode cX5_goAlongLine 95 = .ok (.invokevirtual 263, 3) := by decide +kernel
theorem dX5_goAlongLine_98 : decode cX5_goAlongLine 98 = .ok (.iload_n 1, 1) := by decide +kernel
theorem dX5_goAlongLine_99 : decode cX5_goAlongLine 99 = .ok (.bipush 8, 2) := by decide +kernel
theorem dX5_goAlongLine_101 : decode cX5_goAlongLine 101 = .ok (.if_icmp .ge 13, 3) := by decide +kernel
theorem dX5_goAlongLine_104 : decode cX5_goAlongLine 104 = .ok (.aload_n 0, 1) := by decide +kernel
theorem dX5_goAlongLine_105 : decode cX5_goAlongLine 105 = .ok (.getfield 12, 3) := by decide +kernel
theorem dX5_goAlongLine_108 : decode cX5_goAlongLine 108 = .ok (.invokevirtual 249, 3) := by decide +kernel
theorem dX5_goAlongLine_111 : decode cX5_goAlongLine 111 = .ok (.goto 10, 3) := by decide +kernel
theorem dX5_goAlongLine_114 : decode cX5_goAlongLine 114 = .ok (.aload_n 0, 1) := by decide +kernel
theorem dX5_goAlongLine_115 : decode cX5_goAlongLine 115 = .ok (.getfield 12, 3) := by decide +kernel
theorem dX5_goAlongLine_118 : decode cX5_goAlongLine 118 = .ok (.invokevirtual 252, 3) := by decide +kernel
theorem dX5_goAlongLine_121 : decode cX5_goAlongLine 121 = .ok (.return_, 1) := by decide +kernel
def B_X5_goAlongLine_98 (N : Nat)  (l1 : Int32) (V : sv_V) : Option sv_V := if (8 : Int32) ≤ l1 then ((F_X9_useWayForF  V).bind (fun V2 => some V2)) else ((F_X9_useWayForP  V).bind (fun V4 => some V4))
set_option maxRecDepth 20000 in
theorem tB_X5_goAlongLine_98 {g : sx_G} (hG : sx_Go g) {P : Option Value → sv_V → Prop} {Vr : sv_V} (hP : P none Vr) {N : Nat}   {l1 : Int32} {V : sv_V} (h : B_X5_goAlongLine_98 N  l1 V = some Vr) : sv_N g qX5_goAlongLine 2 98 [(0, .ref 69), (1, .int l1)] [] V P := by
  unfold B_X5_goAlongLine_98 at h
  refine sx_iload_n (pc := 98) dX5_goAlongLine_98 sx_m1 ?_
  refine sx_bipush (pc := 99) (v := 8) dX5_goAlongLine_99 (by decide) ?_
  refine sx_icmp_ge (pc := 101) (tgt := 114) dX5_goAlongLine_101 (by decide) (fun c1 => ?_) (fun c1 => ?_)
  · have h := sx_pos c1 h
    refine sx_aload_n (pc := 114) dX5_goAlongLine_114 sx_m0 ?_
    refine sv_getO (pc := 115) hG dX5_goAlongLine_115 f_5_12 lay_69 rfl cr_69_1 ?_
    obtain ⟨V2, g3, h⟩ := sx_bnd h
    refine sv_cV (pc := 118) (y := qX9_useWayForF) (o := none) (as := []) (V1 := V2) hG dX5_goAlongLine_118 l_X5_252 y0X9_useWayForF yvX9_useWayForF rfl (Nat.le_of_ble_eq_true rfl) lay_70 kr_9 (by decide) (Nat.le_of_ble_eq_true rfl) rfl rfl rfl (t_X9_useWayForF hG ⟨rfl, rfl⟩ g3) ?_
    exact sv_vret (pc := 121) dX5_goAlongLine_121 rfl h hP
  · have h := sx_neg c1 h
    refine sx_aload_n (pc := 104) dX5_goAlongLine_104 sx_m0 ?_
    refine sv_getO (pc := 105) hG dX5_goAlongLine_105 f_5_12 lay_69 rfl cr_69_1 ?_
    obtain ⟨V4, g5, h⟩ := sx_bnd h
    refine sv_cV (pc := 108) (y := qX9_useWayForP) (o := none) (as := []) (V1 := V4) hG dX5_goAlongLine_108 l_X5_249 y0X9_useWayForP yvX9_useWayForP rfl (Nat.le_of_ble_eq_true rfl) lay_70 kr_9 (by decide) (Nat.le_of_ble_eq_true rfl) rfl rfl rfl (t_X9_useWayForP hG ⟨rfl, rfl⟩ g5) ?_
    refine sx_goto (pc := 111) (tgt := 121) dX5_goAlongLine_111 (by decide) ?_
    exact sv_vret (pc := 121) dX5_goAlongLine_121 rfl h hP
def F_X5_goAlongLine (N : Nat) (l1 : Int32) (V : sv_V) : Option sv_V := (F_X5_pop  V).bind (fun (x8, V6) => (F_X5_pop  V6).bind (fun (x11, V9) => (F_X5_zone (1 : Int32) V9).bind (fun (x14, V12) => (F_X5_zone (2 : Int32) V12).bind (fun (x17, V15) => (F_X5_isThere x14 x11 V15).bind (fun (x20, V18) => if x20 = 0 then (some V18) else ((F_X5_isThere x17 x8 V18).bind (fun (x24, V22) => if x24 = 0 then (some V22) else (if lay x14 = .inl 8 then (cr x14 0).bind (fun b27 => (sv_len 0 b27).bind (fun n29 => if sx_in x11 n29 = true then if lay x17 = .inl 8 then (cr x17 0).bind (fun b33 => (sv_len 0 b33).bind (fun n35 => if sx_in x8 n35 = true then (cr x14 1).bind (fun b38 => (sv_len 0 b38).bind (fun n40 => if sx_in x11 n40 = true then (cr x17 1).bind (fun b43 => (sv_len 0 b43).bind (fun n45 => if sx_in x8 n45 = true then (F_X9_findWay N (((V22.1 b27 x11.toNatClampNeg) - (V22.1 b33 x8.toNatClampNeg)).toInt64) (((V22.1 b38 x11.toNatClampNeg) - (V22.1 b43 x8.toNatClampNeg)).toInt64) V22).bind (fun V48 => if (l1 &&& (1 : Int32)) = (1 : Int32) then ((F_X9_turnWayLeft  V48).bind (fun V51 => B_X5_goAlongLine_98 N  l1 V51)) else (B_X5_goAlongLine_98 N  l1 V48)) else none)) else none)) else none)) else none else none)) else none))))))))
set_option maxRecDepth 20000 in
theorem t_X5_goAlongLine {g : sx_G} (hG : sx_Go g) {P : Option Value → sv_V → Prop} {Vr : sv_V} (hP : P none Vr) {N : Nat} {l1 : Int32} {V : sv_V} (h : F_X5_goAlongLine N l1 V = some Vr) : sv_N g qX5_goAlongLine 2 0 [(0, .ref 69), (1, .int l1)] [] V P := by
  unfold F_X5_goAlongLine at h
  refine sx_aload_n (pc := 0) dX5_goAlongLine_0 sx_m0 ?_
  obtain ⟨⟨x8, V6⟩, g7, h⟩ := sx_bnd h
  refine sv_cV (pc := 1) (y := qX5_pop) (o := (some (.int x8))) (as := []) (V1 := V6) hG dX5_goAlongLine_1 l_X5_242 y0X5_pop yvX5_pop rfl (Nat.le_of_ble_eq_true rfl) lay_69 kr_5 (by decide) (Nat.le_of_ble_eq_true rfl) rfl rfl rfl (t_X5_pop hG ⟨rfl, rfl⟩ g7) ?_
  refine sx_istore_n (pc := 4) (lo' := [(2, .int x8), (0, .ref 69), (1, .int l1)]) dX5_goAlongLine_4 (by decide) rfl ?_
  refine sx_aload_n (pc := 5) dX5_goAlongLine_5 sx_m1 ?_
  obtain ⟨⟨x11, V9⟩, g10, h⟩ := sx_bnd h
  refine sv_cV (pc := 6) (y := qX5_pop) (o := (some (.int x11))) (as := []) (V1 := V9) hG dX5_goAlongLine_6 l_X5_242 y0X5_pop yvX5_pop rfl (Nat.le_of_ble_eq_true rfl) lay_69 kr_5 (by decide) (Nat.le_of_ble_eq_true rfl) rfl rfl rfl (t_X5_pop hG ⟨rfl, rfl⟩ g10) ?_
  refine sx_istore_n (pc := 9) (lo' := [(3, .int x11), (2, .int x8), (0, .ref 69), (1, .int l1)]) dX5_goAlongLine_9 (by decide) rfl ?_
  refine sx_aload_n (pc := 10) dX5_goAlongLine_10 sx_m2 ?_
  refine sx_iconst (pc := 11) (v := 1) dX5_goAlongLine_11 (by decide) ?_
  obtain ⟨⟨x14, V12⟩, g13, h⟩ := sx_bnd h
  refine sv_cV (pc := 12) (y := qX5_zone) (o := (some (.ref x14))) (as := [.int (1 : Int32)]) (V1 := V12) hG dX5_goAlongLine_12 l_X5_255 y0X5_zone yvX5_zone rfl (Nat.le_of_ble_eq_true rfl) lay_69 kr_5 (by decide) (Nat.le_of_ble_eq_true rfl) rfl rfl rfl (t_X5_zone hG ⟨rfl, rfl⟩ g13) ?_
  refine sx_astore (pc := 15) (lo' := [(4, .ref x14), (3, .int x11), (2, .int x8), (0, .ref 69), (1, .int l1)]) dX5_goAlongLine_15 (by decide) rfl ?_
  refine sx_aload_n (pc := 17) dX5_goAlongLine_17 sx_m3 ?_
  refine sx_iconst (pc := 18) (v := 2) dX5_goAlongLine_18 (by decide) ?_
  obtain ⟨⟨x17, V15⟩, g16, h⟩ := sx_bnd h
  refine sv_cV (pc := 19) (y := qX5_zone) (o := (some (.ref x17))) (as := [.int (2 : Int32)]) (V1 := V15) hG dX5_goAlongLine_19 l_X5_255 y0X5_zone yvX5_zone rfl (Nat.le_of_ble_eq_true rfl) lay_69 kr_5 (by decide) (Nat.le_of_ble_eq_true rfl) rfl rfl rfl (t_X5_zone hG ⟨rfl, rfl⟩ g16) ?_
  refine sx_astore (pc := 22) (lo' := [(5, .ref x17), (4, .ref x14), (3, .int x11), (2, .int x8), (0, .ref 69), (1, .int l1)]) dX5_goAlongLine_22 (by decide) rfl ?_
  refine sx_aload_n (pc := 24) dX5_goAlongLine_24 sx_m4 ?_
  refine sx_aload (pc := 25) dX5_goAlongLine_25 sx_m1 ?_
  refine sx_iload_n (pc := 27) dX5_goAlongLine_27 sx_m2 ?_
  obtain ⟨⟨x20, V18⟩, g19, h⟩ := sx_bnd h
  refine sv_cV (pc := 28) (y := qX5_isThere) (o := (some (.int x20))) (as := [.ref x14, .int x11]) (V1 := V18) hG dX5_goAlongLine_28 l_X5_259 y0X5_isThere yvX5_isThere rfl (Nat.le_of_ble_eq_true rfl) lay_69 kr_5 (by decide) (Nat.le_of_ble_eq_true rfl) rfl rfl rfl (t_X5_isThere hG ⟨rfl, rfl⟩ g19) ?_
  refine sx_if_eq (pc := 31) (tgt := 44) dX5_goAlongLine_31 (by decide) (fun c21 => ?_) (fun c21 => ?_)
  · have h := sx_pos c21 h
    exact sv_vret (pc := 44) dX5_goAlongLine_44 rfl h hP
  · have h := sx_neg c21 h
    refine sx_aload_n (pc := 34) dX5_goAlongLine_34 sx_m4 ?_
    refine sx_aload (pc := 35) dX5_goAlongLine_35 sx_m0 ?_
    refine sx_iload_n (pc := 37) dX5_goAlongLine_37 sx_m3 ?_
    obtain ⟨⟨x24, V22⟩, g23, h⟩ := sx_bnd h
    refine sv_cV (pc := 38) (y := qX5_isThere) (o := (some (.int x24))) (as := [.ref x17, .int x8]) (V1 := V22) hG dX5_goAlongLine_38 l_X5_259 y0X5_isThere yvX5_isThere rfl (Nat.le_of_ble_eq_true rfl) lay_69 kr_5 (by decide) (Nat.le_of_ble_eq_true rfl) rfl rfl rfl (t_X5_isThere hG ⟨rfl, rfl⟩ g23) ?_
    refine sx_if_ne (pc := 41) (tgt := 45) dX5_goAlongLine_41 (by decide) (fun c25 => ?_) (fun c25 => ?_)
    · have h := sx_neg c25 h
      refine sx_aload_n (pc := 45) dX5_goAlongLine_45 sx_m4 ?_
      refine sv_getO (pc := 46) hG dX5_goAlongLine_46 f_5_12 lay_69 rfl cr_69_1 ?_
      refine sx_aload (pc := 49) dX5_goAlongLine_49 sx_m1 ?_
      obtain ⟨g26, h⟩ := sx_grd h
      obtain ⟨b27, g28, h⟩ := sx_bnd h
      refine sv_getA (pc := 51) hG dX5_goAlongLine_51 f_5_198 g26 rfl g28 ?_
      refine sx_iload_n (pc := 54) dX5_goAlongLine_54 sx_m2 ?_
      obtain ⟨n29, g30, h⟩ := sx_bnd h
      obtain ⟨g31, h⟩ := sx_grd h
      refine sv_iald (pc := 55) hG dX5_goAlongLine_55 (sv_len_e g30) g31 ?_
      refine sx_aload (pc := 56) dX5_goAlongLine_56 sx_m0 ?_
      obtain ⟨g32, h⟩ := sx_grd h
      obtain ⟨b33, g34, h⟩ := sx_bnd h
      refine sv_getA (pc := 58) hG dX5_goAlongLine_58 f_5_198 g32 rfl g34 ?_
      refine sx_iload_n (pc := 61) dX5_goAlongLine_61 sx_m3 ?_
      obtain ⟨n35, g36, h⟩ := sx_bnd h
      obtain ⟨g37, h⟩ := sx_grd h
      refine sv_iald (pc := 62) hG dX5_goAlongLine_62 (sv_len_e g36) g37 ?_
      refine sx_isub (pc := 63) dX5_goAlongLine_63 ?_
      refine sx_i2l (pc := 64) dX5_goAlongLine_64 ?_
      refine sx_aload (pc := 65) dX5_goAlongLine_65 sx_m1 ?_
      obtain ⟨b38, g39, h⟩ := sx_bnd h
      refine sv_getA (pc := 67) hG dX5_goAlongLine_67 f_5_201 g26 rfl g39 ?_
      refine sx_iload_n (pc := 70) dX5_goAlongLine_70 sx_m2 ?_
      obtain ⟨n40, g41, h⟩ := sx_bnd h
      obtain ⟨g42, h⟩ := sx_grd h
      refine sv_iald (pc := 71) hG dX5_goAlongLine_71 (sv_len_e g41) g42 ?_
      refine sx_aload (pc := 72) dX5_goAlongLine_72 sx_m0 ?_
      obtain ⟨b43, g44, h⟩ := sx_bnd h
      refine sv_getA (pc := 74) hG dX5_goAlongLine_74 f_5_201 g32 rfl g44 ?_
      refine sx_iload_n (pc := 77) dX5_goAlongLine_77 sx_m3 ?_
      obtain ⟨n45, g46, h⟩ := sx_bnd h
      obtain ⟨g47, h⟩ := sx_grd h
      refine sv_iald (pc := 78) hG dX5_goAlongLine_78 (sv_len_e g46) g47 ?_
      refine sx_isub (pc := 79) dX5_goAlongLine_79 ?_
      refine sx_i2l (pc := 80) dX5_goAlongLine_80 ?_
      obtain ⟨V48, g49, h⟩ := sx_bnd h
      refine sv_cV (pc := 81) (y := qX9_findWay) (o := none) (as := [.long (((V22.1 b27 x11.toNatClampNeg) - (V22.1 b33 x8.toNatClampNeg)).toInt64), .long (((V22.1 b38 x11.toNatClampNeg) - (V22.1 b43 x8.toNatClampNeg)).toInt64)]) (V1 := V48) hG dX5_goAlongLine_81 l_X5_245 y0X9_findWay yvX9_findWay rfl (Nat.le_of_ble_eq_true rfl) lay_70 kr_9 (by decide) (Nat.le_of_ble_eq_true rfl) rfl rfl rfl (t_X9_findWay hG ⟨rfl, rfl⟩ g49) ?_
      refine sx_iload_n (pc := 84) dX5_goAlongLine_84 sx_m5 ?_
      refine sx_iconst (pc := 85) (v := 1) dX5_goAlongLine_85 (by decide) ?_
      refine sx_iand (pc := 86) dX5_goAlongLine_86 ?_
      refine sx_iconst (pc := 87) (v := 1) dX5_goAlongLine_87 (by decide) ?_
      refine sx_icmp_ne (pc := 88) (tgt := 98) dX5_goAlongLine_88 (by decide) (fun c50 => ?_) (fun c50 => ?_)
      · have h := sx_neg c50 h
        refine sx_wk (sx_s1 sx_m4 (sx_s1 sx_m5 sx_s0)) ?_
        exact tB_X5_goAlongLine_98 hG hP  h
      · have h := sx_pos c50 h
        refine sx_aload_n (pc := 91) dX5_goAlongLine_91 sx_m4 ?_
        refine sv_getO (pc := 92) hG dX5_goAlongLine_92 f_5_12 lay_69 rfl cr_69_1 ?_
        obtain ⟨V51, g52, h⟩ := sx_bnd h
        refine sv_cV (pc := 95) (y := qX9_turnWayLeft) (o := none) (as := []) (V1 := V51) hG dX5_goAlongLine_95 l_X5_263 y0X9_turnWayLeft yvX9_turnWayLeft rfl (Nat.le_of_ble_eq_true rfl) lay_70 kr_9 (by decide) (Nat.le_of_ble_eq_true rfl) rfl rfl rfl (t_X9_turnWayLeft hG ⟨rfl, rfl⟩ g52) ?_
        refine sx_wk (sx_s1 sx_m4 (sx_s1 sx_m5 sx_s0)) ?_
        exact tB_X5_goAlongLine_98 hG hP  h
    · have h := sx_pos c25 h
      exact sv_vret (pc := 44) dX5_goAlongLine_44 rfl h hP
theorem dX5_goAlongBothLines_0 : decode cX5_goAlongBothLines 0 = .ok (.aload_n 0, 1) := by decide +kernel
theorem dX5_goAlongBothLines_1 : decode cX5_goAlongBothLines 1 = .ok (.invokevirtual 242, 3) := by decide +kernel
theorem dX5_goAlongBothLines_4 : decode cX5_goAlongBothLines 4 = .ok (.istore_n 2, 1) := by decide +kernel
theorem dX5_goAlongBothLines_5 : decode cX5_goAlongBothLines 5 = .ok (.aload_n 0, 1) := by decide +kernel
theorem dX5_goAlongBothLines_6 : decode cX5_goAlongBothLines 6 = .ok (.invokevirtual 242, 3) := by decide +kernel
theorem dX5_goAlongBothLines_9 : decode cX5_goAlongBothLines 9 = .ok (.istore_n 3, 1) := by decide +kernel
theorem dX5_goAlongBothLines_10 : decode cX5_goAlongBothLines 10 = .ok (.aload_n 0, 1) := by decide +kernel
theorem dX5_goAlongBothLines_11 : decode cX5_goAlongBothLines 11 = .ok (.iconst 1, 1) := by decide +kernel
theorem dX5_goAlongBothLines_12 : decode cX5_goAlongBothLines 12 = .ok (.invokevirtual 255, 3) := by decide +kernel
theorem dX5_goAlongBothLines_15 : decode cX5_goAlongBothLines 15 = .ok (.astore 4, 2) := by decide +kernel
theorem dX5_goAlongBothLines_17 : decode cX5_goAlongBothLines 17 = .ok (.aload_n 0, 1) := by decide +kernel
theorem dX5_goAlongBothLines_18 : decode cX5_goAlongBothLines 18 = .ok (.iconst 2, 1) := by decide +kernel
theorem dX5_goAlongBothLines_19 : decode cX5_goAlongBothLines 19 = .ok (.invokevirtual 255, 3) := by decide +kernel
theorem dX5_goAlongBothLines_22 : decode cX5_goAlongBothLines 22 = .ok (.astore 5, 2) := by decide +kernel
theorem dX5_goAlongBothLines_24 : decode cX5_goAlongBothLines 24 = .ok (.aload_n 0, 1) := by decide +kernel
theorem dX5_goAlongBothLines_25 : decode cX5_goAlongBothLines 25 = .ok (.aload 4, 2) := by decide +kernel
theorem dX5_goAlongBothLines_27 : decode cX5_goAlongBothLines 27 = .ok (.iload_n 3, 1) := by decide +kernel
theorem dX5_goAlongBothLines_28 : decode cX5_goAlongBothLines 28 = .ok (.invokevirtual 259, 3) := by decide +kernel
theorem dX5_goAlongBothLines_31 : decode cX5_goAlongBothLines 31 = .ok (.ifCond .eq 13, 3) := by decide +kernel
theorem dX5_goAlongBothLines_34 : decode cX5_goAlongBothLines 34 = .ok (.aload_n 0, 1) := by decide +kernel
theorem dX5_goAlongBothLines_35 : decode cX5_goAlongBothLines 35 = .ok (.aload 5, 2) := by decide +kernel
theorem dX5_goAlongBothLines_37 : decode cX5_goAlongBothLines 37 = .ok (.iload_n 2, 1) := by decide +kernel
theorem dX5_goAlongBothLines_38 : decode cX5_goAlongBothLines 38 = .ok (.invokevirtual 259, 3) := by decide +kernel
theorem dX5_goAlongBothLines_41 : decode cX5_goAlongBothLines 41 = .ok (.ifCond .ne 4, 3) := by decide +kernel
theorem dX5_goAlongBothLines_44 : decode cX5_goAlongBothLines 44 = .ok (.return_, 1) := by decide +kernel
theorem dX5_goAlongBothLines_45 : decode cX5_goAlongBothLines 45 = .ok (.aload_n 0, 1) := by decide +kernel
theorem dX5_goAlongBothLines_46 : decode cX5_goAlongBothLines 46 = .ok (.getfield 12, 3) := by decide +kernel
theorem dX5_goAlongBothLines_49 : decode cX5_goAlongBothLines 49 = .ok (.aload 4, 2) := by decide +kernel
theorem dX5_goAlongBothLines_51 : decode cX5_goAlongBothLines 51 = .ok (.getfield 198, 3) := by decide +kernel
theorem dX5_goAlongBothLines_54 : decode cX5_goAlongBothLines 54 = .ok (.iload_n 3, 1) := by decide +kernel
theorem dX5_goAlongBothLines_55 : decode cX5_goAlongBothLines 55 = .ok (.iaload, 1) := by decide +kernel
theorem dX5_goAlongBothLines_56 : decode cX5_goAlongBothLines 56 = .ok (.aload 5, 2) := by decide +kernel
theorem dX5_goAlongBothLines_58 : decode cX5_goAlongBothLines 58 = .ok (.getfield 198, 3) := by decide +kernel
theorem dX5_goAlongBothLines_61 : decode cX5_goAlongBothLines 61 = .ok (.iload_n 2, 1) := by decide +kernel
theorem dX5_goAlongBothLines_62 : decode cX5_goAlongBothLines 62 = .ok (.iaload, 1) := by decide +kernel
theorem dX5_goAlongBothLines_63 : decode cX5_goAlongBothLines 63 = .ok (.isub, 1) := by decide +kernel
theorem dX5_goAlongBothLines_64 : decode cX5_goAlongBothLines 64 = .ok (.i2l, 1) := by decide +kernel
theorem dX5_goAlongBothLines_65 : decode cX5_goAlongBothLines 65 = .ok (.aload 4, 2) := by decide +kernel
theorem dX5_goAlongBothLines_67 : decode cX5_goAlongBothLines 67 = .ok (.getfield 201, 3) := by decide +kernel
theorem dX5_goAlongBothLines_70 : decode cX5_goAlongBothLines 70 = .ok (.iload_n 3, 1) := by decide +kernel
theorem dX5_goAlongBothLines_71 : decode cX5_goAlongBothLines 71 = .ok (.iaload, 1) := by decide +kernel
theorem dX5_goAlongBothLines_72 : decode cX5_goAlongBothLines 72 = .ok (.aload 5, 2) := by decide +kernel
theorem dX5_goAlongBothLines_74 : decode cX5_goAlongBothLines 74 = .ok (.getfield 201, 3) := by decide +kernel
theorem dX5_goAlongBothLines_77 : decode cX5_goAlongBothLines 77 = .ok (.iload_n 2, 1) := by decide +kernel
theorem dX5_goAlongBothLines_78 : decode cX5_goAlongBothLines 78 = .ok (.iaload, 1) := by decide +kernel
theorem dX5_goAlongBothLines_79 : decode cX5_goAlongBothLines 79 = .ok (.isub, 1) := by decide +kernel
theorem dX5_goAlongBothLines_80 : decode cX5_goAlongBothLines 80 = .ok (.i2l, 1) := by decide +kernel
theorem dX5_goAlongBothLines_81 : decode cX5_goAlongBothLines 81 = .ok (.invokevirtual 245, 3) := by decide +kernel
theorem dX5_goAlongBothLines_84 : decode cX5_goAlongBothLines 84 = .ok (.iload_n 1, 1) := by decide +kernel
theorem dX5_goAlongBothLines_85 : decode cX5_goAlongBothLines 85 = .ok (.sipush 135, 3) := by decide +kernel
theorem dX5_goAlongBothLines_88 : decode cX5_goAlongBothLines 88 = .ok (.if_icmp .ne 10, 3) := by decide +kernel
theorem dX5_goAlongBothLines_91 : decode cX5_goAlongBothLines 91 = .ok (.aload_n 0, 1) := by decide +kernel
theorem dX5_goAlongBothLines_92 : decode cX5_goAlongBothLines 92 = .ok (.getfield 12, 3) := by decide +kernel
theorem dX5_goAlongBothLines_95 : decode cX5_goAlongBothLines 95 = .ok (.invokevirtual 263, 3) := by decide +kernel
theorem dX5_goAlongBothLines_98 : decode cX5_goAlongBothLines 98 = .ok (.aload_n 0, 1) := by decide +kernel
theorem dX5_goAlongBothLines_99 : decode cX5_goAlongBothLines 99 = .ok (.getfield 12, 3) := by decide +kernel
theorem dX5_goAlongBothLines_102 : decode cX5_goAlongBothLines 102 = .ok (.invokevirtual 249, 3) := by decide +kernel
theorem dX5_goAlongBothLines_105 : decode cX5_goAlongBothLines 105 = .ok (.aload_n 0, 1) := by decide +kernel
theorem dX5_goAlongBothLines_106 : decode cX5_goAlongBothLines 106 = .ok (.getfield 12, 3) := by decide +kernel
theorem dX5_goAlongBothLines_109 : decode cX5_goAlongBothLines 109 = .ok (.aload 4, 2) := by decide +kernel
theorem dX5_goAlongBothLines_111 : decode cX5_goAlongBothLines 111 = .ok (.getfield 204, 3) := by decide +kernel
theorem dX5_goAlongBothLines_114 : decode cX5_goAlongBothLines 114 = .ok (.iload_n 3, 1) := by decide +kernel
theorem dX5_goAlongBothLines_115 : decode cX5_goAlongBothLines 115 = .ok (.iaload, 1) := by decide +kernel
theorem dX5_goAlongBothLines_116 : decode cX5_goAlongBothLines 116 = .ok (.aload 5, 2) := by decide +kernel
theorem dX5_goAlongBothLines_118 : decode cX5_goAlongBothLines 118 = .ok (.getfield 204, 3) := by decide +kernel
theorem dX5_goAlongBothLines_121 : decode cX5_goAlongBothLines 121 = .ok (.iload_n 2, 1) := by decide +kernel
theorem dX5_goAlongBothLines_122 : decode cX5_goAlongBothLines 122 = .ok (.iaload, 1) := by decide +kernel
theorem dX5_goAlongBothLines_123 : decode cX5_goAlongBothLines 123 = .ok (.isub, 1) := by decide +kernel
theorem dX5_goAlongBothLines_124 : decode cX5_goAlongBothLines 124 = .ok (.i2l, 1) := by decide +kernel
theorem dX5_goAlongBothLines_125 : decode cX5_goAlongBothLines 125 = .ok (.aload 4, 2) := by decide +kernel
theorem dX5_goAlongBothLines_127 : decode cX5_goAlongBothLines 127 = .ok (.getfield 207, 3) := by decide +kernel
theorem dX5_goAlongBothLines_130 : decode cX5_goAlongBothLines 130 = .ok (.iload_n 3, 1) := by decide +kernel
theorem dX5_goAlongBothLines_131 : decode cX5_goAlongBothLines 131 = .ok (.iaload, 1) := by decide +kernel
theorem dX5_goAlongBothLines_132 : decode cX5_goAlongBothLines 132 = .ok (.aload 5, 2) := by decide +kernel
theorem dX5_goAlongBothLines_134 : decode cX5_goAlongBothLines 134 = .ok (.getfield 207, 3) := by decide +kernel
theorem dX5_goAlongBothLines_137 : decode cX5_goAlongBothLines 137 = .ok (.iload_n 2, 1) := by decide +kernel
theorem dX5_goAlongBothLines_138 : decode cX5_goAlongBothLines 138 = .ok (.iaload, 1) := by decide +kernel
theorem dX5_goAlongBothLines_139 : decode cX5_goAlongBothLines 139 = .ok (.isub, 1) := by decide +kernel
theorem dX5_goAlongBothLines_140 : decode cX5_goAlongBothLines 140 = .ok (.i2l, 1) := by decide +kernel
theorem dX5_goAlongBothLines_141 : decode cX5_goAlongBothLines 141 = .ok (.invokevirtual 245, 3) := by decide +kernel
theorem dX5_goAlongBothLines_144 : decode cX5_goAlongBothLines 144 = .ok (.iload_n 1, 1) := by decide +kernel
theorem dX5_goAlongBothLines_145 : decode cX5_goAlongBothLines 145 = .ok (.sipush 135, 3) := by decide +kernel
theorem dX5_goAlongBothLines_148 : decode cX5_goAlongBothLines 148 = .ok (.if_icmp .ne 10, 3) := by decide +kernel
theorem dX5_goAlongBothLines_151 : decode cX5_goAlongBothLines 151 = .ok (.aload_n 0, 1) := by decide +kernel
theorem dX5_goAlongBothLines_152 : decode cX5_goAlongBothLines 152 = .ok (.getfield 12, 3) := by decide +kernel
theorem dX5_goAlongBothLines_155 : decode cX5_goAlongBothLines 155 = .ok (.invokevirtual 263, 3) := by decide +kernel
theorem dX5_goAlongBothLines_158 : decode cX5_goAlongBothLines 158 = .ok (.aload_n 0, 1) := by decide +kernel
theorem dX5_goAlongBothLines_159 : decode cX5_goAlongBothLines 159 = .ok (.getfield 12, 3) := by decide +kernel
theorem dX5_goAlongBothLines_162 : decode cX5_goAlongBothLines 162 = .ok (.aload_n 0, 1) := by decide +kernel
theorem dX5_goAlongBothLines_163 : decode cX5_goAlongBothLines 163 = .ok (.getfield 12, 3) := by decide +kernel
theorem dX5_goAlongBothLines_166 : decode cX5_goAlongBothLines 166 = .ok (.getfield 266, 3) := by decide +kernel
theorem dX5_goAlongBothLines_169 : decode cX5_goAlongBothLines 169 = .ok (.putfield 192, 3) := by decide +kernel
theorem dX5_goAlongBothLines_172 : decode cX5_goAlongBothLines 172 = .ok (.aload_n 0, 1) := by decide +kernel
theorem dX5_goAlongBothLines_173 : decode cX5_goAlongBothLines 173 = .ok (.getfield 12, 3) := by decide +kernel
theorem dX5_goAlongBothLines_176 : decode cX5_goAlongBothLines 176 = .ok (.aload_n 0, 1) := by decide +kernel
theorem dX5_goAlongBothLines_177 : decode cX5_goAlongBothLines 177 = .ok (.getfield 12, 3) := by decide +kernel
theorem dX5_goAlongBothLines_180 : decode cX5_goAlongBothLines 180 = .ok (.getfield 269, 3) := by decide +kernel
theorem dX5_goAlongBothLines_183 : decode cX5_goAlongBothLines 183 = .ok (.putfield 195, 3) := by decide +kernel
theorem dX5_goAlongBothLines_186 : decode cX5_goAlongBothLines 186 = .ok (.return_, 1) := by decide +kernel
def B_X5_goAlongBothLines_158 (N : Nat)   (V : sv_V) : Option sv_V := sx_let (sv_I V 70 4 (V.1 70 12)) (fun V1 => sx_let (sv_I V1 70 5 (V1.1 70 13)) (fun V2 => some V2))
set_option maxRecDepth 20000 in
theorem tB_X5_goAlongBothLines_158 {g : sx_G} (hG : sx_Go g) {P : Option Value → sv_V → Prop} {Vr : sv_V} (hP : P none Vr) {N : Nat}    {V : sv_V} (h : B_X5_goAlongBothLines_158 N   V = some Vr) : sv_N g qX5_goAlongBothLines 2 158 [(0, .ref 69)] [] V P := by
  unfold B_X5_goAlongBothLines_158 at h
  refine sx_aload_n (pc := 158) dX5_goAlongBothLines_158 sx_m0 ?_
  refine sv_getO (pc := 159) hG dX5_goAlongBothLines_159 f_5_12 lay_69 rfl cr_69_1 ?_
  refine sx_aload_n (pc := 162) dX5_goAlongBothLines_162 sx_m0 ?_
  refine sv_getO (pc := 163) hG dX5_goAlongBothLines_163 f_5_12 lay_69 rfl cr_69_1 ?_
  refine sv_getI (pc := 166) hG dX5_goAlongBothLines_166 f_5_266 lay_70 rfl ?_
  obtain ⟨V1, hV1⟩ : ∃ z : sv_V, z = sv_I V 70 4 (V.1 70 12) := ⟨_, rfl⟩
  have h := sx_letE hV1 h
  refine sv_putI (pc := 169) hG dX5_goAlongBothLines_169 f_5_192 lay_70 rfl hV1 ?_
  refine sx_aload_n (pc := 172) dX5_goAlongBothLines_172 sx_m0 ?_
  refine sv_getO (pc := 173) hG dX5_goAlongBothLines_173 f_5_12 lay_69 rfl cr_69_1 ?_
  refine sx_aload_n (pc := 176) dX5_goAlongBothLines_176 sx_m0 ?_
  refine sv_getO (pc := 177) hG dX5_goAlongBothLines_177 f_5_12 lay_69 rfl cr_69_1 ?_
  refine sv_getI (pc := 180) hG dX5_goAlongBothLines_180 f_5_269 lay_70 rfl ?_
  obtain ⟨V2, hV2⟩ : ∃ z : sv_V, z = sv_I V1 70 5 (V1.1 70 13) := ⟨_, rfl⟩
  have h := sx_letE hV2 h
  refine sv_putI (pc := 183) hG dX5_goAlongBothLines_183 f_5_195 lay_70 rfl hV2 ?_
  exact sv_vret (pc := 186) dX5_goAlongBothLines_186 rfl h hP
def B_X5_goAlongBothLines_98 (N : Nat)  (l1 : Int32) (l2 : Int32) (l3 : Int32) (l4 : Nat) (l5 : Nat) (V : sv_V) : Option sv_V := (F_X9_useWayForP  V).bind (fun V3 => if lay l4 = .inl 8 then (cr l4 2).bind (fun b6 => (sv_len 0 b6).bind (fun n8 => if sx_in l3 n8 = true then if lay l5 = .inl 8 then (cr l5 2).bind (fun b12 => (sv_len 0 b12).bind (fun n14 => if sx_in l2 n14 = true then (cr l4 3).bind (fun b17 => (sv_len 0 b17).bind (fun n19 => if sx_in l3 n19 = true then (cr l5 3).bind (fun b22 => (sv_len 0 b22).bind (fun n24 => if sx_in l2 n24 = true then (F_X9_findWay N (((V3.1 b6 l3.toNatClampNeg) - (V3.1 b12 l2.toNatClampNeg)).toInt64) (((V3.1 b17 l3.toNatClampNeg) - (V3.1 b22 l2.toNatClampNeg)).toInt64) V3).bind (fun V27 => if l1 = (135 : Int32) then ((F_X9_turnWayLeft  V27).bind (fun V30 => B_X5_goAlongBothLines_158 N   V30)) else (B_X5_goAlongBothLines_158 N   V27)) else none)) else none)) else none)) else none else none)) else none)
set_option maxRecDepth 20000 in
theorem tB_X5_goAlongBothLines_98 {g : sx_G} (hG : sx_Go g) {P : Option Value → sv_V → Prop} {Vr : sv_V} (hP : P none Vr) {N : Nat}   {l1 : Int32} {l2 : Int32} {l3 : Int32} {l4 : Nat} {l5 : Nat} {V : sv_V} (h : B_X5_goAlongBothLines_98 N  l1 l2 l3 l4 l5 V = some Vr) : sv_N g qX5_goAlongBothLines 2 98 [(0, .ref 69), (1, .int l1), (2, .int l2), (3, .int l3), (4, .ref l4), (5, .ref l5)] [] V P := by
  unfold B_X5_goAlongBothLines_98 at h
  refine sx_aload_n (pc := 98) dX5_goAlongBothLines_98 sx_m0 ?_
  refine sv_getO (pc := 99) hG dX5_goAlongBothLines_99 f_5_12 lay_69 rfl cr_69_1 ?_
  obtain ⟨V3, g4, h⟩ := sx_bnd h
  refine sv_cV (pc := 102) (y := qX9_useWayForP) (o := none) (as := []) (V1 := V3) hG dX5_goAlongBothLines_102 l_X5_249 y0X9_useWayForP yvX9_useWayForP rfl (Nat.le_of_ble_eq_true rfl) lay_70 kr_9 (by decide) (Nat.le_of_ble_eq_true rfl) rfl rfl rfl (t_X9_useWayForP hG ⟨rfl, rfl⟩ g4) ?_
  refine sx_aload_n (pc := 105) dX5_goAlongBothLines_105 sx_m0 ?_
  refine sv_getO (pc := 106) hG dX5_goAlongBothLines_106 f_5_12 lay_69 rfl cr_69_1 ?_
  refine sx_aload (pc := 109) dX5_goAlongBothLines_109 sx_m4 ?_
  obtain ⟨g5, h⟩ := sx_grd h
  obtain ⟨b6, g7, h⟩ := sx_bnd h
  refine sv_getA (pc := 111) hG dX5_goAlongBothLines_111 f_5_204 g5 rfl g7 ?_
  refine sx_iload_n (pc := 114) dX5_goAlongBothLines_114 sx_m3 ?_
  obtain ⟨n8, g9, h⟩ := sx_bnd h
  obtain ⟨g10, h⟩ := sx_grd h
  refine sv_iald (pc := 115) hG dX5_goAlongBothLines_115 (sv_len_e g9) g10 ?_
  refine sx_aload (pc := 116) dX5_goAlongBothLines_116 sx_m5 ?_
  obtain ⟨g11, h⟩ := sx_grd h
  obtain ⟨b12, g13, h⟩ := sx_bnd h
  refine sv_getA (pc := 118) hG dX5_goAlongBothLines_118 f_5_204 g11 rfl g13 ?_
  refine sx_iload_n (pc := 121) dX5_goAlongBothLines_121 sx_m2 ?_
  obtain ⟨n14, g15, h⟩ := sx_bnd h
  obtain ⟨g16, h⟩ := sx_grd h
  refine sv_iald (pc := 122) hG dX5_goAlongBothLines_122 (sv_len_e g15) g16 ?_
  refine sx_isub (pc := 123) dX5_goAlongBothLines_123 ?_
  refine sx_i2l (pc := 124) dX5_goAlongBothLines_124 ?_
  refine sx_aload (pc := 125) dX5_goAlongBothLines_125 sx_m4 ?_
  obtain ⟨b17, g18, h⟩ := sx_bnd h
  refine sv_getA (pc := 127) hG dX5_goAlongBothLines_127 f_5_207 g5 rfl g18 ?_
  refine sx_iload_n (pc := 130) dX5_goAlongBothLines_130 sx_m3 ?_
  obtain ⟨n19, g20, h⟩ := sx_bnd h
  obtain ⟨g21, h⟩ := sx_grd h
  refine sv_iald (pc := 131) hG dX5_goAlongBothLines_131 (sv_len_e g20) g21 ?_
  refine sx_aload (pc := 132) dX5_goAlongBothLines_132 sx_m5 ?_
  obtain ⟨b22, g23, h⟩ := sx_bnd h
  refine sv_getA (pc := 134) hG dX5_goAlongBothLines_134 f_5_207 g11 rfl g23 ?_
  refine sx_iload_n (pc := 137) dX5_goAlongBothLines_137 sx_m2 ?_
  obtain ⟨n24, g25, h⟩ := sx_bnd h
  obtain ⟨g26, h⟩ := sx_grd h
  refine sv_iald (pc := 138) hG dX5_goAlongBothLines_138 (sv_len_e g25) g26 ?_
  refine sx_isub (pc := 139) dX5_goAlongBothLines_139 ?_
  refine sx_i2l (pc := 140) dX5_goAlongBothLines_140 ?_
  obtain ⟨V27, g28, h⟩ := sx_bnd h
  refine sv_cV (pc := 141) (y := qX9_findWay) (o := none) (as := [.long (((V3.1 b6 l3.toNatClampNeg) - (V3.1 b12 l2.toNatClampNeg)).toInt64), .long (((V3.1 b17 l3.toNatClampNeg) - (V3.1 b22 l2.toNatClampNeg)).toInt64)]) (V1 := V27) hG dX5_goAlongBothLines_141 l_X5_245 y0X9_findWay yvX9_findWay rfl (Nat.le_of_ble_eq_true rfl) lay_70 kr_9 (by decide) (Nat.le_of_ble_eq_true rfl) rfl rfl rfl (t_X9_findWay hG ⟨rfl, rfl⟩ g28) ?_
  refine sx_iload_n (pc := 144) dX5_goAlongBothLines_144 sx_m1 ?_
  refine sx_sipush (pc := 145) (v := 135) dX5_goAlongBothLines_145 (by decide) ?_
  refine sx_icmp_ne (pc := 148) (tgt := 158) dX5_goAlongBothLines_148 (by decide) (fun c29 => ?_) (fun c29 => ?_)
  · have h := sx_neg c29 h
    refine sx_wk (sx_s1 sx_m0 sx_s0) ?_
    exact tB_X5_goAlongBothLines_158 hG hP  h
  · have h := sx_pos c29 h
    refine sx_aload_n (pc := 151) dX5_goAlongBothLines_151 sx_m0 ?_
    refine sv_getO (pc := 152) hG dX5_goAlongBothLines_152 f_5_12 lay_69 rfl cr_69_1 ?_
    obtain ⟨V30, g31, h⟩ := sx_bnd h
    refine sv_cV (pc := 155) (y := qX9_turnWayLeft) (o := none) (as := []) (V1 := V30) hG dX5_goAlongBothLines_155 l_X5_263 y0X9_turnWayLeft yvX9_turnWayLeft rfl (Nat.le_of_ble_eq_true rfl) lay_70 kr_9 (by decide) (Nat.le_of_ble_eq_true rfl) rfl rfl rfl (t_X9_turnWayLeft hG ⟨rfl, rfl⟩ g31) ?_
    refine sx_wk (sx_s1 sx_m0 sx_s0) ?_
    exact tB_X5_goAlongBothLines_158 hG hP  h
def F_X5_goAlongBothLines (N : Nat) (l1 : Int32) (V : sv_V) : Option sv_V := (F_X5_pop  V).bind (fun (x34, V32) => (F_X5_pop  V32).bind (fun (x37, V35) => (F_X5_zone (1 : Int32) V35).bind (fun (x40, V38) => (F_X5_zone (2 : Int32) V38).bind (fun (x43, V41) => (F_X5_isThere x40 x37 V41).bind (fun (x46, V44) => if x46 = 0 then (some V44) else ((F_X5_isThere x43 x34 V44).bind (fun (x50, V48) => if x50 = 0 then (some V48) else (if lay x40 = .inl 8 then (cr x40 0).bind (fun b53 => (sv_len 0 b53).bind (fun n55 => if sx_in x37 n55 = true then if lay x43 = .inl 8 then (cr x43 0).bind (fun b59 => (sv_len 0 b59).bind (fun n61 => if sx_in x34 n61 = true then (cr x40 1).bind (fun b64 => (sv_len 0 b64).bind (fun n66 => if sx_in x37 n66 = true then (cr x43 1).bind (fun b69 => (sv_len 0 b69).bind (fun n71 => if sx_in x34 n71 = true then (F_X9_findWay N (((V48.1 b53 x37.toNatClampNeg) - (V48.1 b59 x34.toNatClampNeg)).toInt64) (((V48.1 b64 x37.toNatClampNeg) - (V48.1 b69 x34.toNatClampNeg)).toInt64) V48).bind (fun V74 => if l1 = (135 : Int32) then ((F_X9_turnWayLeft  V74).bind (fun V77 => B_X5_goAlongBothLines_98 N  l1 x34 x37 x40 x43 V77)) else (B_X5_goAlongBothLines_98 N  l1 x34 x37 x40 x43 V74)) else none)) else none)) else none)) else none else none)) else none))))))))
set_option maxRecDepth 20000 in
theorem t_X5_goAlongBothLines {g : sx_G} (hG : sx_Go g) {P : Option Value → sv_V → Prop} {Vr : sv_V} (hP : P none Vr) {N : Nat} {l1 : Int32} {V : sv_V} (h : F_X5_goAlongBothLines N l1 V = some Vr) : sv_N g qX5_goAlongBothLines 2 0 [(0, .ref 69), (1, .int l1)] [] V P := by
  unfold F_X5_goAlongBothLines at h
  refine sx_aload_n (pc := 0) dX5_goAlongBothLines_0 sx_m0 ?_
  obtain ⟨⟨x34, V32⟩, g33, h⟩ := sx_bnd h
  refine sv_cV (pc := 1) (y := qX5_pop) (o := (some (.int x34))) (as := []) (V1 := V32) hG dX5_goAlongBothLines_1 l_X5_242 y0X5_pop yvX5_pop rfl (Nat.le_of_ble_eq_true rfl) lay_69 kr_5 (by decide) (Nat.le_of_ble_eq_true rfl) rfl rfl rfl (t_X5_pop hG ⟨rfl, rfl⟩ g33) ?_
  refine sx_istore_n (pc := 4) (lo' := [(2, .int x34), (0, .ref 69), (1, .int l1)]) dX5_goAlongBothLines_4 (by decide) rfl ?_
  refine sx_aload_n (pc := 5) dX5_goAlongBothLines_5 sx_m1 ?_
  obtain ⟨⟨x37, V35⟩, g36, h⟩ := sx_bnd h
  refine sv_cV (pc := 6) (y := qX5_pop) (o := (some (.int x37))) (as := []) (V1 := V35) hG dX5_goAlongBothLines_6 l_X5_242 y0X5_pop yvX5_pop rfl (Nat.le_of_ble_eq_true rfl) lay_69 kr_5 (by decide) (Nat.le_of_ble_eq_true rfl) rfl rfl rfl (t_X5_pop hG ⟨rfl, rfl⟩ g36) ?_
  refine sx_istore_n (pc := 9) (lo' := [(3, .int x37), (2, .int x34), (0, .ref 69), (1, .int l1)]) dX5_goAlongBothLines_9 (by decide) rfl ?_
  refine sx_aload_n (pc := 10) dX5_goAlongBothLines_10 sx_m2 ?_
  refine sx_iconst (pc := 11) (v := 1) dX5_goAlongBothLines_11 (by decide) ?_
  obtain ⟨⟨x40, V38⟩, g39, h⟩ := sx_bnd h
  refine sv_cV (pc := 12) (y := qX5_zone) (o := (some (.ref x40))) (as := [.int (1 : Int32)]) (V1 := V38) hG dX5_goAlongBothLines_12 l_X5_255 y0X5_zone yvX5_zone rfl (Nat.le_of_ble_eq_true rfl) lay_69 kr_5 (by decide) (Nat.le_of_ble_eq_true rfl) rfl rfl rfl (t_X5_zone hG ⟨rfl, rfl⟩ g39) ?_
  refine sx_astore (pc := 15) (lo' := [(4, .ref x40), (3, .int x37), (2, .int x34), (0, .ref 69), (1, .int l1)]) dX5_goAlongBothLines_15 (by decide) rfl ?_
  refine sx_aload_n (pc := 17) dX5_goAlongBothLines_17 sx_m3 ?_
  refine sx_iconst (pc := 18) (v := 2) dX5_goAlongBothLines_18 (by decide) ?_
  obtain ⟨⟨x43, V41⟩, g42, h⟩ := sx_bnd h
  refine sv_cV (pc := 19) (y := qX5_zone) (o := (some (.ref x43))) (as := [.int (2 : Int32)]) (V1 := V41) hG dX5_goAlongBothLines_19 l_X5_255 y0X5_zone yvX5_zone rfl (Nat.le_of_ble_eq_true rfl) lay_69 kr_5 (by decide) (Nat.le_of_ble_eq_true rfl) rfl rfl rfl (t_X5_zone hG ⟨rfl, rfl⟩ g42) ?_
  refine sx_astore (pc := 22) (lo' := [(5, .ref x43), (4, .ref x40), (3, .int x37), (2, .int x34), (0, .ref 69), (1, .int l1)]) dX5_goAlongBothLines_22 (by decide) rfl ?_
  refine sx_aload_n (pc := 24) dX5_goAlongBothLines_24 sx_m4 ?_
  refine sx_aload (pc := 25) dX5_goAlongBothLines_25 sx_m1 ?_
  refine sx_iload_n (pc := 27) dX5_goAlongBothLines_27 sx_m2 ?_
  obtain ⟨⟨x46, V44⟩, g45, h⟩ := sx_bnd h
  refine sv_cV (pc := 28) (y := qX5_isThere) (o := (some (.int x46))) (as := [.ref x40, .int x37]) (V1 := V44) hG dX5_goAlongBothLines_28 l_X5_259 y0X5_isThere yvX5_isThere rfl (Nat.le_of_ble_eq_true rfl) lay_69 kr_5 (by decide) (Nat.le_of_ble_eq_true rfl) rfl rfl rfl (t_X5_isThere hG ⟨rfl, rfl⟩ g45) ?_
  refine sx_if_eq (pc := 31) (tgt := 44) dX5_goAlongBothLines_31 (by decide) (fun c47 => ?_) (fun c47 => ?_)
  · have h := sx_pos c47 h
    exact sv_vret (pc := 44) dX5_goAlongBothLines_44 rfl h hP
  · have h := sx_neg c47 h
    refine sx_aload_n (pc := 34) dX5_goAlongBothLines_34 sx_m4 ?_
    refine sx_aload (pc := 35) dX5_goAlongBothLines_35 sx_m0 ?_
    refine sx_iload_n (pc := 37) dX5_goAlongBothLines_37 sx_m3 ?_
    obtain ⟨⟨x50, V48⟩, g49, h⟩ := sx_bnd h
    refine sv_cV (pc := 38) (y := qX5_isThere) (o := (some (.int x50))) (as := [.ref x43, .int x34]) (V1 := V48) hG dX5_goAlongBothLines_38 l_X5_259 y0X5_isThere yvX5_isThere rfl (Nat.le_of_ble_eq_true rfl) lay_69 kr_5 (by decide) (Nat.le_of_ble_eq_true rfl) rfl rfl rfl (t_X5_isThere hG ⟨rfl, rfl⟩ g49) ?_
    refine sx_if_ne (pc := 41) (tgt := 45) dX5_goAlongBothLines_41 (by decide) (fun c51 => ?_) (fun c51 => ?_)
    · have h := sx_neg c51 h
      refine sx_aload_n (pc := 45) dX5_goAlongBothLines_45 sx_m4 ?_
      refine sv_getO (pc := 46) hG dX5_goAlongBothLines_46 f_5_12 lay_69 rfl cr_69_1 ?_
      refine sx_aload (pc := 49) dX5_goAlongBothLines_49 sx_m1 ?_
      obtain ⟨g52, h⟩ := sx_grd h
      obtain ⟨b53, g54, h⟩ := sx_bnd h
      refine sv_getA (pc := 51) hG dX5_goAlongBothLines_51 f_5_198 g52 rfl g54 ?_
      refine sx_iload_n (pc := 54) dX5_goAlongBothLines_54 sx_m2 ?_
      obtain ⟨n55, g56, h⟩ := sx_bnd h
      obtain ⟨g57, h⟩ := sx_grd h
      refine sv_iald (pc := 55) hG dX5_goAlongBothLines_55 (sv_len_e g56) g57 ?_
      refine sx_aload (pc := 56) dX5_goAlongBothLines_56 sx_m0 ?_
      obtain ⟨g58, h⟩ := sx_grd h
      obtain ⟨b59, g60, h⟩ := sx_bnd h
      refine sv_getA (pc := 58) hG dX5_goAlongBothLines_58 f_5_198 g58 rfl g60 ?_
      refine sx_iload_n (pc := 61) dX5_goAlongBothLines_61 sx_m3 ?_
      obtain ⟨n61, g62, h⟩ := sx_bnd h
      obtain ⟨g63, h⟩ := sx_grd h
      refine sv_iald (pc := 62) hG dX5_goAlongBothLines_62 (sv_len_e g62) g63 ?_
      refine sx_isub (pc := 63) dX5_goAlongBothLines_63 ?_
      refine sx_i2l (pc := 64) dX5_goAlongBothLines_64 ?_
      refine sx_aload (pc := 65) dX5_goAlongBothLines_65 sx_m1 ?_
      obtain ⟨b64, g65, h⟩ := sx_bnd h
      refine sv_getA (pc := 67) hG dX5_goAlongBothLines_67 f_5_201 g52 rfl g65 ?_
      refine sx_iload_n (pc := 70) dX5_goAlongBothLines_70 sx_m2 ?_
      obtain ⟨n66, g67, h⟩ := sx_bnd h
      obtain ⟨g68, h⟩ := sx_grd h
      refine sv_iald (pc := 71) hG dX5_goAlongBothLines_71 (sv_len_e g67) g68 ?_
      refine sx_aload (pc := 72) dX5_goAlongBothLines_72 sx_m0 ?_
      obtain ⟨b69, g70, h⟩ := sx_bnd h
      refine sv_getA (pc := 74) hG dX5_goAlongBothLines_74 f_5_201 g58 rfl g70 ?_
      refine sx_iload_n (pc := 77) dX5_goAlongBothLines_77 sx_m3 ?_
      obtain ⟨n71, g72, h⟩ := sx_bnd h
      obtain ⟨g73, h⟩ := sx_grd h
      refine sv_iald (pc := 78) hG dX5_goAlongBothLines_78 (sv_len_e g72) g73 ?_
      refine sx_isub (pc := 79) dX5_goAlongBothLines_79 ?_
      refine sx_i2l (pc := 80) dX5_goAlongBothLines_80 ?_
      obtain ⟨V74, g75, h⟩ := sx_bnd h
      refine sv_cV (pc := 81) (y := qX9_findWay) (o := none) (as := [.long (((V48.1 b53 x37.toNatClampNeg) - (V48.1 b59 x34.toNatClampNeg)).toInt64), .long (((V48.1 b64 x37.toNatClampNeg) - (V48.1 b69 x34.toNatClampNeg)).toInt64)]) (V1 := V74) hG dX5_goAlongBothLines_81 l_X5_245 y0X9_findWay yvX9_findWay rfl (Nat.le_of_ble_eq_true rfl) lay_70 kr_9 (by decide) (Nat.le_of_ble_eq_true rfl) rfl rfl rfl (t_X9_findWay hG ⟨rfl, rfl⟩ g75) ?_
      refine sx_iload_n (pc := 84) dX5_goAlongBothLines_84 sx_m5 ?_
      refine sx_sipush (pc := 85) (v := 135) dX5_goAlongBothLines_85 (by decide) ?_
      refine sx_icmp_ne (pc := 88) (tgt := 98) dX5_goAlongBothLines_88 (by decide) (fun c76 => ?_) (fun c76 => ?_)
      · have h := sx_neg c76 h
        refine sx_wk (sx_s1 sx_m4 (sx_s1 sx_m5 (sx_s1 sx_m3 (sx_s1 sx_m2 (sx_s1 sx_m1 (sx_s1 sx_m0 sx_s0)))))) ?_
        exact tB_X5_goAlongBothLines_98 hG hP  h
      · have h := sx_pos c76 h
        refine sx_aload_n (pc := 91) dX5_goAlongBothLines_91 sx_m4 ?_
        refine sv_getO (pc := 92) hG dX5_goAlongBothLines_92 f_5_12 lay_69 rfl cr_69_1 ?_
        obtain ⟨V77, g78, h⟩ := sx_bnd h
        refine sv_cV (pc := 95) (y := qX9_turnWayLeft) (o := none) (as := []) (V1 := V77) hG dX5_goAlongBothLines_95 l_X5_263 y0X9_turnWayLeft yvX9_turnWayLeft rfl (Nat.le_of_ble_eq_true rfl) lay_70 kr_9 (by decide) (Nat.le_of_ble_eq_true rfl) rfl rfl rfl (t_X9_turnWayLeft hG ⟨rfl, rfl⟩ g78) ?_
        refine sx_wk (sx_s1 sx_m4 (sx_s1 sx_m5 (sx_s1 sx_m3 (sx_s1 sx_m2 (sx_s1 sx_m1 (sx_s1 sx_m0 sx_s0)))))) ?_
        exact tB_X5_goAlongBothLines_98 hG hP  h
    · have h := sx_pos c51 h
      exact sv_vret (pc := 44) dX5_goAlongBothLines_44 rfl h hP
theorem dX5_flowCodes_0 : decode cX5_flowCodes 0 = .ok (.iload_n 1, 1) := by decide +kernel
theorem dX5_flowCodes_1 : decode cX5_flowCodes 1 = .ok (.lookupswitch 174 #[(27, 91), (28, 97), (42, 106), (43, 111), (44, 116), (45, 128), (88, 133), (120, 146), (121, 146), (137, 162)], 91) := by decide +kernel
theorem dX5_flowCodes_92 : decode cX5_flowCodes 92 = .ok (.aload_n 0, 1) := by decide +kernel
theorem dX5_flowCodes_93 : decode cX5_flowCodes 93 = .ok (.iconst 0, 1) := by decide +kernel
theorem dX5_flowCodes_94 : decode cX5_flowCodes 94 = .ok (.invokevirtual 302, 3) := by decide +kernel
theorem dX5_flowCodes_97 : decode cX5_flowCodes 97 = .ok (.return_, 1) := by decide +kernel
theorem dX5_flowCodes_98 : decode cX5_flowCodes 98 = .ok (.aload_n 0, 1) := by decide +kernel
theorem dX5_flowCodes_99 : decode cX5_flowCodes 99 = .ok (.aload_n 0, 1) := by decide +kernel
theorem dX5_flowCodes_100 : decode cX5_flowCodes 100 = .ok (.invokevirtual 242, 3) := by decide +kernel
theorem dX5_flowCodes_103 : decode cX5_flowCodes 103 = .ok (.invokevirtual 306, 3) := by decide +kernel
theorem dX5_flowCodes_106 : decode cX5_flowCodes 106 = .ok (.return_, 1) := by decide +kernel
theorem dX5_flowCodes_107 : decode cX5_flowCodes 107 = .ok (.aload_n 0, 1) := by decide +kernel
theorem dX5_flowCodes_108 : decode cX5_flowCodes 108 = .ok (.invokevirtual 309, 3) := by decide +kernel
theorem dX5_flowCodes_111 : decode cX5_flowCodes 111 = .ok (.return_, 1) := by decide +kernel
theorem dX5_flowCodes_112 : decode cX5_flowCodes 112 = .ok (.aload_n 0, 1) := by decide +kernel
theorem dX5_flowCodes_113 : decode cX5_flowCodes 113 = .ok (.invokevirtual 312, 3) := by decide +kernel
theorem dX5_flowCodes_116 : decode cX5_flowCodes 116 = .ok (.return_, 1) := by decide +kernel
theorem dX5_flowCodes_117 : decode cX5_flowCodes 117 = .ok (.aload_n 0, 1) := by decide +kernel
theorem dX5_flowCodes_118 : decode cX5_flowCodes 118 = .ok (.invokevirtual 315, 3) := by decide +kernel
theorem dX5_flowCodes_121 : decode cX5_flowCodes 121 = .ok (.ifCond .eq 7, 3) := by decide +kernel
theorem dX5_flowCodes_124 : decode cX5_flowCodes 124 = .ok (.aload_n 0, 1) := by decide +kernel
theorem dX5_flowCodes_125 : decode cX5_flowCodes 125 = .ok (.invokevirtual 318, 3) := by decide +kernel
theorem dX5_flowCodes_128 : decode cX5_flowCodes 128 = .ok (.return_, 1) := by decide +kernel
theorem dX5_flowCodes_129 : decode cX5_flowCodes 129 = .ok (.aload_n 0, 1) := by decide +kernel
theorem dX5_flowCodes_130 : decode cX5_flowCodes 130 = .ok (.invokevirtual 321, 3) := by decide +kernel
theorem dX5_flowCodes_133 : decode cX5_flowCodes 133 = .ok (.return_, 1) := by decide +kernel
theorem dX5_flowCodes_134 : decode cX5_flowCodes 134 = .ok (.aload_n 0, 1) := by decide +kernel
theorem dX5_flowCodes_135 : decode cX5_flowCodes 135 = .ok (.invokevirtual 242, 3) := by decide +kernel
theorem dX5_flowCodes_138 : decode cX5_flowCodes 138 = .ok (.ifCond .ne 8, 3) := by decide +kernel
theorem dX5_flowCodes_141 : decode cX5_flowCodes 141 = .ok (.aload_n 0, 1) := by decide +kernel
theorem dX5_flowCodes_142 : decode cX5_flowCodes 142 = .ok (.iconst 1, 1) := by decide +kernel
theorem dX5_flowCodes_143 : decode cX5_flowCodes 143 = .ok (.invokevirtual 302, 3) := by decide +kernel
theorem dX5_flowCodes_146 : decode cX5_flowCodes 146 = .ok (.return_, 1) := by decide +kernel
theorem dX5_flowCodes_147 : decode cX5_flowCodes 147 = .ok (.aload_n 0, 1) := by decide +kernel
theorem dX5_flowCodes_148 : decode cX5_flowCodes 148 = .ok (.iload_n 1, 1) := by decide +kernel
theorem dX5_flowCodes_149 : decode cX5_flowCodes 149 = .ok (.bipush 120, 2) := by decide +kernel
theorem dX5_flowCodes_151 : decode cX5_flowCodes 151 = .ok (.if_icmp .ne 7, 3) := by decide +kernel
theorem dX5_flowCodes_154 : decode cX5_flowCodes 154 = .ok (.iconst 1, 1) := by decide +kernel
theorem dX5_flowCodes_155 : decode cX5_flowCodes 155 = .ok (.goto 4, 3) := by decide +kernel
theorem dX5_flowCodes_158 : decode cX5_flowCodes 158 = .ok (.iconst 0, 1) := by decide +kernel
theorem dX5_flowCodes_159 : decode cX5_flowCodes 159 = .ok (.invokevirtual 324, 3) := by decide +kernel
theorem dX5_flowCodes_162 : decode cX5_flowCodes 162 = .ok (.return_, 1) := by decide +kernel
theorem dX5_flowCodes_163 : decode cX5_flowCodes 163 = .ok (.aload_n 0, 1) := by decide +kernel
theorem dX5_flowCodes_164 : decode cX5_flowCodes 164 = .ok (.invokevirtual 327, 3) := by decide +kernel
theorem dX5_flowCodes_167 : decode cX5_flowCodes 167 = .ok (.ifCond .eq 7, 3) := by decide +kernel
theorem dX5_flowCodes_170 : decode cX5_flowCodes 170 = .ok (.aload_n 0, 1) := by decide +kernel
theorem dX5_flowCodes_171 : decode cX5_flowCodes 171 = .ok (.invokevirtual 318, 3) := by decide +kernel
theorem dX5_flowCodes_174 : decode cX5_flowCodes 174 = .ok (.return_, 1) := by decide +kernel
theorem dX5_flowCodes_175 : decode cX5_flowCodes 175 = .ok (.return_, 1) := by decide +kernel
def B_X5_flowCodes_159 (N : Nat)  (s1 : Int32) (V : sv_V) : Option sv_V := (F_X5_jumpIf s1 V).bind (fun V1 => some V1)
set_option maxRecDepth 20000 in
theorem tB_X5_flowCodes_159 {g : sx_G} (hG : sx_Go g) {P : Option Value → sv_V → Prop} {Vr : sv_V} (hP : P none Vr) {N : Nat}   {s1 : Int32} {V : sv_V} (h : B_X5_flowCodes_159 N  s1 V = some Vr) : sv_N g qX5_flowCodes 3 159 [] [.int s1, .ref 69] V P := by
  unfold B_X5_flowCodes_159 at h
  obtain ⟨V1, g2, h⟩ := sx_bnd h
  refine sv_cV (pc := 159) (y := qX5_jumpIf) (o := none) (as := [.int s1]) (V1 := V1) hG dX5_flowCodes_159 l_X5_324 y0X5_jumpIf yvX5_jumpIf rfl (Nat.le_of_ble_eq_true rfl) lay_69 kr_5 (by decide) (Nat.le_of_ble_eq_true rfl) rfl rfl rfl (t_X5_jumpIf hG ⟨rfl, rfl⟩ g2) ?_
  exact sv_vret (pc := 162) dX5_flowCodes_162 rfl h hP
def B_X5_flowCodes_147 (N : Nat)  (l1 : Int32) (V : sv_V) : Option sv_V := if l1 = (120 : Int32) then (B_X5_flowCodes_159 N  (1 : Int32) V) else (B_X5_flowCodes_159 N  (0 : Int32) V)
set_option maxRecDepth 20000 in
theorem tB_X5_flowCodes_147 {g : sx_G} (hG : sx_Go g) {P : Option Value → sv_V → Prop} {Vr : sv_V} (hP : P none Vr) {N : Nat}   {l1 : Int32} {V : sv_V} (h : B_X5_flowCodes_147 N  l1 V = some Vr) : sv_N g qX5_flowCodes 3 147 [(0, .ref 69), (1, .int l1)] [] V P := by
  unfold B_X5_flowCodes_147 at h
  refine sx_aload_n (pc := 147) dX5_flowCodes_147 sx_m0 ?_
  refine sx_iload_n (pc := 148) dX5_flowCodes_148 sx_m1 ?_
  refine sx_bipush (pc := 149) (v := 120) dX5_flowCodes_149 (by decide) ?_
  refine sx_icmp_ne (pc := 151) (tgt := 158) dX5_flowCodes_151 (by decide) (fun c3 => ?_) (fun c3 => ?_)
  · have h := sx_neg c3 h
    refine sx_iconst (pc := 158) (v := 0) dX5_flowCodes_158 (by decide) ?_
    refine sx_wk sx_s0 ?_
    exact tB_X5_flowCodes_159 hG hP  h
  · have h := sx_pos c3 h
    refine sx_iconst (pc := 154) (v := 1) dX5_flowCodes_154 (by decide) ?_
    refine sx_goto (pc := 155) (tgt := 159) dX5_flowCodes_155 (by decide) ?_
    refine sx_wk sx_s0 ?_
    exact tB_X5_flowCodes_159 hG hP  h
def F_X5_flowCodes (N : Nat) (l1 : Int32) (V : sv_V) : Option sv_V := if l1 = 27 then ((F_X5_passBranch N (0 : Int32) V).bind (fun V5 => some V5)) else (if l1 = 28 then ((F_X5_pop  V).bind (fun (x10, V8) => (F_X5_jump x10 V8).bind (fun V11 => some V11))) else (if l1 = 42 then ((F_X5_callTimes  V).bind (fun V14 => some V14)) else (if l1 = 43 then ((F_X5_callOnce  V).bind (fun V17 => some V17)) else (if l1 = 44 then ((F_X5_noteFunction  V).bind (fun (x22, V20) => if x22 = 0 then (some V20) else ((F_X5_passDefinition N  V20).bind (fun V24 => some V24)))) else (if l1 = 45 then ((F_X5_endRoutine  V).bind (fun V27 => some V27)) else (if l1 = 88 then ((F_X5_pop  V).bind (fun (x32, V30) => if x32 = 0 then ((F_X5_passBranch N (1 : Int32) V30).bind (fun V34 => some V34)) else (some V30))) else (if l1 = 120 then (B_X5_flowCodes_147 N  l1 V) else (if l1 = 121 then (B_X5_flowCodes_147 N  l1 V) else (if l1 = 137 then ((F_X5_noteOwnCode  V).bind (fun (x41, V39) => if x41 = 0 then (some V39) else ((F_X5_passDefinition N  V39).bind (fun V43 => some V43)))) else (some V))))))))))
set_option maxRecDepth 20000 in
theorem t_X5_flowCodes {g : sx_G} (hG : sx_Go g) {P : Option Value → sv_V → Prop} {Vr : sv_V} (hP : P none Vr) {N : Nat} {l1 : Int32} {V : sv_V} (h : F_X5_flowCodes N l1 V = some Vr) : sv_N g qX5_flowCodes 3 0 [(0, .ref 69), (1, .int l1)] [] V P := by
  unfold F_X5_flowCodes at h
  refine sx_iload_n (pc := 0) dX5_flowCodes_0 sx_m1 ?_
  by_cases c4 : l1 = 27
  · have h := sx_pos c4 h
    refine sx_look (pc := 1) (off := 91) (tgt := 92) dX5_flowCodes_1 (by decide) (by rw [c4]; rfl) (by decide) ?_
    refine sx_aload_n (pc := 92) dX5_flowCodes_92 sx_m0 ?_
    refine sx_iconst (pc := 93) (v := 0) dX5_flowCodes_93 (by decide) ?_
    obtain ⟨V5, g6, h⟩ := sx_bnd h
    refine sv_cV (pc := 94) (y := qX5_passBranch) (o := none) (as := [.int (0 : Int32)]) (V1 := V5) hG dX5_flowCodes_94 l_X5_302 y0X5_passBranch yvX5_passBranch rfl (Nat.le_of_ble_eq_true rfl) lay_69 kr_5 (by decide) (Nat.le_of_ble_eq_true rfl) rfl rfl rfl (t_X5_passBranch hG ⟨rfl, rfl⟩ g6) ?_
    exact sv_vret (pc := 97) dX5_flowCodes_97 rfl h hP
  have h := sx_neg c4 h
  by_cases c7 : l1 = 28
  · have h := sx_pos c7 h
    refine sx_look (pc := 1) (off := 97) (tgt := 98) dX5_flowCodes_1 (by decide) (by rw [c7]; rfl) (by decide) ?_
    refine sx_aload_n (pc := 98) dX5_flowCodes_98 sx_m0 ?_
    refine sx_aload_n (pc := 99) dX5_flowCodes_99 sx_m0 ?_
    obtain ⟨⟨x10, V8⟩, g9, h⟩ := sx_bnd h
    refine sv_cV (pc := 100) (y := qX5_pop) (o := (some (.int x10))) (as := []) (V1 := V8) hG dX5_flowCodes_100 l_X5_242 y0X5_pop yvX5_pop rfl (Nat.le_of_ble_eq_true rfl) lay_69 kr_5 (by decide) (Nat.le_of_ble_eq_true rfl) rfl rfl rfl (t_X5_pop hG ⟨rfl, rfl⟩ g9) ?_
    obtain ⟨V11, g12, h⟩ := sx_bnd h
    refine sv_cV (pc := 103) (y := qX5_jump) (o := none) (as := [.int x10]) (V1 := V11) hG dX5_flowCodes_103 l_X5_306 y0X5_jump yvX5_jump rfl (Nat.le_of_ble_eq_true rfl) lay_69 kr_5 (by decide) (Nat.le_of_ble_eq_true rfl) rfl rfl rfl (t_X5_jump hG ⟨rfl, rfl⟩ g12) ?_
    exact sv_vret (pc := 106) dX5_flowCodes_106 rfl h hP
  have h := sx_neg c7 h
  by_cases c13 : l1 = 42
  · have h := sx_pos c13 h
    refine sx_look (pc := 1) (off := 106) (tgt := 107) dX5_flowCodes_1 (by decide) (by rw [c13]; rfl) (by decide) ?_
    refine sx_aload_n (pc := 107) dX5_flowCodes_107 sx_m0 ?_
    obtain ⟨V14, g15, h⟩ := sx_bnd h
    refine sv_cV (pc := 108) (y := qX5_callTimes) (o := none) (as := []) (V1 := V14) hG dX5_flowCodes_108 l_X5_309 y0X5_callTimes yvX5_callTimes rfl (Nat.le_of_ble_eq_true rfl) lay_69 kr_5 (by decide) (Nat.le_of_ble_eq_true rfl) rfl rfl rfl (t_X5_callTimes hG ⟨rfl, rfl⟩ g15) ?_
    exact sv_vret (pc := 111) dX5_flowCodes_111 rfl h hP
  have h := sx_neg c13 h
  by_cases c16 : l1 = 43
  · have h := sx_pos c16 h
    refine sx_look (pc := 1) (off := 111) (tgt := 112) dX5_flowCodes_1 (by decide) (by rw [c16]; rfl) (by decide) ?_
    refine sx_aload_n (pc := 112) dX5_flowCodes_112 sx_m0 ?_
    obtain ⟨V17, g18, h⟩ := sx_bnd h
    refine sv_cV (pc := 113) (y := qX5_callOnce) (o := none) (as := []) (V1 := V17) hG dX5_flowCodes_113 l_X5_312 y0X5_callOnce yvX5_callOnce rfl (Nat.le_of_ble_eq_true rfl) lay_69 kr_5 (by decide) (Nat.le_of_ble_eq_true rfl) rfl rfl rfl (t_X5_callOnce hG ⟨rfl, rfl⟩ g18) ?_
    exact sv_vret (pc := 116) dX5_flowCodes_116 rfl h hP
  have h := sx_neg c16 h
  by_cases c19 : l1 = 44
  · have h := sx_pos c19 h
    refine sx_look (pc := 1) (off := 116) (tgt := 117) dX5_flowCodes_1 (by decide) (by rw [c19]; rfl) (by decide) ?_
    refine sx_aload_n (pc := 117) dX5_flowCodes_117 sx_m0 ?_
    obtain ⟨⟨x22, V20⟩, g21, h⟩ := sx_bnd h
    refine sv_cV (pc := 118) (y := qX5_noteFunction) (o := (some (.int x22))) (as := []) (V1 := V20) hG dX5_flowCodes_118 l_X5_315 y0X5_noteFunction yvX5_noteFunction rfl (Nat.le_of_ble_eq_true rfl) lay_69 kr_5 (by decide) (Nat.le_of_ble_eq_true rfl) rfl rfl rfl (t_X5_noteFunction hG ⟨rfl, rfl⟩ g21) ?_
    refine sx_if_eq (pc := 121) (tgt := 128) dX5_flowCodes_121 (by decide) (fun c23 => ?_) (fun c23 => ?_)
    · have h := sx_pos c23 h
      exact sv_vret (pc := 128) dX5_flowCodes_128 rfl h hP
    · have h := sx_neg c23 h
      refine sx_aload_n (pc := 124) dX5_flowCodes_124 sx_m0 ?_
      obtain ⟨V24, g25, h⟩ := sx_bnd h
      refine sv_cV (pc := 125) (y := qX5_passDefinition) (o := none) (as := []) (V1 := V24) hG dX5_flowCodes_125 l_X5_318 y0X5_passDefinition yvX5_passDefinition rfl (Nat.le_of_ble_eq_true rfl) lay_69 kr_5 (by decide) (Nat.le_of_ble_eq_true rfl) rfl rfl rfl (t_X5_passDefinition hG ⟨rfl, rfl⟩ g25) ?_
      exact sv_vret (pc := 128) dX5_flowCodes_128 rfl h hP
  have h := sx_neg c19 h
  by_cases c26 : l1 = 45
  · have h := sx_pos c26 h
    refine sx_look (pc := 1) (off := 128) (tgt := 129) dX5_flowCodes_1 (by decide) (by rw [c26]; rfl) (by decide) ?_
    refine sx_aload_n (pc := 129) dX5_flowCodes_129 sx_m0 ?_
    obtain ⟨V27, g28, h⟩ := sx_bnd h
    refine sv_cV (pc := 130) (y := qX5_endRoutine) (o := none) (as := []) (V1 := V27) hG dX5_flowCodes_130 l_X5_321 y0X5_endRoutine yvX5_endRoutine rfl (Nat.le_of_ble_eq_true rfl) lay_69 kr_5 (by decide) (Nat.le_of_ble_eq_true rfl) rfl rfl rfl (t_X5_endRoutine hG ⟨rfl, rfl⟩ g28) ?_
    exact sv_vret (pc := 133) dX5_flowCodes_133 rfl h hP
  have h := sx_neg c26 h
  by_cases c29 : l1 = 88
  · have h := sx_pos c29 h
    refine sx_look (pc := 1) (off := 133) (tgt := 134) dX5_flowCodes_1 (by decide) (by rw [c29]; rfl) (by decide) ?_
    refine sx_aload_n (pc := 134) dX5_flowCodes_134 sx_m0 ?_
    obtain ⟨⟨x32, V30⟩, g31, h⟩ := sx_bnd h
    refine sv_cV (pc := 135) (y := qX5_pop) (o := (some (.int x32))) (as := []) (V1 := V30) hG dX5_flowCodes_135 l_X5_242 y0X5_pop yvX5_pop rfl (Nat.le_of_ble_eq_true rfl) lay_69 kr_5 (by decide) (Nat.le_of_ble_eq_true rfl) rfl rfl rfl (t_X5_pop hG ⟨rfl, rfl⟩ g31) ?_
    refine sx_if_ne (pc := 138) (tgt := 146) dX5_flowCodes_138 (by decide) (fun c33 => ?_) (fun c33 => ?_)
    · have h := sx_neg c33 h
      exact sv_vret (pc := 146) dX5_flowCodes_146 rfl h hP
    · have h := sx_pos c33 h
      refine sx_aload_n (pc := 141) dX5_flowCodes_141 sx_m0 ?_
      refine sx_iconst (pc := 142) (v := 1) dX5_flowCodes_142 (by decide) ?_
      obtain ⟨V34, g35, h⟩ := sx_bnd h
      refine sv_cV (pc := 143) (y := qX5_passBranch) (o := none) (as := [.int (1 : Int32)]) (V1 := V34) hG dX5_flowCodes_143 l_X5_302 y0X5_passBranch yvX5_passBranch rfl (Nat.le_of_ble_eq_true rfl) lay_69 kr_5 (by decide) (Nat.le_of_ble_eq_true rfl) rfl rfl rfl (t_X5_passBranch hG ⟨rfl, rfl⟩ g35) ?_
      exact sv_vret (pc := 146) dX5_flowCodes_146 rfl h hP
  have h := sx_neg c29 h
  by_cases c36 : l1 = 120
  · have h := sx_pos c36 h
    refine sx_look (pc := 1) (off := 146) (tgt := 147) dX5_flowCodes_1 (by decide) (by rw [c36]; rfl) (by decide) ?_
    refine sx_wk (sx_s1 sx_m0 (sx_s1 sx_m1 sx_s0)) ?_
    exact tB_X5_flowCodes_147 hG hP  h
  have h := sx_neg c36 h
  by_cases c37 : l1 = 121
  · have h := sx_pos c37 h
    refine sx_look (pc := 1) (off := 146) (tgt := 147) dX5_flowCodes_1 (by decide) (by rw [c37]; rfl) (by decide) ?_
    refine sx_wk (sx_s1 sx_m0 (sx_s1 sx_m1 sx_s0)) ?_
    exact tB_X5_flowCodes_147 hG hP  h
  have h := sx_neg c37 h
  by_cases c38 : l1 = 137
  · have h := sx_pos c38 h
    refine sx_look (pc := 1) (off := 162) (tgt := 163) dX5_flowCodes_1 (by decide) (by rw [c38]; rfl) (by decide) ?_
    refine sx_aload_n (pc := 163) dX5_flowCodes_163 sx_m0 ?_
    obtain ⟨⟨x41, V39⟩, g40, h⟩ := sx_bnd h
    refine sv_cV (pc := 164) (y := qX5_noteOwnCode) (o := (some (.int x41))) (as := []) (V1 := V39) hG dX5_flowCodes_164 l_X5_327 y0X5_noteOwnCode yvX5_noteOwnCode rfl (Nat.le_of_ble_eq_true rfl) lay_69 kr_5 (by decide) (Nat.le_of_ble_eq_true rfl) rfl rfl rfl (t_X5_noteOwnCode hG ⟨rfl, rfl⟩ g40) ?_
    refine sx_if_eq (pc := 167) (tgt := 174) dX5_flowCodes_167 (by decide) (fun c42 => ?_) (fun c42 => ?_)
    · have h := sx_pos c42 h
      exact sv_vret (pc := 174) dX5_flowCodes_174 rfl h hP
    · have h := sx_neg c42 h
      refine sx_aload_n (pc := 170) dX5_flowCodes_170 sx_m0 ?_
      obtain ⟨V43, g44, h⟩ := sx_bnd h
      refine sv_cV (pc := 171) (y := qX5_passDefinition) (o := none) (as := []) (V1 := V43) hG dX5_flowCodes_171 l_X5_318 y0X5_passDefinition yvX5_passDefinition rfl (Nat.le_of_ble_eq_true rfl) lay_69 kr_5 (by decide) (Nat.le_of_ble_eq_true rfl) rfl rfl rfl (t_X5_passDefinition hG ⟨rfl, rfl⟩ g44) ?_
      exact sv_vret (pc := 174) dX5_flowCodes_174 rfl h hP
  have h := sx_neg c38 h
  refine sx_look (pc := 1) (off := 174) (tgt := 175) dX5_flowCodes_1 (by decide) (by show Op.lookupswitch.offset [(27, 91), (28, 97), (42, 106), (43, 111), (44, 116), (45, 128), (88, 133), (120, 146), (121, 146), (137, 162)] 174 l1.toInt = 174; rw [lv_osw c4 rfl, lv_osw c7 rfl, lv_osw c13 rfl, lv_osw c16 rfl, lv_osw c19 rfl, lv_osw c26 rfl, lv_osw c29 rfl, lv_osw c36 rfl, lv_osw c37 rfl, lv_osw c38 rfl]; rfl) (by decide) ?_
  exact sv_vret (pc := 175) dX5_flowCodes_175 rfl h hP
theorem dX5_stackCodes_0 : decode cX5_stackCodes 0 = .ok (.iload_n 1, 1) := by decide +kernel
theorem dX5_stackCodes_1 : decode cX5_stackCodes 1 = .ok (.lookupswitch 142 #[(32, 91), (33, 96), (34, 102), (35, 108), (36, 114), (37, 124), (38, 124), (64, 130), (65, 130), (138, 136)], 91) := by decide +kernel
theorem dX5_stackCodes_92 : decode cX5_stackCodes 92 = .ok (.aload_n 0, 1) := by decide +kernel
theorem dX5_stackCodes_93 : decode cX5_stackCodes 93 = .ok (.invokevirtual 376, 3) := by decide +kernel
theorem dX5_stackCodes_96 : decode cX5_stackCodes 96 = .ok (.return_, 1) := by decide +kernel
theorem dX5_stackCodes_97 : decode cX5_stackCodes 97 = .ok (.aload_n 0, 1) := by decide +kernel
theorem dX5_stackCodes_98 : decode cX5_stackCodes 98 = .ok (.invokevirtual 242, 3) := by decide +kernel
theorem dX5_stackCodes_101 : decode cX5_stackCodes 101 = .ok (.pop, 1) := by decide +kernel
theorem dX5_stackCodes_102 : decode cX5_stackCodes 102 = .ok (.return_, 1) := by decide +kernel
theorem dX5_stackCodes_103 : decode cX5_stackCodes 103 = .ok (.aload_n 0, 1) := by decide +kernel
theorem dX5_stackCodes_104 : decode cX5_stackCodes 104 = .ok (.iconst 0, 1) := by decide +kernel
theorem dX5_stackCodes_105 : decode cX5_stackCodes 105 = .ok (.putfield 96, 3) := by decide +kernel
theorem dX5_stackCodes_108 : decode cX5_stackCodes 108 = .ok (.return_, 1) := by decide +kernel
theorem dX5_stackCodes_109 : decode cX5_stackCodes 109 = .ok (.aload_n 0, 1) := by decide +kernel
theorem dX5_stackCodes_110 : decode cX5_stackCodes 110 = .ok (.iconst 2, 1) := by decide +kernel
theorem dX5_stackCodes_111 : decode cX5_stackCodes 111 = .ok (.invokevirtual 379, 3) := by decide +kernel
theorem dX5_stackCodes_114 : decode cX5_stackCodes 114 = .ok (.return_, 1) := by decide +kernel
theorem dX5_stackCodes_115 : decode cX5_stackCodes 115 = .ok (.aload_n 0, 1) := by decide +kernel
theorem dX5_stackCodes_116 : decode cX5_stackCodes 116 = .ok (.aload_n 0, 1) := by decide +kernel
theorem dX5_stackCodes_117 : decode cX5_stackCodes 117 = .ok (.getfield 96, 3) := by decide +kernel
theorem dX5_stackCodes_120 : decode cX5_stackCodes 120 = .ok (.i2l, 1) := by decide +kernel
theorem dX5_stackCodes_121 : decode cX5_stackCodes 121 = .ok (.invokevirtual 232, 3) := by decide +kernel
theorem dX5_stackCodes_124 : decode cX5_stackCodes 124 = .ok (.return_, 1) := by decide +kernel
theorem dX5_stackCodes_125 : decode cX5_stackCodes 125 = .ok (.aload_n 0, 1) := by decide +kernel
theorem dX5_stackCodes_126 : decode cX5_stackCodes 126 = .ok (.iload_n 1, 1) := by decide +kernel
theorem dX5_stackCodes_127 : decode cX5_stackCodes 127 = .ok (.invokevirtual 382, 3) := by decide +kernel
theorem dX5_stackCodes_130 : decode cX5_stackCodes 130 = .ok (.return_, 1) := by decide +kernel
theorem dX5_stackCodes_131 : decode cX5_stackCodes 131 = .ok (.aload_n 0, 1) := by decide +kernel
theorem dX5_stackCodes_132 : decode cX5_stackCodes 132 = .ok (.iload_n 1, 1) := by decide +kernel
theorem dX5_stackCodes_133 : decode cX5_stackCodes 133 = .ok (.invokevirtual 385, 3) := by decide +kernel
theorem dX5_stackCodes_136 : decode cX5_stackCodes 136 = .ok (.return_, 1) := by decide +kernel
theorem dX5_stackCodes_137 : decode cX5_stackCodes 137 = .ok (.aload_n 0, 1) := by decide +kernel
theorem dX5_stackCodes_138 : decode cX5_stackCodes 138 = .ok (.iconst 3, 1) := by decide +kernel
theorem dX5_stackCodes_139 : decode cX5_stackCodes 139 = .ok (.invokevirtual 379, 3) := by decide +kernel
theorem dX5_stackCodes_142 : decode cX5_stackCodes 142 = .ok (.return_, 1) := by decide +kernel
theorem dX5_stackCodes_143 : decode cX5_stackCodes 143 = .ok (.aload_n 0, 1) := by decide +kernel
theorem dX5_stackCodes_144 : decode cX5_stackCodes 144 = .ok (.iload_n 1, 1) := by decide +kernel
theorem dX5_stackCodes_145 : decode cX5_stackCodes 145 = .ok (.bipush 8, 2) := by decide +kernel
theorem dX5_stackCodes_147 : decode cX5_stackCodes 147 = .ok (.irem, 1) := by decide +kernel
theorem dX5_stackCodes_148 : decode cX5_stackCodes 148 = .ok (.iconst 1, 1) := by decide +kernel
theorem dX5_stackCodes_149 : decode cX5_stackCodes 149 = .ok (.iadd, 1) := by decide +kernel
theorem dX5_stackCodes_150 : decode cX5_stackCodes 150 = .ok (.iload_n 1, 1) := by decide +kernel
theorem dX5_stackCodes_151 : decode cX5_stackCodes 151 = .ok (.sipush 184, 3) := by decide +kernel
theorem dX5_stackCodes_154 : decode cX5_stackCodes 154 = .ok (.if_icmp .ge 7, 3) := by decide +kernel
theorem dX5_stackCodes_157 : decode cX5_stackCodes 157 = .ok (.iconst 1, 1) := by decide +kernel
theorem dX5_stackCodes_158 : decode cX5_stackCodes 158 = .ok (.goto 4, 3) := by decide +kernel
theorem dX5_stackCodes_161 : decode cX5_stackCodes 161 = .ok (.iconst 2, 1) := by decide +kernel
theorem dX5_stackCodes_162 : decode cX5_stackCodes 162 = .ok (.invokevirtual 388, 3) := by decide +kernel
theorem dX5_stackCodes_165 : decode cX5_stackCodes 165 = .ok (.return_, 1) := by decide +kernel
def B_X5_stackCodes_125 (N : Nat)  (l1 : Int32) (V : sv_V) : Option sv_V := (F_X5_reachBelow N l1 V).bind (fun V1 => some V1)
set_option maxRecDepth 20000 in
theorem tB_X5_stackCodes_125 {g : sx_G} (hG : sx_Go g) {P : Option Value → sv_V → Prop} {Vr : sv_V} (hP : P none Vr) {N : Nat}   {l1 : Int32} {V : sv_V} (h : B_X5_stackCodes_125 N  l1 V = some Vr) : sv_N g qX5_stackCodes 3 125 [(0, .ref 69), (1, .int l1)] [] V P := by
  unfold B_X5_stackCodes_125 at h
  refine sx_aload_n (pc := 125) dX5_stackCodes_125 sx_m0 ?_
  refine sx_iload_n (pc := 126) dX5_stackCodes_126 sx_m1 ?_
  obtain ⟨V1, g2, h⟩ := sx_bnd h
  refine sv_cV (pc := 127) (y := qX5_reachBelow) (o := none) (as := [.int l1]) (V1 := V1) hG dX5_stackCodes_127 l_X5_382 y0X5_reachBelow yvX5_reachBelow rfl (Nat.le_of_ble_eq_true rfl) lay_69 kr_5 (by decide) (Nat.le_of_ble_eq_true rfl) rfl rfl rfl (t_X5_reachBelow hG ⟨rfl, rfl⟩ g2) ?_
  exact sv_vret (pc := 130) dX5_stackCodes_130 rfl h hP
def B_X5_stackCodes_131 (N : Nat)  (l1 : Int32) (V : sv_V) : Option sv_V := (F_X5_pushCounted N l1 V).bind (fun V3 => some V3)
set_option maxRecDepth 20000 in
theorem tB_X5_stackCodes_131 {g : sx_G} (hG : sx_Go g) {P : Option Value → sv_V → Prop} {Vr : sv_V} (hP : P none Vr) {N : Nat}   {l1 : Int32} {V : sv_V} (h : B_X5_stackCodes_131 N  l1 V = some Vr) : sv_N g qX5_stackCodes 3 131 [(0, .ref 69), (1, .int l1)] [] V P := by
  unfold B_X5_stackCodes_131 at h
  refine sx_aload_n (pc := 131) dX5_stackCodes_131 sx_m0 ?_
  refine sx_iload_n (pc := 132) dX5_stackCodes_132 sx_m1 ?_
  obtain ⟨V3, g4, h⟩ := sx_bnd h
  refine sv_cV (pc := 133) (y := qX5_pushCounted) (o := none) (as := [.int l1]) (V1 := V3) hG dX5_stackCodes_133 l_X5_385 y0X5_pushCounted yvX5_pushCounted rfl (Nat.le_of_ble_eq_true rfl) lay_69 kr_5 (by decide) (Nat.le_of_ble_eq_true rfl) rfl rfl rfl (t_X5_pushCounted hG ⟨rfl, rfl⟩ g4) ?_
  exact sv_vret (pc := 136) dX5_stackCodes_136 rfl h hP
def B_X5_stackCodes_162 (N : Nat)  (s1 : Int32) (s2 : Int32) (V : sv_V) : Option sv_V := (F_X5_pushBehind N s1 s2 V).bind (fun V5 => some V5)
set_option maxRecDepth 20000 in
theorem tB_X5_stackCodes_162 {g : sx_G} (hG : sx_Go g) {P : Option Value → sv_V → Prop} {Vr : sv_V} (hP : P none Vr) {N : Nat}   {s1 : Int32} {s2 : Int32} {V : sv_V} (h : B_X5_stackCodes_162 N  s1 s2 V = some Vr) : sv_N g qX5_stackCodes 3 162 [] [.int s2, .int s1, .ref 69] V P := by
  unfold B_X5_stackCodes_162 at h
  obtain ⟨V5, g6, h⟩ := sx_bnd h
  refine sv_cV (pc := 162) (y := qX5_pushBehind) (o := none) (as := [.int s1, .int s2]) (V1 := V5) hG dX5_stackCodes_162 l_X5_388 y0X5_pushBehind yvX5_pushBehind rfl (Nat.le_of_ble_eq_true rfl) lay_69 kr_5 (by decide) (Nat.le_of_ble_eq_true rfl) rfl rfl rfl (t_X5_pushBehind hG ⟨rfl, rfl⟩ g6) ?_
  exact sv_vret (pc := 165) dX5_stackCodes_165 rfl h hP
def F_X5_stackCodes (N : Nat) (l1 : Int32) (V : sv_V) : Option sv_V := if l1 = 32 then ((F_X5_doubleTop  V).bind (fun V8 => some V8)) else (if l1 = 33 then ((F_X5_pop  V).bind (fun (x13, V11) => some V11)) else (if l1 = 34 then (sx_let (sv_I V 69 5 (0 : Int32)) (fun V15 => some V15)) else (if l1 = 35 then ((F_X5_rollTop N (2 : Int32) V).bind (fun V17 => some V17)) else (if l1 = 36 then ((F_X5_push ((V.1 69 5).toInt64) V).bind (fun V20 => some V20)) else (if l1 = 37 then (B_X5_stackCodes_125 N  l1 V) else (if l1 = 38 then (B_X5_stackCodes_125 N  l1 V) else (if l1 = 64 then (B_X5_stackCodes_131 N  l1 V) else (if l1 = 65 then (B_X5_stackCodes_131 N  l1 V) else (if l1 = 138 then ((F_X5_rollTop N (3 : Int32) V).bind (fun V27 => some V27)) else (if (184 : Int32) ≤ l1 then (B_X5_stackCodes_162 N  ((l1 - l1 / (8 : Int32) * (8 : Int32)) + (1 : Int32)) (2 : Int32) V) else (B_X5_stackCodes_162 N  ((l1 - l1 / (8 : Int32) * (8 : Int32)) + (1 : Int32)) (1 : Int32) V)))))))))))
set_option maxRecDepth 20000 in
theorem t_X5_stackCodes {g : sx_G} (hG : sx_Go g) {P : Option Value → sv_V → Prop} {Vr : sv_V} (hP : P none Vr) {N : Nat} {l1 : Int32} {V : sv_V} (h : F_X5_stackCodes N l1 V = some Vr) : sv_N g qX5_stackCodes 3 0 [(0, .ref 69), (1, .int l1)] [] V P := by
  unfold F_X5_stackCodes at h
  refine sx_iload_n (pc := 0) dX5_stackCodes_0 sx_m1 ?_
  by_cases c7 : l1 = 32
  · have h := sx_pos c7 h
    refine sx_look (pc := 1) (off := 91) (tgt := 92) dX5_stackCodes_1 (by decide) (by rw [c7]; rfl) (by decide) ?_
    refine sx_aload_n (pc := 92) dX5_stackCodes_92 sx_m0 ?_
    obtain ⟨V8, g9, h⟩ := sx_bnd h
    refine sv_cV (pc := 93) (y := qX5_doubleTop) (o := none) (as := []) (V1 := V8) hG dX5_stackCodes_93 l_X5_376 y0X5_doubleTop yvX5_doubleTop rfl (Nat.le_of_ble_eq_true rfl) lay_69 kr_5 (by decide) (Nat.le_of_ble_eq_true rfl) rfl rfl rfl (t_X5_doubleTop hG ⟨rfl, rfl⟩ g9) ?_
    exact sv_vret (pc := 96) dX5_stackCodes_96 rfl h hP
  have h := sx_neg c7 h
  by_cases c10 : l1 = 33
  · have h := sx_pos c10 h
    refine sx_look (pc := 1) (off := 96) (tgt := 97) dX5_stackCodes_1 (by decide) (by rw [c10]; rfl) (by decide) ?_
    refine sx_aload_n (pc := 97) dX5_stackCodes_97 sx_m0 ?_
    obtain ⟨⟨x13, V11⟩, g12, h⟩ := sx_bnd h
    refine sv_cV (pc := 98) (y := qX5_pop) (o := (some (.int x13))) (as := []) (V1 := V11) hG dX5_stackCodes_98 l_X5_242 y0X5_pop yvX5_pop rfl (Nat.le_of_ble_eq_true rfl) lay_69 kr_5 (by decide) (Nat.le_of_ble_eq_true rfl) rfl rfl rfl (t_X5_pop hG ⟨rfl, rfl⟩ g12) ?_
    refine sx_pop (pc := 101) dX5_stackCodes_101 rfl ?_
    exact sv_vret (pc := 102) dX5_stackCodes_102 rfl h hP
  have h := sx_neg c10 h
  by_cases c14 : l1 = 34
  · have h := sx_pos c14 h
    refine sx_look (pc := 1) (off := 102) (tgt := 103) dX5_stackCodes_1 (by decide) (by rw [c14]; rfl) (by decide) ?_
    refine sx_aload_n (pc := 103) dX5_stackCodes_103 sx_m0 ?_
    refine sx_iconst (pc := 104) (v := 0) dX5_stackCodes_104 (by decide) ?_
    obtain ⟨V15, hV15⟩ : ∃ z : sv_V, z = sv_I V 69 5 (0 : Int32) := ⟨_, rfl⟩
    have h := sx_letE hV15 h
    refine sv_putI (pc := 105) hG dX5_stackCodes_105 f_5_96 lay_69 rfl hV15 ?_
    exact sv_vret (pc := 108) dX5_stackCodes_108 rfl h hP
  have h := sx_neg c14 h
  by_cases c16 : l1 = 35
  · have h := sx_pos c16 h
    refine sx_look (pc := 1) (off := 108) (tgt := 109) dX5_stackCodes_1 (by decide) (by rw [c16]; rfl) (by decide) ?_
    refine sx_aload_n (pc := 109) dX5_stackCodes_109 sx_m0 ?_
    refine sx_iconst (pc := 110) (v := 2) dX5_stackCodes_110 (by decide) ?_
    obtain ⟨V17, g18, h⟩ := sx_bnd h
    refine sv_cV (pc := 111) (y := qX5_rollTop) (o := none) (as := [.int (2 : Int32)]) (V1 := V17) hG dX5_stackCodes_111 l_X5_379 y0X5_rollTop yvX5_rollTop rfl (Nat.le_of_ble_eq_true rfl) lay_69 kr_5 (by decide) (Nat.le_of_ble_eq_true rfl) rfl rfl rfl (t_X5_rollTop hG ⟨rfl, rfl⟩ g18) ?_
    exact sv_vret (pc := 114) dX5_stackCodes_114 rfl h hP
  have h := sx_neg c16 h
  by_cases c19 : l1 = 36
  · have h := sx_pos c19 h
    refine sx_look (pc := 1) (off := 114) (tgt := 115) dX5_stackCodes_1 (by decide) (by rw [c19]; rfl) (by decide) ?_
    refine sx_aload_n (pc := 115) dX5_stackCodes_115 sx_m0 ?_
    refine sx_aload_n (pc := 116) dX5_stackCodes_116 sx_m0 ?_
    refine sv_getI (pc := 117) hG dX5_stackCodes_117 f_5_96 lay_69 rfl ?_
    refine sx_i2l (pc := 120) dX5_stackCodes_120 ?_
    obtain ⟨V20, g21, h⟩ := sx_bnd h
    refine sv_cV (pc := 121) (y := qX5_push) (o := none) (as := [.long ((V.1 69 5).toInt64)]) (V1 := V20) hG dX5_stackCodes_121 l_X5_232 y0X5_push yvX5_push rfl (Nat.le_of_ble_eq_true rfl) lay_69 kr_5 (by decide) (Nat.le_of_ble_eq_true rfl) rfl rfl rfl (t_X5_push hG ⟨rfl, rfl⟩ g21) ?_
    exact sv_vret (pc := 124) dX5_stackCodes_124 rfl h hP
  have h := sx_neg c19 h
  by_cases c22 : l1 = 37
  · have h := sx_pos c22 h
    refine sx_look (pc := 1) (off := 124) (tgt := 125) dX5_stackCodes_1 (by decide) (by rw [c22]; rfl) (by decide) ?_
    refine sx_wk (sx_s1 sx_m0 (sx_s1 sx_m1 sx_s0)) ?_
    exact tB_X5_stackCodes_125 hG hP  h
  have h := sx_neg c22 h
  by_cases c23 : l1 = 38
  · have h := sx_pos c23 h
    refine sx_look (pc := 1) (off := 124) (tgt := 125) dX5_stackCodes_1 (by decide) (by rw [c23]; rfl) (by decide) ?_
    refine sx_wk (sx_s1 sx_m0 (sx_s1 sx_m1 sx_s0)) ?_
    exact tB_X5_stackCodes_125 hG hP  h
  have h := sx_neg c23 h
  by_cases c24 : l1 = 64
  · have h := sx_pos c24 h
    refine sx_look (pc := 1) (off := 130) (tgt := 131) dX5_stackCodes_1 (by decide) (by rw [c24]; rfl) (by decide) ?_
    refine sx_wk (sx_s1 sx_m0 (sx_s1 sx_m1 sx_s0)) ?_
    exact tB_X5_stackCodes_131 hG hP  h
  have h := sx_neg c24 h
  by_cases c25 : l1 = 65
  · have h := sx_pos c25 h
    refine sx_look (pc := 1) (off := 130) (tgt := 131) dX5_stackCodes_1 (by decide) (by rw [c25]; rfl) (by decide) ?_
    refine sx_wk (sx_s1 sx_m0 (sx_s1 sx_m1 sx_s0)) ?_
    exact tB_X5_stackCodes_131 hG hP  h
  have h := sx_neg c25 h
  by_cases c26 : l1 = 138
  · have h := sx_pos c26 h
    refine sx_look (pc := 1) (off := 136) (tgt := 137) dX5_stackCodes_1 (by decide) (by rw [c26]; rfl) (by decide) ?_
    refine sx_aload_n (pc := 137) dX5_stackCodes_137 sx_m0 ?_
    refine sx_iconst (pc := 138) (v := 3) dX5_stackCodes_138 (by decide) ?_
    obtain ⟨V27, g28, h⟩ := sx_bnd h
    refine sv_cV (pc := 139) (y := qX5_rollTop) (o := none) (as := [.int (3 : Int32)]) (V1 := V27) hG dX5_stackCodes_139 l_X5_379 y0X5_rollTop yvX5_rollTop rfl (Nat.le_of_ble_eq_true rfl) lay_69 kr_5 (by decide) (Nat.le_of_ble_eq_true rfl) rfl rfl rfl (t_X5_rollTop hG ⟨rfl, rfl⟩ g28) ?_
    exact sv_vret (pc := 142) dX5_stackCodes_142 rfl h hP
  have h := sx_neg c26 h
  refine sx_look (pc := 1) (off := 142) (tgt := 143) dX5_stackCodes_1 (by decide) (by show Op.lookupswitch.offset [(32, 91), (33, 96), (34, 102), (35, 108), (36, 114), (37, 124), (38, 124), (64, 130), (65, 130), (138, 136)] 142 l1.toInt = 142; rw [lv_osw c7 rfl, lv_osw c10 rfl, lv_osw c14 rfl, lv_osw c16 rfl, lv_osw c19 rfl, lv_osw c22 rfl, lv_osw c23 rfl, lv_osw c24 rfl, lv_osw c25 rfl, lv_osw c26 rfl]; rfl) (by decide) ?_
  refine sx_aload_n (pc := 143) dX5_stackCodes_143 sx_m0 ?_
  refine sx_iload_n (pc := 144) dX5_stackCodes_144 sx_m1 ?_
  refine sx_bipush (pc := 145) (v := 8) dX5_stackCodes_145 (by decide) ?_
  refine sx_irem (pc := 147) dX5_stackCodes_147 (by decide) ?_
  refine sx_iconst (pc := 148) (v := 1) dX5_stackCodes_148 (by decide) ?_
  refine sx_iadd (pc := 149) dX5_stackCodes_149 ?_
  refine sx_iload_n (pc := 150) dX5_stackCodes_150 sx_m1 ?_
  refine sx_sipush (pc := 151) (v := 184) dX5_stackCodes_151 (by decide) ?_
  refine sx_icmp_ge (pc := 154) (tgt := 161) dX5_stackCodes_154 (by decide) (fun c29 => ?_) (fun c29 => ?_)
  · have h := sx_pos c29 h
    refine sx_iconst (pc := 161) (v := 2) dX5_stackCodes_161 (by decide) ?_
    refine sx_wk sx_s0 ?_
    exact tB_X5_stackCodes_162 hG hP  h
  · have h := sx_neg c29 h
    refine sx_iconst (pc := 157) (v := 1) dX5_stackCodes_157 (by decide) ?_
    refine sx_goto (pc := 158) (tgt := 162) dX5_stackCodes_158 (by decide) ?_
    refine sx_wk sx_s0 ?_
    exact tB_X5_stackCodes_162 hG hP  h
theorem dX5_memoryCodes_0 : decode cX5_memoryCodes 0 = .ok (.iload_n 1, 1) := by decide +kernel
theorem dX5_memoryCodes_1 : decode cX5_memoryCodes 1 = .ok (.lookupswitch 92 #[(66, 59), (67, 65), (68, 59), (69, 65), (112, 59), (136, 71)], 59) := by decide +kernel
theorem dX5_memoryCodes_60 : decode cX5_memoryCodes 60 = .ok (.aload_n 0, 1) := by decide +kernel
theorem dX5_memoryCodes_61 : decode cX5_memoryCodes 61 = .ok (.iload_n 1, 1) := by decide +kernel
theorem dX5_memoryCodes_62 : decode cX5_memoryCodes 62 = .ok (.invokevirtual 394, 3) := by decide +kernel
theorem dX5_memoryCodes_65 : decode cX5_memoryCodes 65 = .ok (.return_, 1) := by decide +kernel
theorem dX5_memoryCodes_66 : decode cX5_memoryCodes 66 = .ok (.aload_n 0, 1) := by decide +kernel
theorem dX5_memoryCodes_67 : decode cX5_memoryCodes 67 = .ok (.iload_n 1, 1) := by decide +kernel
theorem dX5_memoryCodes_68 : decode cX5_memoryCodes 68 = .ok (.invokevirtual 397, 3) := by decide +kernel
theorem dX5_memoryCodes_71 : decode cX5_memoryCodes 71 = .ok (.return_, 1) := by decide +kernel
theorem dX5_memoryCodes_72 : decode cX5_memoryCodes 72 = .ok (.aload_n 0, 1) := by decide +kernel
theorem dX5_memoryCodes_73 : decode cX5_memoryCodes 73 = .ok (.aload_n 0, 1) := by decide +kernel
theorem dX5_memoryCodes_74 : decode cX5_memoryCodes 74 = .ok (.invokevirtual 242, 3) := by decide +kernel
theorem dX5_memoryCodes_77 : decode cX5_memoryCodes 77 = .ok (.iconst 1, 1) := by decide +kernel
theorem dX5_memoryCodes_78 : decode cX5_memoryCodes 78 = .ok (.iand, 1) := by decide +kernel
theorem dX5_memoryCodes_79 : decode cX5_memoryCodes 79 = .ok (.ifCond .eq 9, 3) := by decide +kernel
theorem dX5_memoryCodes_82 : decode cX5_memoryCodes 82 = .ok (.ldc2_w 400, 3) := by decide +kernel
theorem dX5_memoryCodes_85 : decode cX5_memoryCodes 85 = .ok (.goto 4, 3) := by decide +kernel
theorem dX5_memoryCodes_88 : decode cX5_memoryCodes 88 = .ok (.lconst 0, 1) := by decide +kernel
theorem dX5_memoryCodes_89 : decode cX5_memoryCodes 89 = .ok (.invokevirtual 232, 3) := by decide +kernel
theorem dX5_memoryCodes_92 : decode cX5_memoryCodes 92 = .ok (.return_, 1) := by decide +kernel
theorem dX5_memoryCodes_93 : decode cX5_memoryCodes 93 = .ok (.aload_n 0, 1) := by decide +kernel
theorem dX5_memoryCodes_94 : decode cX5_memoryCodes 94 = .ok (.aload_n 0, 1) := by decide +kernel
theorem dX5_memoryCodes_95 : decode cX5_memoryCodes 95 = .ok (.getfield 59, 3) := by decide +kernel
theorem dX5_memoryCodes_98 : decode cX5_memoryCodes 98 = .ok (.i2l, 1) := by decide +kernel
theorem dX5_memoryCodes_99 : decode cX5_memoryCodes 99 = .ok (.invokevirtual 232, 3) := by decide +kernel
theorem dX5_memoryCodes_102 : decode cX5_memoryCodes 102 = .ok (.return_, 1) := by decide +kernel
def B_X5_memoryCodes_60  (l1 : Int32) (V : sv_V) : Option sv_V := (F_X5_write l1 V).bind (fun V1 => some V1)
set_option maxRecDepth 20000 in
theorem tB_X5_memoryCodes_60 {g : sx_G} (hG : sx_Go g) {P : Option Value → sv_V → Prop} {Vr : sv_V} (hP : P none Vr)   {l1 : Int32} {V : sv_V} (h : B_X5_memoryCodes_60  l1 V = some Vr) : sv_N g qX5_memoryCodes 3 60 [(0, .ref 69), (1, .int l1)] [] V P := by
  unfold B_X5_memoryCodes_60 at h
  refine sx_aload_n (pc := 60) dX5_memoryCodes_60 sx_m0 ?_
  refine sx_iload_n (pc := 61) dX5_memoryCodes_61 sx_m1 ?_
  obtain ⟨V1, g2, h⟩ := sx_bnd h
  refine sv_cV (pc := 62) (y := qX5_write) (o := none) (as := [.int l1]) (V1 := V1) hG dX5_memoryCodes_62 l_X5_394 y0X5_write yvX5_write rfl (Nat.le_of_ble_eq_true rfl) lay_69 kr_5 (by decide) (Nat.le_of_ble_eq_true rfl) rfl rfl rfl (t_X5_write hG ⟨rfl, rfl⟩ g2) ?_
  exact sv_vret (pc := 65) dX5_memoryCodes_65 rfl h hP
def B_X5_memoryCodes_66  (l1 : Int32) (V : sv_V) : Option sv_V := (F_X5_read l1 V).bind (fun V3 => some V3)
set_option maxRecDepth 20000 in
theorem tB_X5_memoryCodes_66 {g : sx_G} (hG : sx_Go g) {P : Option Value → sv_V → Prop} {Vr : sv_V} (hP : P none Vr)   {l1 : Int32} {V : sv_V} (h : B_X5_memoryCodes_66  l1 V = some Vr) : sv_N g qX5_memoryCodes 3 66 [(0, .ref 69), (1, .int l1)] [] V P := by
  unfold B_X5_memoryCodes_66 at h
  refine sx_aload_n (pc := 66) dX5_memoryCodes_66 sx_m0 ?_
  refine sx_iload_n (pc := 67) dX5_memoryCodes_67 sx_m1 ?_
  obtain ⟨V3, g4, h⟩ := sx_bnd h
  refine sv_cV (pc := 68) (y := qX5_read) (o := none) (as := [.int l1]) (V1 := V3) hG dX5_memoryCodes_68 l_X5_397 y0X5_read yvX5_read rfl (Nat.le_of_ble_eq_true rfl) lay_69 kr_5 (by decide) (Nat.le_of_ble_eq_true rfl) rfl rfl rfl (t_X5_read hG ⟨rfl, rfl⟩ g4) ?_
  exact sv_vret (pc := 71) dX5_memoryCodes_71 rfl h hP
def B_X5_memoryCodes_89  (s1 : Int64) (V : sv_V) : Option sv_V := (F_X5_push s1 V).bind (fun V5 => some V5)
set_option maxRecDepth 20000 in
theorem tB_X5_memoryCodes_89 {g : sx_G} (hG : sx_Go g) {P : Option Value → sv_V → Prop} {Vr : sv_V} (hP : P none Vr)   {s1 : Int64} {V : sv_V} (h : B_X5_memoryCodes_89  s1 V = some Vr) : sv_N g qX5_memoryCodes 3 89 [] [.long s1, .ref 69] V P := by
  unfold B_X5_memoryCodes_89 at h
  obtain ⟨V5, g6, h⟩ := sx_bnd h
  refine sv_cV (pc := 89) (y := qX5_push) (o := none) (as := [.long s1]) (V1 := V5) hG dX5_memoryCodes_89 l_X5_232 y0X5_push yvX5_push rfl (Nat.le_of_ble_eq_true rfl) lay_69 kr_5 (by decide) (Nat.le_of_ble_eq_true rfl) rfl rfl rfl (t_X5_push hG ⟨rfl, rfl⟩ g6) ?_
  exact sv_vret (pc := 92) dX5_memoryCodes_92 rfl h hP
def F_X5_memoryCodes (l1 : Int32) (V : sv_V) : Option sv_V := if l1 = 66 then (B_X5_memoryCodes_60  l1 V) else (if l1 = 67 then (B_X5_memoryCodes_66  l1 V) else (if l1 = 68 then (B_X5_memoryCodes_60  l1 V) else (if l1 = 69 then (B_X5_memoryCodes_66  l1 V) else (if l1 = 112 then (B_X5_memoryCodes_60  l1 V) else (if l1 = 136 then ((F_X5_pop  V).bind (fun (x15, V13) => if (x15 &&& (1 : Int32)) = 0 then (B_X5_memoryCodes_89  (0 : Int64) V13) else (B_X5_memoryCodes_89  (35 : Int64) V13))) else ((F_X5_push ((V.1 69 12).toInt64) V).bind (fun V17 => some V17)))))))
set_option maxRecDepth 20000 in
theorem t_X5_memoryCodes {g : sx_G} (hG : sx_Go g) {P : Option Value → sv_V → Prop} {Vr : sv_V} (hP : P none Vr) {l1 : Int32} {V : sv_V} (h : F_X5_memoryCodes l1 V = some Vr) : sv_N g qX5_memoryCodes 3 0 [(0, .ref 69), (1, .int l1)] [] V P := by
  unfold F_X5_memoryCodes at h
  refine sx_iload_n (pc := 0) dX5_memoryCodes_0 sx_m1 ?_
  by_cases c7 : l1 = 66
  · have h := sx_pos c7 h
    refine sx_look (pc := 1) (off := 59) (tgt := 60) dX5_memoryCodes_1 (by decide) (by rw [c7]; rfl) (by decide) ?_
    refine sx_wk (sx_s1 sx_m0 (sx_s1 sx_m1 sx_s0)) ?_
    exact tB_X5_memoryCodes_60 hG hP  h
  have h := sx_neg c7 h
  by_cases c8 : l1 = 67
  · have h := sx_pos c8 h
    refine sx_look (pc := 1) (off := 65) (tgt := 66) dX5_memoryCodes_1 (by decide) (by rw [c8]; rfl) (by decide) ?_
    refine sx_wk (sx_s1 sx_m0 (sx_s1 sx_m1 sx_s0)) ?_
    exact tB_X5_memoryCodes_66 hG hP  h
  have h := sx_neg c8 h
  by_cases c9 : l1 = 68
  · have h := sx_pos c9 h
    refine sx_look (pc := 1) (off := 59) (tgt := 60) dX5_memoryCodes_1 (by decide) (by rw [c9]; rfl) (by decide) ?_
    refine sx_wk (sx_s1 sx_m0 (sx_s1 sx_m1 sx_s0)) ?_
    exact tB_X5_memoryCodes_60 hG hP  h
  have h := sx_neg c9 h
  by_cases c10 : l1 = 69
  · have h := sx_pos c10 h
    refine sx_look (pc := 1) (off := 65) (tgt := 66) dX5_memoryCodes_1 (by decide) (by rw [c10]; rfl) (by decide) ?_
    refine sx_wk (sx_s1 sx_m0 (sx_s1 sx_m1 sx_s0)) ?_
    exact tB_X5_memoryCodes_66 hG hP  h
  have h := sx_neg c10 h
  by_cases c11 : l1 = 112
  · have h := sx_pos c11 h
    refine sx_look (pc := 1) (off := 59) (tgt := 60) dX5_memoryCodes_1 (by decide) (by rw [c11]; rfl) (by decide) ?_
    refine sx_wk (sx_s1 sx_m0 (sx_s1 sx_m1 sx_s0)) ?_
    exact tB_X5_memoryCodes_60 hG hP  h
  have h := sx_neg c11 h
  by_cases c12 : l1 = 136
  · have h := sx_pos c12 h
    refine sx_look (pc := 1) (off := 71) (tgt := 72) dX5_memoryCodes_1 (by decide) (by rw [c12]; rfl) (by decide) ?_
    refine sx_aload_n (pc := 72) dX5_memoryCodes_72 sx_m0 ?_
    refine sx_aload_n (pc := 73) dX5_memoryCodes_73 sx_m0 ?_
    obtain ⟨⟨x15, V13⟩, g14, h⟩ := sx_bnd h
    refine sv_cV (pc := 74) (y := qX5_pop) (o := (some (.int x15))) (as := []) (V1 := V13) hG dX5_memoryCodes_74 l_X5_242 y0X5_pop yvX5_pop rfl (Nat.le_of_ble_eq_true rfl) lay_69 kr_5 (by decide) (Nat.le_of_ble_eq_true rfl) rfl rfl rfl (t_X5_pop hG ⟨rfl, rfl⟩ g14) ?_
    refine sx_iconst (pc := 77) (v := 1) dX5_memoryCodes_77 (by decide) ?_
    refine sx_iand (pc := 78) dX5_memoryCodes_78 ?_
    refine sx_if_eq (pc := 79) (tgt := 88) dX5_memoryCodes_79 (by decide) (fun c16 => ?_) (fun c16 => ?_)
    · have h := sx_pos c16 h
      refine sx_lconst (pc := 88) (v := 0) dX5_memoryCodes_88 rfl ?_
      refine sx_wk sx_s0 ?_
      exact tB_X5_memoryCodes_89 hG hP  h
    · have h := sx_neg c16 h
      refine sx_ldc2 (pc := 82) dX5_memoryCodes_82 k_X5_400 ?_
      refine sx_goto (pc := 85) (tgt := 89) dX5_memoryCodes_85 (by decide) ?_
      refine sx_wk sx_s0 ?_
      exact tB_X5_memoryCodes_89 hG hP  h
  have h := sx_neg c12 h
  refine sx_look (pc := 1) (off := 92) (tgt := 93) dX5_memoryCodes_1 (by decide) (by show Op.lookupswitch.offset [(66, 59), (67, 65), (68, 59), (69, 65), (112, 59), (136, 71)] 92 l1.toInt = 92; rw [lv_osw c7 rfl, lv_osw c8 rfl, lv_osw c9 rfl, lv_osw c10 rfl, lv_osw c11 rfl, lv_osw c12 rfl]; rfl) (by decide) ?_
  refine sx_aload_n (pc := 93) dX5_memoryCodes_93 sx_m0 ?_
  refine sx_aload_n (pc := 94) dX5_memoryCodes_94 sx_m0 ?_
  refine sv_getI (pc := 95) hG dX5_memoryCodes_95 f_5_59 lay_69 rfl ?_
  refine sx_i2l (pc := 98) dX5_memoryCodes_98 ?_
  obtain ⟨V17, g18, h⟩ := sx_bnd h
  refine sv_cV (pc := 99) (y := qX5_push) (o := none) (as := [.long ((V.1 69 12).toInt64)]) (V1 := V17) hG dX5_memoryCodes_99 l_X5_232 y0X5_push yvX5_push rfl (Nat.le_of_ble_eq_true rfl) lay_69 kr_5 (by decide) (Nat.le_of_ble_eq_true rfl) rfl rfl rfl (t_X5_push hG ⟨rfl, rfl⟩ g18) ?_
  exact sv_vret (pc := 102) dX5_memoryCodes_102 rfl h hP
theorem dX5_fillUntouched_0 : decode cX5_fillUntouched 0 = .ok (.iconst 0, 1) := by decide +kernel
theorem dX5_fillUntouched_1 : decode cX5_fillUntouched 1 = .ok (.istore 4, 2) := by decide +kernel
theorem dX5_fillUntouched_3 : decode cX5_fillUntouched 3 = .ok (.iload 4, 2) := by decide +kernel
theorem dX5_fillUntouched_5 : decode cX5_fillUntouched 5 = .ok (.aload_n 0, 1) := by decide +kernel
theorem dX5_fillUntouched_6 : decode cX5_fillUntouched 6 = .ok (.getfield 38, 3) := by decide +kernel
theorem dX5_fillUntouched_9 : decode cX5_fillUntouched 9 = .ok (.getfield 480, 3) := by decide +kernel
theorem dX5_fillUntouched_12 : decode cX5_fillUntouched 12 = .ok (.if_icmp .ge 121, 3) := by decide +kernel
theorem dX5_fillUntouched_15 : decode cX5_fillUntouched 15 = .ok (.aload_n 0, 1) := by decide +kernel
theorem dX5_fillUntouched_16 : decode cX5_fillUntouched 16 = .ok (.getfield 38, 3) := by decide +kernel
theorem dX5_fillUntouched_19 : decode cX5_fillUntouched 19 = .ok (.iload 4, 2) := by decide +kernel
theorem dX5_fillUntouched_21 : decode cX5_fillUntouched 21 = .ok (.invokevirtual 483, 3) := by decide +kernel
theorem dX5_fillUntouched_24 : decode cX5_fillUntouched 24 = .ok (.istore 5, 2) := by decide +kernel
theorem dX5_fillUntouched_26 : decode cX5_fillUntouched 26 = .ok (.aload_n 0, 1) := by decide +kernel
theorem dX5_fillUntouched_27 : decode cX5_fillUntouched 27 = .ok (.getfield 38, 3) := by decide +kernel
theorem dX5_fillUntouched_30 : decode cX5_fillUntouched 30 = .ok (.getfield 486, 3) := by decide +kernel
theorem dX5_fillUntouched_33 : decode cX5_fillUntouched 33 = .ok (.iload 4, 2) := by decide +kernel
theorem dX5_fillUntouched_35 : decode cX5_fillUntouched 35 = .ok (.iaload, 1) := by decide +kernel
theorem dX5_fillUntouched_36 : decode cX5_fillUntouched 36 = .ok (.iload 5, 2) := by decide +kernel
theorem dX5_fillUntouched_38 : decode cX5_fillUntouched 38 = .ok (.isub, 1) := by decide +kernel
theorem dX5_fillUntouched_39 : decode cX5_fillUntouched 39 = .ok (.iconst 1, 1) := by decide +kernel
theorem dX5_fillUntouched_40 : decode cX5_fillUntouched 40 = .ok (.iadd, 1) := by decide +kernel
theorem dX5_fillUntouched_41 : decode cX5_fillUntouched 41 = .ok (.istore 6, 2) := by decide +kernel
theorem dX5_fillUntouched_43 : decode cX5_fillUntouched 43 = .ok (.aload_n 0, 1) := by decide +kernel
theorem dX5_fillUntouched_44 : decode cX5_fillUntouched 44 = .ok (.iload 5, 2) := by decide +kernel
theorem dX5_fillUntouched_46 : decode cX5_fillUntouched 46 = .ok (.iload 6, 2) := by decide +kernel
theorem dX5_fillUntouched_48 : decode cX5_fillUntouched 48 = .ok (.iload_n 3, 1) := by decide +kernel
theorem dX5_fillUntouched_49 : decode cX5_fillUntouched 49 = .ok (.invokevirtual 487, 3) := by decide +kernel
theorem dX5_fillUntouched_52 : decode cX5_fillUntouched 52 = .ok (.istore 7, 2) := by decide +kernel
theorem dX5_fillUntouched_54 : decode cX5_fillUntouched 54 = .ok (.iload 7, 2) := by decide +kernel
theorem dX5_fillUntouched_56 : decode cX5_fillUntouched 56 = .ok (.istore 8, 2) := by decide +kernel
theorem dX5_fillUntouched_58 : decode cX5_fillUntouched 58 = .ok (.iconst 1, 1) := by decide +kernel
theorem dX5_fillUntouched_59 : decode cX5_fillUntouched 59 = .ok (.istore 9, 2) := by decide +kernel
theorem dX5_fillUntouched_61 : decode cX5_fillUntouched 61 = .ok (.iload 7, 2) := by decide +kernel
theorem dX5_fillUntouched_63 : decode cX5_fillUntouched 63 = .ok (.iconst (-1), 1) := by decide +kernel
theorem dX5_fillUntouched_64 : decode cX5_fillUntouched 64 = .ok (.if_icmp .eq 63, 3) := by decide +kernel
theorem dX5_fillUntouched_67 : decode cX5_fillUntouched 67 = .ok (.iload 9, 2) := by decide +kernel
theorem dX5_fillUntouched_69 : decode cX5_fillUntouched 69 = .ok (.iload 6, 2) := by decide +kernel
theorem dX5_fillUntouched_71 : decode cX5_fillUntouched 71 = .ok (.if_icmp .gt 56, 3) := by decide +kernel
theorem dX5_fillUntouched_74 : decode cX5_fillUntouched 74 = .ok (.iload 5, 2) := by decide +kernel
theorem dX5_fillUntouched_76 : decode cX5_fillUntouched 76 = .ok (.iload 7, 2) := by decide +kernel
theorem dX5_fillUntouched_78 : decode cX5_fillUntouched 78 = .ok (.iload 5, 2) := by decide +kernel
theorem dX5_fillUntouched_80 : decode cX5_fillUntouched 80 = .ok (.isub, 1) := by decide +kernel
theorem dX5_fillUntouched_81 : decode cX5_fillUntouched 81 = .ok (.iload 9, 2) := by decide +kernel
theorem dX5_fillUntouched_83 : decode cX5_fillUntouched 83 = .ok (.iadd, 1) := by decide +kernel
theorem dX5_fillUntouched_84 : decode cX5_fillUntouched 84 = .ok (.iload 6, 2) := by decide +kernel
theorem dX5_fillUntouched_86 : decode cX5_fillUntouched 86 = .ok (.irem, 1) := by decide +kernel
theorem dX5_fillUntouched_87 : decode cX5_fillUntouched 87 = .ok (.iadd, 1) := by decide +kernel
theorem dX5_fillUntouched_88 : decode cX5_fillUntouched 88 = .ok (.istore 10, 2) := by decide +kernel
theorem dX5_fillUntouched_90 : decode cX5_fillUntouched 90 = .ok (.aload_n 0, 1) := by decide +kernel
theorem dX5_fillUntouched_91 : decode cX5_fillUntouched 91 = .ok (.getfield 38, 3) := by decide +kernel
theorem dX5_fillUntouched_94 : decode cX5_fillUntouched 94 = .ok (.getfield 220, 3) := by decide +kernel
theorem dX5_fillUntouched_97 : decode cX5_fillUntouched 97 = .ok (.iload 10, 2) := by decide +kernel
theorem dX5_fillUntouched_99 : decode cX5_fillUntouched 99 = .ok (.iaload, 1) := by decide +kernel
theorem dX5_fillUntouched_100 : decode cX5_fillUntouched 100 = .ok (.iload_n 3, 1) := by decide +kernel
theorem dX5_fillUntouched_101 : decode cX5_fillUntouched 101 = .ok (.iand, 1) := by decide +kernel
theorem dX5_fillUntouched_102 : decode cX5_fillUntouched 102 = .ok (.ifCond .eq 19, 3) := by decide +kernel
theorem dX5_fillUntouched_105 : decode cX5_fillUntouched 105 = .ok (.aload_n 0, 1) := by decide +kernel
theorem dX5_fillUntouched_106 : decode cX5_fillUntouched 106 = .ok (.aload_n 1, 1) := by decide +kernel
theorem dX5_fillUntouched_107 : decode cX5_fillUntouched 107 = .ok (.aload_n 2, 1) := by decide +kernel
theorem dX5_fillUntouched_108 : decode cX5_fillUntouched 108 = .ok (.iload 8, 2) := by decide +kernel
theorem dX5_fillUntouched_110 : decode cX5_fillUntouched 110 = .ok (.iload 10, 2) := by decide +kernel
theorem dX5_fillUntouched_112 : decode cX5_fillUntouched 112 = .ok (.iload 4, 2) := by decide +kernel
theorem dX5_fillUntouched_114 : decode cX5_fillUntouched 114 = .ok (.invokevirtual 491, 3) := by decide +kernel
theorem dX5_fillUntouched_117 : decode cX5_fillUntouched 117 = .ok (.iload 10, 2) := by decide +kernel
theorem dX5_fillUntouched_119 : decode cX5_fillUntouched 119 = .ok (.istore 8, 2) := by decide +kernel
theorem dX5_fillUntouched_121 : decode cX5_fillUntouched 121 = .ok (.iinc 9 1, 3) := by decide +kernel
theorem dX5_fillUntouched_124 : decode cX5_fillUntouched 124 = .ok (.goto (-63), 3) := by decide +kernel
theorem dX5_fillUntouched_127 : decode cX5_fillUntouched 127 = .ok (.iinc 4 1, 3) := by decide +kernel
theorem dX5_fillUntouched_130 : decode cX5_fillUntouched 130 = .ok (.goto (-127), 3) := by decide +kernel
theorem dX5_fillUntouched_133 : decode cX5_fillUntouched 133 = .ok (.return_, 1) := by decide +kernel
def B_X5_fillUntouched_121 (N : Nat) (k3 : Nat → Nat → Int32 → Int32 → sv_V → Option sv_V) (k61 : Nat → Nat → Int32 → Int32 → Int32 → Int32 → Int32 → Int32 → Int32 → sv_V → Option sv_V) (l1 : Nat) (l2 : Nat) (l3 : Int32) (l4 : Int32) (l5 : Int32) (l6 : Int32) (l7 : Int32) (l8 : Int32) (l9 : Int32) (V : sv_V) : Option sv_V := sx_let (l9 + 1) (fun x1 => k61 l1 l2 l3 l4 l5 l6 l7 l8 x1 V)
set_option maxRecDepth 20000 in
theorem tB_X5_fillUntouched_121 {g : sx_G} (hG : sx_Go g) {P : Option Value → sv_V → Prop} {Vr : sv_V} (hP : P none Vr) {N : Nat} {k3 : Nat → Nat → Int32 → Int32 → sv_V → Option sv_V} {k61 : Nat → Nat → Int32 → Int32 → Int32 → Int32 → Int32 → Int32 → Int32 → sv_V → Option sv_V} (hk3 : ∀ (l1 : Nat) (l2 : Nat) (l3 : Int32) (l4 : Int32) (V : sv_V), k3 l1 l2 l3 l4 V = some Vr → sv_N g qX5_fillUntouched 2 3 [(0, .ref 69), (1, .ref l1), (2, .ref l2), (3, .int l3), (4, .int l4)] [] V P) (hk61 : ∀ (l1 : Nat) (l2 : Nat) (l3 : Int32) (l4 : Int32) (l5 : Int32) (l6 : Int32) (l7 : Int32) (l8 : Int32) (l9 : Int32) (V : sv_V), k61 l1 l2 l3 l4 l5 l6 l7 l8 l9 V = some Vr → sv_N g qX5_fillUntouched 2 61 [(0, .ref 69), (1, .ref l1), (2, .ref l2), (3, .int l3), (4, .int l4), (5, .int l5), (6, .int l6), (7, .int l7), (8, .int l8), (9, .int l9)] [] V P) {l1 : Nat} {l2 : Nat} {l3 : Int32} {l4 : Int32} {l5 : Int32} {l6 : Int32} {l7 : Int32} {l8 : Int32} {l9 : Int32} {V : sv_V} (h : B_X5_fillUntouched_121 N k3 k61 l1 l2 l3 l4 l5 l6 l7 l8 l9 V = some Vr) : sv_N g qX5_fillUntouched 2 121 [(0, .ref 69), (1, .ref l1), (2, .ref l2), (3, .int l3), (4, .int l4), (5, .int l5), (6, .int l6), (7, .int l7), (8, .int l8), (9, .int l9)] [] V P := by
  unfold B_X5_fillUntouched_121 at h
  obtain ⟨x1, hx1⟩ : ∃ z : Int32, z = l9 + 1 := ⟨_, rfl⟩
  have h := sx_letE hx1 h
  refine sx_iinc (pc := 121) (v := x1) (lo' := [(9, .int x1), (0, .ref 69), (1, .ref l1), (2, .ref l2), (3, .int l3), (4, .int l4), (5, .int l5), (6, .int l6), (7, .int l7), (8, .int l8)]) dX5_fillUntouched_121 sx_m9 (by rw [hx1]; rfl) (by decide) rfl ?_
  refine sx_goto (pc := 124) (tgt := 61) dX5_fillUntouched_124 (by decide) ?_
  refine sx_wk (sx_s1 sx_m1 (sx_s1 sx_m2 (sx_s1 sx_m3 (sx_s1 sx_m4 (sx_s1 sx_m5 (sx_s1 sx_m6 (sx_s1 sx_m7 (sx_s1 sx_m8 (sx_s1 sx_m9 (sx_s1 sx_m0 sx_s0)))))))))) ?_
  exact hk61 _ _ _ _ _ _ _ _ _ _ h
def B_X5_fillUntouched_127 (N : Nat) (k3 : Nat → Nat → Int32 → Int32 → sv_V → Option sv_V) (l1 : Nat) (l2 : Nat) (l3 : Int32) (l4 : Int32) (V : sv_V) : Option sv_V := sx_let (l4 + 1) (fun x2 => k3 l1 l2 l3 x2 V)
set_option maxRecDepth 20000 in
theorem tB_X5_fillUntouched_127 {g : sx_G} (hG : sx_Go g) {P : Option Value → sv_V → Prop} {Vr : sv_V} (hP : P none Vr) {N : Nat} {k3 : Nat → Nat → Int32 → Int32 → sv_V → Option sv_V} (hk3 : ∀ (l1 : Nat) (l2 : Nat) (l3 : Int32) (l4 : Int32) (V : sv_V), k3 l1 l2 l3 l4 V = some Vr → sv_N g qX5_fillUntouched 2 3 [(0, .ref 69), (1, .ref l1), (2, .ref l2), (3, .int l3), (4, .int l4)] [] V P) {l1 : Nat} {l2 : Nat} {l3 : Int32} {l4 : Int32} {V : sv_V} (h : B_X5_fillUntouched_127 N k3 l1 l2 l3 l4 V = some Vr) : sv_N g qX5_fillUntouched 2 127 [(0, .ref 69), (1, .ref l1), (2, .ref l2), (3, .int l3), (4, .int l4)] [] V P := by
  unfold B_X5_fillUntouched_127 at h
  obtain ⟨x2, hx2⟩ : ∃ z : Int32, z = l4 + 1 := ⟨_, rfl⟩
  have h := sx_letE hx2 h
  refine sx_iinc (pc := 127) (v := x2) (lo' := [(4, .int x2), (0, .ref 69), (1, .ref l1), (2, .ref l2), (3, .int l3)]) dX5_fillUntouched_127 sx_m4 (by rw [hx2]; rfl) (by decide) rfl ?_
  refine sx_goto (pc := 130) (tgt := 3) dX5_fillUntouched_130 (by decide) ?_
  refine sx_wk (sx_s1 sx_m1 (sx_s1 sx_m2 (sx_s1 sx_m3 (sx_s1 sx_m4 (sx_s1 sx_m0 sx_s0))))) ?_
  exact hk3 _ _ _ _ _ h
def B_X5_fillUntouched_61 (N : Nat) (k3 : Nat → Nat → Int32 → Int32 → sv_V → Option sv_V) (k61 : Nat → Nat → Int32 → Int32 → Int32 → Int32 → Int32 → Int32 → Int32 → sv_V → Option sv_V) (l1 : Nat) (l2 : Nat) (l3 : Int32) (l4 : Int32) (l5 : Int32) (l6 : Int32) (l7 : Int32) (l8 : Int32) (l9 : Int32) (V : sv_V) : Option sv_V := if l7 = (-1 : Int32) then (B_X5_fillUntouched_127 N k3 l1 l2 l3 l4 V) else (if l6 < l9 then (B_X5_fillUntouched_127 N k3 l1 l2 l3 l4 V) else (if ¬ l6 = 0 then sx_let (l5 + (((l7 - l5) + l9) - ((l7 - l5) + l9) / l6 * l6)) (fun x6 => (V.2.2 69 7).bind (fun b7 => if lay b7 = .inl 8 then (cr b7 4).bind (fun b10 => (sv_len 0 b10).bind (fun n12 => if sx_in x6 n12 = true then if ((V.1 b10 x6.toNatClampNeg) &&& l3) = 0 then (B_X5_fillUntouched_121 N k3 k61 l1 l2 l3 l4 l5 l6 l7 l8 l9 V) else ((F_X5_fillBetween N l1 l2 l8 x6 l4 V).bind (fun V16 => B_X5_fillUntouched_121 N k3 k61 l1 l2 l3 l4 l5 l6 l7 x6 l9 V16)) else none)) else none)) else none))
set_option maxRecDepth 20000 in
theorem tB_X5_fillUntouched_61 {g : sx_G} (hG : sx_Go g) {P : Option Value → sv_V → Prop} {Vr : sv_V} (hP : P none Vr) {N : Nat} {k3 : Nat → Nat → Int32 → Int32 → sv_V → Option sv_V} {k61 : Nat → Nat → Int32 → Int32 → Int32 → Int32 → Int32 → Int32 → Int32 → sv_V → Option sv_V} (hk3 : ∀ (l1 : Nat) (l2 : Nat) (l3 : Int32) (l4 : Int32) (V : sv_V), k3 l1 l2 l3 l4 V = some Vr → sv_N g qX5_fillUntouched 2 3 [(0, .ref 69), (1, .ref l1), (2, .ref l2), (3, .int l3), (4, .int l4)] [] V P) (hk61 : ∀ (l1 : Nat) (l2 : Nat) (l3 : Int32) (l4 : Int32) (l5 : Int32) (l6 : Int32) (l7 : Int32) (l8 : Int32) (l9 : Int32) (V : sv_V), k61 l1 l2 l3 l4 l5 l6 l7 l8 l9 V = some Vr → sv_N g qX5_fillUntouched 2 61 [(0, .ref 69), (1, .ref l1), (2, .ref l2), (3, .int l3), (4, .int l4), (5, .int l5), (6, .int l6), (7, .int l7), (8, .int l8), (9, .int l9)] [] V P) {l1 : Nat} {l2 : Nat} {l3 : Int32} {l4 : Int32} {l5 : Int32} {l6 : Int32} {l7 : Int32} {l8 : Int32} {l9 : Int32} {V : sv_V} (h : B_X5_fillUntouched_61 N k3 k61 l1 l2 l3 l4 l5 l6 l7 l8 l9 V = some Vr) : sv_N g qX5_fillUntouched 2 61 [(0, .ref 69), (1, .ref l1), (2, .ref l2), (3, .int l3), (4, .int l4), (5, .int l5), (6, .int l6), (7, .int l7), (8, .int l8), (9, .int l9)] [] V P := by
  unfold B_X5_fillUntouched_61 at h
  refine sx_iload (pc := 61) dX5_fillUntouched_61 sx_m7 ?_
  refine sx_iconst (pc := 63) (v := (-1)) dX5_fillUntouched_63 (by decide) ?_
  refine sx_icmp_eq (pc := 64) (tgt := 127) dX5_fillUntouched_64 (by decide) (fun c3 => ?_) (fun c3 => ?_)
  · have h := sx_pos c3 h
    refine sx_wk (sx_s1 sx_m0 (sx_s1 sx_m1 (sx_s1 sx_m2 (sx_s1 sx_m3 (sx_s1 sx_m4 sx_s0))))) ?_
    exact tB_X5_fillUntouched_127 hG hP hk3 h
  · have h := sx_neg c3 h
    refine sx_iload (pc := 67) dX5_fillUntouched_67 sx_m9 ?_
    refine sx_iload (pc := 69) dX5_fillUntouched_69 sx_m6 ?_
    refine sx_icmp_gt (pc := 71) (tgt := 127) dX5_fillUntouched_71 (by decide) (fun c4 => ?_) (fun c4 => ?_)
    · have h := sx_pos c4 h
      refine sx_wk (sx_s1 sx_m0 (sx_s1 sx_m1 (sx_s1 sx_m2 (sx_s1 sx_m3 (sx_s1 sx_m4 sx_s0))))) ?_
      exact tB_X5_fillUntouched_127 hG hP hk3 h
    · have h := sx_neg c4 h
      refine sx_iload (pc := 74) dX5_fillUntouched_74 sx_m5 ?_
      refine sx_iload (pc := 76) dX5_fillUntouched_76 sx_m7 ?_
      refine sx_iload (pc := 78) dX5_fillUntouched_78 sx_m5 ?_
      refine sx_isub (pc := 80) dX5_fillUntouched_80 ?_
      refine sx_iload (pc := 81) dX5_fillUntouched_81 sx_m9 ?_
      refine sx_iadd (pc := 83) dX5_fillUntouched_83 ?_
      refine sx_iload (pc := 84) dX5_fillUntouched_84 sx_m6 ?_
      obtain ⟨g5, h⟩ := sx_grd h
      refine sx_irem (pc := 86) dX5_fillUntouched_86 g5 ?_
      refine sx_iadd (pc := 87) dX5_fillUntouched_87 ?_
      refine sv_tI (fun x6 hx6 => ?_)
      have h := sx_letE hx6 h
      refine sx_istore (pc := 88) (lo' := [(10, .int x6), (0, .ref 69), (1, .ref l1), (2, .ref l2), (3, .int l3), (4, .int l4), (5, .int l5), (6, .int l6), (7, .int l7), (8, .int l8), (9, .int l9)]) dX5_fillUntouched_88 (by decide) rfl ?_
      refine sx_aload_n (pc := 90) dX5_fillUntouched_90 sx_m1 ?_
      obtain ⟨b7, g8, h⟩ := sx_bnd h
      refine sv_getV (pc := 91) hG dX5_fillUntouched_91 f_5_38 lay_69 rfl rfl g8 ?_
      obtain ⟨g9, h⟩ := sx_grd h
      obtain ⟨b10, g11, h⟩ := sx_bnd h
      refine sv_getA (pc := 94) hG dX5_fillUntouched_94 f_5_220 g9 rfl g11 ?_
      refine sx_iload (pc := 97) dX5_fillUntouched_97 sx_m0 ?_
      obtain ⟨n12, g13, h⟩ := sx_bnd h
      obtain ⟨g14, h⟩ := sx_grd h
      refine sv_iald (pc := 99) hG dX5_fillUntouched_99 (sv_len_e g13) g14 ?_
      refine sx_iload_n (pc := 100) dX5_fillUntouched_100 sx_m4 ?_
      refine sx_iand (pc := 101) dX5_fillUntouched_101 ?_
      refine sx_if_eq (pc := 102) (tgt := 121) dX5_fillUntouched_102 (by decide) (fun c15 => ?_) (fun c15 => ?_)
      · have h := sx_pos c15 h
        refine sx_wk (sx_s1 sx_m1 (sx_s1 sx_m2 (sx_s1 sx_m3 (sx_s1 sx_m4 (sx_s1 sx_m5 (sx_s1 sx_m6 (sx_s1 sx_m7 (sx_s1 sx_m8 (sx_s1 sx_m9 (sx_s1 sx_m10 sx_s0)))))))))) ?_
        exact tB_X5_fillUntouched_121 hG hP hk3 hk61 h
      · have h := sx_neg c15 h
        refine sx_aload_n (pc := 105) dX5_fillUntouched_105 sx_m1 ?_
        refine sx_aload_n (pc := 106) dX5_fillUntouched_106 sx_m2 ?_
        refine sx_aload_n (pc := 107) dX5_fillUntouched_107 sx_m3 ?_
        refine sx_iload (pc := 108) dX5_fillUntouched_108 sx_m9 ?_
        refine sx_iload (pc := 110) dX5_fillUntouched_110 sx_m0 ?_
        refine sx_iload (pc := 112) dX5_fillUntouched_112 sx_m5 ?_
        obtain ⟨V16, g17, h⟩ := sx_bnd h
        refine sv_cV (pc := 114) (y := qX5_fillBetween) (o := none) (as := [.ref l1, .ref l2, .int l8, .int x6, .int l4]) (V1 := V16) hG dX5_fillUntouched_114 l_X5_491 y0X5_fillBetween yvX5_fillBetween rfl (Nat.le_of_ble_eq_true rfl) lay_69 kr_5 (by decide) (Nat.le_of_ble_eq_true rfl) rfl rfl rfl (t_X5_fillBetween hG ⟨rfl, rfl⟩ g17) ?_
        refine sx_iload (pc := 117) dX5_fillUntouched_117 sx_m0 ?_
        refine sx_istore (pc := 119) (lo' := [(8, .int x6), (10, .int x6), (0, .ref 69), (1, .ref l1), (2, .ref l2), (3, .int l3), (4, .int l4), (5, .int l5), (6, .int l6), (7, .int l7), (9, .int l9)]) dX5_fillUntouched_119 (by decide) rfl ?_
        refine sx_wk (sx_s1 sx_m2 (sx_s1 sx_m3 (sx_s1 sx_m4 (sx_s1 sx_m5 (sx_s1 sx_m6 (sx_s1 sx_m7 (sx_s1 sx_m8 (sx_s1 sx_m9 (sx_s1 sx_m0 (sx_s1 sx_m10 sx_s0)))))))))) ?_
        exact tB_X5_fillUntouched_121 hG hP hk3 hk61 h
theorem tL_X5_fillUntouched_61 {g : sx_G} (hG : sx_Go g) {P : Option Value → sv_V → Prop} {Vr : sv_V} (hP : P none Vr) {N : Nat} {k3 : Nat → Nat → Int32 → Int32 → sv_V → Option sv_V} (hk3 : ∀ (l1 : Nat) (l2 : Nat) (l3 : Int32) (l4 : Int32) (V : sv_V), k3 l1 l2 l3 l4 V = some Vr → sv_N g qX5_fillUntouched 2 3 [(0, .ref 69), (1, .ref l1), (2, .ref l2), (3, .int l3), (4, .int l4)] [] V P) : ∀ (n : Nat) (l1 : Nat) (l2 : Nat) (l3 : Int32) (l4 : Int32) (l5 : Int32) (l6 : Int32) (l7 : Int32) (l8 : Int32) (l9 : Int32) (V : sv_V), sx_lp10 (B_X5_fillUntouched_61 N k3) n l1 l2 l3 l4 l5 l6 l7 l8 l9 V = some Vr → sv_N g qX5_fillUntouched 2 61 [(0, .ref 69), (1, .ref l1), (2, .ref l2), (3, .int l3), (4, .int l4), (5, .int l5), (6, .int l6), (7, .int l7), (8, .int l8), (9, .int l9)] [] V P :=
  sx_lp10_ind (fun k0 ih _ _ _ _ _ _ _ _ _ V h => tB_X5_fillUntouched_61 hG hP hk3 ih h)
def B_X5_fillUntouched_3 (N : Nat) (k3 : Nat → Nat → Int32 → Int32 → sv_V → Option sv_V) (l1 : Nat) (l2 : Nat) (l3 : Int32) (l4 : Int32) (V : sv_V) : Option sv_V := (V.2.2 69 7).bind (fun b18 => if lay b18 = .inl 8 then if (V.1 b18 10) ≤ l4 then (some V) else ((V.2.2 69 7).bind (fun b22 => (F_X8_firstOf b22 l4 V).bind (fun (x26, V24) => if lay b22 = .inl 8 then (V24.2.2 69 7).bind (fun b28 => if lay b28 = .inl 8 then (cr b28 6).bind (fun b31 => (sv_len 0 b31).bind (fun n33 => if sx_in l4 n33 = true then sx_let (((V24.1 b31 l4.toNatClampNeg) - x26) + (1 : Int32)) (fun x36 => (F_X5_firstTouched N x26 x36 l3 V24).bind (fun (x39, V37) => sx_lp10 (B_X5_fillUntouched_61 N k3) N l1 l2 l3 l4 x26 x36 x39 x39 (1 : Int32) V37)) else none)) else none) else none))) else none)
set_option maxRecDepth 20000 in
theorem tB_X5_fillUntouched_3 {g : sx_G} (hG : sx_Go g) {P : Option Value → sv_V → Prop} {Vr : sv_V} (hP : P none Vr) {N : Nat} {k3 : Nat → Nat → Int32 → Int32 → sv_V → Option sv_V} (hk3 : ∀ (l1 : Nat) (l2 : Nat) (l3 : Int32) (l4 : Int32) (V : sv_V), k3 l1 l2 l3 l4 V = some Vr → sv_N g qX5_fillUntouched 2 3 [(0, .ref 69), (1, .ref l1), (2, .ref l2), (3, .int l3), (4, .int l4)] [] V P) {l1 : Nat} {l2 : Nat} {l3 : Int32} {l4 : Int32} {V : sv_V} (h : B_X5_fillUntouched_3 N k3 l1 l2 l3 l4 V = some Vr) : sv_N g qX5_fillUntouched 2 3 [(0, .ref 69), (1, .ref l1), (2, .ref l2), (3, .int l3), (4, .int l4)] [] V P := by
  unfold B_X5_fillUntouched_3 at h
  refine sx_iload (pc := 3) dX5_fillUntouched_3 sx_m4 ?_
  refine sx_aload_n (pc := 5) dX5_fillUntouched_5 sx_m0 ?_
  obtain ⟨b18, g19, h⟩ := sx_bnd h
  refine sv_getV (pc := 6) hG dX5_fillUntouched_6 f_5_38 lay_69 rfl rfl g19 ?_
  obtain ⟨g20, h⟩ := sx_grd h
  refine sv_getI (pc := 9) hG dX5_fillUntouched_9 f_5_480 g20 rfl ?_
  refine sx_icmp_ge (pc := 12) (tgt := 133) dX5_fillUntouched_12 (by decide) (fun c21 => ?_) (fun c21 => ?_)
  · have h := sx_pos c21 h
    exact sv_vret (pc := 133) dX5_fillUntouched_133 rfl h hP
  · have h := sx_neg c21 h
    refine sx_aload_n (pc := 15) dX5_fillUntouched_15 sx_m0 ?_
    obtain ⟨b22, g23, h⟩ := sx_bnd h
    refine sv_getV (pc := 16) hG dX5_fillUntouched_16 f_5_38 lay_69 rfl rfl g23 ?_
    refine sx_iload (pc := 19) dX5_fillUntouched_19 sx_m4 ?_
    obtain ⟨⟨x26, V24⟩, g25, h⟩ := sx_bnd h
    obtain ⟨g27, h⟩ := sx_grd h
    refine sv_cV (pc := 21) (y := qX8_firstOf) (o := (some (.int x26))) (as := [.int l4]) (V1 := V24) hG dX5_fillUntouched_21 l_X5_483 y0X8_firstOf yvX8_firstOf rfl (Nat.le_of_ble_eq_true rfl) g27 kr_8 (by decide) (Nat.le_of_ble_eq_true rfl) rfl rfl rfl (t_X8_firstOf hG ⟨rfl, rfl⟩ g25) ?_
    refine sx_istore (pc := 24) (lo' := [(5, .int x26), (0, .ref 69), (1, .ref l1), (2, .ref l2), (3, .int l3), (4, .int l4)]) dX5_fillUntouched_24 (by decide) rfl ?_
    refine sx_aload_n (pc := 26) dX5_fillUntouched_26 sx_m1 ?_
    obtain ⟨b28, g29, h⟩ := sx_bnd h
    refine sv_getV (pc := 27) hG dX5_fillUntouched_27 f_5_38 lay_69 rfl rfl g29 ?_
    obtain ⟨g30, h⟩ := sx_grd h
    obtain ⟨b31, g32, h⟩ := sx_bnd h
    refine sv_getA (pc := 30) hG dX5_fillUntouched_30 f_5_486 g30 rfl g32 ?_
    refine sx_iload (pc := 33) dX5_fillUntouched_33 sx_m5 ?_
    obtain ⟨n33, g34, h⟩ := sx_bnd h
    obtain ⟨g35, h⟩ := sx_grd h
    refine sv_iald (pc := 35) hG dX5_fillUntouched_35 (sv_len_e g34) g35 ?_
    refine sx_iload (pc := 36) dX5_fillUntouched_36 sx_m0 ?_
    refine sx_isub (pc := 38) dX5_fillUntouched_38 ?_
    refine sx_iconst (pc := 39) (v := 1) dX5_fillUntouched_39 (by decide) ?_
    refine sx_iadd (pc := 40) dX5_fillUntouched_40 ?_
    refine sv_tI (fun x36 hx36 => ?_)
    have h := sx_letE hx36 h
    refine sx_istore (pc := 41) (lo' := [(6, .int x36), (5, .int x26), (0, .ref 69), (1, .ref l1), (2, .ref l2), (3, .int l3), (4, .int l4)]) dX5_fillUntouched_41 (by decide) rfl ?_
    refine sx_aload_n (pc := 43) dX5_fillUntouched_43 sx_m2 ?_
    refine sx_iload (pc := 44) dX5_fillUntouched_44 sx_m1 ?_
    refine sx_iload (pc := 46) dX5_fillUntouched_46 sx_m0 ?_
    refine sx_iload_n (pc := 48) dX5_fillUntouched_48 sx_m5 ?_
    obtain ⟨⟨x39, V37⟩, g38, h⟩ := sx_bnd h
    refine sv_cV (pc := 49) (y := qX5_firstTouched) (o := (some (.int x39))) (as := [.int x26, .int x36, .int l3]) (V1 := V37) hG dX5_fillUntouched_49 l_X5_487 y0X5_firstTouched yvX5_firstTouched rfl (Nat.le_of_ble_eq_true rfl) lay_69 kr_5 (by decide) (Nat.le_of_ble_eq_true rfl) rfl rfl rfl (t_X5_firstTouched hG ⟨rfl, rfl⟩ g38) ?_
    refine sx_istore (pc := 52) (lo' := [(7, .int x39), (6, .int x36), (5, .int x26), (0, .ref 69), (1, .ref l1), (2, .ref l2), (3, .int l3), (4, .int l4)]) dX5_fillUntouched_52 (by decide) rfl ?_
    refine sx_iload (pc := 54) dX5_fillUntouched_54 sx_m0 ?_
    refine sx_istore (pc := 56) (lo' := [(8, .int x39), (7, .int x39), (6, .int x36), (5, .int x26), (0, .ref 69), (1, .ref l1), (2, .ref l2), (3, .int l3), (4, .int l4)]) dX5_fillUntouched_56 (by decide) rfl ?_
    refine sx_iconst (pc := 58) (v := 1) dX5_fillUntouched_58 (by decide) ?_
    refine sx_istore (pc := 59) (lo' := [(9, .int (1 : Int32)), (8, .int x39), (7, .int x39), (6, .int x36), (5, .int x26), (0, .ref 69), (1, .ref l1), (2, .ref l2), (3, .int l3), (4, .int l4)]) dX5_fillUntouched_59 (by decide) rfl ?_
    refine sx_wk (sx_s1 sx_m5 (sx_s1 sx_m6 (sx_s1 sx_m7 (sx_s1 sx_m8 (sx_s1 sx_m9 (sx_s1 sx_m4 (sx_s1 sx_m3 (sx_s1 sx_m2 (sx_s1 sx_m1 (sx_s1 sx_m0 sx_s0)))))))))) ?_
    exact tL_X5_fillUntouched_61 hG hP hk3 N _ _ _ _ _ _ _ _ _ _ h
theorem tL_X5_fillUntouched_3 {g : sx_G} (hG : sx_Go g) {P : Option Value → sv_V → Prop} {Vr : sv_V} (hP : P none Vr) {N : Nat}   : ∀ (n : Nat) (l1 : Nat) (l2 : Nat) (l3 : Int32) (l4 : Int32) (V : sv_V), sx_lp5 (B_X5_fillUntouched_3 N ) n l1 l2 l3 l4 V = some Vr → sv_N g qX5_fillUntouched 2 3 [(0, .ref 69), (1, .ref l1), (2, .ref l2), (3, .int l3), (4, .int l4)] [] V P :=
  sx_lp5_ind (fun k0 ih _ _ _ _ V h => tB_X5_fillUntouched_3 hG hP ih h)
def F_X5_fillUntouched (N : Nat) (l1 : Nat) (l2 : Nat) (l3 : Int32) (V : sv_V) : Option sv_V := sx_lp5 (B_X5_fillUntouched_3 N ) N l1 l2 l3 (0 : Int32) V
set_option maxRecDepth 20000 in
theorem t_X5_fillUntouched {g : sx_G} (hG : sx_Go g) {P : Option Value → sv_V → Prop} {Vr : sv_V} (hP : P none Vr) {N : Nat} {l1 : Nat} {l2 : Nat} {l3 : Int32} {V : sv_V} (h : F_X5_fillUntouched N l1 l2 l3 V = some Vr) : sv_N g qX5_fillUntouched 2 0 [(0, .ref 69), (1, .ref l1), (2, .ref l2), (3, .int l3)] [] V P := by
  unfold F_X5_fillUntouched at h
  refine sx_iconst (pc := 0) (v := 0) dX5_fillUntouched_0 (by decide) ?_
  refine sx_istore (pc := 1) (lo' := [(4, .int (0 : Int32)), (0, .ref 69), (1, .ref l1), (2, .ref l2), (3, .int l3)]) dX5_fillUntouched_1 (by decide) rfl ?_
  refine sx_wk (sx_s1 sx_m1 (sx_s1 sx_m2 (sx_s1 sx_m3 (sx_s1 sx_m4 (sx_s1 sx_m0 sx_s0))))) ?_
  exact tL_X5_fillUntouched_3 hG hP  N _ _ _ _ _ h
