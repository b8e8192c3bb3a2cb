/-! methods: X12_tests, X12_loops, X5_run, X6_addParts, X12_check -/
theorem dX12_tests_0 : decode cX12_tests 0 = .ok (.iload_n 1, 1) := by decide +kernel
theorem dX12_tests_1 : decode cX12_tests 1 = .ok (.tableswitch 435 80 95 #[79, 79, 79, 79, 79, 79, 255, 255, 307, 340, 79, 79, 341, 370, 377, 398], 79) := by decide +kernel
theorem dX12_tests_80 : decode cX12_tests 80 = .ok (.aload_n 0, 1) := by decide +kernel
theorem dX12_tests_81 : decode cX12_tests 81 = .ok (.iconst 2, 1) := by decide +kernel
theorem dX12_tests_82 : decode cX12_tests 82 = .ok (.invokevirtual 576, 3) := by decide +kernel
theorem dX12_tests_85 : decode cX12_tests 85 = .ok (.ifCond .eq 170, 3) := by decide +kernel
theorem dX12_tests_88 : decode cX12_tests 88 = .ok (.aload_n 0, 1) := by decide +kernel
theorem dX12_tests_89 : decode cX12_tests 89 = .ok (.invokevirtual 579, 3) := by decide +kernel
theorem dX12_tests_92 : decode cX12_tests 92 = .ok (.istore_n 2, 1) := by decide +kernel
theorem dX12_tests_93 : decode cX12_tests 93 = .ok (.aload_n 0, 1) := by decide +kernel
theorem dX12_tests_94 : decode cX12_tests 94 = .ok (.invokevirtual 579, 3) := by decide +kernel
theorem dX12_tests_97 : decode cX12_tests 97 = .ok (.istore_n 3, 1) := by decide +kernel
theorem dX12_tests_98 : decode cX12_tests 98 = .ok (.aload_n 0, 1) := by decide +kernel
theorem dX12_tests_99 : decode cX12_tests 99 = .ok (.iload_n 1, 1) := by decide +kernel
theorem dX12_tests_100 : decode cX12_tests 100 = .ok (.bipush 80, 2) := by decide +kernel
theorem dX12_tests_102 : decode cX12_tests 102 = .ok (.if_icmp .ne 16, 3) := by decide +kernel
theorem dX12_tests_105 : decode cX12_tests 105 = .ok (.iload_n 3, 1) := by decide +kernel
theorem dX12_tests_106 : decode cX12_tests 106 = .ok (.iload_n 2, 1) := by decide +kernel
theorem dX12_tests_107 : decode cX12_tests 107 = .ok (.if_icmp .ge 7, 3) := by decide +kernel
theorem dX12_tests_110 : decode cX12_tests 110 = .ok (.iconst 1, 1) := by decide +kernel
theorem dX12_tests_111 : decode cX12_tests 111 = .ok (.goto 137, 3) := by decide +kernel
theorem dX12_tests_114 : decode cX12_tests 114 = .ok (.iconst 0, 1) := by decide +kernel
theorem dX12_tests_115 : decode cX12_tests 115 = .ok (.goto 133, 3) := by decide +kernel
theorem dX12_tests_118 : decode cX12_tests 118 = .ok (.iload_n 1, 1) := by decide +kernel
theorem dX12_tests_119 : decode cX12_tests 119 = .ok (.bipush 81, 2) := by decide +kernel
theorem dX12_tests_121 : decode cX12_tests 121 = .ok (.if_icmp .ne 16, 3) := by decide +kernel
theorem dX12_tests_124 : decode cX12_tests 124 = .ok (.iload_n 3, 1) := by decide +kernel
theorem dX12_tests_125 : decode cX12_tests 125 = .ok (.iload_n 2, 1) := by decide +kernel
theorem dX12_tests_126 : decode cX12_tests 126 = .ok (.if_icmp .gt 7, 3) := by decide +kernel
theorem dX12_tests_129 : decode cX12_tests 129 = .ok (.iconst 1, 1) := by decide +kernel
theorem dX12_tests_130 : decode cX12_tests 130 = .ok (.goto 118, 3) := by decide +kernel
theorem dX12_tests_133 : decode cX12_tests 133 = .ok (.iconst 0, 1) := by decide +kernel
theorem dX12_tests_134 : decode cX12_tests 134 = .ok (.goto 114, 3) := by decide +kernel
theorem dX12_tests_137 : decode cX12_tests 137 = .ok (.iload_n 1, 1) := by decide +kernel
theorem dX12_tests_138 : decode cX12_tests 138 = .ok (.bipush 82, 2) := by decide +kernel
theorem dX12_tests_140 : decode cX12_tests 140 = .ok (.if_icmp .ne 16, 3) := by decide +kernel
theorem dX12_tests_143 : decode cX12_tests 143 = .ok (.iload_n 3, 1) := by decide +kernel
theorem dX12_tests_144 : decode cX12_tests 144 = .ok (.iload_n 2, 1) := by decide +kernel
theorem dX12_tests_145 : decode cX12_tests 145 = .ok (.if_icmp .le 7, 3) := by decide +kernel
theorem dX12_tests_148 : decode cX12_tests 148 = .ok (.iconst 1, 1) := by decide +kernel
theorem dX12_tests_149 : decode cX12_tests 149 = .ok (.goto 99, 3) := by decide +kernel
theorem dX12_tests_152 : decode cX12_tests 152 = .ok (.iconst 0, 1) := by decide +kernel
theorem dX12_tests_153 : decode cX12_tests 153 = .ok (.goto 95, 3) := by decide +kernel
theorem dX12_tests_156 : decode cX12_tests 156 = .ok (.iload_n 1, 1) := by decide +kernel
theorem dX12_tests_157 : decode cX12_tests 157 = .ok (.bipush 83, 2) := by decide +kernel
theorem dX12_tests_159 : decode cX12_tests 159 = .ok (.if_icmp .ne 16, 3) := by decide +kernel
theorem dX12_tests_162 : decode cX12_tests 162 = .ok (.iload_n 3, 1) := by decide +kernel
theorem dX12_tests_163 : decode cX12_tests 163 = .ok (.iload_n 2, 1) := by decide +kernel
theorem dX12_tests_164 : decode cX12_tests 164 = .ok (.if_icmp .lt 7, 3) := by decide +kernel
theorem dX12_tests_167 : decode cX12_tests 167 = .ok (.iconst 1, 1) := by decide +kernel
theorem dX12_tests_168 : decode cX12_tests 168 = .ok (.goto 80, 3) := by decide +kernel
theorem dX12_tests_171 : decode cX12_tests 171 = .ok (.iconst 0, 1) := by decide +kernel
theorem dX12_tests_172 : decode cX12_tests 172 = .ok (.goto 76, 3) := by decide +kernel
theorem dX12_tests_175 : decode cX12_tests 175 = .ok (.iload_n 1, 1) := by decide +kernel
theorem dX12_tests_176 : decode cX12_tests 176 = .ok (.bipush 84, 2) := by decide +kernel
theorem dX12_tests_178 : decode cX12_tests 178 = .ok (.if_icmp .ne 16, 3) := by decide +kernel
theorem dX12_tests_181 : decode cX12_tests 181 = .ok (.iload_n 3, 1) := by decide +kernel
theorem dX12_tests_182 : decode cX12_tests 182 = .ok (.iload_n 2, 1) := by decide +kernel
theorem dX12_tests_183 : decode cX12_tests 183 = .ok (.if_icmp .ne 7, 3) := by decide +kernel
theorem dX12_tests_186 : decode cX12_tests 186 = .ok (.iconst 1, 1) := by decide +kernel
theorem dX12_tests_187 : decode cX12_tests 187 = .ok (.goto 61, 3) := by decide +kernel
theorem dX12_tests_190 : decode cX12_tests 190 = .ok (.iconst 0, 1) := by decide +kernel
theorem dX12_tests_191 : decode cX12_tests 191 = .ok (.goto 57, 3) := by decide +kernel
theorem dX12_tests_194 : decode cX12_tests 194 = .ok (.iload_n 1, 1) := by decide +kernel
theorem dX12_tests_195 : decode cX12_tests 195 = .ok (.bipush 85, 2) := by decide +kernel
theorem dX12_tests_197 : decode cX12_tests 197 = .ok (.if_icmp .ne 16, 3) := by decide +kernel
theorem dX12_tests_200 : decode cX12_tests 200 = .ok (.iload_n 3, 1) := by decide +kernel
theorem dX12_tests_201 : decode cX12_tests 201 = .ok (.iload_n 2, 1) := by decide +kernel
theorem dX12_tests_202 : decode cX12_tests 202 = .ok (.if_icmp .eq 7, 3) := by decide +kernel
theorem dX12_tests_205 : decode cX12_tests 205 = .ok (.iconst 1, 1) := by decide +kernel
theorem dX12_tests_206 : decode cX12_tests 206 = .ok (.goto 42, 3) := by decide +kernel
theorem dX12_tests_209 : decode cX12_tests 209 = .ok (.iconst 0, 1) := by decide +kernel
theorem dX12_tests_210 : decode cX12_tests 210 = .ok (.goto 38, 3) := by decide +kernel
theorem dX12_tests_213 : decode cX12_tests 213 = .ok (.iload_n 1, 1) := by decide +kernel
theorem dX12_tests_214 : decode cX12_tests 214 = .ok (.bipush 90, 2) := by decide +kernel
theorem dX12_tests_216 : decode cX12_tests 216 = .ok (.if_icmp .ne 19, 3) := by decide +kernel
theorem dX12_tests_219 : decode cX12_tests 219 = .ok (.iload_n 3, 1) := by decide +kernel
theorem dX12_tests_220 : decode cX12_tests 220 = .ok (.ifCond .eq 11, 3) := by decide +kernel
theorem dX12_tests_223 : decode cX12_tests 223 = .ok (.iload_n 2, 1) := by decide +kernel
theorem dX12_tests_224 : decode cX12_tests 224 = .ok (.ifCond .eq 7, 3) := by decide +kernel
theorem dX12_tests_227 : decode cX12_tests 227 = .ok (.iconst 1, 1) := by decide +kernel
theorem dX12_tests_228 : decode cX12_tests 228 = .ok (.goto 20, 3) := by decide +kernel
theorem dX12_tests_231 : decode cX12_tests 231 = .ok (.iconst 0, 1) := by decide +kernel
theorem dX12_tests_232 : decode cX12_tests 232 = .ok (.goto 16, 3) := by decide +kernel
theorem dX12_tests_235 : decode cX12_tests 235 = .ok (.iload_n 3, 1) := by decide +kernel
theorem dX12_tests_236 : decode cX12_tests 236 = .ok (.ifCond .ne 7, 3) := by decide +kernel
theorem dX12_tests_239 : decode cX12_tests 239 = .ok (.iload_n 2, 1) := by decide +kernel
theorem dX12_tests_240 : decode cX12_tests 240 = .ok (.ifCond .eq 7, 3) := by decide +kernel
theorem dX12_tests_243 : decode cX12_tests 243 = .ok (.iconst 1, 1) := by decide +kernel
theorem dX12_tests_244 : decode cX12_tests 244 = .ok (.goto 4, 3) := by decide +kernel
theorem dX12_tests_247 : decode cX12_tests 247 = .ok (.iconst 0, 1) := by decide +kernel
theorem dX12_tests_248 : decode cX12_tests 248 = .ok (.invokestatic 690, 3) := by decide +kernel
theorem dX12_tests_251 : decode cX12_tests 251 = .ok (.i2l, 1) := by decide +kernel
theorem dX12_tests_252 : decode cX12_tests 252 = .ok (.invokevirtual 564, 3) := by decide +kernel
theorem dX12_tests_255 : decode cX12_tests 255 = .ok (.return_, 1) := by decide +kernel
theorem dX12_tests_256 : decode cX12_tests 256 = .ok (.aload_n 0, 1) := by decide +kernel
theorem dX12_tests_257 : decode cX12_tests 257 = .ok (.iconst 1, 1) := by decide +kernel
theorem dX12_tests_258 : decode cX12_tests 258 = .ok (.invokevirtual 576, 3) := by decide +kernel
theorem dX12_tests_261 : decode cX12_tests 261 = .ok (.ifCond .eq 46, 3) := by decide +kernel
theorem dX12_tests_264 : decode cX12_tests 264 = .ok (.aload_n 0, 1) := by decide +kernel
theorem dX12_tests_265 : decode cX12_tests 265 = .ok (.aload_n 0, 1) := by decide +kernel
theorem dX12_tests_266 : decode cX12_tests 266 = .ok (.aload_n 0, 1) := by decide +kernel
theorem dX12_tests_267 : decode cX12_tests 267 = .ok (.invokevirtual 579, 3) := by decide +kernel
theorem dX12_tests_270 : decode cX12_tests 270 = .ok (.i2l, 1) := by decide +kernel
theorem dX12_tests_271 : decode cX12_tests 271 = .ok (.invokevirtual 647, 3) := by decide +kernel
theorem dX12_tests_274 : decode cX12_tests 274 = .ok (.ldc2_w 694, 3) := by decide +kernel
theorem dX12_tests_277 : decode cX12_tests 277 = .ok (.land, 1) := by decide +kernel
theorem dX12_tests_278 : decode cX12_tests 278 = .ok (.iload_n 1, 1) := by decide +kernel
theorem dX12_tests_279 : decode cX12_tests 279 = .ok (.bipush 86, 2) := by decide +kernel
theorem dX12_tests_281 : decode cX12_tests 281 = .ok (.if_icmp .ne 9, 3) := by decide +kernel
theorem dX12_tests_284 : decode cX12_tests 284 = .ok (.ldc2_w 338, 3) := by decide +kernel
theorem dX12_tests_287 : decode cX12_tests 287 = .ok (.goto 4, 3) := by decide +kernel
theorem dX12_tests_290 : decode cX12_tests 290 = .ok (.lconst 0, 1) := by decide +kernel
theorem dX12_tests_291 : decode cX12_tests 291 = .ok (.lcmp, 1) := by decide +kernel
theorem dX12_tests_292 : decode cX12_tests 292 = .ok (.ifCond .ne 7, 3) := by decide +kernel
theorem dX12_tests_295 : decode cX12_tests 295 = .ok (.iconst 1, 1) := by decide +kernel
theorem dX12_tests_296 : decode cX12_tests 296 = .ok (.goto 4, 3) := by decide +kernel
theorem dX12_tests_299 : decode cX12_tests 299 = .ok (.iconst 0, 1) := by decide +kernel
theorem dX12_tests_300 : decode cX12_tests 300 = .ok (.invokestatic 690, 3) := by decide +kernel
theorem dX12_tests_303 : decode cX12_tests 303 = .ok (.i2l, 1) := by decide +kernel
theorem dX12_tests_304 : decode cX12_tests 304 = .ok (.invokevirtual 564, 3) := by decide +kernel
theorem dX12_tests_307 : decode cX12_tests 307 = .ok (.return_, 1) := by decide +kernel
theorem dX12_tests_308 : decode cX12_tests 308 = .ok (.aload_n 0, 1) := by decide +kernel
theorem dX12_tests_309 : decode cX12_tests 309 = .ok (.iconst 1, 1) := by decide +kernel
theorem dX12_tests_310 : decode cX12_tests 310 = .ok (.invokevirtual 576, 3) := by decide +kernel
theorem dX12_tests_313 : decode cX12_tests 313 = .ok (.ifCond .eq 27, 3) := by decide +kernel
theorem dX12_tests_316 : decode cX12_tests 316 = .ok (.aload_n 0, 1) := by decide +kernel
theorem dX12_tests_317 : decode cX12_tests 317 = .ok (.invokevirtual 579, 3) := by decide +kernel
theorem dX12_tests_320 : decode cX12_tests 320 = .ok (.ifCond .ne 20, 3) := by decide +kernel
theorem dX12_tests_323 : decode cX12_tests 323 = .ok (.aload_n 0, 1) := by decide +kernel
theorem dX12_tests_324 : decode cX12_tests 324 = .ok (.aload_n 0, 1) := by decide +kernel
theorem dX12_tests_325 : decode cX12_tests 325 = .ok (.aload_n 0, 1) := by decide +kernel
theorem dX12_tests_326 : decode cX12_tests 326 = .ok (.getfield 496, 3) := by decide +kernel
theorem dX12_tests_329 : decode cX12_tests 329 = .ok (.bipush 27, 2) := by decide +kernel
theorem dX12_tests_331 : decode cX12_tests 331 = .ok (.bipush 89, 2) := by decide +kernel
theorem dX12_tests_333 : decode cX12_tests 333 = .ok (.iconst 1, 1) := by decide +kernel
theorem dX12_tests_334 : decode cX12_tests 334 = .ok (.invokevirtual 598, 3) := by decide +kernel
theorem dX12_tests_337 : decode cX12_tests 337 = .ok (.putfield 496, 3) := by decide +kernel
theorem dX12_tests_340 : decode cX12_tests 340 = .ok (.return_, 1) := by decide +kernel
theorem dX12_tests_341 : decode cX12_tests 341 = .ok (.return_, 1) := by decide +kernel
theorem dX12_tests_342 : decode cX12_tests 342 = .ok (.aload_n 0, 1) := by decide +kernel
theorem dX12_tests_343 : decode cX12_tests 343 = .ok (.iconst 1, 1) := by decide +kernel
theorem dX12_tests_344 : decode cX12_tests 344 = .ok (.invokevirtual 576, 3) := by decide +kernel
theorem dX12_tests_347 : decode cX12_tests 347 = .ok (.ifCond .eq 23, 3) := by decide +kernel
theorem dX12_tests_350 : decode cX12_tests 350 = .ok (.aload_n 0, 1) := by decide +kernel
theorem dX12_tests_351 : decode cX12_tests 351 = .ok (.aload_n 0, 1) := by decide +kernel
theorem dX12_tests_352 : decode cX12_tests 352 = .ok (.invokevirtual 579, 3) := by decide +kernel
theorem dX12_tests_355 : decode cX12_tests 355 = .ok (.ifCond .ne 7, 3) := by decide +kernel
theorem dX12_tests_358 : decode cX12_tests 358 = .ok (.iconst 1, 1) := by decide +kernel
theorem dX12_tests_359 : decode cX12_tests 359 = .ok (.goto 4, 3) := by decide +kernel
theorem dX12_tests_362 : decode cX12_tests 362 = .ok (.iconst 0, 1) := by decide +kernel
theorem dX12_tests_363 : decode cX12_tests 363 = .ok (.invokestatic 690, 3) := by decide +kernel
theorem dX12_tests_366 : decode cX12_tests 366 = .ok (.i2l, 1) := by decide +kernel
theorem dX12_tests_367 : decode cX12_tests 367 = .ok (.invokevirtual 564, 3) := by decide +kernel
theorem dX12_tests_370 : decode cX12_tests 370 = .ok (.return_, 1) := by decide +kernel
theorem dX12_tests_371 : decode cX12_tests 371 = .ok (.aload_n 0, 1) := by decide +kernel
theorem dX12_tests_372 : decode cX12_tests 372 = .ok (.iconst 0, 1) := by decide +kernel
theorem dX12_tests_373 : decode cX12_tests 373 = .ok (.iconst 1, 1) := by decide +kernel
theorem dX12_tests_374 : decode cX12_tests 374 = .ok (.invokevirtual 696, 3) := by decide +kernel
theorem dX12_tests_377 : decode cX12_tests 377 = .ok (.return_, 1) := by decide +kernel
theorem dX12_tests_378 : decode cX12_tests 378 = .ok (.aload_n 0, 1) := by decide +kernel
theorem dX12_tests_379 : decode cX12_tests 379 = .ok (.aload_n 0, 1) := by decide +kernel
theorem dX12_tests_380 : decode cX12_tests 380 = .ok (.iconst 1, 1) := by decide +kernel
theorem dX12_tests_381 : decode cX12_tests 381 = .ok (.invokevirtual 576, 3) := by decide +kernel
theorem dX12_tests_384 : decode cX12_tests 384 = .ok (.ifCond .eq 10, 3) := by decide +kernel
theorem dX12_tests_387 : decode cX12_tests 387 = .ok (.aload_n 0, 1) := by decide +kernel
theorem dX12_tests_388 : decode cX12_tests 388 = .ok (.invokevirtual 579, 3) := by decide +kernel
theorem dX12_tests_391 : decode cX12_tests 391 = .ok (.goto 4, 3) := by decide +kernel
theorem dX12_tests_394 : decode cX12_tests 394 = .ok (.iconst 0, 1) := by decide +kernel
theorem dX12_tests_395 : decode cX12_tests 395 = .ok (.putfield 700, 3) := by decide +kernel
theorem dX12_tests_398 : decode cX12_tests 398 = .ok (.return_, 1) := by decide +kernel
theorem dX12_tests_399 : decode cX12_tests 399 = .ok (.aload_n 0, 1) := by decide +kernel
theorem dX12_tests_400 : decode cX12_tests 400 = .ok (.iconst 1, 1) := by decide +kernel
theorem dX12_tests_401 : decode cX12_tests 401 = .ok (.invokevirtual 576, 3) := by decide +kernel
theorem dX12_tests_404 : decode cX12_tests 404 = .ok (.ifCond .eq 31, 3) := by decide +kernel
theorem dX12_tests_407 : decode cX12_tests 407 = .ok (.aload_n 0, 1) := by decide +kernel
theorem dX12_tests_408 : decode cX12_tests 408 = .ok (.invokevirtual 579, 3) := by decide +kernel
theorem dX12_tests_411 : decode cX12_tests 411 = .ok (.istore_n 2, 1) := by decide +kernel
theorem dX12_tests_412 : decode cX12_tests 412 = .ok (.iload_n 2, 1) := by decide +kernel
theorem dX12_tests_413 : decode cX12_tests 413 = .ok (.i2l, 1) := by decide +kernel
theorem dX12_tests_414 : decode cX12_tests 414 = .ok (.lconst 0, 1) := by decide +kernel
theorem dX12_tests_415 : decode cX12_tests 415 = .ok (.ldc2_w 382, 3) := by decide +kernel
theorem dX12_tests_418 : decode cX12_tests 418 = .ok (.invokestatic 263, 3) := by decide +kernel
theorem dX12_tests_421 : decode cX12_tests 421 = .ok (.ifCond .ne 9, 3) := by decide +kernel
theorem dX12_tests_424 : decode cX12_tests 424 = .ok (.aload_n 0, 1) := by decide +kernel
theorem dX12_tests_425 : decode cX12_tests 425 = .ok (.bipush 11, 2) := by decide +kernel
theorem dX12_tests_427 : decode cX12_tests 427 = .ok (.invokevirtual 421, 3) := by decide +kernel
theorem dX12_tests_430 : decode cX12_tests 430 = .ok (.aload_n 0, 1) := by decide +kernel
theorem dX12_tests_431 : decode cX12_tests 431 = .ok (.iload_n 2, 1) := by decide +kernel
theorem dX12_tests_432 : decode cX12_tests 432 = .ok (.putfield 703, 3) := by decide +kernel
theorem dX12_tests_435 : decode cX12_tests 435 = .ok (.return_, 1) := by decide +kernel
theorem dX12_tests_436 : decode cX12_tests 436 = .ok (.aload_n 0, 1) := by decide +kernel
theorem dX12_tests_437 : decode cX12_tests 437 = .ok (.iload_n 1, 1) := by decide +kernel
theorem dX12_tests_438 : decode cX12_tests 438 = .ok (.invokevirtual 650, 3) := by decide +kernel
theorem dX12_tests_441 : decode cX12_tests 441 = .ok (.return_, 1) := by decide +kernel
def B_X12_tests_248 (N : Nat)  (s1 : Int32) (V : sv_V) : Option sv_V := (F_X12_one s1 V).bind (fun (x3, V1) => (F_X12_push x3.toInt64 V1).bind (fun V4 => some V4))
set_option maxRecDepth 20000 in
theorem tB_X12_tests_248 {g : sx_G} (hG : sx_Go g) {P : Option Value → sv_V → Prop} {Vr : sv_V} (hP : P none Vr) {N : Nat}   {s1 : Int32} {V : sv_V} (h : B_X12_tests_248 N  s1 V = some Vr) : sv_N g qX12_tests 6 248 [] [.int s1, .ref 146] V P := by
  unfold B_X12_tests_248 at h
  obtain ⟨⟨x3, V1⟩, g2, h⟩ := sx_bnd h
  refine sv_cS (pc := 248) (y := qX12_one) (o := (some (.int x3))) (as := [.int s1]) (V1 := V1) dX12_tests_248 l_X12_690 y0X12_one ysX12_one rfl (Nat.le_of_ble_eq_true rfl) (by decide) (Nat.le_of_ble_eq_true rfl) rfl rfl rfl (t_X12_one hG ⟨rfl, rfl⟩ g2) ?_
  refine sx_i2l (pc := 251) dX12_tests_251 ?_
  obtain ⟨V4, g5, h⟩ := sx_bnd h
  refine sv_cV (pc := 252) (y := qX12_push) (o := none) (as := [.long x3.toInt64]) (V1 := V4) hG dX12_tests_252 l_X12_564 y0X12_push yvX12_push rfl (Nat.le_of_ble_eq_true rfl) lay_146 kr_12 (by decide) (Nat.le_of_ble_eq_true rfl) rfl rfl rfl (t_X12_push hG ⟨rfl, rfl⟩ g5) ?_
  exact sv_vret (pc := 255) dX12_tests_255 rfl h hP
def B_X12_tests_231 (N : Nat)   (V : sv_V) : Option sv_V := B_X12_tests_248 N  (0 : Int32) V
set_option maxRecDepth 20000 in
theorem tB_X12_tests_231 {g : sx_G} (hG : sx_Go g) {P : Option Value → sv_V → Prop} {Vr : sv_V} (hP : P none Vr) {N : Nat}    {V : sv_V} (h : B_X12_tests_231 N   V = some Vr) : sv_N g qX12_tests 6 231 [] [.ref 146] V P := by
  unfold B_X12_tests_231 at h
  refine sx_iconst (pc := 231) (v := 0) dX12_tests_231 (by decide) ?_
  refine sx_goto (pc := 232) (tgt := 248) dX12_tests_232 (by decide) ?_
  refine sx_wk sx_s0 ?_
  exact tB_X12_tests_248 hG hP  h
def B_X12_tests_243 (N : Nat)   (V : sv_V) : Option sv_V := B_X12_tests_248 N  (1 : Int32) V
set_option maxRecDepth 20000 in
theorem tB_X12_tests_243 {g : sx_G} (hG : sx_Go g) {P : Option Value → sv_V → Prop} {Vr : sv_V} (hP : P none Vr) {N : Nat}    {V : sv_V} (h : B_X12_tests_243 N   V = some Vr) : sv_N g qX12_tests 6 243 [] [.ref 146] V P := by
  unfold B_X12_tests_243 at h
  refine sx_iconst (pc := 243) (v := 1) dX12_tests_243 (by decide) ?_
  refine sx_goto (pc := 244) (tgt := 248) dX12_tests_244 (by decide) ?_
  refine sx_wk sx_s0 ?_
  exact tB_X12_tests_248 hG hP  h
def B_X12_tests_80 (N : Nat)  (l1 : Int32) (V : sv_V) : Option sv_V := (F_X12_has (2 : Int32) V).bind (fun (x8, V6) => if x8 = 0 then (some V6) else ((F_X12_pop  V6).bind (fun (x12, V10) => (F_X12_pop  V10).bind (fun (x15, V13) => if l1 = (80 : Int32) then (if x12 ≤ x15 then (B_X12_tests_248 N  (0 : Int32) V13) else (B_X12_tests_248 N  (1 : Int32) V13)) else (if l1 = (81 : Int32) then (if x12 < x15 then (B_X12_tests_248 N  (0 : Int32) V13) else (B_X12_tests_248 N  (1 : Int32) V13)) else (if l1 = (82 : Int32) then (if x15 ≤ x12 then (B_X12_tests_248 N  (0 : Int32) V13) else (B_X12_tests_248 N  (1 : Int32) V13)) else (if l1 = (83 : Int32) then (if x15 < x12 then (B_X12_tests_248 N  (0 : Int32) V13) else (B_X12_tests_248 N  (1 : Int32) V13)) else (if l1 = (84 : Int32) then (if x15 = x12 then (B_X12_tests_248 N  (1 : Int32) V13) else (B_X12_tests_248 N  (0 : Int32) V13)) else (if l1 = (85 : Int32) then (if x15 = x12 then (B_X12_tests_248 N  (0 : Int32) V13) else (B_X12_tests_248 N  (1 : Int32) V13)) else (if l1 = (90 : Int32) then (if x15 = 0 then (B_X12_tests_231 N   V13) else (if x12 = 0 then (B_X12_tests_231 N   V13) else (B_X12_tests_248 N  (1 : Int32) V13))) else (if x15 = 0 then (if x12 = 0 then (B_X12_tests_248 N  (0 : Int32) V13) else (B_X12_tests_243 N   V13)) else (B_X12_tests_243 N   V13))))))))))))
set_option maxRecDepth 20000 in
theorem tB_X12_tests_80 {g : sx_G} (hG : sx_Go g) {P : Option Value → sv_V → Prop} {Vr : sv_V} (hP : P none Vr) {N : Nat}   {l1 : Int32} {V : sv_V} (h : B_X12_tests_80 N  l1 V = some Vr) : sv_N g qX12_tests 6 80 [(0, .ref 146), (1, .int l1)] [] V P := by
  unfold B_X12_tests_80 at h
  refine sx_aload_n (pc := 80) dX12_tests_80 sx_m0 ?_
  refine sx_iconst (pc := 81) (v := 2) dX12_tests_81 (by decide) ?_
  obtain ⟨⟨x8, V6⟩, g7, h⟩ := sx_bnd h
  refine sv_cV (pc := 82) (y := qX12_has) (o := (some (.int x8))) (as := [.int (2 : Int32)]) (V1 := V6) hG dX12_tests_82 l_X12_576 y0X12_has yvX12_has rfl (Nat.le_of_ble_eq_true rfl) lay_146 kr_12 (by decide) (Nat.le_of_ble_eq_true rfl) rfl rfl rfl (t_X12_has hG ⟨rfl, rfl⟩ g7) ?_
  refine sx_if_eq (pc := 85) (tgt := 255) dX12_tests_85 (by decide) (fun c9 => ?_) (fun c9 => ?_)
  · have h := sx_pos c9 h
    exact sv_vret (pc := 255) dX12_tests_255 rfl h hP
  · have h := sx_neg c9 h
    refine sx_aload_n (pc := 88) dX12_tests_88 sx_m0 ?_
    obtain ⟨⟨x12, V10⟩, g11, h⟩ := sx_bnd h
    refine sv_cV (pc := 89) (y := qX12_pop) (o := (some (.int x12))) (as := []) (V1 := V10) hG dX12_tests_89 l_X12_579 y0X12_pop yvX12_pop rfl (Nat.le_of_ble_eq_true rfl) lay_146 kr_12 (by decide) (Nat.le_of_ble_eq_true rfl) rfl rfl rfl (t_X12_pop hG ⟨rfl, rfl⟩ g11) ?_
    refine sx_istore_n (pc := 92) (lo' := [(2, .int x12), (0, .ref 146), (1, .int l1)]) dX12_tests_92 (by decide) rfl ?_
    refine sx_aload_n (pc := 93) dX12_tests_93 sx_m1 ?_
    obtain ⟨⟨x15, V13⟩, g14, h⟩ := sx_bnd h
    refine sv_cV (pc := 94) (y := qX12_pop) (o := (some (.int x15))) (as := []) (V1 := V13) hG dX12_tests_94 l_X12_579 y0X12_pop yvX12_pop rfl (Nat.le_of_ble_eq_true rfl) lay_146 kr_12 (by decide) (Nat.le_of_ble_eq_true rfl) rfl rfl rfl (t_X12_pop hG ⟨rfl, rfl⟩ g14) ?_
    refine sx_istore_n (pc := 97) (lo' := [(3, .int x15), (2, .int x12), (0, .ref 146), (1, .int l1)]) dX12_tests_97 (by decide) rfl ?_
    refine sx_aload_n (pc := 98) dX12_tests_98 sx_m2 ?_
    refine sx_iload_n (pc := 99) dX12_tests_99 sx_m3 ?_
    refine sx_bipush (pc := 100) (v := 80) dX12_tests_100 (by decide) ?_
    refine sx_icmp_ne (pc := 102) (tgt := 118) dX12_tests_102 (by decide) (fun c16 => ?_) (fun c16 => ?_)
    · have h := sx_neg c16 h
      refine sx_iload_n (pc := 118) dX12_tests_118 sx_m3 ?_
      refine sx_bipush (pc := 119) (v := 81) dX12_tests_119 (by decide) ?_
      refine sx_icmp_ne (pc := 121) (tgt := 137) dX12_tests_121 (by decide) (fun c17 => ?_) (fun c17 => ?_)
      · have h := sx_neg c17 h
        refine sx_iload_n (pc := 137) dX12_tests_137 sx_m3 ?_
        refine sx_bipush (pc := 138) (v := 82) dX12_tests_138 (by decide) ?_
        refine sx_icmp_ne (pc := 140) (tgt := 156) dX12_tests_140 (by decide) (fun c18 => ?_) (fun c18 => ?_)
        · have h := sx_neg c18 h
          refine sx_iload_n (pc := 156) dX12_tests_156 sx_m3 ?_
          refine sx_bipush (pc := 157) (v := 83) dX12_tests_157 (by decide) ?_
          refine sx_icmp_ne (pc := 159) (tgt := 175) dX12_tests_159 (by decide) (fun c19 => ?_) (fun c19 => ?_)
          · have h := sx_neg c19 h
            refine sx_iload_n (pc := 175) dX12_tests_175 sx_m3 ?_
            refine sx_bipush (pc := 176) (v := 84) dX12_tests_176 (by decide) ?_
            refine sx_icmp_ne (pc := 178) (tgt := 194) dX12_tests_178 (by decide) (fun c20 => ?_) (fun c20 => ?_)
            · have h := sx_neg c20 h
              refine sx_iload_n (pc := 194) dX12_tests_194 sx_m3 ?_
              refine sx_bipush (pc := 195) (v := 85) dX12_tests_195 (by decide) ?_
              refine sx_icmp_ne (pc := 197) (tgt := 213) dX12_tests_197 (by decide) (fun c21 => ?_) (fun c21 => ?_)
              · have h := sx_neg c21 h
                refine sx_iload_n (pc := 213) dX12_tests_213 sx_m3 ?_
                refine sx_bipush (pc := 214) (v := 90) dX12_tests_214 (by decide) ?_
                refine sx_icmp_ne (pc := 216) (tgt := 235) dX12_tests_216 (by decide) (fun c22 => ?_) (fun c22 => ?_)
                · have h := sx_neg c22 h
                  refine sx_iload_n (pc := 235) dX12_tests_235 sx_m0 ?_
                  refine sx_if_ne (pc := 236) (tgt := 243) dX12_tests_236 (by decide) (fun c23 => ?_) (fun c23 => ?_)
                  · have h := sx_neg c23 h
                    refine sx_wk sx_s0 ?_
                    exact tB_X12_tests_243 hG hP  h
                  · have h := sx_pos c23 h
                    refine sx_iload_n (pc := 239) dX12_tests_239 sx_m1 ?_
                    refine sx_if_eq (pc := 240) (tgt := 247) dX12_tests_240 (by decide) (fun c24 => ?_) (fun c24 => ?_)
                    · have h := sx_pos c24 h
                      refine sx_iconst (pc := 247) (v := 0) dX12_tests_247 (by decide) ?_
                      refine sx_wk sx_s0 ?_
                      exact tB_X12_tests_248 hG hP  h
                    · have h := sx_neg c24 h
                      refine sx_wk sx_s0 ?_
                      exact tB_X12_tests_243 hG hP  h
                · have h := sx_pos c22 h
                  refine sx_iload_n (pc := 219) dX12_tests_219 sx_m0 ?_
                  refine sx_if_eq (pc := 220) (tgt := 231) dX12_tests_220 (by decide) (fun c25 => ?_) (fun c25 => ?_)
                  · have h := sx_pos c25 h
                    refine sx_wk sx_s0 ?_
                    exact tB_X12_tests_231 hG hP  h
                  · have h := sx_neg c25 h
                    refine sx_iload_n (pc := 223) dX12_tests_223 sx_m1 ?_
                    refine sx_if_eq (pc := 224) (tgt := 231) dX12_tests_224 (by decide) (fun c26 => ?_) (fun c26 => ?_)
                    · have h := sx_pos c26 h
                      refine sx_wk sx_s0 ?_
                      exact tB_X12_tests_231 hG hP  h
                    · have h := sx_neg c26 h
                      refine sx_iconst (pc := 227) (v := 1) dX12_tests_227 (by decide) ?_
                      refine sx_goto (pc := 228) (tgt := 248) dX12_tests_228 (by decide) ?_
                      refine sx_wk sx_s0 ?_
                      exact tB_X12_tests_248 hG hP  h
              · have h := sx_pos c21 h
                refine sx_iload_n (pc := 200) dX12_tests_200 sx_m0 ?_
                refine sx_iload_n (pc := 201) dX12_tests_201 sx_m1 ?_
                refine sx_icmp_eq (pc := 202) (tgt := 209) dX12_tests_202 (by decide) (fun c27 => ?_) (fun c27 => ?_)
                · have h := sx_pos c27 h
                  refine sx_iconst (pc := 209) (v := 0) dX12_tests_209 (by decide) ?_
                  refine sx_goto (pc := 210) (tgt := 248) dX12_tests_210 (by decide) ?_
                  refine sx_wk sx_s0 ?_
                  exact tB_X12_tests_248 hG hP  h
                · have h := sx_neg c27 h
                  refine sx_iconst (pc := 205) (v := 1) dX12_tests_205 (by decide) ?_
                  refine sx_goto (pc := 206) (tgt := 248) dX12_tests_206 (by decide) ?_
                  refine sx_wk sx_s0 ?_
                  exact tB_X12_tests_248 hG hP  h
            · have h := sx_pos c20 h
              refine sx_iload_n (pc := 181) dX12_tests_181 sx_m0 ?_
              refine sx_iload_n (pc := 182) dX12_tests_182 sx_m1 ?_
              refine sx_icmp_ne (pc := 183) (tgt := 190) dX12_tests_183 (by decide) (fun c28 => ?_) (fun c28 => ?_)
              · have h := sx_neg c28 h
                refine sx_iconst (pc := 190) (v := 0) dX12_tests_190 (by decide) ?_
                refine sx_goto (pc := 191) (tgt := 248) dX12_tests_191 (by decide) ?_
                refine sx_wk sx_s0 ?_
                exact tB_X12_tests_248 hG hP  h
              · have h := sx_pos c28 h
                refine sx_iconst (pc := 186) (v := 1) dX12_tests_186 (by decide) ?_
                refine sx_goto (pc := 187) (tgt := 248) dX12_tests_187 (by decide) ?_
                refine sx_wk sx_s0 ?_
                exact tB_X12_tests_248 hG hP  h
          · have h := sx_pos c19 h
            refine sx_iload_n (pc := 162) dX12_tests_162 sx_m0 ?_
            refine sx_iload_n (pc := 163) dX12_tests_163 sx_m1 ?_
            refine sx_icmp_lt (pc := 164) (tgt := 171) dX12_tests_164 (by decide) (fun c29 => ?_) (fun c29 => ?_)
            · have h := sx_pos c29 h
              refine sx_iconst (pc := 171) (v := 0) dX12_tests_171 (by decide) ?_
              refine sx_goto (pc := 172) (tgt := 248) dX12_tests_172 (by decide) ?_
              refine sx_wk sx_s0 ?_
              exact tB_X12_tests_248 hG hP  h
            · have h := sx_neg c29 h
              refine sx_iconst (pc := 167) (v := 1) dX12_tests_167 (by decide) ?_
              refine sx_goto (pc := 168) (tgt := 248) dX12_tests_168 (by decide) ?_
              refine sx_wk sx_s0 ?_
              exact tB_X12_tests_248 hG hP  h
        · have h := sx_pos c18 h
          refine sx_iload_n (pc := 143) dX12_tests_143 sx_m0 ?_
          refine sx_iload_n (pc := 144) dX12_tests_144 sx_m1 ?_
          refine sx_icmp_le (pc := 145) (tgt := 152) dX12_tests_145 (by decide) (fun c30 => ?_) (fun c30 => ?_)
          · have h := sx_pos c30 h
            refine sx_iconst (pc := 152) (v := 0) dX12_tests_152 (by decide) ?_
            refine sx_goto (pc := 153) (tgt := 248) dX12_tests_153 (by decide) ?_
            refine sx_wk sx_s0 ?_
            exact tB_X12_tests_248 hG hP  h
          · have h := sx_neg c30 h
            refine sx_iconst (pc := 148) (v := 1) dX12_tests_148 (by decide) ?_
            refine sx_goto (pc := 149) (tgt := 248) dX12_tests_149 (by decide) ?_
            refine sx_wk sx_s0 ?_
            exact tB_X12_tests_248 hG hP  h
      · have h := sx_pos c17 h
        refine sx_iload_n (pc := 124) dX12_tests_124 sx_m0 ?_
        refine sx_iload_n (pc := 125) dX12_tests_125 sx_m1 ?_
        refine sx_icmp_gt (pc := 126) (tgt := 133) dX12_tests_126 (by decide) (fun c31 => ?_) (fun c31 => ?_)
        · have h := sx_pos c31 h
          refine sx_iconst (pc := 133) (v := 0) dX12_tests_133 (by decide) ?_
          refine sx_goto (pc := 134) (tgt := 248) dX12_tests_134 (by decide) ?_
          refine sx_wk sx_s0 ?_
          exact tB_X12_tests_248 hG hP  h
        · have h := sx_neg c31 h
          refine sx_iconst (pc := 129) (v := 1) dX12_tests_129 (by decide) ?_
          refine sx_goto (pc := 130) (tgt := 248) dX12_tests_130 (by decide) ?_
          refine sx_wk sx_s0 ?_
          exact tB_X12_tests_248 hG hP  h
    · have h := sx_pos c16 h
      refine sx_iload_n (pc := 105) dX12_tests_105 sx_m0 ?_
      refine sx_iload_n (pc := 106) dX12_tests_106 sx_m1 ?_
      refine sx_icmp_ge (pc := 107) (tgt := 114) dX12_tests_107 (by decide) (fun c32 => ?_) (fun c32 => ?_)
      · have h := sx_pos c32 h
        refine sx_iconst (pc := 114) (v := 0) dX12_tests_114 (by decide) ?_
        refine sx_goto (pc := 115) (tgt := 248) dX12_tests_115 (by decide) ?_
        refine sx_wk sx_s0 ?_
        exact tB_X12_tests_248 hG hP  h
      · have h := sx_neg c32 h
        refine sx_iconst (pc := 110) (v := 1) dX12_tests_110 (by decide) ?_
        refine sx_goto (pc := 111) (tgt := 248) dX12_tests_111 (by decide) ?_
        refine sx_wk sx_s0 ?_
        exact tB_X12_tests_248 hG hP  h
def B_X12_tests_300 (N : Nat)  (s1 : Int32) (V : sv_V) : Option sv_V := (F_X12_one s1 V).bind (fun (x35, V33) => (F_X12_push x35.toInt64 V33).bind (fun V36 => some V36))
set_option maxRecDepth 20000 in
theorem tB_X12_tests_300 {g : sx_G} (hG : sx_Go g) {P : Option Value → sv_V → Prop} {Vr : sv_V} (hP : P none Vr) {N : Nat}   {s1 : Int32} {V : sv_V} (h : B_X12_tests_300 N  s1 V = some Vr) : sv_N g qX12_tests 6 300 [] [.int s1, .ref 146] V P := by
  unfold B_X12_tests_300 at h
  obtain ⟨⟨x35, V33⟩, g34, h⟩ := sx_bnd h
  refine sv_cS (pc := 300) (y := qX12_one) (o := (some (.int x35))) (as := [.int s1]) (V1 := V33) dX12_tests_300 l_X12_690 y0X12_one ysX12_one rfl (Nat.le_of_ble_eq_true rfl) (by decide) (Nat.le_of_ble_eq_true rfl) rfl rfl rfl (t_X12_one hG ⟨rfl, rfl⟩ g34) ?_
  refine sx_i2l (pc := 303) dX12_tests_303 ?_
  obtain ⟨V36, g37, h⟩ := sx_bnd h
  refine sv_cV (pc := 304) (y := qX12_push) (o := none) (as := [.long x35.toInt64]) (V1 := V36) hG dX12_tests_304 l_X12_564 y0X12_push yvX12_push rfl (Nat.le_of_ble_eq_true rfl) lay_146 kr_12 (by decide) (Nat.le_of_ble_eq_true rfl) rfl rfl rfl (t_X12_push hG ⟨rfl, rfl⟩ g37) ?_
  exact sv_vret (pc := 307) dX12_tests_307 rfl h hP
def B_X12_tests_291 (N : Nat)  (s1 : Int64) (s2 : Int64) (V : sv_V) : Option sv_V := if (lg_cmp s1 s2) = 0 then (B_X12_tests_300 N  (1 : Int32) V) else (B_X12_tests_300 N  (0 : Int32) V)
set_option maxRecDepth 20000 in
theorem tB_X12_tests_291 {g : sx_G} (hG : sx_Go g) {P : Option Value → sv_V → Prop} {Vr : sv_V} (hP : P none Vr) {N : Nat}   {s1 : Int64} {s2 : Int64} {V : sv_V} (h : B_X12_tests_291 N  s1 s2 V = some Vr) : sv_N g qX12_tests 6 291 [] [.long s2, .long s1, .ref 146] V P := by
  unfold B_X12_tests_291 at h
  refine sx_lcmp (pc := 291) dX12_tests_291 ?_
  refine sx_if_ne (pc := 292) (tgt := 299) dX12_tests_292 (by decide) (fun c38 => ?_) (fun c38 => ?_)
  · have h := sx_neg c38 h
    refine sx_iconst (pc := 299) (v := 0) dX12_tests_299 (by decide) ?_
    refine sx_wk sx_s0 ?_
    exact tB_X12_tests_300 hG hP  h
  · have h := sx_pos c38 h
    refine sx_iconst (pc := 295) (v := 1) dX12_tests_295 (by decide) ?_
    refine sx_goto (pc := 296) (tgt := 300) dX12_tests_296 (by decide) ?_
    refine sx_wk sx_s0 ?_
    exact tB_X12_tests_300 hG hP  h
def B_X12_tests_256 (N : Nat)  (l1 : Int32) (V : sv_V) : Option sv_V := (F_X12_has (1 : Int32) V).bind (fun (x41, V39) => if x41 = 0 then (some V39) else ((F_X12_pop  V39).bind (fun (x45, V43) => (F_X12_rounded x45.toInt64 V43).bind (fun (x48, V46) => if l1 = (86 : Int32) then (B_X12_tests_291 N  (x48 &&& (127 : Int64)) (64 : Int64) V46) else (B_X12_tests_291 N  (x48 &&& (127 : Int64)) (0 : Int64) V46)))))
set_option maxRecDepth 20000 in
theorem tB_X12_tests_256 {g : sx_G} (hG : sx_Go g) {P : Option Value → sv_V → Prop} {Vr : sv_V} (hP : P none Vr) {N : Nat}   {l1 : Int32} {V : sv_V} (h : B_X12_tests_256 N  l1 V = some Vr) : sv_N g qX12_tests 6 256 [(0, .ref 146), (1, .int l1)] [] V P := by
  unfold B_X12_tests_256 at h
  refine sx_aload_n (pc := 256) dX12_tests_256 sx_m0 ?_
  refine sx_iconst (pc := 257) (v := 1) dX12_tests_257 (by decide) ?_
  obtain ⟨⟨x41, V39⟩, g40, h⟩ := sx_bnd h
  refine sv_cV (pc := 258) (y := qX12_has) (o := (some (.int x41))) (as := [.int (1 : Int32)]) (V1 := V39) hG dX12_tests_258 l_X12_576 y0X12_has yvX12_has rfl (Nat.le_of_ble_eq_true rfl) lay_146 kr_12 (by decide) (Nat.le_of_ble_eq_true rfl) rfl rfl rfl (t_X12_has hG ⟨rfl, rfl⟩ g40) ?_
  refine sx_if_eq (pc := 261) (tgt := 307) dX12_tests_261 (by decide) (fun c42 => ?_) (fun c42 => ?_)
  · have h := sx_pos c42 h
    exact sv_vret (pc := 307) dX12_tests_307 rfl h hP
  · have h := sx_neg c42 h
    refine sx_aload_n (pc := 264) dX12_tests_264 sx_m0 ?_
    refine sx_aload_n (pc := 265) dX12_tests_265 sx_m0 ?_
    refine sx_aload_n (pc := 266) dX12_tests_266 sx_m0 ?_
    obtain ⟨⟨x45, V43⟩, g44, h⟩ := sx_bnd h
    refine sv_cV (pc := 267) (y := qX12_pop) (o := (some (.int x45))) (as := []) (V1 := V43) hG dX12_tests_267 l_X12_579 y0X12_pop yvX12_pop rfl (Nat.le_of_ble_eq_true rfl) lay_146 kr_12 (by decide) (Nat.le_of_ble_eq_true rfl) rfl rfl rfl (t_X12_pop hG ⟨rfl, rfl⟩ g44) ?_
    refine sx_i2l (pc := 270) dX12_tests_270 ?_
    obtain ⟨⟨x48, V46⟩, g47, h⟩ := sx_bnd h
    refine sv_cV (pc := 271) (y := qX12_rounded) (o := (some (.long x48))) (as := [.long x45.toInt64]) (V1 := V46) hG dX12_tests_271 l_X12_647 y0X12_rounded yvX12_rounded rfl (Nat.le_of_ble_eq_true rfl) lay_146 kr_12 (by decide) (Nat.le_of_ble_eq_true rfl) rfl rfl rfl (t_X12_rounded hG ⟨rfl, rfl⟩ g47) ?_
    refine sx_ldc2 (pc := 274) dX12_tests_274 k_X12_694 ?_
    refine sx_land (pc := 277) dX12_tests_277 ?_
    refine sx_iload_n (pc := 278) dX12_tests_278 sx_m1 ?_
    refine sx_bipush (pc := 279) (v := 86) dX12_tests_279 (by decide) ?_
    refine sx_icmp_ne (pc := 281) (tgt := 290) dX12_tests_281 (by decide) (fun c49 => ?_) (fun c49 => ?_)
    · have h := sx_neg c49 h
      refine sx_lconst (pc := 290) (v := 0) dX12_tests_290 rfl ?_
      refine sx_wk sx_s0 ?_
      exact tB_X12_tests_291 hG hP  h
    · have h := sx_pos c49 h
      refine sx_ldc2 (pc := 284) dX12_tests_284 k_X12_338 ?_
      refine sx_goto (pc := 287) (tgt := 291) dX12_tests_287 (by decide) ?_
      refine sx_wk sx_s0 ?_
      exact tB_X12_tests_291 hG hP  h
def B_X12_tests_363 (N : Nat)  (s1 : Int32) (V : sv_V) : Option sv_V := (F_X12_one s1 V).bind (fun (x52, V50) => (F_X12_push x52.toInt64 V50).bind (fun V53 => some V53))
set_option maxRecDepth 20000 in
theorem tB_X12_tests_363 {g : sx_G} (hG : sx_Go g) {P : Option Value → sv_V → Prop} {Vr : sv_V} (hP : P none Vr) {N : Nat}   {s1 : Int32} {V : sv_V} (h : B_X12_tests_363 N  s1 V = some Vr) : sv_N g qX12_tests 6 363 [] [.int s1, .ref 146] V P := by
  unfold B_X12_tests_363 at h
  obtain ⟨⟨x52, V50⟩, g51, h⟩ := sx_bnd h
  refine sv_cS (pc := 363) (y := qX12_one) (o := (some (.int x52))) (as := [.int s1]) (V1 := V50) dX12_tests_363 l_X12_690 y0X12_one ysX12_one rfl (Nat.le_of_ble_eq_true rfl) (by decide) (Nat.le_of_ble_eq_true rfl) rfl rfl rfl (t_X12_one hG ⟨rfl, rfl⟩ g51) ?_
  refine sx_i2l (pc := 366) dX12_tests_366 ?_
  obtain ⟨V53, g54, h⟩ := sx_bnd h
  refine sv_cV (pc := 367) (y := qX12_push) (o := none) (as := [.long x52.toInt64]) (V1 := V53) hG dX12_tests_367 l_X12_564 y0X12_push yvX12_push rfl (Nat.le_of_ble_eq_true rfl) lay_146 kr_12 (by decide) (Nat.le_of_ble_eq_true rfl) rfl rfl rfl (t_X12_push hG ⟨rfl, rfl⟩ g54) ?_
  exact sv_vret (pc := 370) dX12_tests_370 rfl h hP
def F_X12_tests (N : Nat) (l1 : Int32) (V : sv_V) : Option sv_V := if l1 = 80 then (B_X12_tests_80 N  l1 V) else (if l1 = 81 then (B_X12_tests_80 N  l1 V) else (if l1 = 82 then (B_X12_tests_80 N  l1 V) else (if l1 = 83 then (B_X12_tests_80 N  l1 V) else (if l1 = 84 then (B_X12_tests_80 N  l1 V) else (if l1 = 85 then (B_X12_tests_80 N  l1 V) else (if l1 = 86 then (B_X12_tests_256 N  l1 V) else (if l1 = 87 then (B_X12_tests_256 N  l1 V) else (if l1 = 88 then ((F_X12_has (1 : Int32) V).bind (fun (x66, V64) => if x66 = 0 then (some V64) else ((F_X12_pop  V64).bind (fun (x70, V68) => if x70 = 0 then ((F_X12_pass N (V68.1 146 93) (27 : Int32) (89 : Int32) (1 : Int32) V68).bind (fun (x74, V72) => sx_let (sv_I V72 146 93 x74) (fun V75 => some V75))) else (some V68))))) else (if l1 = 89 then (some V) else (if l1 = 90 then (B_X12_tests_80 N  l1 V) else (if l1 = 91 then (B_X12_tests_80 N  l1 V) else (if l1 = 92 then ((F_X12_has (1 : Int32) V).bind (fun (x82, V80) => if x82 = 0 then (some V80) else ((F_X12_pop  V80).bind (fun (x86, V84) => if x86 = 0 then (B_X12_tests_363 N  (1 : Int32) V84) else (B_X12_tests_363 N  (0 : Int32) V84))))) else (if l1 = 93 then ((F_X12_deltas N (0 : Int32) (1 : Int32) V).bind (fun V89 => some V89)) else (if l1 = 94 then ((F_X12_has (1 : Int32) V).bind (fun (x94, V92) => if x94 = 0 then (sx_let (sv_I V92 146 85 (0 : Int32)) (fun V96 => some V96)) else ((F_X12_pop  V92).bind (fun (x99, V97) => sx_let (sv_I V97 146 85 x99) (fun V100 => some V100))))) else (if l1 = 95 then ((F_X12_has (1 : Int32) V).bind (fun (x104, V102) => if x104 = 0 then (some V102) else ((F_X12_pop  V102).bind (fun (x108, V106) => (F_X12_in x108.toInt64 (0 : Int64) (6 : Int64) V106).bind (fun (x111, V109) => if x111 = 0 then ((F_X12_fail (11 : Int32) V109).bind (fun V114 => sx_let (sv_I V114 146 86 x108) (fun V116 => some V116))) else (sx_let (sv_I V109 146 86 x108) (fun V113 => some V113))))))) else ((F_X12_unknown l1 V).bind (fun V117 => some V117)))))))))))))))))
set_option maxRecDepth 20000 in
theorem t_X12_tests {g : sx_G} (hG : sx_Go g) {P : Option Value → sv_V → Prop} {Vr : sv_V} (hP : P none Vr) {N : Nat} {l1 : Int32} {V : sv_V} (h : F_X12_tests N l1 V = some Vr) : sv_N g qX12_tests 6 0 [(0, .ref 146), (1, .int l1)] [] V P := by
  unfold F_X12_tests at h
  refine sx_iload_n (pc := 0) dX12_tests_0 sx_m1 ?_
  by_cases c55 : l1 = 80
  · have h := sx_pos c55 h
    refine sx_tabI (pc := 1) (off := 79) (tgt := 80) dX12_tests_1 (by rw [c55]; decide) (by rw [c55]; decide) (by rw [c55]; rfl) (by decide) ?_
    refine sx_wk (sx_s1 sx_m0 (sx_s1 sx_m1 sx_s0)) ?_
    exact tB_X12_tests_80 hG hP  h
  have h := sx_neg c55 h
  by_cases c56 : l1 = 81
  · have h := sx_pos c56 h
    refine sx_tabI (pc := 1) (off := 79) (tgt := 80) dX12_tests_1 (by rw [c56]; decide) (by rw [c56]; decide) (by rw [c56]; rfl) (by decide) ?_
    refine sx_wk (sx_s1 sx_m0 (sx_s1 sx_m1 sx_s0)) ?_
    exact tB_X12_tests_80 hG hP  h
  have h := sx_neg c56 h
  by_cases c57 : l1 = 82
  · have h := sx_pos c57 h
    refine sx_tabI (pc := 1) (off := 79) (tgt := 80) dX12_tests_1 (by rw [c57]; decide) (by rw [c57]; decide) (by rw [c57]; rfl) (by decide) ?_
    refine sx_wk (sx_s1 sx_m0 (sx_s1 sx_m1 sx_s0)) ?_
    exact tB_X12_tests_80 hG hP  h
  have h := sx_neg c57 h
  by_cases c58 : l1 = 83
  · have h := sx_pos c58 h
    refine sx_tabI (pc := 1) (off := 79) (tgt := 80) dX12_tests_1 (by rw [c58]; decide) (by rw [c58]; decide) (by rw [c58]; rfl) (by decide) ?_
    refine sx_wk (sx_s1 sx_m0 (sx_s1 sx_m1 sx_s0)) ?_
    exact tB_X12_tests_80 hG hP  h
  have h := sx_neg c58 h
  by_cases c59 : l1 = 84
  · have h := sx_pos c59 h
    refine sx_tabI (pc := 1) (off := 79) (tgt := 80) dX12_tests_1 (by rw [c59]; decide) (by rw [c59]; decide) (by rw [c59]; rfl) (by decide) ?_
    refine sx_wk (sx_s1 sx_m0 (sx_s1 sx_m1 sx_s0)) ?_
    exact tB_X12_tests_80 hG hP  h
  have h := sx_neg c59 h
  by_cases c60 : l1 = 85
  · have h := sx_pos c60 h
    refine sx_tabI (pc := 1) (off := 79) (tgt := 80) dX12_tests_1 (by rw [c60]; decide) (by rw [c60]; decide) (by rw [c60]; rfl) (by decide) ?_
    refine sx_wk (sx_s1 sx_m0 (sx_s1 sx_m1 sx_s0)) ?_
    exact tB_X12_tests_80 hG hP  h
  have h := sx_neg c60 h
  by_cases c61 : l1 = 86
  · have h := sx_pos c61 h
    refine sx_tabI (pc := 1) (off := 255) (tgt := 256) dX12_tests_1 (by rw [c61]; decide) (by rw [c61]; decide) (by rw [c61]; rfl) (by decide) ?_
    refine sx_wk (sx_s1 sx_m0 (sx_s1 sx_m1 sx_s0)) ?_
    exact tB_X12_tests_256 hG hP  h
  have h := sx_neg c61 h
  by_cases c62 : l1 = 87
  · have h := sx_pos c62 h
    refine sx_tabI (pc := 1) (off := 255) (tgt := 256) dX12_tests_1 (by rw [c62]; decide) (by rw [c62]; decide) (by rw [c62]; rfl) (by decide) ?_
    refine sx_wk (sx_s1 sx_m0 (sx_s1 sx_m1 sx_s0)) ?_
    exact tB_X12_tests_256 hG hP  h
  have h := sx_neg c62 h
  by_cases c63 : l1 = 88
  · have h := sx_pos c63 h
    refine sx_tabI (pc := 1) (off := 307) (tgt := 308) dX12_tests_1 (by rw [c63]; decide) (by rw [c63]; decide) (by rw [c63]; rfl) (by decide) ?_
    refine sx_aload_n (pc := 308) dX12_tests_308 sx_m0 ?_
    refine sx_iconst (pc := 309) (v := 1) dX12_tests_309 (by decide) ?_
    obtain ⟨⟨x66, V64⟩, g65, h⟩ := sx_bnd h
    refine sv_cV (pc := 310) (y := qX12_has) (o := (some (.int x66))) (as := [.int (1 : Int32)]) (V1 := V64) hG dX12_tests_310 l_X12_576 y0X12_has yvX12_has rfl (Nat.le_of_ble_eq_true rfl) lay_146 kr_12 (by decide) (Nat.le_of_ble_eq_true rfl) rfl rfl rfl (t_X12_has hG ⟨rfl, rfl⟩ g65) ?_
    refine sx_if_eq (pc := 313) (tgt := 340) dX12_tests_313 (by decide) (fun c67 => ?_) (fun c67 => ?_)
    · have h := sx_pos c67 h
      exact sv_vret (pc := 340) dX12_tests_340 rfl h hP
    · have h := sx_neg c67 h
      refine sx_aload_n (pc := 316) dX12_tests_316 sx_m0 ?_
      obtain ⟨⟨x70, V68⟩, g69, h⟩ := sx_bnd h
      refine sv_cV (pc := 317) (y := qX12_pop) (o := (some (.int x70))) (as := []) (V1 := V68) hG dX12_tests_317 l_X12_579 y0X12_pop yvX12_pop rfl (Nat.le_of_ble_eq_true rfl) lay_146 kr_12 (by decide) (Nat.le_of_ble_eq_true rfl) rfl rfl rfl (t_X12_pop hG ⟨rfl, rfl⟩ g69) ?_
      refine sx_if_ne (pc := 320) (tgt := 340) dX12_tests_320 (by decide) (fun c71 => ?_) (fun c71 => ?_)
      · have h := sx_neg c71 h
        exact sv_vret (pc := 340) dX12_tests_340 rfl h hP
      · have h := sx_pos c71 h
        refine sx_aload_n (pc := 323) dX12_tests_323 sx_m0 ?_
        refine sx_aload_n (pc := 324) dX12_tests_324 sx_m0 ?_
        refine sx_aload_n (pc := 325) dX12_tests_325 sx_m0 ?_
        refine sv_getI (pc := 326) hG dX12_tests_326 f_12_496 lay_146 rfl ?_
        refine sx_bipush (pc := 329) (v := 27) dX12_tests_329 (by decide) ?_
        refine sx_bipush (pc := 331) (v := 89) dX12_tests_331 (by decide) ?_
        refine sx_iconst (pc := 333) (v := 1) dX12_tests_333 (by decide) ?_
        obtain ⟨⟨x74, V72⟩, g73, h⟩ := sx_bnd h
        refine sv_cV (pc := 334) (y := qX12_pass) (o := (some (.int x74))) (as := [.int (V68.1 146 93), .int (27 : Int32), .int (89 : Int32), .int (1 : Int32)]) (V1 := V72) hG dX12_tests_334 l_X12_598 y0X12_pass yvX12_pass rfl (Nat.le_of_ble_eq_true rfl) lay_146 kr_12 (by decide) (Nat.le_of_ble_eq_true rfl) rfl rfl rfl (t_X12_pass hG ⟨rfl, rfl⟩ g73) ?_
        obtain ⟨V75, hV75⟩ : ∃ z : sv_V, z = sv_I V72 146 93 x74 := ⟨_, rfl⟩
        have h := sx_letE hV75 h
        refine sv_putI (pc := 337) hG dX12_tests_337 f_12_496 lay_146 rfl hV75 ?_
        exact sv_vret (pc := 340) dX12_tests_340 rfl h hP
  have h := sx_neg c63 h
  by_cases c76 : l1 = 89
  · have h := sx_pos c76 h
    refine sx_tabI (pc := 1) (off := 340) (tgt := 341) dX12_tests_1 (by rw [c76]; decide) (by rw [c76]; decide) (by rw [c76]; rfl) (by decide) ?_
    exact sv_vret (pc := 341) dX12_tests_341 rfl h hP
  have h := sx_neg c76 h
  by_cases c77 : l1 = 90
  · have h := sx_pos c77 h
    refine sx_tabI (pc := 1) (off := 79) (tgt := 80) dX12_tests_1 (by rw [c77]; decide) (by rw [c77]; decide) (by rw [c77]; rfl) (by decide) ?_
    refine sx_wk (sx_s1 sx_m0 (sx_s1 sx_m1 sx_s0)) ?_
    exact tB_X12_tests_80 hG hP  h
  have h := sx_neg c77 h
  by_cases c78 : l1 = 91
  · have h := sx_pos c78 h
    refine sx_tabI (pc := 1) (off := 79) (tgt := 80) dX12_tests_1 (by rw [c78]; decide) (by rw [c78]; decide) (by rw [c78]; rfl) (by decide) ?_
    refine sx_wk (sx_s1 sx_m0 (sx_s1 sx_m1 sx_s0)) ?_
    exact tB_X12_tests_80 hG hP  h
  have h := sx_neg c78 h
  by_cases c79 : l1 = 92
  · have h := sx_pos c79 h
    refine sx_tabI (pc := 1) (off := 341) (tgt := 342) dX12_tests_1 (by rw [c79]; decide) (by rw [c79]; decide) (by rw [c79]; rfl) (by decide) ?_
    refine sx_aload_n (pc := 342) dX12_tests_342 sx_m0 ?_
    refine sx_iconst (pc := 343) (v := 1) dX12_tests_343 (by decide) ?_
    obtain ⟨⟨x82, V80⟩, g81, h⟩ := sx_bnd h
    refine sv_cV (pc := 344) (y := qX12_has) (o := (some (.int x82))) (as := [.int (1 : Int32)]) (V1 := V80) hG dX12_tests_344 l_X12_576 y0X12_has yvX12_has rfl (Nat.le_of_ble_eq_true rfl) lay_146 kr_12 (by decide) (Nat.le_of_ble_eq_true rfl) rfl rfl rfl (t_X12_has hG ⟨rfl, rfl⟩ g81) ?_
    refine sx_if_eq (pc := 347) (tgt := 370) dX12_tests_347 (by decide) (fun c83 => ?_) (fun c83 => ?_)
    · have h := sx_pos c83 h
      exact sv_vret (pc := 370) dX12_tests_370 rfl h hP
    · have h := sx_neg c83 h
      refine sx_aload_n (pc := 350) dX12_tests_350 sx_m0 ?_
      refine sx_aload_n (pc := 351) dX12_tests_351 sx_m0 ?_
      obtain ⟨⟨x86, V84⟩, g85, h⟩ := sx_bnd h
      refine sv_cV (pc := 352) (y := qX12_pop) (o := (some (.int x86))) (as := []) (V1 := V84) hG dX12_tests_352 l_X12_579 y0X12_pop yvX12_pop rfl (Nat.le_of_ble_eq_true rfl) lay_146 kr_12 (by decide) (Nat.le_of_ble_eq_true rfl) rfl rfl rfl (t_X12_pop hG ⟨rfl, rfl⟩ g85) ?_
      refine sx_if_ne (pc := 355) (tgt := 362) dX12_tests_355 (by decide) (fun c87 => ?_) (fun c87 => ?_)
      · have h := sx_neg c87 h
        refine sx_iconst (pc := 362) (v := 0) dX12_tests_362 (by decide) ?_
        refine sx_wk sx_s0 ?_
        exact tB_X12_tests_363 hG hP  h
      · have h := sx_pos c87 h
        refine sx_iconst (pc := 358) (v := 1) dX12_tests_358 (by decide) ?_
        refine sx_goto (pc := 359) (tgt := 363) dX12_tests_359 (by decide) ?_
        refine sx_wk sx_s0 ?_
        exact tB_X12_tests_363 hG hP  h
  have h := sx_neg c79 h
  by_cases c88 : l1 = 93
  · have h := sx_pos c88 h
    refine sx_tabI (pc := 1) (off := 370) (tgt := 371) dX12_tests_1 (by rw [c88]; decide) (by rw [c88]; decide) (by rw [c88]; rfl) (by decide) ?_
    refine sx_aload_n (pc := 371) dX12_tests_371 sx_m0 ?_
    refine sx_iconst (pc := 372) (v := 0) dX12_tests_372 (by decide) ?_
    refine sx_iconst (pc := 373) (v := 1) dX12_tests_373 (by decide) ?_
    obtain ⟨V89, g90, h⟩ := sx_bnd h
    refine sv_cV (pc := 374) (y := qX12_deltas) (o := none) (as := [.int (0 : Int32), .int (1 : Int32)]) (V1 := V89) hG dX12_tests_374 l_X12_696 y0X12_deltas yvX12_deltas rfl (Nat.le_of_ble_eq_true rfl) lay_146 kr_12 (by decide) (Nat.le_of_ble_eq_true rfl) rfl rfl rfl (t_X12_deltas hG ⟨rfl, rfl⟩ g90) ?_
    exact sv_vret (pc := 377) dX12_tests_377 rfl h hP
  have h := sx_neg c88 h
  by_cases c91 : l1 = 94
  · have h := sx_pos c91 h
    refine sx_tabI (pc := 1) (off := 377) (tgt := 378) dX12_tests_1 (by rw [c91]; decide) (by rw [c91]; decide) (by rw [c91]; rfl) (by decide) ?_
    refine sx_aload_n (pc := 378) dX12_tests_378 sx_m0 ?_
    refine sx_aload_n (pc := 379) dX12_tests_379 sx_m0 ?_
    refine sx_iconst (pc := 380) (v := 1) dX12_tests_380 (by decide) ?_
    obtain ⟨⟨x94, V92⟩, g93, h⟩ := sx_bnd h
    refine sv_cV (pc := 381) (y := qX12_has) (o := (some (.int x94))) (as := [.int (1 : Int32)]) (V1 := V92) hG dX12_tests_381 l_X12_576 y0X12_has yvX12_has rfl (Nat.le_of_ble_eq_true rfl) lay_146 kr_12 (by decide) (Nat.le_of_ble_eq_true rfl) rfl rfl rfl (t_X12_has hG ⟨rfl, rfl⟩ g93) ?_
    refine sx_if_eq (pc := 384) (tgt := 394) dX12_tests_384 (by decide) (fun c95 => ?_) (fun c95 => ?_)
    · have h := sx_pos c95 h
      refine sx_iconst (pc := 394) (v := 0) dX12_tests_394 (by decide) ?_
      obtain ⟨V96, hV96⟩ : ∃ z : sv_V, z = sv_I V92 146 85 (0 : Int32) := ⟨_, rfl⟩
      have h := sx_letE hV96 h
      refine sv_putI (pc := 395) hG dX12_tests_395 f_12_700 lay_146 rfl hV96 ?_
      exact sv_vret (pc := 398) dX12_tests_398 rfl h hP
    · have h := sx_neg c95 h
      refine sx_aload_n (pc := 387) dX12_tests_387 sx_m0 ?_
      obtain ⟨⟨x99, V97⟩, g98, h⟩ := sx_bnd h
      refine sv_cV (pc := 388) (y := qX12_pop) (o := (some (.int x99))) (as := []) (V1 := V97) hG dX12_tests_388 l_X12_579 y0X12_pop yvX12_pop rfl (Nat.le_of_ble_eq_true rfl) lay_146 kr_12 (by decide) (Nat.le_of_ble_eq_true rfl) rfl rfl rfl (t_X12_pop hG ⟨rfl, rfl⟩ g98) ?_
      refine sx_goto (pc := 391) (tgt := 395) dX12_tests_391 (by decide) ?_
      obtain ⟨V100, hV100⟩ : ∃ z : sv_V, z = sv_I V97 146 85 x99 := ⟨_, rfl⟩
      have h := sx_letE hV100 h
      refine sv_putI (pc := 395) hG dX12_tests_395 f_12_700 lay_146 rfl hV100 ?_
      exact sv_vret (pc := 398) dX12_tests_398 rfl h hP
  have h := sx_neg c91 h
  by_cases c101 : l1 = 95
  · have h := sx_pos c101 h
    refine sx_tabI (pc := 1) (off := 398) (tgt := 399) dX12_tests_1 (by rw [c101]; decide) (by rw [c101]; decide) (by rw [c101]; rfl) (by decide) ?_
    refine sx_aload_n (pc := 399) dX12_tests_399 sx_m0 ?_
    refine sx_iconst (pc := 400) (v := 1) dX12_tests_400 (by decide) ?_
    obtain ⟨⟨x104, V102⟩, g103, h⟩ := sx_bnd h
    refine sv_cV (pc := 401) (y := qX12_has) (o := (some (.int x104))) (as := [.int (1 : Int32)]) (V1 := V102) hG dX12_tests_401 l_X12_576 y0X12_has yvX12_has rfl (Nat.le_of_ble_eq_true rfl) lay_146 kr_12 (by decide) (Nat.le_of_ble_eq_true rfl) rfl rfl rfl (t_X12_has hG ⟨rfl, rfl⟩ g103) ?_
    refine sx_if_eq (pc := 404) (tgt := 435) dX12_tests_404 (by decide) (fun c105 => ?_) (fun c105 => ?_)
    · have h := sx_pos c105 h
      exact sv_vret (pc := 435) dX12_tests_435 rfl h hP
    · have h := sx_neg c105 h
      refine sx_aload_n (pc := 407) dX12_tests_407 sx_m0 ?_
      obtain ⟨⟨x108, V106⟩, g107, h⟩ := sx_bnd h
      refine sv_cV (pc := 408) (y := qX12_pop) (o := (some (.int x108))) (as := []) (V1 := V106) hG dX12_tests_408 l_X12_579 y0X12_pop yvX12_pop rfl (Nat.le_of_ble_eq_true rfl) lay_146 kr_12 (by decide) (Nat.le_of_ble_eq_true rfl) rfl rfl rfl (t_X12_pop hG ⟨rfl, rfl⟩ g107) ?_
      refine sx_istore_n (pc := 411) (lo' := [(2, .int x108), (0, .ref 146), (1, .int l1)]) dX12_tests_411 (by decide) rfl ?_
      refine sx_iload_n (pc := 412) dX12_tests_412 sx_m0 ?_
      refine sx_i2l (pc := 413) dX12_tests_413 ?_
      refine sx_lconst (pc := 414) (v := 0) dX12_tests_414 rfl ?_
      refine sx_ldc2 (pc := 415) dX12_tests_415 k_X12_382 ?_
      obtain ⟨⟨x111, V109⟩, g110, h⟩ := sx_bnd h
      refine sv_cS (pc := 418) (y := qX12_in) (o := (some (.int x111))) (as := [.long x108.toInt64, .long (0 : Int64), .long (6 : Int64)]) (V1 := V109) dX12_tests_418 l_X12_263 y0X12_in ysX12_in rfl (Nat.le_of_ble_eq_true rfl) (by decide) (Nat.le_of_ble_eq_true rfl) rfl rfl rfl (t_X12_in hG ⟨rfl, rfl⟩ g110) ?_
      refine sx_if_ne (pc := 421) (tgt := 430) dX12_tests_421 (by decide) (fun c112 => ?_) (fun c112 => ?_)
      · have h := sx_neg c112 h
        refine sx_aload_n (pc := 430) dX12_tests_430 sx_m1 ?_
        refine sx_iload_n (pc := 431) dX12_tests_431 sx_m0 ?_
        obtain ⟨V113, hV113⟩ : ∃ z : sv_V, z = sv_I V109 146 86 x108 := ⟨_, rfl⟩
        have h := sx_letE hV113 h
        refine sv_putI (pc := 432) hG dX12_tests_432 f_12_703 lay_146 rfl hV113 ?_
        exact sv_vret (pc := 435) dX12_tests_435 rfl h hP
      · have h := sx_pos c112 h
        refine sx_aload_n (pc := 424) dX12_tests_424 sx_m1 ?_
        refine sx_bipush (pc := 425) (v := 11) dX12_tests_425 (by decide) ?_
        obtain ⟨V114, g115, h⟩ := sx_bnd h
        refine sv_cV (pc := 427) (y := qX12_fail) (o := none) (as := [.int (11 : Int32)]) (V1 := V114) hG dX12_tests_427 l_X12_421 y0X12_fail yvX12_fail rfl (Nat.le_of_ble_eq_true rfl) lay_146 kr_12 (by decide) (Nat.le_of_ble_eq_true rfl) rfl rfl rfl (t_X12_fail hG ⟨rfl, rfl⟩ g115) ?_
        refine sx_aload_n (pc := 430) dX12_tests_430 sx_m1 ?_
        refine sx_iload_n (pc := 431) dX12_tests_431 sx_m0 ?_
        obtain ⟨V116, hV116⟩ : ∃ z : sv_V, z = sv_I V114 146 86 x108 := ⟨_, rfl⟩
        have h := sx_letE hV116 h
        refine sv_putI (pc := 432) hG dX12_tests_432 f_12_703 lay_146 rfl hV116 ?_
        exact sv_vret (pc := 435) dX12_tests_435 rfl h hP
  have h := sx_neg c101 h
  refine sx_tabO (pc := 1) (tgt := 436) dX12_tests_1 (by have ec55 := lv_neT (a := 80) c55 rfl; have ec56 := lv_neT (a := 81) c56 rfl; have ec57 := lv_neT (a := 82) c57 rfl; have ec58 := lv_neT (a := 83) c58 rfl; have ec59 := lv_neT (a := 84) c59 rfl; have ec60 := lv_neT (a := 85) c60 rfl; have ec61 := lv_neT (a := 86) c61 rfl; have ec62 := lv_neT (a := 87) c62 rfl; have ec63 := lv_neT (a := 88) c63 rfl; have ec76 := lv_neT (a := 89) c76 rfl; have ec77 := lv_neT (a := 90) c77 rfl; have ec78 := lv_neT (a := 91) c78 rfl; have ec79 := lv_neT (a := 92) c79 rfl; have ec88 := lv_neT (a := 93) c88 rfl; have ec91 := lv_neT (a := 94) c91 rfl; have ec101 := lv_neT (a := 95) c101 rfl; omega) (by decide) ?_
  refine sx_aload_n (pc := 436) dX12_tests_436 sx_m0 ?_
  refine sx_iload_n (pc := 437) dX12_tests_437 sx_m1 ?_
  obtain ⟨V117, g118, h⟩ := sx_bnd h
  refine sv_cV (pc := 438) (y := qX12_unknown) (o := none) (as := [.int l1]) (V1 := V117) hG dX12_tests_438 l_X12_650 y0X12_unknown yvX12_unknown rfl (Nat.le_of_ble_eq_true rfl) lay_146 kr_12 (by decide) (Nat.le_of_ble_eq_true rfl) rfl rfl rfl (t_X12_unknown hG ⟨rfl, rfl⟩ g118) ?_
  exact sv_vret (pc := 441) dX12_tests_441 rfl h hP
theorem dX12_loops_0 : decode cX12_loops 0 = .ok (.aload_n 0, 1) := by decide +kernel
theorem dX12_loops_1 : decode cX12_loops 1 = .ok (.iload_n 1, 1) := by decide +kernel
theorem dX12_loops_2 : decode cX12_loops 2 = .ok (.bipush 56, 2) := by decide +kernel
theorem dX12_loops_4 : decode cX12_loops 4 = .ok (.if_icmp .ne 12, 3) := by decide +kernel
theorem dX12_loops_7 : decode cX12_loops 7 = .ok (.aload_n 0, 1) := by decide +kernel
theorem dX12_loops_8 : decode cX12_loops 8 = .ok (.getfield 469, 3) := by decide +kernel
theorem dX12_loops_11 : decode cX12_loops 11 = .ok (.iconst 1, 1) := by decide +kernel
theorem dX12_loops_12 : decode cX12_loops 12 = .ok (.iadd, 1) := by decide +kernel
theorem dX12_loops_13 : decode cX12_loops 13 = .ok (.goto 7, 3) := by decide +kernel
theorem dX12_loops_16 : decode cX12_loops 16 = .ok (.aload_n 0, 1) := by decide +kernel
theorem dX12_loops_17 : decode cX12_loops 17 = .ok (.getfield 469, 3) := by decide +kernel
theorem dX12_loops_20 : decode cX12_loops 20 = .ok (.invokevirtual 576, 3) := by decide +kernel
theorem dX12_loops_23 : decode cX12_loops 23 = .ok (.ifCond .ne 4, 3) := by decide +kernel
theorem dX12_loops_26 : decode cX12_loops 26 = .ok (.return_, 1) := by decide +kernel
theorem dX12_loops_27 : decode cX12_loops 27 = .ok (.iload_n 1, 1) := by decide +kernel
theorem dX12_loops_28 : decode cX12_loops 28 = .ok (.bipush 56, 2) := by decide +kernel
theorem dX12_loops_30 : decode cX12_loops 30 = .ok (.if_icmp .ne 10, 3) := by decide +kernel
theorem dX12_loops_33 : decode cX12_loops 33 = .ok (.aload_n 0, 1) := by decide +kernel
theorem dX12_loops_34 : decode cX12_loops 34 = .ok (.invokevirtual 579, 3) := by decide +kernel
theorem dX12_loops_37 : decode cX12_loops 37 = .ok (.goto 4, 3) := by decide +kernel
theorem dX12_loops_40 : decode cX12_loops 40 = .ok (.iconst 0, 1) := by decide +kernel
theorem dX12_loops_41 : decode cX12_loops 41 = .ok (.istore_n 2, 1) := by decide +kernel
theorem dX12_loops_42 : decode cX12_loops 42 = .ok (.iconst 0, 1) := by decide +kernel
theorem dX12_loops_43 : decode cX12_loops 43 = .ok (.istore_n 3, 1) := by decide +kernel
theorem dX12_loops_44 : decode cX12_loops 44 = .ok (.iload_n 3, 1) := by decide +kernel
theorem dX12_loops_45 : decode cX12_loops 45 = .ok (.aload_n 0, 1) := by decide +kernel
theorem dX12_loops_46 : decode cX12_loops 46 = .ok (.getfield 469, 3) := by decide +kernel
theorem dX12_loops_49 : decode cX12_loops 49 = .ok (.if_icmp .ge 179, 3) := by decide +kernel
theorem dX12_loops_52 : decode cX12_loops 52 = .ok (.aload_n 0, 1) := by decide +kernel
theorem dX12_loops_53 : decode cX12_loops 53 = .ok (.getfield 409, 3) := by decide +kernel
theorem dX12_loops_56 : decode cX12_loops 56 = .ok (.ifCond .ne 172, 3) := by decide +kernel
theorem dX12_loops_59 : decode cX12_loops 59 = .ok (.aload_n 0, 1) := by decide +kernel
theorem dX12_loops_60 : decode cX12_loops 60 = .ok (.iload_n 1, 1) := by decide +kernel
theorem dX12_loops_61 : decode cX12_loops 61 = .ok (.bipush 60, 2) := by decide +kernel
theorem dX12_loops_63 : decode cX12_loops 63 = .ok (.if_icmp .ne 10, 3) := by decide +kernel
theorem dX12_loops_66 : decode cX12_loops 66 = .ok (.aload_n 0, 1) := by decide +kernel
theorem dX12_loops_67 : decode cX12_loops 67 = .ok (.getfield 463, 3) := by decide +kernel
theorem dX12_loops_70 : decode cX12_loops 70 = .ok (.goto 7, 3) := by decide +kernel
theorem dX12_loops_73 : decode cX12_loops 73 = .ok (.aload_n 0, 1) := by decide +kernel
theorem dX12_loops_74 : decode cX12_loops 74 = .ok (.getfield 466, 3) := by decide +kernel
theorem dX12_loops_77 : decode cX12_loops 77 = .ok (.aload_n 0, 1) := by decide +kernel
theorem dX12_loops_78 : decode cX12_loops 78 = .ok (.invokevirtual 579, 3) := by decide +kernel
theorem dX12_loops_81 : decode cX12_loops 81 = .ok (.invokevirtual 582, 3) := by decide +kernel
theorem dX12_loops_84 : decode cX12_loops 84 = .ok (.istore 4, 2) := by decide +kernel
theorem dX12_loops_86 : decode cX12_loops 86 = .ok (.aload_n 0, 1) := by decide +kernel
theorem dX12_loops_87 : decode cX12_loops 87 = .ok (.getfield 409, 3) := by decide +kernel
theorem dX12_loops_90 : decode cX12_loops 90 = .ok (.ifCond .ne 132, 3) := by decide +kernel
theorem dX12_loops_93 : decode cX12_loops 93 = .ok (.iload_n 1, 1) := by decide +kernel
theorem dX12_loops_94 : decode cX12_loops 94 = .ok (.bipush 56, 2) := by decide +kernel
theorem dX12_loops_96 : decode cX12_loops 96 = .ok (.if_icmp .ne 74, 3) := by decide +kernel
theorem dX12_loops_99 : decode cX12_loops 99 = .ok (.aload_n 0, 1) := by decide +kernel
theorem dX12_loops_100 : decode cX12_loops 100 = .ok (.getfield 76, 3) := by decide +kernel
theorem dX12_loops_103 : decode cX12_loops 103 = .ok (.iload 4, 2) := by decide +kernel
theorem dX12_loops_105 : decode cX12_loops 105 = .ok (.aload_n 0, 1) := by decide +kernel
theorem dX12_loops_106 : decode cX12_loops 106 = .ok (.getfield 76, 3) := by decide +kernel
theorem dX12_loops_109 : decode cX12_loops 109 = .ok (.iload 4, 2) := by decide +kernel
theorem dX12_loops_111 : decode cX12_loops 111 = .ok (.iaload, 1) := by decide +kernel
theorem dX12_loops_112 : decode cX12_loops 112 = .ok (.i2l, 1) := by decide +kernel
theorem dX12_loops_113 : decode cX12_loops 113 = .ok (.iload_n 2, 1) := by decide +kernel
theorem dX12_loops_114 : decode cX12_loops 114 = .ok (.i2l, 1) := by decide +kernel
theorem dX12_loops_115 : decode cX12_loops 115 = .ok (.aload_n 0, 1) := by decide +kernel
theorem dX12_loops_116 : decode cX12_loops 116 = .ok (.getfield 433, 3) := by decide +kernel
theorem dX12_loops_119 : decode cX12_loops 119 = .ok (.i2l, 1) := by decide +kernel
theorem dX12_loops_120 : decode cX12_loops 120 = .ok (.lmul, 1) := by decide +kernel
theorem dX12_loops_121 : decode cX12_loops 121 = .ok (.ldc2_w 310, 3) := by decide +kernel
theorem dX12_loops_124 : decode cX12_loops 124 = .ok (.invokestatic 517, 3) := by decide +kernel
theorem dX12_loops_127 : decode cX12_loops 127 = .ok (.ladd, 1) := by decide +kernel
theorem dX12_loops_128 : decode cX12_loops 128 = .ok (.l2i, 1) := by decide +kernel
theorem dX12_loops_129 : decode cX12_loops 129 = .ok (.iastore, 1) := by decide +kernel
theorem dX12_loops_130 : decode cX12_loops 130 = .ok (.aload_n 0, 1) := by decide +kernel
theorem dX12_loops_131 : decode cX12_loops 131 = .ok (.getfield 79, 3) := by decide +kernel
theorem dX12_loops_134 : decode cX12_loops 134 = .ok (.iload 4, 2) := by decide +kernel
theorem dX12_loops_136 : decode cX12_loops 136 = .ok (.aload_n 0, 1) := by decide +kernel
theorem dX12_loops_137 : decode cX12_loops 137 = .ok (.getfield 79, 3) := by decide +kernel
theorem dX12_loops_140 : decode cX12_loops 140 = .ok (.iload 4, 2) := by decide +kernel
theorem dX12_loops_142 : decode cX12_loops 142 = .ok (.iaload, 1) := by decide +kernel
theorem dX12_loops_143 : decode cX12_loops 143 = .ok (.i2l, 1) := by decide +kernel
theorem dX12_loops_144 : decode cX12_loops 144 = .ok (.iload_n 2, 1) := by decide +kernel
theorem dX12_loops_145 : decode cX12_loops 145 = .ok (.i2l, 1) := by decide +kernel
theorem dX12_loops_146 : decode cX12_loops 146 = .ok (.aload_n 0, 1) := by decide +kernel
theorem dX12_loops_147 : decode cX12_loops 147 = .ok (.getfield 436, 3) := by decide +kernel
theorem dX12_loops_150 : decode cX12_loops 150 = .ok (.i2l, 1) := by decide +kernel
theorem dX12_loops_151 : decode cX12_loops 151 = .ok (.lmul, 1) := by decide +kernel
theorem dX12_loops_152 : decode cX12_loops 152 = .ok (.ldc2_w 310, 3) := by decide +kernel
theorem dX12_loops_155 : decode cX12_loops 155 = .ok (.invokestatic 517, 3) := by decide +kernel
theorem dX12_loops_158 : decode cX12_loops 158 = .ok (.ladd, 1) := by decide +kernel
theorem dX12_loops_159 : decode cX12_loops 159 = .ok (.l2i, 1) := by decide +kernel
theorem dX12_loops_160 : decode cX12_loops 160 = .ok (.iastore, 1) := by decide +kernel
theorem dX12_loops_161 : decode cX12_loops 161 = .ok (.aload_n 0, 1) := by decide +kernel
theorem dX12_loops_162 : decode cX12_loops 162 = .ok (.iload 4, 2) := by decide +kernel
theorem dX12_loops_164 : decode cX12_loops 164 = .ok (.invokevirtual 526, 3) := by decide +kernel
theorem dX12_loops_167 : decode cX12_loops 167 = .ok (.goto 55, 3) := by decide +kernel
theorem dX12_loops_170 : decode cX12_loops 170 = .ok (.iload_n 1, 1) := by decide +kernel
theorem dX12_loops_171 : decode cX12_loops 171 = .ok (.bipush 60, 2) := by decide +kernel
theorem dX12_loops_173 : decode cX12_loops 173 = .ok (.if_icmp .ne 43, 3) := by decide +kernel
theorem dX12_loops_176 : decode cX12_loops 176 = .ok (.aload_n 0, 1) := by decide +kernel
theorem dX12_loops_177 : decode cX12_loops 177 = .ok (.aload_n 0, 1) := by decide +kernel
theorem dX12_loops_178 : decode cX12_loops 178 = .ok (.getfield 460, 3) := by decide +kernel
theorem dX12_loops_181 : decode cX12_loops 181 = .ok (.aload_n 0, 1) := by decide +kernel
theorem dX12_loops_182 : decode cX12_loops 182 = .ok (.getfield 451, 3) := by decide +kernel
theorem dX12_loops_185 : decode cX12_loops 185 = .ok (.invokevirtual 582, 3) := by decide +kernel
theorem dX12_loops_188 : decode cX12_loops 188 = .ok (.istore 5, 2) := by decide +kernel
theorem dX12_loops_190 : decode cX12_loops 190 = .ok (.aload_n 0, 1) := by decide +kernel
theorem dX12_loops_191 : decode cX12_loops 191 = .ok (.getfield 409, 3) := by decide +kernel
theorem dX12_loops_194 : decode cX12_loops 194 = .ok (.ifCond .ne 19, 3) := by decide +kernel
theorem dX12_loops_197 : decode cX12_loops 197 = .ok (.aload_n 0, 1) := by decide +kernel
theorem dX12_loops_198 : decode cX12_loops 198 = .ok (.iload 4, 2) := by decide +kernel
theorem dX12_loops_200 : decode cX12_loops 200 = .ok (.aload_n 0, 1) := by decide +kernel
theorem dX12_loops_201 : decode cX12_loops 201 = .ok (.iload 4, 2) := by decide +kernel
theorem dX12_loops_203 : decode cX12_loops 203 = .ok (.iload 5, 2) := by decide +kernel
theorem dX12_loops_205 : decode cX12_loops 205 = .ok (.invokevirtual 627, 3) := by decide +kernel
theorem dX12_loops_208 : decode cX12_loops 208 = .ok (.i2l, 1) := by decide +kernel
theorem dX12_loops_209 : decode cX12_loops 209 = .ok (.lneg, 1) := by decide +kernel
theorem dX12_loops_210 : decode cX12_loops 210 = .ok (.invokevirtual 630, 3) := by decide +kernel
theorem dX12_loops_213 : decode cX12_loops 213 = .ok (.goto 9, 3) := by decide +kernel
theorem dX12_loops_216 : decode cX12_loops 216 = .ok (.aload_n 0, 1) := by decide +kernel
theorem dX12_loops_217 : decode cX12_loops 217 = .ok (.iload 4, 2) := by decide +kernel
theorem dX12_loops_219 : decode cX12_loops 219 = .ok (.invokevirtual 713, 3) := by decide +kernel
theorem dX12_loops_222 : decode cX12_loops 222 = .ok (.iinc 3 1, 3) := by decide +kernel
theorem dX12_loops_225 : decode cX12_loops 225 = .ok (.goto (-181), 3) := by decide +kernel
theorem dX12_loops_228 : decode cX12_loops 228 = .ok (.aload_n 0, 1) := by decide +kernel
theorem dX12_loops_229 : decode cX12_loops 229 = .ok (.iconst 1, 1) := by decide +kernel
theorem dX12_loops_230 : decode cX12_loops 230 = .ok (.putfield 469, 3) := by decide +kernel
theorem dX12_loops_233 : decode cX12_loops 233 = .ok (.return_, 1) := by decide +kernel
def B_X12_loops_222 (N : Nat) (k44 : Int32 → Int32 → Int32 → sv_V → Option sv_V) (l1 : Int32) (l2 : Int32) (l3 : Int32) (V : sv_V) : Option sv_V := sx_let (l3 + 1) (fun x1 => k44 l1 l2 x1 V)
set_option maxRecDepth 20000 in
theorem tB_X12_loops_222 {g : sx_G} (hG : sx_Go g) {P : Option Value → sv_V → Prop} {Vr : sv_V} (hP : P none Vr) {N : Nat} {k44 : Int32 → Int32 → Int32 → sv_V → Option sv_V} (hk44 : ∀ (l1 : Int32) (l2 : Int32) (l3 : Int32) (V : sv_V), k44 l1 l2 l3 V = some Vr → sv_N g qX12_loops 6 44 [(0, .ref 146), (1, .int l1), (2, .int l2), (3, .int l3)] [] V P) {l1 : Int32} {l2 : Int32} {l3 : Int32} {V : sv_V} (h : B_X12_loops_222 N k44 l1 l2 l3 V = some Vr) : sv_N g qX12_loops 6 222 [(0, .ref 146), (1, .int l1), (2, .int l2), (3, .int l3)] [] V P := by
  unfold B_X12_loops_222 at h
  obtain ⟨x1, hx1⟩ : ∃ z : Int32, z = l3 + 1 := ⟨_, rfl⟩
  have h := sx_letE hx1 h
  refine sx_iinc (pc := 222) (v := x1) (lo' := [(3, .int x1), (0, .ref 146), (1, .int l1), (2, .int l2)]) dX12_loops_222 sx_m3 (by rw [hx1]; rfl) (by decide) rfl ?_
  refine sx_goto (pc := 225) (tgt := 44) dX12_loops_225 (by decide) ?_
  refine sx_wk (sx_s1 sx_m1 (sx_s1 sx_m2 (sx_s1 sx_m3 (sx_s1 sx_m0 sx_s0)))) ?_
  exact hk44 _ _ _ _ h
def B_X12_loops_213 (N : Nat) (k44 : Int32 → Int32 → Int32 → sv_V → Option sv_V) (l1 : Int32) (l2 : Int32) (l3 : Int32) (V : sv_V) : Option sv_V := B_X12_loops_222 N k44 l1 l2 l3 V
set_option maxRecDepth 20000 in
theorem tB_X12_loops_213 {g : sx_G} (hG : sx_Go g) {P : Option Value → sv_V → Prop} {Vr : sv_V} (hP : P none Vr) {N : Nat} {k44 : Int32 → Int32 → Int32 → sv_V → Option sv_V} (hk44 : ∀ (l1 : Int32) (l2 : Int32) (l3 : Int32) (V : sv_V), k44 l1 l2 l3 V = some Vr → sv_N g qX12_loops 6 44 [(0, .ref 146), (1, .int l1), (2, .int l2), (3, .int l3)] [] V P) {l1 : Int32} {l2 : Int32} {l3 : Int32} {V : sv_V} (h : B_X12_loops_213 N k44 l1 l2 l3 V = some Vr) : sv_N g qX12_loops 6 213 [(0, .ref 146), (1, .int l1), (2, .int l2), (3, .int l3)] [] V P := by
  unfold B_X12_loops_213 at h
  refine sx_goto (pc := 213) (tgt := 222) dX12_loops_213 (by decide) ?_
  refine sx_wk (sx_s1 sx_m0 (sx_s1 sx_m1 (sx_s1 sx_m2 (sx_s1 sx_m3 sx_s0)))) ?_
  exact tB_X12_loops_222 hG hP hk44 h
def B_X12_loops_77 (N : Nat) (k44 : Int32 → Int32 → Int32 → sv_V → Option sv_V) (l1 : Int32) (l2 : Int32) (l3 : Int32) (s1 : Int32) (V : sv_V) : Option sv_V := (F_X12_pop  V).bind (fun (x4, V2) => (F_X12_pointOf s1 x4 V2).bind (fun (x7, V5) => if (V5.1 146 59) = 0 then (if l1 = (56 : Int32) then (if sx_in x7 204 = true then (F_X12_over (l2.toInt64 * ((V5.1 146 63).toInt64)) (16384 : Int64) V5).bind (fun (x25, V23) => if sx_in x7 204 = true then sx_let (sv_I V23 168 x7.toNatClampNeg ((((V5.1 168 x7.toNatClampNeg).toInt64) + x25).toInt32)) (fun V27 => if sx_in x7 204 = true then (F_X12_over (l2.toInt64 * ((V27.1 146 64).toInt64)) (16384 : Int64) V27).bind (fun (x31, V29) => if sx_in x7 204 = true then sx_let (sv_I V29 169 x7.toNatClampNeg ((((V27.1 169 x7.toNatClampNeg).toInt64) + x31).toInt32)) (fun V33 => (F_X12_touch x7 V33).bind (fun V34 => B_X12_loops_222 N k44 l1 l2 l3 V34)) else none) else none) else none) else none) else (if l1 = (60 : Int32) then ((F_X12_pointOf (V5.1 146 72) (V5.1 146 69) V5).bind (fun (x15, V13) => if (V13.1 146 59) = 0 then ((F_X12_between x7 x15 V13).bind (fun (x19, V17) => (F_X12_move x7 (-x19.toInt64) V17).bind (fun V20 => B_X12_loops_213 N k44 l1 l2 l3 V20))) else (B_X12_loops_213 N k44 l1 l2 l3 V13))) else ((F_X12_inBetween x7 V5).bind (fun V11 => B_X12_loops_222 N k44 l1 l2 l3 V11)))) else (B_X12_loops_222 N k44 l1 l2 l3 V5)))
set_option maxRecDepth 20000 in
theorem tB_X12_loops_77 {g : sx_G} (hG : sx_Go g) {P : Option Value → sv_V → Prop} {Vr : sv_V} (hP : P none Vr) {N : Nat} {k44 : Int32 → Int32 → Int32 → sv_V → Option sv_V} (hk44 : ∀ (l1 : Int32) (l2 : Int32) (l3 : Int32) (V : sv_V), k44 l1 l2 l3 V = some Vr → sv_N g qX12_loops 6 44 [(0, .ref 146), (1, .int l1), (2, .int l2), (3, .int l3)] [] V P) {l1 : Int32} {l2 : Int32} {l3 : Int32} {s1 : Int32} {V : sv_V} (h : B_X12_loops_77 N k44 l1 l2 l3 s1 V = some Vr) : sv_N g qX12_loops 6 77 [(0, .ref 146), (1, .int l1), (2, .int l2), (3, .int l3)] [.int s1, .ref 146] V P := by
  unfold B_X12_loops_77 at h
  refine sx_aload_n (pc := 77) dX12_loops_77 sx_m0 ?_
  obtain ⟨⟨x4, V2⟩, g3, h⟩ := sx_bnd h
  refine sv_cV (pc := 78) (y := qX12_pop) (o := (some (.int x4))) (as := []) (V1 := V2) hG dX12_loops_78 l_X12_579 y0X12_pop yvX12_pop rfl (Nat.le_of_ble_eq_true rfl) lay_146 kr_12 (by decide) (Nat.le_of_ble_eq_true rfl) rfl rfl rfl (t_X12_pop hG ⟨rfl, rfl⟩ g3) ?_
  obtain ⟨⟨x7, V5⟩, g6, h⟩ := sx_bnd h
  refine sv_cV (pc := 81) (y := qX12_pointOf) (o := (some (.int x7))) (as := [.int s1, .int x4]) (V1 := V5) hG dX12_loops_81 l_X12_582 y0X12_pointOf yvX12_pointOf rfl (Nat.le_of_ble_eq_true rfl) lay_146 kr_12 (by decide) (Nat.le_of_ble_eq_true rfl) rfl rfl rfl (t_X12_pointOf hG ⟨rfl, rfl⟩ g6) ?_
  refine sx_istore (pc := 84) (lo' := [(4, .int x7), (0, .ref 146), (1, .int l1), (2, .int l2), (3, .int l3)]) dX12_loops_84 (by decide) rfl ?_
  refine sx_aload_n (pc := 86) dX12_loops_86 sx_m1 ?_
  refine sv_getI (pc := 87) hG dX12_loops_87 f_12_409 lay_146 rfl ?_
  refine sx_if_ne (pc := 90) (tgt := 222) dX12_loops_90 (by decide) (fun c8 => ?_) (fun c8 => ?_)
  · have h := sx_neg c8 h
    refine sx_wk (sx_s1 sx_m1 (sx_s1 sx_m2 (sx_s1 sx_m3 (sx_s1 sx_m4 sx_s0)))) ?_
    exact tB_X12_loops_222 hG hP hk44 h
  · have h := sx_pos c8 h
    refine sx_iload_n (pc := 93) dX12_loops_93 sx_m2 ?_
    refine sx_bipush (pc := 94) (v := 56) dX12_loops_94 (by decide) ?_
    refine sx_icmp_ne (pc := 96) (tgt := 170) dX12_loops_96 (by decide) (fun c9 => ?_) (fun c9 => ?_)
    · have h := sx_neg c9 h
      refine sx_iload_n (pc := 170) dX12_loops_170 sx_m2 ?_
      refine sx_bipush (pc := 171) (v := 60) dX12_loops_171 (by decide) ?_
      refine sx_icmp_ne (pc := 173) (tgt := 216) dX12_loops_173 (by decide) (fun c10 => ?_) (fun c10 => ?_)
      · have h := sx_neg c10 h
        refine sx_aload_n (pc := 216) dX12_loops_216 sx_m1 ?_
        refine sx_iload (pc := 217) dX12_loops_217 sx_m0 ?_
        obtain ⟨V11, g12, h⟩ := sx_bnd h
        refine sv_cV (pc := 219) (y := qX12_inBetween) (o := none) (as := [.int x7]) (V1 := V11) hG dX12_loops_219 l_X12_713 y0X12_inBetween yvX12_inBetween rfl (Nat.le_of_ble_eq_true rfl) lay_146 kr_12 (by decide) (Nat.le_of_ble_eq_true rfl) rfl rfl rfl (t_X12_inBetween hG ⟨rfl, rfl⟩ g12) ?_
        refine sx_wk (sx_s1 sx_m1 (sx_s1 sx_m2 (sx_s1 sx_m3 (sx_s1 sx_m4 sx_s0)))) ?_
        exact tB_X12_loops_222 hG hP hk44 h
      · have h := sx_pos c10 h
        refine sx_aload_n (pc := 176) dX12_loops_176 sx_m1 ?_
        refine sx_aload_n (pc := 177) dX12_loops_177 sx_m1 ?_
        refine sv_getI (pc := 178) hG dX12_loops_178 f_12_460 lay_146 rfl ?_
        refine sx_aload_n (pc := 181) dX12_loops_181 sx_m1 ?_
        refine sv_getI (pc := 182) hG dX12_loops_182 f_12_451 lay_146 rfl ?_
        obtain ⟨⟨x15, V13⟩, g14, h⟩ := sx_bnd h
        refine sv_cV (pc := 185) (y := qX12_pointOf) (o := (some (.int x15))) (as := [.int (V5.1 146 72), .int (V5.1 146 69)]) (V1 := V13) hG dX12_loops_185 l_X12_582 y0X12_pointOf yvX12_pointOf rfl (Nat.le_of_ble_eq_true rfl) lay_146 kr_12 (by decide) (Nat.le_of_ble_eq_true rfl) rfl rfl rfl (t_X12_pointOf hG ⟨rfl, rfl⟩ g14) ?_
        refine sx_istore (pc := 188) (lo' := [(5, .int x15), (4, .int x7), (0, .ref 146), (1, .int l1), (2, .int l2), (3, .int l3)]) dX12_loops_188 (by decide) rfl ?_
        refine sx_aload_n (pc := 190) dX12_loops_190 sx_m2 ?_
        refine sv_getI (pc := 191) hG dX12_loops_191 f_12_409 lay_146 rfl ?_
        refine sx_if_ne (pc := 194) (tgt := 213) dX12_loops_194 (by decide) (fun c16 => ?_) (fun c16 => ?_)
        · have h := sx_neg c16 h
          refine sx_wk (sx_s1 sx_m2 (sx_s1 sx_m3 (sx_s1 sx_m4 (sx_s1 sx_m5 sx_s0)))) ?_
          exact tB_X12_loops_213 hG hP hk44 h
        · have h := sx_pos c16 h
          refine sx_aload_n (pc := 197) dX12_loops_197 sx_m2 ?_
          refine sx_iload (pc := 198) dX12_loops_198 sx_m1 ?_
          refine sx_aload_n (pc := 200) dX12_loops_200 sx_m2 ?_
          refine sx_iload (pc := 201) dX12_loops_201 sx_m1 ?_
          refine sx_iload (pc := 203) dX12_loops_203 sx_m0 ?_
          obtain ⟨⟨x19, V17⟩, g18, h⟩ := sx_bnd h
          refine sv_cV (pc := 205) (y := qX12_between) (o := (some (.int x19))) (as := [.int x7, .int x15]) (V1 := V17) hG dX12_loops_205 l_X12_627 y0X12_between yvX12_between rfl (Nat.le_of_ble_eq_true rfl) lay_146 kr_12 (by decide) (Nat.le_of_ble_eq_true rfl) rfl rfl rfl (t_X12_between hG ⟨rfl, rfl⟩ g18) ?_
          refine sx_i2l (pc := 208) dX12_loops_208 ?_
          refine sx_lneg (pc := 209) dX12_loops_209 ?_
          obtain ⟨V20, g21, h⟩ := sx_bnd h
          refine sv_cV (pc := 210) (y := qX12_move) (o := none) (as := [.int x7, .long (-x19.toInt64)]) (V1 := V20) hG dX12_loops_210 l_X12_630 y0X12_move yvX12_move rfl (Nat.le_of_ble_eq_true rfl) lay_146 kr_12 (by decide) (Nat.le_of_ble_eq_true rfl) rfl rfl rfl (t_X12_move hG ⟨rfl, rfl⟩ g21) ?_
          refine sx_wk (sx_s1 sx_m2 (sx_s1 sx_m3 (sx_s1 sx_m4 (sx_s1 sx_m5 sx_s0)))) ?_
          exact tB_X12_loops_213 hG hP hk44 h
    · have h := sx_pos c9 h
      refine sx_aload_n (pc := 99) dX12_loops_99 sx_m1 ?_
      refine sv_getA (pc := 100) hG dX12_loops_100 f_12_76 lay_146 rfl cr_146_48 ?_
      refine sx_iload (pc := 103) dX12_loops_103 sx_m0 ?_
      refine sx_aload_n (pc := 105) dX12_loops_105 sx_m1 ?_
      refine sv_getA (pc := 106) hG dX12_loops_106 f_12_76 lay_146 rfl cr_146_48 ?_
      refine sx_iload (pc := 109) dX12_loops_109 sx_m0 ?_
      obtain ⟨g22, h⟩ := sx_grd h
      refine sv_iald (pc := 111) hG dX12_loops_111 lay_168 g22 ?_
      refine sx_i2l (pc := 112) dX12_loops_112 ?_
      refine sx_iload_n (pc := 113) dX12_loops_113 sx_m3 ?_
      refine sx_i2l (pc := 114) dX12_loops_114 ?_
      refine sx_aload_n (pc := 115) dX12_loops_115 sx_m1 ?_
      refine sv_getI (pc := 116) hG dX12_loops_116 f_12_433 lay_146 rfl ?_
      refine sx_i2l (pc := 119) dX12_loops_119 ?_
      refine sx_lmul (pc := 120) dX12_loops_120 ?_
      refine sx_ldc2 (pc := 121) dX12_loops_121 k_X12_310 ?_
      obtain ⟨⟨x25, V23⟩, g24, h⟩ := sx_bnd h
      refine sv_cS (pc := 124) (y := qX12_over) (o := (some (.long x25))) (as := [.long (l2.toInt64 * ((V5.1 146 63).toInt64)), .long (16384 : Int64)]) (V1 := V23) dX12_loops_124 l_X12_517 y0X12_over ysX12_over rfl (Nat.le_of_ble_eq_true rfl) (by decide) (Nat.le_of_ble_eq_true rfl) rfl rfl rfl (t_X12_over hG ⟨rfl, rfl⟩ g24) ?_
      refine sx_ladd (pc := 127) dX12_loops_127 ?_
      refine sx_l2i (pc := 128) dX12_loops_128 ?_
      obtain ⟨g26, h⟩ := sx_grd h
      obtain ⟨V27, hV27⟩ : ∃ z : sv_V, z = sv_I V23 168 x7.toNatClampNeg ((((V5.1 168 x7.toNatClampNeg).toInt64) + x25).toInt32) := ⟨_, rfl⟩
      have h := sx_letE hV27 h
      refine sv_iast (pc := 129) hG dX12_loops_129 lay_168 g26 hV27 ?_
      refine sx_aload_n (pc := 130) dX12_loops_130 sx_m1 ?_
      refine sv_getA (pc := 131) hG dX12_loops_131 f_12_79 lay_146 rfl cr_146_49 ?_
      refine sx_iload (pc := 134) dX12_loops_134 sx_m0 ?_
      refine sx_aload_n (pc := 136) dX12_loops_136 sx_m1 ?_
      refine sv_getA (pc := 137) hG dX12_loops_137 f_12_79 lay_146 rfl cr_146_49 ?_
      refine sx_iload (pc := 140) dX12_loops_140 sx_m0 ?_
      obtain ⟨g28, h⟩ := sx_grd h
      refine sv_iald (pc := 142) hG dX12_loops_142 lay_169 g28 ?_
      refine sx_i2l (pc := 143) dX12_loops_143 ?_
      refine sx_iload_n (pc := 144) dX12_loops_144 sx_m3 ?_
      refine sx_i2l (pc := 145) dX12_loops_145 ?_
      refine sx_aload_n (pc := 146) dX12_loops_146 sx_m1 ?_
      refine sv_getI (pc := 147) hG dX12_loops_147 f_12_436 lay_146 rfl ?_
      refine sx_i2l (pc := 150) dX12_loops_150 ?_
      refine sx_lmul (pc := 151) dX12_loops_151 ?_
      refine sx_ldc2 (pc := 152) dX12_loops_152 k_X12_310 ?_
      obtain ⟨⟨x31, V29⟩, g30, h⟩ := sx_bnd h
      refine sv_cS (pc := 155) (y := qX12_over) (o := (some (.long x31))) (as := [.long (l2.toInt64 * ((V27.1 146 64).toInt64)), .long (16384 : Int64)]) (V1 := V29) dX12_loops_155 l_X12_517 y0X12_over ysX12_over rfl (Nat.le_of_ble_eq_true rfl) (by decide) (Nat.le_of_ble_eq_true rfl) rfl rfl rfl (t_X12_over hG ⟨rfl, rfl⟩ g30) ?_
      refine sx_ladd (pc := 158) dX12_loops_158 ?_
      refine sx_l2i (pc := 159) dX12_loops_159 ?_
      obtain ⟨g32, h⟩ := sx_grd h
      obtain ⟨V33, hV33⟩ : ∃ z : sv_V, z = sv_I V29 169 x7.toNatClampNeg ((((V27.1 169 x7.toNatClampNeg).toInt64) + x31).toInt32) := ⟨_, rfl⟩
      have h := sx_letE hV33 h
      refine sv_iast (pc := 160) hG dX12_loops_160 lay_169 g32 hV33 ?_
      refine sx_aload_n (pc := 161) dX12_loops_161 sx_m1 ?_
      refine sx_iload (pc := 162) dX12_loops_162 sx_m0 ?_
      obtain ⟨V34, g35, h⟩ := sx_bnd h
      refine sv_cV (pc := 164) (y := qX12_touch) (o := none) (as := [.int x7]) (V1 := V34) hG dX12_loops_164 l_X12_526 y0X12_touch yvX12_touch rfl (Nat.le_of_ble_eq_true rfl) lay_146 kr_12 (by decide) (Nat.le_of_ble_eq_true rfl) rfl rfl rfl (t_X12_touch hG ⟨rfl, rfl⟩ g35) ?_
      refine sx_goto (pc := 167) (tgt := 222) dX12_loops_167 (by decide) ?_
      refine sx_wk (sx_s1 sx_m1 (sx_s1 sx_m2 (sx_s1 sx_m3 (sx_s1 sx_m4 sx_s0)))) ?_
      exact tB_X12_loops_222 hG hP hk44 h
def B_X12_loops_44 (N : Nat) (k44 : Int32 → Int32 → Int32 → sv_V → Option sv_V) (l1 : Int32) (l2 : Int32) (l3 : Int32) (V : sv_V) : Option sv_V := if (V.1 146 75) ≤ l3 then (sx_let (sv_I V 146 75 (1 : Int32)) (fun V37 => some V37)) else (if (V.1 146 59) = 0 then (if l1 = (60 : Int32) then (B_X12_loops_77 N k44 l1 l2 l3 (V.1 146 73) V) else (B_X12_loops_77 N k44 l1 l2 l3 (V.1 146 74) V)) else (sx_let (sv_I V 146 75 (1 : Int32)) (fun V39 => some V39)))
set_option maxRecDepth 20000 in
theorem tB_X12_loops_44 {g : sx_G} (hG : sx_Go g) {P : Option Value → sv_V → Prop} {Vr : sv_V} (hP : P none Vr) {N : Nat} {k44 : Int32 → Int32 → Int32 → sv_V → Option sv_V} (hk44 : ∀ (l1 : Int32) (l2 : Int32) (l3 : Int32) (V : sv_V), k44 l1 l2 l3 V = some Vr → sv_N g qX12_loops 6 44 [(0, .ref 146), (1, .int l1), (2, .int l2), (3, .int l3)] [] V P) {l1 : Int32} {l2 : Int32} {l3 : Int32} {V : sv_V} (h : B_X12_loops_44 N k44 l1 l2 l3 V = some Vr) : sv_N g qX12_loops 6 44 [(0, .ref 146), (1, .int l1), (2, .int l2), (3, .int l3)] [] V P := by
  unfold B_X12_loops_44 at h
  refine sx_iload_n (pc := 44) dX12_loops_44 sx_m3 ?_
  refine sx_aload_n (pc := 45) dX12_loops_45 sx_m0 ?_
  refine sv_getI (pc := 46) hG dX12_loops_46 f_12_469 lay_146 rfl ?_
  refine sx_icmp_ge (pc := 49) (tgt := 228) dX12_loops_49 (by decide) (fun c36 => ?_) (fun c36 => ?_)
  · have h := sx_pos c36 h
    refine sx_aload_n (pc := 228) dX12_loops_228 sx_m0 ?_
    refine sx_iconst (pc := 229) (v := 1) dX12_loops_229 (by decide) ?_
    obtain ⟨V37, hV37⟩ : ∃ z : sv_V, z = sv_I V 146 75 (1 : Int32) := ⟨_, rfl⟩
    have h := sx_letE hV37 h
    refine sv_putI (pc := 230) hG dX12_loops_230 f_12_469 lay_146 rfl hV37 ?_
    exact sv_vret (pc := 233) dX12_loops_233 rfl h hP
  · have h := sx_neg c36 h
    refine sx_aload_n (pc := 52) dX12_loops_52 sx_m0 ?_
    refine sv_getI (pc := 53) hG dX12_loops_53 f_12_409 lay_146 rfl ?_
    refine sx_if_ne (pc := 56) (tgt := 228) dX12_loops_56 (by decide) (fun c38 => ?_) (fun c38 => ?_)
    · have h := sx_neg c38 h
      refine sx_aload_n (pc := 228) dX12_loops_228 sx_m0 ?_
      refine sx_iconst (pc := 229) (v := 1) dX12_loops_229 (by decide) ?_
      obtain ⟨V39, hV39⟩ : ∃ z : sv_V, z = sv_I V 146 75 (1 : Int32) := ⟨_, rfl⟩
      have h := sx_letE hV39 h
      refine sv_putI (pc := 230) hG dX12_loops_230 f_12_469 lay_146 rfl hV39 ?_
      exact sv_vret (pc := 233) dX12_loops_233 rfl h hP
    · have h := sx_pos c38 h
      refine sx_aload_n (pc := 59) dX12_loops_59 sx_m0 ?_
      refine sx_iload_n (pc := 60) dX12_loops_60 sx_m1 ?_
      refine sx_bipush (pc := 61) (v := 60) dX12_loops_61 (by decide) ?_
      refine sx_icmp_ne (pc := 63) (tgt := 73) dX12_loops_63 (by decide) (fun c40 => ?_) (fun c40 => ?_)
      · have h := sx_neg c40 h
        refine sx_aload_n (pc := 73) dX12_loops_73 sx_m0 ?_
        refine sv_getI (pc := 74) hG dX12_loops_74 f_12_466 lay_146 rfl ?_
        refine sx_wk (sx_s1 sx_m0 (sx_s1 sx_m1 (sx_s1 sx_m2 (sx_s1 sx_m3 sx_s0)))) ?_
        exact tB_X12_loops_77 hG hP hk44 h
      · have h := sx_pos c40 h
        refine sx_aload_n (pc := 66) dX12_loops_66 sx_m0 ?_
        refine sv_getI (pc := 67) hG dX12_loops_67 f_12_463 lay_146 rfl ?_
        refine sx_goto (pc := 70) (tgt := 77) dX12_loops_70 (by decide) ?_
        refine sx_wk (sx_s1 sx_m0 (sx_s1 sx_m1 (sx_s1 sx_m2 (sx_s1 sx_m3 sx_s0)))) ?_
        exact tB_X12_loops_77 hG hP hk44 h
theorem tL_X12_loops_44 {g : sx_G} (hG : sx_Go g) {P : Option Value → sv_V → Prop} {Vr : sv_V} (hP : P none Vr) {N : Nat}   : ∀ (n : Nat) (l1 : Int32) (l2 : Int32) (l3 : Int32) (V : sv_V), sx_lp4 (B_X12_loops_44 N ) n l1 l2 l3 V = some Vr → sv_N g qX12_loops 6 44 [(0, .ref 146), (1, .int l1), (2, .int l2), (3, .int l3)] [] V P :=
  sx_lp4_ind (fun k0 ih _ _ _ V h => tB_X12_loops_44 hG hP ih h)
def B_X12_loops_41 (N : Nat)  (l1 : Int32) (s0 : Int32) (V : sv_V) : Option sv_V := sx_lp4 (B_X12_loops_44 N ) N l1 s0 (0 : Int32) V
set_option maxRecDepth 20000 in
theorem tB_X12_loops_41 {g : sx_G} (hG : sx_Go g) {P : Option Value → sv_V → Prop} {Vr : sv_V} (hP : P none Vr) {N : Nat}   {l1 : Int32} {s0 : Int32} {V : sv_V} (h : B_X12_loops_41 N  l1 s0 V = some Vr) : sv_N g qX12_loops 6 41 [(0, .ref 146), (1, .int l1)] [.int s0] V P := by
  unfold B_X12_loops_41 at h
  refine sx_istore_n (pc := 41) (lo' := [(2, .int s0), (0, .ref 146), (1, .int l1)]) dX12_loops_41 (by decide) rfl ?_
  refine sx_iconst (pc := 42) (v := 0) dX12_loops_42 (by decide) ?_
  refine sx_istore_n (pc := 43) (lo' := [(3, .int (0 : Int32)), (2, .int s0), (0, .ref 146), (1, .int l1)]) dX12_loops_43 (by decide) rfl ?_
  refine sx_wk (sx_s1 sx_m2 (sx_s1 sx_m3 (sx_s1 sx_m1 (sx_s1 sx_m0 sx_s0)))) ?_
  exact tL_X12_loops_44 hG hP  N _ _ _ _ h
def B_X12_loops_20 (N : Nat)  (l1 : Int32) (s1 : Int32) (V : sv_V) : Option sv_V := (F_X12_has s1 V).bind (fun (x43, V41) => if x43 = 0 then (some V41) else (if l1 = (56 : Int32) then ((F_X12_pop  V41).bind (fun (x48, V46) => B_X12_loops_41 N  l1 x48 V46)) else (B_X12_loops_41 N  l1 (0 : Int32) V41)))
set_option maxRecDepth 20000 in
theorem tB_X12_loops_20 {g : sx_G} (hG : sx_Go g) {P : Option Value → sv_V → Prop} {Vr : sv_V} (hP : P none Vr) {N : Nat}   {l1 : Int32} {s1 : Int32} {V : sv_V} (h : B_X12_loops_20 N  l1 s1 V = some Vr) : sv_N g qX12_loops 6 20 [(0, .ref 146), (1, .int l1)] [.int s1, .ref 146] V P := by
  unfold B_X12_loops_20 at h
  obtain ⟨⟨x43, V41⟩, g42, h⟩ := sx_bnd h
  refine sv_cV (pc := 20) (y := qX12_has) (o := (some (.int x43))) (as := [.int s1]) (V1 := V41) hG dX12_loops_20 l_X12_576 y0X12_has yvX12_has rfl (Nat.le_of_ble_eq_true rfl) lay_146 kr_12 (by decide) (Nat.le_of_ble_eq_true rfl) rfl rfl rfl (t_X12_has hG ⟨rfl, rfl⟩ g42) ?_
  refine sx_if_ne (pc := 23) (tgt := 27) dX12_loops_23 (by decide) (fun c44 => ?_) (fun c44 => ?_)
  · have h := sx_neg c44 h
    refine sx_iload_n (pc := 27) dX12_loops_27 sx_m1 ?_
    refine sx_bipush (pc := 28) (v := 56) dX12_loops_28 (by decide) ?_
    refine sx_icmp_ne (pc := 30) (tgt := 40) dX12_loops_30 (by decide) (fun c45 => ?_) (fun c45 => ?_)
    · have h := sx_neg c45 h
      refine sx_iconst (pc := 40) (v := 0) dX12_loops_40 (by decide) ?_
      refine sx_wk (sx_s1 sx_m0 (sx_s1 sx_m1 sx_s0)) ?_
      exact tB_X12_loops_41 hG hP  h
    · have h := sx_pos c45 h
      refine sx_aload_n (pc := 33) dX12_loops_33 sx_m0 ?_
      obtain ⟨⟨x48, V46⟩, g47, h⟩ := sx_bnd h
      refine sv_cV (pc := 34) (y := qX12_pop) (o := (some (.int x48))) (as := []) (V1 := V46) hG dX12_loops_34 l_X12_579 y0X12_pop yvX12_pop rfl (Nat.le_of_ble_eq_true rfl) lay_146 kr_12 (by decide) (Nat.le_of_ble_eq_true rfl) rfl rfl rfl (t_X12_pop hG ⟨rfl, rfl⟩ g47) ?_
      refine sx_goto (pc := 37) (tgt := 41) dX12_loops_37 (by decide) ?_
      refine sx_wk (sx_s1 sx_m0 (sx_s1 sx_m1 sx_s0)) ?_
      exact tB_X12_loops_41 hG hP  h
  · have h := sx_pos c44 h
    exact sv_vret (pc := 26) dX12_loops_26 rfl h hP
def F_X12_loops (N : Nat) (l1 : Int32) (V : sv_V) : Option sv_V := if l1 = (56 : Int32) then (B_X12_loops_20 N  l1 ((V.1 146 75) + (1 : Int32)) V) else (B_X12_loops_20 N  l1 (V.1 146 75) V)
set_option maxRecDepth 20000 in
theorem t_X12_loops {g : sx_G} (hG : sx_Go g) {P : Option Value → sv_V → Prop} {Vr : sv_V} (hP : P none Vr) {N : Nat} {l1 : Int32} {V : sv_V} (h : F_X12_loops N l1 V = some Vr) : sv_N g qX12_loops 6 0 [(0, .ref 146), (1, .int l1)] [] V P := by
  unfold F_X12_loops at h
  refine sx_aload_n (pc := 0) dX12_loops_0 sx_m0 ?_
  refine sx_iload_n (pc := 1) dX12_loops_1 sx_m1 ?_
  refine sx_bipush (pc := 2) (v := 56) dX12_loops_2 (by decide) ?_
  refine sx_icmp_ne (pc := 4) (tgt := 16) dX12_loops_4 (by decide) (fun c49 => ?_) (fun c49 => ?_)
  · have h := sx_neg c49 h
    refine sx_aload_n (pc := 16) dX12_loops_16 sx_m0 ?_
    refine sv_getI (pc := 17) hG dX12_loops_17 f_12_469 lay_146 rfl ?_
    refine sx_wk (sx_s1 sx_m0 (sx_s1 sx_m1 sx_s0)) ?_
    exact tB_X12_loops_20 hG hP  h
  · have h := sx_pos c49 h
    refine sx_aload_n (pc := 7) dX12_loops_7 sx_m0 ?_
    refine sv_getI (pc := 8) hG dX12_loops_8 f_12_469 lay_146 rfl ?_
    refine sx_iconst (pc := 11) (v := 1) dX12_loops_11 (by decide) ?_
    refine sx_iadd (pc := 12) dX12_loops_12 ?_
    refine sx_goto (pc := 13) (tgt := 20) dX12_loops_13 (by decide) ?_
    refine sx_wk (sx_s1 sx_m0 (sx_s1 sx_m1 sx_s0)) ?_
    exact tB_X12_loops_20 hG hP  h
theorem dX5_run_0 : decode cX5_run 0 = .ok (.aload_n 0, 1) := by decide +kernel
theorem dX5_run_1 : decode cX5_run 1 = .ok (.aload 4, 2) := by decide +kernel
theorem dX5_run_3 : decode cX5_run 3 = .ok (.aload_n 0, 1) := by decide +kernel
theorem dX5_run_4 : decode cX5_run 4 = .ok (.getfield 30, 3) := by decide +kernel
theorem dX5_run_7 : decode cX5_run 7 = .ok (.if_acmp .ne 7, 3) := by decide +kernel
theorem dX5_run_10 : decode cX5_run 10 = .ok (.iconst 1, 1) := by decide +kernel
theorem dX5_run_11 : decode cX5_run 11 = .ok (.goto 4, 3) := by decide +kernel
theorem dX5_run_14 : decode cX5_run 14 = .ok (.iconst 0, 1) := by decide +kernel
theorem dX5_run_15 : decode cX5_run 15 = .ok (.putfield 83, 3) := by decide +kernel
theorem dX5_run_18 : decode cX5_run 18 = .ok (.aload_n 0, 1) := by decide +kernel
theorem dX5_run_19 : decode cX5_run 19 = .ok (.aload_n 3, 1) := by decide +kernel
theorem dX5_run_20 : decode cX5_run 20 = .ok (.putfield 49, 3) := by decide +kernel
theorem dX5_run_23 : decode cX5_run 23 = .ok (.aload_n 0, 1) := by decide +kernel
theorem dX5_run_24 : decode cX5_run 24 = .ok (.aload 4, 2) := by decide +kernel
theorem dX5_run_26 : decode cX5_run 26 = .ok (.putfield 38, 3) := by decide +kernel
theorem dX5_run_29 : decode cX5_run 29 = .ok (.aload_n 0, 1) := by decide +kernel
theorem dX5_run_30 : decode cX5_run 30 = .ok (.iload_n 1, 1) := by decide +kernel
theorem dX5_run_31 : decode cX5_run 31 = .ok (.putfield 87, 3) := by decide +kernel
theorem dX5_run_34 : decode cX5_run 34 = .ok (.aload_n 0, 1) := by decide +kernel
theorem dX5_run_35 : decode cX5_run 35 = .ok (.iload_n 1, 1) := by decide +kernel
theorem dX5_run_36 : decode cX5_run 36 = .ok (.iload_n 2, 1) := by decide +kernel
theorem dX5_run_37 : decode cX5_run 37 = .ok (.iadd, 1) := by decide +kernel
theorem dX5_run_38 : decode cX5_run 38 = .ok (.putfield 90, 3) := by decide +kernel
theorem dX5_run_41 : decode cX5_run 41 = .ok (.aload_n 0, 1) := by decide +kernel
theorem dX5_run_42 : decode cX5_run 42 = .ok (.iload_n 1, 1) := by decide +kernel
theorem dX5_run_43 : decode cX5_run 43 = .ok (.putfield 93, 3) := by decide +kernel
theorem dX5_run_46 : decode cX5_run 46 = .ok (.aload_n 0, 1) := by decide +kernel
theorem dX5_run_47 : decode cX5_run 47 = .ok (.iconst 0, 1) := by decide +kernel
theorem dX5_run_48 : decode cX5_run 48 = .ok (.putfield 96, 3) := by decide +kernel
theorem dX5_run_51 : decode cX5_run 51 = .ok (.aload_n 0, 1) := by decide +kernel
theorem dX5_run_52 : decode cX5_run 52 = .ok (.getfield 21, 3) := by decide +kernel
theorem dX5_run_55 : decode cX5_run 55 = .ok (.iconst 0, 1) := by decide +kernel
theorem dX5_run_56 : decode cX5_run 56 = .ok (.putfield 99, 3) := by decide +kernel
theorem dX5_run_59 : decode cX5_run 59 = .ok (.aload_n 0, 1) := by decide +kernel
theorem dX5_run_60 : decode cX5_run 60 = .ok (.getfield 12, 3) := by decide +kernel
theorem dX5_run_63 : decode cX5_run 63 = .ok (.invokevirtual 102, 3) := by decide +kernel
theorem dX5_run_66 : decode cX5_run 66 = .ok (.iconst 0, 1) := by decide +kernel
theorem dX5_run_67 : decode cX5_run 67 = .ok (.istore 5, 2) := by decide +kernel
theorem dX5_run_69 : decode cX5_run 69 = .ok (.iload 5, 2) := by decide +kernel
theorem dX5_run_71 : decode cX5_run 71 = .ok (.sipush 20000, 3) := by decide +kernel
theorem dX5_run_74 : decode cX5_run 74 = .ok (.if_icmp .gt 234, 3) := by decide +kernel
theorem dX5_run_77 : decode cX5_run 77 = .ok (.aload_n 0, 1) := by decide +kernel
theorem dX5_run_78 : decode cX5_run 78 = .ok (.getfield 56, 3) := by decide +kernel
theorem dX5_run_81 : decode cX5_run 81 = .ok (.ifCond .ne 227, 3) := by decide +kernel
theorem dX5_run_84 : decode cX5_run 84 = .ok (.aload_n 0, 1) := by decide +kernel
theorem dX5_run_85 : decode cX5_run 85 = .ok (.invokevirtual 105, 3) := by decide +kernel
theorem dX5_run_88 : decode cX5_run 88 = .ok (.ifCond .ne 220, 3) := by decide +kernel
theorem dX5_run_91 : decode cX5_run 91 = .ok (.aload_n 0, 1) := by decide +kernel
theorem dX5_run_92 : decode cX5_run 92 = .ok (.aload_n 0, 1) := by decide +kernel
theorem dX5_run_93 : decode cX5_run 93 = .ok (.getfield 93, 3) := by decide +kernel
theorem dX5_run_96 : decode cX5_run 96 = .ok (.aload_n 0, 1) := by decide +kernel
theorem dX5_run_97 : decode cX5_run 97 = .ok (.getfield 87, 3) := by decide +kernel
theorem dX5_run_100 : decode cX5_run 100 = .ok (.isub, 1) := by decide +kernel
theorem dX5_run_101 : decode cX5_run 101 = .ok (.putfield 41, 3) := by decide +kernel
theorem dX5_run_104 : decode cX5_run 104 = .ok (.aload_n 0, 1) := by decide +kernel
theorem dX5_run_105 : decode cX5_run 105 = .ok (.invokevirtual 109, 3) := by decide +kernel
theorem dX5_run_108 : decode cX5_run 108 = .ok (.istore 6, 2) := by decide +kernel
theorem dX5_run_110 : decode cX5_run 110 = .ok (.aload_n 0, 1) := by decide +kernel
theorem dX5_run_111 : decode cX5_run 111 = .ok (.getfield 56, 3) := by decide +kernel
theorem dX5_run_114 : decode cX5_run 114 = .ok (.ifCond .eq 4, 3) := by decide +kernel
theorem dX5_run_117 : decode cX5_run 117 = .ok (.return_, 1) := by decide +kernel
theorem dX5_run_118 : decode cX5_run 118 = .ok (.getstatic 113, 3) := by decide +kernel
theorem dX5_run_121 : decode cX5_run 121 = .ok (.iload 6, 2) := by decide +kernel
theorem dX5_run_123 : decode cX5_run 123 = .ok (.iaload, 1) := by decide +kernel
theorem dX5_run_124 : decode cX5_run 124 = .ok (.tableswitch 172 1 12 #[64, 73, 82, 91, 100, 109, 118, 127, 136, 145, 154, 163], 64) := by decide +kernel
theorem dX5_run_188 : decode cX5_run 188 = .ok (.aload_n 0, 1) := by decide +kernel
theorem dX5_run_189 : decode cX5_run 189 = .ok (.iload 6, 2) := by decide +kernel
theorem dX5_run_191 : decode cX5_run 191 = .ok (.invokevirtual 116, 3) := by decide +kernel
theorem dX5_run_194 : decode cX5_run 194 = .ok (.goto 108, 3) := by decide +kernel
theorem dX5_run_197 : decode cX5_run 197 = .ok (.aload_n 0, 1) := by decide +kernel
theorem dX5_run_198 : decode cX5_run 198 = .ok (.iload 6, 2) := by decide +kernel
theorem dX5_run_200 : decode cX5_run 200 = .ok (.invokevirtual 120, 3) := by decide +kernel
theorem dX5_run_203 : decode cX5_run 203 = .ok (.goto 99, 3) := by decide +kernel
theorem dX5_run_206 : decode cX5_run 206 = .ok (.aload_n 0, 1) := by decide +kernel
theorem dX5_run_207 : decode cX5_run 207 = .ok (.iload 6, 2) := by decide +kernel
theorem dX5_run_209 : decode cX5_run 209 = .ok (.invokevirtual 123, 3) := by decide +kernel
theorem dX5_run_212 : decode cX5_run 212 = .ok (.goto 90, 3) := by decide +kernel
theorem dX5_run_215 : decode cX5_run 215 = .ok (.aload_n 0, 1) := by decide +kernel
theorem dX5_run_216 : decode cX5_run 216 = .ok (.iload 6, 2) := by decide +kernel
theorem dX5_run_218 : decode cX5_run 218 = .ok (.invokevirtual 126, 3) := by decide +kernel
theorem dX5_run_221 : decode cX5_run 221 = .ok (.goto 81, 3) := by decide +kernel
theorem dX5_run_224 : decode cX5_run 224 = .ok (.aload_n 0, 1) := by decide +kernel
theorem dX5_run_225 : decode cX5_run 225 = .ok (.iload 6, 2) := by decide +kernel
theorem dX5_run_227 : decode cX5_run 227 = .ok (.invokevirtual 129, 3) := by decide +kernel
theorem dX5_run_230 : decode cX5_run 230 = .ok (.goto 72, 3) := by decide +kernel
theorem dX5_run_233 : decode cX5_run 233 = .ok (.aload_n 0, 1) := by decide +kernel
theorem dX5_run_234 : decode cX5_run 234 = .ok (.iload 6, 2) := by decide +kernel
theorem dX5_run_236 : decode cX5_run 236 = .ok (.invokevirtual 132, 3) := by decide +kernel
theorem dX5_run_239 : decode cX5_run 239 = .ok (.goto 63, 3) := by decide +kernel
theorem dX5_run_242 : decode cX5_run 242 = .ok (.aload_n 0, 1) := by decide +kernel
theorem dX5_run_243 : decode cX5_run 243 = .ok (.iload 6, 2) := by decide +kernel
theorem dX5_run_245 : decode cX5_run 245 = .ok (.invokevirtual 135, 3) := by decide +kernel
theorem dX5_run_248 : decode cX5_run 248 = .ok (.goto 54, 3) := by decide +kernel
theorem dX5_run_251 : decode cX5_run 251 = .ok (.aload_n 0, 1) := by decide +kernel
theorem dX5_run_252 : decode cX5_run 252 = .ok (.iload 6, 2) := by decide +kernel
theorem dX5_run_254 : decode cX5_run 254 = .ok (.invokevirtual 138, 3) := by decide +kernel
theorem dX5_run_257 : decode cX5_run 257 = .ok (.goto 45, 3) := by decide +kernel
theorem dX5_run_260 : decode cX5_run 260 = .ok (.aload_n 0, 1) := by decide +kernel
theorem dX5_run_261 : decode cX5_run 261 = .ok (.iload 6, 2) := by decide +kernel
theorem dX5_run_263 : decode cX5_run 263 = .ok (.invokevirtual 141, 3) := by decide +kernel
theorem dX5_run_266 : decode cX5_run 266 = .ok (.goto 36, 3) := by decide +kernel
theorem dX5_run_269 : decode cX5_run 269 = .ok (.aload_n 0, 1) := by decide +kernel
theorem dX5_run_270 : decode cX5_run 270 = .ok (.iload 6, 2) := by decide +kernel
theorem dX5_run_272 : decode cX5_run 272 = .ok (.invokevirtual 144, 3) := by decide +kernel
theorem dX5_run_275 : decode cX5_run 275 = .ok (.goto 27, 3) := by decide +kernel
theorem dX5_run_278 : decode cX5_run 278 = .ok (.aload_n 0, 1) := by decide +kernel
theorem dX5_run_279 : decode cX5_run 279 = .ok (.iload 6, 2) := by decide +kernel
theorem dX5_run_281 : decode cX5_run 281 = .ok (.invokevirtual 147, 3) := by decide +kernel
theorem dX5_run_284 : decode cX5_run 284 = .ok (.goto 18, 3) := by decide +kernel
theorem dX5_run_287 : decode cX5_run 287 = .ok (.aload_n 0, 1) := by decide +kernel
theorem dX5_run_288 : decode cX5_run 288 = .ok (.iload 6, 2) := by decide +kernel
theorem dX5_run_290 : decode cX5_run 290 = .ok (.invokevirtual 150, 3) := by decide +kernel
theorem dX5_run_293 : decode cX5_run 293 = .ok (.goto 9, 3) := by decide +kernel
theorem dX5_run_296 : decode cX5_run 296 = .ok (.aload_n 0, 1) := by decide +kernel
theorem dX5_run_297 : decode cX5_run 297 = .ok (.iload 6, 2) := by decide +kernel
theorem dX5_run_299 : decode cX5_run 299 = .ok (.invokevirtual 153, 3) := by decide +kernel
theorem dX5_run_302 : decode cX5_run 302 = .ok (.iinc 5 1, 3) := by decide +kernel
theorem dX5_run_305 : decode cX5_run 305 = .ok (.goto (-236), 3) := by decide +kernel
theorem dX5_run_308 : decode cX5_run 308 = .ok (.return_, 1) := by decide +kernel
def B_X5_run_302 (N : Nat) (k69 : Int32 → sv_V → Option sv_V) (l5 : Int32) (V : sv_V) : Option sv_V := sx_let (l5 + 1) (fun x1 => k69 x1 V)
set_option maxRecDepth 20000 in
theorem tB_X5_run_302 {g : sx_G} (hG : sx_Go g) {P : Option Value → sv_V → Prop} {Vr : sv_V} (hP : P none Vr) {N : Nat} {k69 : Int32 → sv_V → Option sv_V} (hk69 : ∀ (l5 : Int32) (V : sv_V), k69 l5 V = some Vr → sv_N g qX5_run 4 69 [(0, .ref 69), (5, .int l5)] [] V P) {l5 : Int32} {V : sv_V} (h : B_X5_run_302 N k69 l5 V = some Vr) : sv_N g qX5_run 4 302 [(0, .ref 69), (5, .int l5)] [] V P := by
  unfold B_X5_run_302 at h
  obtain ⟨x1, hx1⟩ : ∃ z : Int32, z = l5 + 1 := ⟨_, rfl⟩
  have h := sx_letE hx1 h
  refine sx_iinc (pc := 302) (v := x1) (lo' := [(5, .int x1), (0, .ref 69)]) dX5_run_302 sx_m1 (by rw [hx1]; rfl) (by decide) rfl ?_
  refine sx_goto (pc := 305) (tgt := 69) dX5_run_305 (by decide) ?_
  refine sx_wk (sx_s1 sx_m1 (sx_s1 sx_m0 sx_s0)) ?_
  exact hk69 _ _ h
def B_X5_run_69 (N : Nat) (k69 : Int32 → sv_V → Option sv_V) (l5 : Int32) (V : sv_V) : Option sv_V := if (20000 : Int32) < l5 then (some V) else (if (V.1 69 14) = 0 then ((F_X5_isAtEnd  V).bind (fun (x6, V4) => if x6 = 0 then (sx_let (sv_I V4 69 15 ((V4.1 69 11) - (V4.1 69 9))) (fun V8 => (F_X5_beginStep  V8).bind (fun (x11, V9) => if (V9.1 69 14) = 0 then (if sx_in x11 256 = true then sx_let (V9.1 1007 x11.toNatClampNeg) (fun x14 => if x14 = 1 then ((F_X5_vectorCodes N x11 V9).bind (fun V16 => B_X5_run_302 N k69 l5 V16)) else (if x14 = 2 then ((F_X5_settingCodes N x11 V9).bind (fun V19 => B_X5_run_302 N k69 l5 V19)) else (if x14 = 3 then ((F_X5_flowCodes N x11 V9).bind (fun V22 => B_X5_run_302 N k69 l5 V22)) else (if x14 = 4 then ((F_X5_stackCodes N x11 V9).bind (fun V25 => B_X5_run_302 N k69 l5 V25)) else (if x14 = 5 then ((F_X5_memoryCodes x11 V9).bind (fun V28 => B_X5_run_302 N k69 l5 V28)) else (if x14 = 6 then ((F_X5_comparingCodes x11 V9).bind (fun V31 => B_X5_run_302 N k69 l5 V31)) else (if x14 = 7 then ((F_X5_reckoningCodes x11 V9).bind (fun V34 => B_X5_run_302 N k69 l5 V34)) else (if x14 = 8 then ((F_X5_singlePointCodes N x11 V9).bind (fun V37 => B_X5_run_302 N k69 l5 V37)) else (if x14 = 9 then ((F_X5_manyPointCodes N x11 V9).bind (fun V40 => B_X5_run_302 N k69 l5 V40)) else (if x14 = 10 then ((F_X5_measuredCodes x11 V9).bind (fun V43 => B_X5_run_302 N k69 l5 V43)) else (if x14 = 11 then ((F_X5_deltaCodes N x11 V9).bind (fun V46 => B_X5_run_302 N k69 l5 V46)) else (if x14 = 12 then ((F_X5_shiftByReference N x11 V9).bind (fun V49 => B_X5_run_302 N k69 l5 V49)) else ((F_X5_callOwnCode x11 V9).bind (fun V51 => B_X5_run_302 N k69 l5 V51)))))))))))))) else none) else (some V9)))) else (some V4))) else (some V))
set_option maxRecDepth 20000 in
theorem tB_X5_run_69 {g : sx_G} (hG : sx_Go g) {P : Option Value → sv_V → Prop} {Vr : sv_V} (hP : P none Vr) {N : Nat} {k69 : Int32 → sv_V → Option sv_V} (hk69 : ∀ (l5 : Int32) (V : sv_V), k69 l5 V = some Vr → sv_N g qX5_run 4 69 [(0, .ref 69), (5, .int l5)] [] V P) {l5 : Int32} {V : sv_V} (h : B_X5_run_69 N k69 l5 V = some Vr) : sv_N g qX5_run 4 69 [(0, .ref 69), (5, .int l5)] [] V P := by
  unfold B_X5_run_69 at h
  refine sx_iload (pc := 69) dX5_run_69 sx_m1 ?_
  refine sx_sipush (pc := 71) (v := 20000) dX5_run_71 (by decide) ?_
  refine sx_icmp_gt (pc := 74) (tgt := 308) dX5_run_74 (by decide) (fun c2 => ?_) (fun c2 => ?_)
  · have h := sx_pos c2 h
    exact sv_vret (pc := 308) dX5_run_308 rfl h hP
  · have h := sx_neg c2 h
    refine sx_aload_n (pc := 77) dX5_run_77 sx_m0 ?_
    refine sv_getI (pc := 78) hG dX5_run_78 f_5_56 lay_69 rfl ?_
    refine sx_if_ne (pc := 81) (tgt := 308) dX5_run_81 (by decide) (fun c3 => ?_) (fun c3 => ?_)
    · have h := sx_neg c3 h
      exact sv_vret (pc := 308) dX5_run_308 rfl h hP
    · have h := sx_pos c3 h
      refine sx_aload_n (pc := 84) dX5_run_84 sx_m0 ?_
      obtain ⟨⟨x6, V4⟩, g5, h⟩ := sx_bnd h
      refine sv_cV (pc := 85) (y := qX5_isAtEnd) (o := (some (.int x6))) (as := []) (V1 := V4) hG dX5_run_85 l_X5_105 y0X5_isAtEnd yvX5_isAtEnd rfl (Nat.le_of_ble_eq_true rfl) lay_69 kr_5 (by decide) (Nat.le_of_ble_eq_true rfl) rfl rfl rfl (t_X5_isAtEnd hG ⟨rfl, rfl⟩ g5) ?_
      refine sx_if_ne (pc := 88) (tgt := 308) dX5_run_88 (by decide) (fun c7 => ?_) (fun c7 => ?_)
      · have h := sx_neg c7 h
        exact sv_vret (pc := 308) dX5_run_308 rfl h hP
      · have h := sx_pos c7 h
        refine sx_aload_n (pc := 91) dX5_run_91 sx_m0 ?_
        refine sx_aload_n (pc := 92) dX5_run_92 sx_m0 ?_
        refine sv_getI (pc := 93) hG dX5_run_93 f_5_93 lay_69 rfl ?_
        refine sx_aload_n (pc := 96) dX5_run_96 sx_m0 ?_
        refine sv_getI (pc := 97) hG dX5_run_97 f_5_87 lay_69 rfl ?_
        refine sx_isub (pc := 100) dX5_run_100 ?_
        obtain ⟨V8, hV8⟩ : ∃ z : sv_V, z = sv_I V4 69 15 ((V4.1 69 11) - (V4.1 69 9)) := ⟨_, rfl⟩
        have h := sx_letE hV8 h
        refine sv_putI (pc := 101) hG dX5_run_101 f_5_41 lay_69 rfl hV8 ?_
        refine sx_aload_n (pc := 104) dX5_run_104 sx_m0 ?_
        obtain ⟨⟨x11, V9⟩, g10, h⟩ := sx_bnd h
        refine sv_cV (pc := 105) (y := qX5_beginStep) (o := (some (.int x11))) (as := []) (V1 := V9) hG dX5_run_105 l_X5_109 y0X5_beginStep yvX5_beginStep rfl (Nat.le_of_ble_eq_true rfl) lay_69 kr_5 (by decide) (Nat.le_of_ble_eq_true rfl) rfl rfl rfl (t_X5_beginStep hG ⟨rfl, rfl⟩ g10) ?_
        refine sx_istore (pc := 108) (lo' := [(6, .int x11), (0, .ref 69), (5, .int l5)]) dX5_run_108 (by decide) rfl ?_
        refine sx_aload_n (pc := 110) dX5_run_110 sx_m1 ?_
        refine sv_getI (pc := 111) hG dX5_run_111 f_5_56 lay_69 rfl ?_
        refine sx_if_eq (pc := 114) (tgt := 118) dX5_run_114 (by decide) (fun c12 => ?_) (fun c12 => ?_)
        · have h := sx_pos c12 h
          refine sv_getS (pc := 118) (j := 6) dX5_run_118 rfl n_X5_113 ?_
          refine sx_iload (pc := 121) dX5_run_121 sx_m0 ?_
          obtain ⟨g13, h⟩ := sx_grd h
          refine sv_xld (pc := 123) hG dX5_run_123 lay_1007 g13 ?_
          refine sv_tI (fun x14 hx14 => ?_)
          have h := sx_letE hx14 h
          by_cases c15 : x14 = 1
          · have h := sx_pos c15 h
            refine sx_tabI (pc := 124) (off := 64) (tgt := 188) dX5_run_124 (by rw [c15]; decide) (by rw [c15]; decide) (by rw [c15]; rfl) (by decide) ?_
            refine sx_aload_n (pc := 188) dX5_run_188 sx_m1 ?_
            refine sx_iload (pc := 189) dX5_run_189 sx_m0 ?_
            obtain ⟨V16, g17, h⟩ := sx_bnd h
            refine sv_cV (pc := 191) (y := qX5_vectorCodes) (o := none) (as := [.int x11]) (V1 := V16) hG dX5_run_191 l_X5_116 y0X5_vectorCodes yvX5_vectorCodes rfl (Nat.le_of_ble_eq_true rfl) lay_69 kr_5 (by decide) (Nat.le_of_ble_eq_true rfl) rfl rfl rfl (t_X5_vectorCodes hG ⟨rfl, rfl⟩ g17) ?_
            refine sx_goto (pc := 194) (tgt := 302) dX5_run_194 (by decide) ?_
            refine sx_wk (sx_s1 sx_m1 (sx_s1 sx_m2 sx_s0)) ?_
            exact tB_X5_run_302 hG hP hk69 h
          have h := sx_neg c15 h
          by_cases c18 : x14 = 2
          · have h := sx_pos c18 h
            refine sx_tabI (pc := 124) (off := 73) (tgt := 197) dX5_run_124 (by rw [c18]; decide) (by rw [c18]; decide) (by rw [c18]; rfl) (by decide) ?_
            refine sx_aload_n (pc := 197) dX5_run_197 sx_m1 ?_
            refine sx_iload (pc := 198) dX5_run_198 sx_m0 ?_
            obtain ⟨V19, g20, h⟩ := sx_bnd h
            refine sv_cV (pc := 200) (y := qX5_settingCodes) (o := none) (as := [.int x11]) (V1 := V19) hG dX5_run_200 l_X5_120 y0X5_settingCodes yvX5_settingCodes rfl (Nat.le_of_ble_eq_true rfl) lay_69 kr_5 (by decide) (Nat.le_of_ble_eq_true rfl) rfl rfl rfl (t_X5_settingCodes hG ⟨rfl, rfl⟩ g20) ?_
            refine sx_goto (pc := 203) (tgt := 302) dX5_run_203 (by decide) ?_
            refine sx_wk (sx_s1 sx_m1 (sx_s1 sx_m2 sx_s0)) ?_
            exact tB_X5_run_302 hG hP hk69 h
          have h := sx_neg c18 h
          by_cases c21 : x14 = 3
          · have h := sx_pos c21 h
            refine sx_tabI (pc := 124) (off := 82) (tgt := 206) dX5_run_124 (by rw [c21]; decide) (by rw [c21]; decide) (by rw [c21]; rfl) (by decide) ?_
            refine sx_aload_n (pc := 206) dX5_run_206 sx_m1 ?_
            refine sx_iload (pc := 207) dX5_run_207 sx_m0 ?_
            obtain ⟨V22, g23, h⟩ := sx_bnd h
            refine sv_cV (pc := 209) (y := qX5_flowCodes) (o := none) (as := [.int x11]) (V1 := V22) hG dX5_run_209 l_X5_123 y0X5_flowCodes yvX5_flowCodes rfl (Nat.le_of_ble_eq_true rfl) lay_69 kr_5 (by decide) (Nat.le_of_ble_eq_true rfl) rfl rfl rfl (t_X5_flowCodes hG ⟨rfl, rfl⟩ g23) ?_
            refine sx_goto (pc := 212) (tgt := 302) dX5_run_212 (by decide) ?_
            refine sx_wk (sx_s1 sx_m1 (sx_s1 sx_m2 sx_s0)) ?_
            exact tB_X5_run_302 hG hP hk69 h
          have h := sx_neg c21 h
          by_cases c24 : x14 = 4
          · have h := sx_pos c24 h
            refine sx_tabI (pc := 124) (off := 91) (tgt := 215) dX5_run_124 (by rw [c24]; decide) (by rw [c24]; decide) (by rw [c24]; rfl) (by decide) ?_
            refine sx_aload_n (pc := 215) dX5_run_215 sx_m1 ?_
            refine sx_iload (pc := 216) dX5_run_216 sx_m0 ?_
            obtain ⟨V25, g26, h⟩ := sx_bnd h
            refine sv_cV (pc := 218) (y := qX5_stackCodes) (o := none) (as := [.int x11]) (V1 := V25) hG dX5_run_218 l_X5_126 y0X5_stackCodes yvX5_stackCodes rfl (Nat.le_of_ble_eq_true rfl) lay_69 kr_5 (by decide) (Nat.le_of_ble_eq_true rfl) rfl rfl rfl (t_X5_stackCodes hG ⟨rfl, rfl⟩ g26) ?_
            refine sx_goto (pc := 221) (tgt := 302) dX5_run_221 (by decide) ?_
            refine sx_wk (sx_s1 sx_m1 (sx_s1 sx_m2 sx_s0)) ?_
            exact tB_X5_run_302 hG hP hk69 h
          have h := sx_neg c24 h
          by_cases c27 : x14 = 5
          · have h := sx_pos c27 h
            refine sx_tabI (pc := 124) (off := 100) (tgt := 224) dX5_run_124 (by rw [c27]; decide) (by rw [c27]; decide) (by rw [c27]; rfl) (by decide) ?_
            refine sx_aload_n (pc := 224) dX5_run_224 sx_m1 ?_
            refine sx_iload (pc := 225) dX5_run_225 sx_m0 ?_
            obtain ⟨V28, g29, h⟩ := sx_bnd h
            refine sv_cV (pc := 227) (y := qX5_memoryCodes) (o := none) (as := [.int x11]) (V1 := V28) hG dX5_run_227 l_X5_129 y0X5_memoryCodes yvX5_memoryCodes rfl (Nat.le_of_ble_eq_true rfl) lay_69 kr_5 (by decide) (Nat.le_of_ble_eq_true rfl) rfl rfl rfl (t_X5_memoryCodes hG ⟨rfl, rfl⟩ g29) ?_
            refine sx_goto (pc := 230) (tgt := 302) dX5_run_230 (by decide) ?_
            refine sx_wk (sx_s1 sx_m1 (sx_s1 sx_m2 sx_s0)) ?_
            exact tB_X5_run_302 hG hP hk69 h
          have h := sx_neg c27 h
          by_cases c30 : x14 = 6
          · have h := sx_pos c30 h
            refine sx_tabI (pc := 124) (off := 109) (tgt := 233) dX5_run_124 (by rw [c30]; decide) (by rw [c30]; decide) (by rw [c30]; rfl) (by decide) ?_
            refine sx_aload_n (pc := 233) dX5_run_233 sx_m1 ?_
            refine sx_iload (pc := 234) dX5_run_234 sx_m0 ?_
            obtain ⟨V31, g32, h⟩ := sx_bnd h
            refine sv_cV (pc := 236) (y := qX5_comparingCodes) (o := none) (as := [.int x11]) (V1 := V31) hG dX5_run_236 l_X5_132 y0X5_comparingCodes yvX5_comparingCodes rfl (Nat.le_of_ble_eq_true rfl) lay_69 kr_5 (by decide) (Nat.le_of_ble_eq_true rfl) rfl rfl rfl (t_X5_comparingCodes hG ⟨rfl, rfl⟩ g32) ?_
            refine sx_goto (pc := 239) (tgt := 302) dX5_run_239 (by decide) ?_
            refine sx_wk (sx_s1 sx_m1 (sx_s1 sx_m2 sx_s0)) ?_
            exact tB_X5_run_302 hG hP hk69 h
          have h := sx_neg c30 h
          by_cases c33 : x14 = 7
          · have h := sx_pos c33 h
            refine sx_tabI (pc := 124) (off := 118) (tgt := 242) dX5_run_124 (by rw [c33]; decide) (by rw [c33]; decide) (by rw [c33]; rfl) (by decide) ?_
            refine sx_aload_n (pc := 242) dX5_run_242 sx_m1 ?_
            refine sx_iload (pc := 243) dX5_run_243 sx_m0 ?_
            obtain ⟨V34, g35, h⟩ := sx_bnd h
            refine sv_cV (pc := 245) (y := qX5_reckoningCodes) (o := none) (as := [.int x11]) (V1 := V34) hG dX5_run_245 l_X5_135 y0X5_reckoningCodes yvX5_reckoningCodes rfl (Nat.le_of_ble_eq_true rfl) lay_69 kr_5 (by decide) (Nat.le_of_ble_eq_true rfl) rfl rfl rfl (t_X5_reckoningCodes hG ⟨rfl, rfl⟩ g35) ?_
            refine sx_goto (pc := 248) (tgt := 302) dX5_run_248 (by decide) ?_
            refine sx_wk (sx_s1 sx_m1 (sx_s1 sx_m2 sx_s0)) ?_
            exact tB_X5_run_302 hG hP hk69 h
          have h := sx_neg c33 h
          by_cases c36 : x14 = 8
          · have h := sx_pos c36 h
            refine sx_tabI (pc := 124) (off := 127) (tgt := 251) dX5_run_124 (by rw [c36]; decide) (by rw [c36]; decide) (by rw [c36]; rfl) (by decide) ?_
            refine sx_aload_n (pc := 251) dX5_run_251 sx_m1 ?_
            refine sx_iload (pc := 252) dX5_run_252 sx_m0 ?_
            obtain ⟨V37, g38, h⟩ := sx_bnd h
            refine sv_cV (pc := 254) (y := qX5_singlePointCodes) (o := none) (as := [.int x11]) (V1 := V37) hG dX5_run_254 l_X5_138 y0X5_singlePointCodes yvX5_singlePointCodes rfl (Nat.le_of_ble_eq_true rfl) lay_69 kr_5 (by decide) (Nat.le_of_ble_eq_true rfl) rfl rfl rfl (t_X5_singlePointCodes hG ⟨rfl, rfl⟩ g38) ?_
            refine sx_goto (pc := 257) (tgt := 302) dX5_run_257 (by decide) ?_
            refine sx_wk (sx_s1 sx_m1 (sx_s1 sx_m2 sx_s0)) ?_
            exact tB_X5_run_302 hG hP hk69 h
          have h := sx_neg c36 h
          by_cases c39 : x14 = 9
          · have h := sx_pos c39 h
            refine sx_tabI (pc := 124) (off := 136) (tgt := 260) dX5_run_124 (by rw [c39]; decide) (by rw [c39]; decide) (by rw [c39]; rfl) (by decide) ?_
            refine sx_aload_n (pc := 260) dX5_run_260 sx_m1 ?_
            refine sx_iload (pc := 261) dX5_run_261 sx_m0 ?_
            obtain ⟨V40, g41, h⟩ := sx_bnd h
            refine sv_cV (pc := 263) (y := qX5_manyPointCodes) (o := none) (as := [.int x11]) (V1 := V40) hG dX5_run_263 l_X5_141 y0X5_manyPointCodes yvX5_manyPointCodes rfl (Nat.le_of_ble_eq_true rfl) lay_69 kr_5 (by decide) (Nat.le_of_ble_eq_true rfl) rfl rfl rfl (t_X5_manyPointCodes hG ⟨rfl, rfl⟩ g41) ?_
            refine sx_goto (pc := 266) (tgt := 302) dX5_run_266 (by decide) ?_
            refine sx_wk (sx_s1 sx_m1 (sx_s1 sx_m2 sx_s0)) ?_
            exact tB_X5_run_302 hG hP hk69 h
          have h := sx_neg c39 h
          by_cases c42 : x14 = 10
          · have h := sx_pos c42 h
            refine sx_tabI (pc := 124) (off := 145) (tgt := 269) dX5_run_124 (by rw [c42]; decide) (by rw [c42]; decide) (by rw [c42]; rfl) (by decide) ?_
            refine sx_aload_n (pc := 269) dX5_run_269 sx_m1 ?_
            refine sx_iload (pc := 270) dX5_run_270 sx_m0 ?_
            obtain ⟨V43, g44, h⟩ := sx_bnd h
            refine sv_cV (pc := 272) (y := qX5_measuredCodes) (o := none) (as := [.int x11]) (V1 := V43) hG dX5_run_272 l_X5_144 y0X5_measuredCodes yvX5_measuredCodes rfl (Nat.le_of_ble_eq_true rfl) lay_69 kr_5 (by decide) (Nat.le_of_ble_eq_true rfl) rfl rfl rfl (t_X5_measuredCodes hG ⟨rfl, rfl⟩ g44) ?_
            refine sx_goto (pc := 275) (tgt := 302) dX5_run_275 (by decide) ?_
            refine sx_wk (sx_s1 sx_m1 (sx_s1 sx_m2 sx_s0)) ?_
            exact tB_X5_run_302 hG hP hk69 h
          have h := sx_neg c42 h
          by_cases c45 : x14 = 11
          · have h := sx_pos c45 h
            refine sx_tabI (pc := 124) (off := 154) (tgt := 278) dX5_run_124 (by rw [c45]; decide) (by rw [c45]; decide) (by rw [c45]; rfl) (by decide) ?_
            refine sx_aload_n (pc := 278) dX5_run_278 sx_m1 ?_
            refine sx_iload (pc := 279) dX5_run_279 sx_m0 ?_
            obtain ⟨V46, g47, h⟩ := sx_bnd h
            refine sv_cV (pc := 281) (y := qX5_deltaCodes) (o := none) (as := [.int x11]) (V1 := V46) hG dX5_run_281 l_X5_147 y0X5_deltaCodes yvX5_deltaCodes rfl (Nat.le_of_ble_eq_true rfl) lay_69 kr_5 (by decide) (Nat.le_of_ble_eq_true rfl) rfl rfl rfl (t_X5_deltaCodes hG ⟨rfl, rfl⟩ g47) ?_
            refine sx_goto (pc := 284) (tgt := 302) dX5_run_284 (by decide) ?_
            refine sx_wk (sx_s1 sx_m1 (sx_s1 sx_m2 sx_s0)) ?_
            exact tB_X5_run_302 hG hP hk69 h
          have h := sx_neg c45 h
          by_cases c48 : x14 = 12
          · have h := sx_pos c48 h
            refine sx_tabI (pc := 124) (off := 163) (tgt := 287) dX5_run_124 (by rw [c48]; decide) (by rw [c48]; decide) (by rw [c48]; rfl) (by decide) ?_
            refine sx_aload_n (pc := 287) dX5_run_287 sx_m1 ?_
            refine sx_iload (pc := 288) dX5_run_288 sx_m0 ?_
            obtain ⟨V49, g50, h⟩ := sx_bnd h
            refine sv_cV (pc := 290) (y := qX5_shiftByReference) (o := none) (as := [.int x11]) (V1 := V49) hG dX5_run_290 l_X5_150 y0X5_shiftByReference yvX5_shiftByReference rfl (Nat.le_of_ble_eq_true rfl) lay_69 kr_5 (by decide) (Nat.le_of_ble_eq_true rfl) rfl rfl rfl (t_X5_shiftByReference hG ⟨rfl, rfl⟩ g50) ?_
            refine sx_goto (pc := 293) (tgt := 302) dX5_run_293 (by decide) ?_
            refine sx_wk (sx_s1 sx_m1 (sx_s1 sx_m2 sx_s0)) ?_
            exact tB_X5_run_302 hG hP hk69 h
          have h := sx_neg c48 h
          refine sx_tabO (pc := 124) (tgt := 296) dX5_run_124 (by have ec15 := lv_neT (a := 1) c15 rfl; have ec18 := lv_neT (a := 2) c18 rfl; have ec21 := lv_neT (a := 3) c21 rfl; have ec24 := lv_neT (a := 4) c24 rfl; have ec27 := lv_neT (a := 5) c27 rfl; have ec30 := lv_neT (a := 6) c30 rfl; have ec33 := lv_neT (a := 7) c33 rfl; have ec36 := lv_neT (a := 8) c36 rfl; have ec39 := lv_neT (a := 9) c39 rfl; have ec42 := lv_neT (a := 10) c42 rfl; have ec45 := lv_neT (a := 11) c45 rfl; have ec48 := lv_neT (a := 12) c48 rfl; omega) (by decide) ?_
          refine sx_aload_n (pc := 296) dX5_run_296 sx_m1 ?_
          refine sx_iload (pc := 297) dX5_run_297 sx_m0 ?_
          obtain ⟨V51, g52, h⟩ := sx_bnd h
          refine sv_cV (pc := 299) (y := qX5_callOwnCode) (o := none) (as := [.int x11]) (V1 := V51) hG dX5_run_299 l_X5_153 y0X5_callOwnCode yvX5_callOwnCode rfl (Nat.le_of_ble_eq_true rfl) lay_69 kr_5 (by decide) (Nat.le_of_ble_eq_true rfl) rfl rfl rfl (t_X5_callOwnCode hG ⟨rfl, rfl⟩ g52) ?_
          refine sx_wk (sx_s1 sx_m1 (sx_s1 sx_m2 sx_s0)) ?_
          exact tB_X5_run_302 hG hP hk69 h
        · have h := sx_neg c12 h
          exact sv_vret (pc := 117) dX5_run_117 rfl h hP
theorem tL_X5_run_69 {g : sx_G} (hG : sx_Go g) {P : Option Value → sv_V → Prop} {Vr : sv_V} (hP : P none Vr) {N : Nat}   : ∀ (n : Nat) (l5 : Int32) (V : sv_V), sx_lp2 (B_X5_run_69 N ) n l5 V = some Vr → sv_N g qX5_run 4 69 [(0, .ref 69), (5, .int l5)] [] V P :=
  sx_lp2_ind (fun k0 ih _ V h => tB_X5_run_69 hG hP ih h)
def B_X5_run_15 (N : Nat)  (l1 : Int32) (l2 : Int32) (l3 : Nat) (l4 : Nat) (s1 : Int32) (V : sv_V) : Option sv_V := if sv_bl s1 = true then sx_let (sv_I V 69 8 s1) (fun V54 => sx_let (sv_R V54 69 6 (some l3)) (fun V55 => sx_let (sv_R V55 69 7 (some l4)) (fun V56 => sx_let (sv_I V56 69 9 l1) (fun V57 => sx_let (sv_I V57 69 10 (l1 + l2)) (fun V58 => sx_let (sv_I V58 69 11 l1) (fun V59 => sx_let (sv_I V59 69 5 (0 : Int32)) (fun V60 => sx_let (sv_I V60 73 9 (0 : Int32)) (fun V61 => (F_X9_renew N  V61).bind (fun V62 => sx_lp2 (B_X5_run_69 N ) N (0 : Int32) V62))))))))) else none
set_option maxRecDepth 20000 in
theorem tB_X5_run_15 {g : sx_G} (hG : sx_Go g) {P : Option Value → sv_V → Prop} {Vr : sv_V} (hP : P none Vr) {N : Nat}   {l1 : Int32} {l2 : Int32} {l3 : Nat} {l4 : Nat} {s1 : Int32} {V : sv_V} (h : B_X5_run_15 N  l1 l2 l3 l4 s1 V = some Vr) : sv_N g qX5_run 4 15 [(0, .ref 69), (1, .int l1), (2, .int l2), (3, .ref l3), (4, .ref l4)] [.int s1, .ref 69] V P := by
  unfold B_X5_run_15 at h
  obtain ⟨g53, h⟩ := sx_grd h
  obtain ⟨V54, hV54⟩ : ∃ z : sv_V, z = sv_I V 69 8 s1 := ⟨_, rfl⟩
  have h := sx_letE hV54 h
  refine sv_putZ (pc := 15) hG dX5_run_15 f_5_83 lay_69 rfl g53 hV54 ?_
  refine sx_aload_n (pc := 18) dX5_run_18 sx_m0 ?_
  refine sx_aload_n (pc := 19) dX5_run_19 sx_m3 ?_
  obtain ⟨V55, hV55⟩ : ∃ z : sv_V, z = sv_R V54 69 6 (some l3) := ⟨_, rfl⟩
  have h := sx_letE hV55 h
  refine sv_putO (pc := 20) hG dX5_run_20 f_5_49 lay_69 rfl rfl hV55 ?_
  refine sx_aload_n (pc := 23) dX5_run_23 sx_m0 ?_
  refine sx_aload (pc := 24) dX5_run_24 sx_m4 ?_
  obtain ⟨V56, hV56⟩ : ∃ z : sv_V, z = sv_R V55 69 7 (some l4) := ⟨_, rfl⟩
  have h := sx_letE hV56 h
  refine sv_putO (pc := 26) hG dX5_run_26 f_5_38 lay_69 rfl rfl hV56 ?_
  refine sx_aload_n (pc := 29) dX5_run_29 sx_m0 ?_
  refine sx_iload_n (pc := 30) dX5_run_30 sx_m1 ?_
  obtain ⟨V57, hV57⟩ : ∃ z : sv_V, z = sv_I V56 69 9 l1 := ⟨_, rfl⟩
  have h := sx_letE hV57 h
  refine sv_putI (pc := 31) hG dX5_run_31 f_5_87 lay_69 rfl hV57 ?_
  refine sx_aload_n (pc := 34) dX5_run_34 sx_m0 ?_
  refine sx_iload_n (pc := 35) dX5_run_35 sx_m1 ?_
  refine sx_iload_n (pc := 36) dX5_run_36 sx_m2 ?_
  refine sx_iadd (pc := 37) dX5_run_37 ?_
  obtain ⟨V58, hV58⟩ : ∃ z : sv_V, z = sv_I V57 69 10 (l1 + l2) := ⟨_, rfl⟩
  have h := sx_letE hV58 h
  refine sv_putI (pc := 38) hG dX5_run_38 f_5_90 lay_69 rfl hV58 ?_
  refine sx_aload_n (pc := 41) dX5_run_41 sx_m0 ?_
  refine sx_iload_n (pc := 42) dX5_run_42 sx_m1 ?_
  obtain ⟨V59, hV59⟩ : ∃ z : sv_V, z = sv_I V58 69 11 l1 := ⟨_, rfl⟩
  have h := sx_letE hV59 h
  refine sv_putI (pc := 43) hG dX5_run_43 f_5_93 lay_69 rfl hV59 ?_
  refine sx_aload_n (pc := 46) dX5_run_46 sx_m0 ?_
  refine sx_iconst (pc := 47) (v := 0) dX5_run_47 (by decide) ?_
  obtain ⟨V60, hV60⟩ : ∃ z : sv_V, z = sv_I V59 69 5 (0 : Int32) := ⟨_, rfl⟩
  have h := sx_letE hV60 h
  refine sv_putI (pc := 48) hG dX5_run_48 f_5_96 lay_69 rfl hV60 ?_
  refine sx_aload_n (pc := 51) dX5_run_51 sx_m0 ?_
  refine sv_getO (pc := 52) hG dX5_run_52 f_5_21 lay_69 rfl cr_69_2 ?_
  refine sx_iconst (pc := 55) (v := 0) dX5_run_55 (by decide) ?_
  obtain ⟨V61, hV61⟩ : ∃ z : sv_V, z = sv_I V60 73 9 (0 : Int32) := ⟨_, rfl⟩
  have h := sx_letE hV61 h
  refine sv_putI (pc := 56) hG dX5_run_56 f_5_99 lay_73 rfl hV61 ?_
  refine sx_aload_n (pc := 59) dX5_run_59 sx_m0 ?_
  refine sv_getO (pc := 60) hG dX5_run_60 f_5_12 lay_69 rfl cr_69_1 ?_
  obtain ⟨V62, g63, h⟩ := sx_bnd h
  refine sv_cV (pc := 63) (y := qX9_renew) (o := none) (as := []) (V1 := V62) hG dX5_run_63 l_X5_102 y0X9_renew yvX9_renew rfl (Nat.le_of_ble_eq_true rfl) lay_70 kr_9 (by decide) (Nat.le_of_ble_eq_true rfl) rfl rfl rfl (t_X9_renew hG ⟨rfl, rfl⟩ g63) ?_
  refine sx_iconst (pc := 66) (v := 0) dX5_run_66 (by decide) ?_
  refine sx_istore (pc := 67) (lo' := [(5, .int (0 : Int32)), (0, .ref 69), (1, .int l1), (2, .int l2), (3, .ref l3), (4, .ref l4)]) dX5_run_67 (by decide) rfl ?_
  refine sx_wk (sx_s1 sx_m1 (sx_s1 sx_m0 sx_s0)) ?_
  exact tL_X5_run_69 hG hP  N _ _ h
def F_X5_run (N : Nat) (l1 : Int32) (l2 : Int32) (l3 : Nat) (l4 : Nat) (V : sv_V) : Option sv_V := if lay l4 = .inl 8 then if l4 = 82 then (B_X5_run_15 N  l1 l2 l3 l4 (1 : Int32) V) else (B_X5_run_15 N  l1 l2 l3 l4 (0 : Int32) V) else none
set_option maxRecDepth 20000 in
theorem t_X5_run {g : sx_G} (hG : sx_Go g) {P : Option Value → sv_V → Prop} {Vr : sv_V} (hP : P none Vr) {N : Nat} {l1 : Int32} {l2 : Int32} {l3 : Nat} {l4 : Nat} {V : sv_V} (h : F_X5_run N l1 l2 l3 l4 V = some Vr) : sv_N g qX5_run 4 0 [(0, .ref 69), (1, .int l1), (2, .int l2), (3, .ref l3), (4, .ref l4)] [] V P := by
  unfold F_X5_run at h
  refine sx_aload_n (pc := 0) dX5_run_0 sx_m0 ?_
  refine sx_aload (pc := 1) dX5_run_1 sx_m4 ?_
  refine sx_aload_n (pc := 3) dX5_run_3 sx_m0 ?_
  refine sv_getO (pc := 4) hG dX5_run_4 f_5_30 lay_69 rfl cr_69_3 ?_
  obtain ⟨g64, h⟩ := sx_grd h
  refine sv_acmp (pc := 7) (tgt := 14) dX5_run_7 (by decide) g64 lay_82 (fun c65 => ?_) (fun c65 => ?_)
  · have h := sx_neg c65 h
    refine sx_iconst (pc := 14) (v := 0) dX5_run_14 (by decide) ?_
    refine sx_wk (sx_s1 sx_m0 (sx_s1 sx_m1 (sx_s1 sx_m2 (sx_s1 sx_m3 (sx_s1 sx_m4 sx_s0))))) ?_
    exact tB_X5_run_15 hG hP  h
  · have h := sx_pos c65 h
    refine sx_iconst (pc := 10) (v := 1) dX5_run_10 (by decide) ?_
    refine sx_goto (pc := 11) (tgt := 15) dX5_run_11 (by decide) ?_
    refine sx_wk (sx_s1 sx_m0 (sx_s1 sx_m1 (sx_s1 sx_m2 (sx_s1 sx_m3 (sx_s1 sx_m4 sx_s0))))) ?_
    exact tB_X5_run_15 hG hP  h
theorem dX6_addParts_0 : decode cX6_addParts 0 = .ok (.iconst 0, 1) := by decide +kernel
theorem dX6_addParts_1 : decode cX6_addParts 1 = .ok (.istore_n 3, 1) := by decide +kernel
theorem dX6_addParts_2 : decode cX6_addParts 2 = .ok (.iload_n 3, 1) := by decide +kernel
theorem dX6_addParts_3 : decode cX6_addParts 3 = .ok (.aload_n 0, 1) := by decide +kernel
theorem dX6_addParts_4 : decode cX6_addParts 4 = .ok (.getfield 34, 3) := by decide +kernel
theorem dX6_addParts_7 : decode cX6_addParts 7 = .ok (.getfield 111, 3) := by decide +kernel
theorem dX6_addParts_10 : decode cX6_addParts 10 = .ok (.iconst 5, 1) := by decide +kernel
theorem dX6_addParts_11 : decode cX6_addParts 11 = .ok (.aaload, 1) := by decide +kernel
theorem dX6_addParts_12 : decode cX6_addParts 12 = .ok (.iload_n 1, 1) := by decide +kernel
theorem dX6_addParts_13 : decode cX6_addParts 13 = .ok (.iaload, 1) := by decide +kernel
theorem dX6_addParts_14 : decode cX6_addParts 14 = .ok (.if_icmp .ge 86, 3) := by decide +kernel
theorem dX6_addParts_17 : decode cX6_addParts 17 = .ok (.aload_n 0, 1) := by decide +kernel
theorem dX6_addParts_18 : decode cX6_addParts 18 = .ok (.dup, 1) := by decide +kernel
theorem dX6_addParts_19 : decode cX6_addParts 19 = .ok (.getfield 101, 3) := by decide +kernel
theorem dX6_addParts_22 : decode cX6_addParts 22 = .ok (.iconst 1, 1) := by decide +kernel
theorem dX6_addParts_23 : decode cX6_addParts 23 = .ok (.iadd, 1) := by decide +kernel
theorem dX6_addParts_24 : decode cX6_addParts 24 = .ok (.putfield 101, 3) := by decide +kernel
theorem dX6_addParts_27 : decode cX6_addParts 27 = .ok (.aload_n 0, 1) := by decide +kernel
theorem dX6_addParts_28 : decode cX6_addParts 28 = .ok (.getfield 101, 3) := by decide +kernel
theorem dX6_addParts_31 : decode cX6_addParts 31 = .ok (.bipush 60, 2) := by decide +kernel
theorem dX6_addParts_33 : decode cX6_addParts 33 = .ok (.if_icmp .le 14, 3) := by decide +kernel
theorem dX6_addParts_36 : decode cX6_addParts 36 = .ok (.aload_n 0, 1) := by decide +kernel
theorem dX6_addParts_37 : decode cX6_addParts 37 = .ok (.getfield 47, 3) := by decide +kernel
theorem dX6_addParts_40 : decode cX6_addParts 40 = .ok (.bipush 12, 2) := by decide +kernel
theorem dX6_addParts_42 : decode cX6_addParts 42 = .ok (.invokevirtual 129, 3) := by decide +kernel
theorem dX6_addParts_45 : decode cX6_addParts 45 = .ok (.iconst 0, 1) := by decide +kernel
theorem dX6_addParts_46 : decode cX6_addParts 46 = .ok (.ireturn, 1) := by decide +kernel
theorem dX6_addParts_47 : decode cX6_addParts 47 = .ok (.aload_n 0, 1) := by decide +kernel
theorem dX6_addParts_48 : decode cX6_addParts 48 = .ok (.getfield 38, 3) := by decide +kernel
theorem dX6_addParts_51 : decode cX6_addParts 51 = .ok (.iload_n 1, 1) := by decide +kernel
theorem dX6_addParts_52 : decode cX6_addParts 52 = .ok (.iload_n 3, 1) := by decide +kernel
theorem dX6_addParts_53 : decode cX6_addParts 53 = .ok (.invokevirtual 196, 3) := by decide +kernel
theorem dX6_addParts_56 : decode cX6_addParts 56 = .ok (.aload_n 0, 1) := by decide +kernel
theorem dX6_addParts_57 : decode cX6_addParts 57 = .ok (.aload_n 0, 1) := by decide +kernel
theorem dX6_addParts_58 : decode cX6_addParts 58 = .ok (.getfield 38, 3) := by decide +kernel
theorem dX6_addParts_61 : decode cX6_addParts 61 = .ok (.getfield 199, 3) := by decide +kernel
theorem dX6_addParts_64 : decode cX6_addParts 64 = .ok (.iload_n 2, 1) := by decide +kernel
theorem dX6_addParts_65 : decode cX6_addParts 65 = .ok (.iconst 1, 1) := by decide +kernel
theorem dX6_addParts_66 : decode cX6_addParts 66 = .ok (.iadd, 1) := by decide +kernel
theorem dX6_addParts_67 : decode cX6_addParts 67 = .ok (.invokevirtual 107, 3) := by decide +kernel
theorem dX6_addParts_70 : decode cX6_addParts 70 = .ok (.ifCond .ne 5, 3) := by decide +kernel
theorem dX6_addParts_73 : decode cX6_addParts 73 = .ok (.iconst 0, 1) := by decide +kernel
theorem dX6_addParts_74 : decode cX6_addParts 74 = .ok (.ireturn, 1) := by decide +kernel
theorem dX6_addParts_75 : decode cX6_addParts 75 = .ok (.aload_n 0, 1) := by decide +kernel
theorem dX6_addParts_76 : decode cX6_addParts 76 = .ok (.getfield 38, 3) := by decide +kernel
theorem dX6_addParts_79 : decode cX6_addParts 79 = .ok (.iload_n 1, 1) := by decide +kernel
theorem dX6_addParts_80 : decode cX6_addParts 80 = .ok (.iload_n 3, 1) := by decide +kernel
theorem dX6_addParts_81 : decode cX6_addParts 81 = .ok (.invokevirtual 196, 3) := by decide +kernel
theorem dX6_addParts_84 : decode cX6_addParts 84 = .ok (.aload_n 0, 1) := by decide +kernel
theorem dX6_addParts_85 : decode cX6_addParts 85 = .ok (.iload_n 2, 1) := by decide +kernel
theorem dX6_addParts_86 : decode cX6_addParts 86 = .ok (.invokevirtual 202, 3) := by decide +kernel
theorem dX6_addParts_89 : decode cX6_addParts 89 = .ok (.ifCond .ne 5, 3) := by decide +kernel
theorem dX6_addParts_92 : decode cX6_addParts 92 = .ok (.iconst 0, 1) := by decide +kernel
theorem dX6_addParts_93 : decode cX6_addParts 93 = .ok (.ireturn, 1) := by decide +kernel
theorem dX6_addParts_94 : decode cX6_addParts 94 = .ok (.iinc 3 1, 3) := by decide +kernel
theorem dX6_addParts_97 : decode cX6_addParts 97 = .ok (.goto (-95), 3) := by decide +kernel
theorem dX6_addParts_100 : decode cX6_addParts 100 = .ok (.iconst 1, 1) := by decide +kernel
theorem dX6_addParts_101 : decode cX6_addParts 101 = .ok (.ireturn, 1) := by decide +kernel
def B_X6_addParts_2 (N : Nat) (kb : Int32 → Int32 → sv_V → Option (Int32 × sv_V)) (k2 : Int32 → Int32 → Int32 → sv_V → Option (Int32 × sv_V)) (l1 : Int32) (l2 : Int32) (l3 : Int32) (V : sv_V) : Option (Int32 × sv_V) := (cr 7 (5 : Int32).toNatClampNeg).bind (fun b1 => (sv_len 0 b1).bind (fun n3 => if sx_in l1 n3 = true then if (V.1 b1 l1.toNatClampNeg) ≤ l3 then (some ((1 : Int32), V)) else (sx_let (sv_I V 30 12 ((V.1 30 12) + (1 : Int32))) (fun V7 => if (V7.1 30 12) ≤ (60 : Int32) then ((F_X3_readPart N l1 l3 V7).bind (fun V9 => (kb (V9.1 16 8) (l2 + (1 : Int32)) V9).bind (fun (x13, V11) => if x13 = 0 then (some ((0 : Int32), V11)) else ((F_X3_readPart N l1 l3 V11).bind (fun V15 => (F_X6_addPart N l2 V15).bind (fun (x19, V17) => if x19 = 0 then (some ((0 : Int32), V17)) else (sx_let (l3 + 1) (fun x21 => k2 l1 l2 x21 V17)))))))) else ((F_X5_failOutside (12 : Int32) V7).bind (fun V22 => some ((0 : Int32), V22))))) else none))
set_option maxRecDepth 20000 in
theorem tB_X6_addParts_2 {g : sx_G} (hG : sx_Go g) {P : Option Value → sv_V → Prop} {r : Int32} {Vr : sv_V} (hP : P (some (.int r)) Vr) {N : Nat} {D : Nat} {kb : Int32 → Int32 → sv_V → Option (Int32 × sv_V)} (hkb : ∀ (l1 : Int32) (l2 : Int32) (V : sv_V) (r : Int32) (Wr : sv_V), kb l1 l2 V = some (r, Wr) → ∀ P : Option Value → sv_V → Prop, P (some (.int r)) Wr → sv_N g qX6_build (30 + 2 * D) 0 [(0, .ref 30), (1, .int l1), (2, .int l2)] [] V P) {k2 : Int32 → Int32 → Int32 → sv_V → Option (Int32 × sv_V)} (hk2 : ∀ (l1 : Int32) (l2 : Int32) (l3 : Int32) (V : sv_V), k2 l1 l2 l3 V = some (r, Vr) → sv_N g qX6_addParts (30 + 2 * D + 1) 2 [(0, .ref 30), (1, .int l1), (2, .int l2), (3, .int l3)] [] V P) {l1 : Int32} {l2 : Int32} {l3 : Int32} {V : sv_V} (h : B_X6_addParts_2 N kb k2 l1 l2 l3 V = some (r, Vr)) : sv_N g qX6_addParts (30 + 2 * D + 1) 2 [(0, .ref 30), (1, .int l1), (2, .int l2), (3, .int l3)] [] V P := by
  unfold B_X6_addParts_2 at h
  refine sx_iload_n (pc := 2) dX6_addParts_2 sx_m3 ?_
  refine sx_aload_n (pc := 3) dX6_addParts_3 sx_m0 ?_
  refine sv_getO (pc := 4) hG dX6_addParts_4 f_6_34 lay_30 rfl cr_30_0 ?_
  refine sv_getA (pc := 7) hG dX6_addParts_7 f_6_111 lay_2 rfl cr_2_16 ?_
  refine sx_iconst (pc := 10) (v := 5) dX6_addParts_10 (by decide) ?_
  obtain ⟨b1, g2, h⟩ := sx_bnd h
  refine sv_aald (pc := 11) hG dX6_addParts_11 (by decide) lay_7 (by decide) g2 ?_
  refine sx_iload_n (pc := 12) dX6_addParts_12 sx_m1 ?_
  obtain ⟨n3, g4, h⟩ := sx_bnd h
  obtain ⟨g5, h⟩ := sx_grd h
  refine sv_iald (pc := 13) hG dX6_addParts_13 (sv_len_e g4) g5 ?_
  refine sx_icmp_ge (pc := 14) (tgt := 100) dX6_addParts_14 (by decide) (fun c6 => ?_) (fun c6 => ?_)
  · have h := sx_pos c6 h
    refine sx_iconst (pc := 100) (v := 1) dX6_addParts_100 (by decide) ?_
    exact sv_zret (pc := 101) dX6_addParts_101 rfl rfl h hP
  · have h := sx_neg c6 h
    refine sx_aload_n (pc := 17) dX6_addParts_17 sx_m0 ?_
    refine sx_dup (pc := 18) dX6_addParts_18 rfl ?_
    refine sv_getI (pc := 19) hG dX6_addParts_19 f_6_101 lay_30 rfl ?_
    refine sx_iconst (pc := 22) (v := 1) dX6_addParts_22 (by decide) ?_
    refine sx_iadd (pc := 23) dX6_addParts_23 ?_
    obtain ⟨V7, hV7⟩ : ∃ z : sv_V, z = sv_I V 30 12 ((V.1 30 12) + (1 : Int32)) := ⟨_, rfl⟩
    have h := sx_letE hV7 h
    refine sv_putI (pc := 24) hG dX6_addParts_24 f_6_101 lay_30 rfl hV7 ?_
    refine sx_aload_n (pc := 27) dX6_addParts_27 sx_m0 ?_
    refine sv_getI (pc := 28) hG dX6_addParts_28 f_6_101 lay_30 rfl ?_
    refine sx_bipush (pc := 31) (v := 60) dX6_addParts_31 (by decide) ?_
    refine sx_icmp_le (pc := 33) (tgt := 47) dX6_addParts_33 (by decide) (fun c8 => ?_) (fun c8 => ?_)
    · have h := sx_pos c8 h
      refine sx_aload_n (pc := 47) dX6_addParts_47 sx_m0 ?_
      refine sv_getO (pc := 48) hG dX6_addParts_48 f_6_38 lay_30 rfl cr_30_1 ?_
      refine sx_iload_n (pc := 51) dX6_addParts_51 sx_m1 ?_
      refine sx_iload_n (pc := 52) dX6_addParts_52 sx_m3 ?_
      obtain ⟨V9, g10, h⟩ := sx_bnd h
      refine sv_cV (pc := 53) (y := qX3_readPart) (o := none) (as := [.int l1, .int l3]) (V1 := V9) hG dX6_addParts_53 l_X6_196 y0X3_readPart yvX3_readPart rfl (Nat.le_of_ble_eq_true rfl) lay_16 kr_3 (by omega) (Nat.le_of_ble_eq_true rfl) rfl rfl rfl (t_X3_readPart hG ⟨rfl, rfl⟩ g10) ?_
      refine sx_aload_n (pc := 56) dX6_addParts_56 sx_m0 ?_
      refine sx_aload_n (pc := 57) dX6_addParts_57 sx_m0 ?_
      refine sv_getO (pc := 58) hG dX6_addParts_58 f_6_38 lay_30 rfl cr_30_1 ?_
      refine sv_getI (pc := 61) hG dX6_addParts_61 f_6_199 lay_16 rfl ?_
      refine sx_iload_n (pc := 64) dX6_addParts_64 sx_m2 ?_
      refine sx_iconst (pc := 65) (v := 1) dX6_addParts_65 (by decide) ?_
      refine sx_iadd (pc := 66) dX6_addParts_66 ?_
      obtain ⟨⟨x13, V11⟩, g12, h⟩ := sx_bnd h
      refine sv_cV (pc := 67) (y := qX6_build) (o := (some (.int x13))) (as := [.int (V9.1 16 8), .int (l2 + (1 : Int32))]) (V1 := V11) hG dX6_addParts_67 l_X6_107 y0X6_build yvX6_build rfl (Nat.le_of_ble_eq_true rfl) lay_30 kr_6 (by omega) (Nat.le_of_ble_eq_true rfl) rfl rfl rfl (hkb _ _ _ _ _ g12 _ ⟨rfl, rfl⟩) ?_
      refine sx_if_ne (pc := 70) (tgt := 75) dX6_addParts_70 (by decide) (fun c14 => ?_) (fun c14 => ?_)
      · have h := sx_neg c14 h
        refine sx_aload_n (pc := 75) dX6_addParts_75 sx_m0 ?_
        refine sv_getO (pc := 76) hG dX6_addParts_76 f_6_38 lay_30 rfl cr_30_1 ?_
        refine sx_iload_n (pc := 79) dX6_addParts_79 sx_m1 ?_
        refine sx_iload_n (pc := 80) dX6_addParts_80 sx_m3 ?_
        obtain ⟨V15, g16, h⟩ := sx_bnd h
        refine sv_cV (pc := 81) (y := qX3_readPart) (o := none) (as := [.int l1, .int l3]) (V1 := V15) hG dX6_addParts_81 l_X6_196 y0X3_readPart yvX3_readPart rfl (Nat.le_of_ble_eq_true rfl) lay_16 kr_3 (by omega) (Nat.le_of_ble_eq_true rfl) rfl rfl rfl (t_X3_readPart hG ⟨rfl, rfl⟩ g16) ?_
        refine sx_aload_n (pc := 84) dX6_addParts_84 sx_m0 ?_
        refine sx_iload_n (pc := 85) dX6_addParts_85 sx_m2 ?_
        obtain ⟨⟨x19, V17⟩, g18, h⟩ := sx_bnd h
        refine sv_cV (pc := 86) (y := qX6_addPart) (o := (some (.int x19))) (as := [.int l2]) (V1 := V17) hG dX6_addParts_86 l_X6_202 y0X6_addPart yvX6_addPart rfl (Nat.le_of_ble_eq_true rfl) lay_30 kr_6 (by omega) (Nat.le_of_ble_eq_true rfl) rfl rfl rfl (t_X6_addPart hG ⟨rfl, rfl⟩ g18) ?_
        refine sx_if_ne (pc := 89) (tgt := 94) dX6_addParts_89 (by decide) (fun c20 => ?_) (fun c20 => ?_)
        · have h := sx_neg c20 h
          obtain ⟨x21, hx21⟩ : ∃ z : Int32, z = l3 + 1 := ⟨_, rfl⟩
          have h := sx_letE hx21 h
          refine sx_iinc (pc := 94) (v := x21) (lo' := [(3, .int x21), (0, .ref 30), (1, .int l1), (2, .int l2)]) dX6_addParts_94 sx_m3 (by rw [hx21]; rfl) (by decide) rfl ?_
          refine sx_goto (pc := 97) (tgt := 2) dX6_addParts_97 (by decide) ?_
          refine sx_wk (sx_s1 sx_m1 (sx_s1 sx_m2 (sx_s1 sx_m3 (sx_s1 sx_m0 sx_s0)))) ?_
          exact hk2 _ _ _ _ h
        · have h := sx_pos c20 h
          refine sx_iconst (pc := 92) (v := 0) dX6_addParts_92 (by decide) ?_
          exact sv_zret (pc := 93) dX6_addParts_93 rfl rfl h hP
      · have h := sx_pos c14 h
        refine sx_iconst (pc := 73) (v := 0) dX6_addParts_73 (by decide) ?_
        exact sv_zret (pc := 74) dX6_addParts_74 rfl rfl h hP
    · have h := sx_neg c8 h
      refine sx_aload_n (pc := 36) dX6_addParts_36 sx_m0 ?_
      refine sv_getO (pc := 37) hG dX6_addParts_37 f_6_47 lay_30 rfl cr_30_2 ?_
      refine sx_bipush (pc := 40) (v := 12) dX6_addParts_40 (by decide) ?_
      obtain ⟨V22, g23, h⟩ := sx_bnd h
      refine sv_cV (pc := 42) (y := qX5_failOutside) (o := none) (as := [.int (12 : Int32)]) (V1 := V22) hG dX6_addParts_42 l_X6_129 y0X5_failOutside yvX5_failOutside rfl (Nat.le_of_ble_eq_true rfl) lay_69 kr_5 (by omega) (Nat.le_of_ble_eq_true rfl) rfl rfl rfl (t_X5_failOutside hG ⟨rfl, rfl⟩ g23) ?_
      refine sx_iconst (pc := 45) (v := 0) dX6_addParts_45 (by decide) ?_
      exact sv_zret (pc := 46) dX6_addParts_46 rfl rfl h hP
theorem tL_X6_addParts_2 {g : sx_G} (hG : sx_Go g) {P : Option Value → sv_V → Prop} {r : Int32} {Vr : sv_V} (hP : P (some (.int r)) Vr) {N : Nat} {D : Nat} {kb : Int32 → Int32 → sv_V → Option (Int32 × sv_V)} (hkb : ∀ (l1 : Int32) (l2 : Int32) (V : sv_V) (r : Int32) (Wr : sv_V), kb l1 l2 V = some (r, Wr) → ∀ P : Option Value → sv_V → Prop, P (some (.int r)) Wr → sv_N g qX6_build (30 + 2 * D) 0 [(0, .ref 30), (1, .int l1), (2, .int l2)] [] V P)   : ∀ (n : Nat) (l1 : Int32) (l2 : Int32) (l3 : Int32) (V : sv_V), sx_lp4 (B_X6_addParts_2 N kb ) n l1 l2 l3 V = some (r, Vr) → sv_N g qX6_addParts (30 + 2 * D + 1) 2 [(0, .ref 30), (1, .int l1), (2, .int l2), (3, .int l3)] [] V P :=
  sx_lp4_ind (fun k0 ih _ _ _ V h => tB_X6_addParts_2 hG hP hkb ih h)
def F_X6_addParts (N : Nat) (kb : Int32 → Int32 → sv_V → Option (Int32 × sv_V)) (l1 : Int32) (l2 : Int32) (V : sv_V) : Option (Int32 × sv_V) := sx_lp4 (B_X6_addParts_2 N kb ) N l1 l2 (0 : Int32) V
set_option maxRecDepth 20000 in
theorem t_X6_addParts {g : sx_G} (hG : sx_Go g) {P : Option Value → sv_V → Prop} {r : Int32} {Vr : sv_V} (hP : P (some (.int r)) Vr) {N : Nat} {D : Nat} {kb : Int32 → Int32 → sv_V → Option (Int32 × sv_V)} (hkb : ∀ (l1 : Int32) (l2 : Int32) (V : sv_V) (r : Int32) (Wr : sv_V), kb l1 l2 V = some (r, Wr) → ∀ P : Option Value → sv_V → Prop, P (some (.int r)) Wr → sv_N g qX6_build (30 + 2 * D) 0 [(0, .ref 30), (1, .int l1), (2, .int l2)] [] V P) {l1 : Int32} {l2 : Int32} {V : sv_V} (h : F_X6_addParts N kb l1 l2 V = some (r, Vr)) : sv_N g qX6_addParts (30 + 2 * D + 1) 0 [(0, .ref 30), (1, .int l1), (2, .int l2)] [] V P := by
  unfold F_X6_addParts at h
  refine sx_iconst (pc := 0) (v := 0) dX6_addParts_0 (by decide) ?_
  refine sx_istore_n (pc := 1) (lo' := [(3, .int (0 : Int32)), (0, .ref 30), (1, .int l1), (2, .int l2)]) dX6_addParts_1 (by decide) rfl ?_
  refine sx_wk (sx_s1 sx_m1 (sx_s1 sx_m2 (sx_s1 sx_m3 (sx_s1 sx_m0 sx_s0)))) ?_
  exact tL_X6_addParts_2 hG hP hkb  N _ _ _ _ h
theorem dX12_check_0 : decode cX12_check 0 = .ok (.aload_n 0, 1) := by decide +kernel
theorem dX12_check_1 : decode cX12_check 1 = .ok (.invokevirtual 222, 3) := by decide +kernel
theorem dX12_check_4 : decode cX12_check 4 = .ok (.ifCond .ne 5, 3) := by decide +kernel
theorem dX12_check_7 : decode cX12_check 7 = .ok (.iconst 1, 1) := by decide +kernel
theorem dX12_check_8 : decode cX12_check 8 = .ok (.ireturn, 1) := by decide +kernel
theorem dX12_check_9 : decode cX12_check 9 = .ok (.iconst 1, 1) := by decide +kernel
theorem dX12_check_10 : decode cX12_check 10 = .ok (.istore_n 1, 1) := by decide +kernel
theorem dX12_check_11 : decode cX12_check 11 = .ok (.iload_n 1, 1) := by decide +kernel
theorem dX12_check_12 : decode cX12_check 12 = .ok (.aload_n 0, 1) := by decide +kernel
theorem dX12_check_13 : decode cX12_check 13 = .ok (.getfield 216, 3) := by decide +kernel
theorem dX12_check_16 : decode cX12_check 16 = .ok (.if_icmp .ge 39, 3) := by decide +kernel
theorem dX12_check_19 : decode cX12_check 19 = .ok (.aload_n 0, 1) := by decide +kernel
theorem dX12_check_20 : decode cX12_check 20 = .ok (.getfield 16, 3) := by decide +kernel
theorem dX12_check_23 : decode cX12_check 23 = .ok (.iload_n 1, 1) := by decide +kernel
theorem dX12_check_24 : decode cX12_check 24 = .ok (.iconst 1, 1) := by decide +kernel
theorem dX12_check_25 : decode cX12_check 25 = .ok (.isub, 1) := by decide +kernel
theorem dX12_check_26 : decode cX12_check 26 = .ok (.iaload, 1) := by decide +kernel
theorem dX12_check_27 : decode cX12_check 27 = .ok (.i2l, 1) := by decide +kernel
theorem dX12_check_28 : decode cX12_check 28 = .ok (.ldc2_w 226, 3) := by decide +kernel
theorem dX12_check_31 : decode cX12_check 31 = .ok (.land, 1) := by decide +kernel
theorem dX12_check_32 : decode cX12_check 32 = .ok (.aload_n 0, 1) := by decide +kernel
theorem dX12_check_33 : decode cX12_check 33 = .ok (.getfield 16, 3) := by decide +kernel
theorem dX12_check_36 : decode cX12_check 36 = .ok (.iload_n 1, 1) := by decide +kernel
theorem dX12_check_37 : decode cX12_check 37 = .ok (.iaload, 1) := by decide +kernel
theorem dX12_check_38 : decode cX12_check 38 = .ok (.i2l, 1) := by decide +kernel
theorem dX12_check_39 : decode cX12_check 39 = .ok (.ldc2_w 226, 3) := by decide +kernel
theorem dX12_check_42 : decode cX12_check 42 = .ok (.land, 1) := by decide +kernel
theorem dX12_check_43 : decode cX12_check 43 = .ok (.lcmp, 1) := by decide +kernel
theorem dX12_check_44 : decode cX12_check 44 = .ok (.ifCond .lt 5, 3) := by decide +kernel
theorem dX12_check_47 : decode cX12_check 47 = .ok (.iconst 2, 1) := by decide +kernel
theorem dX12_check_48 : decode cX12_check 48 = .ok (.ireturn, 1) := by decide +kernel
theorem dX12_check_49 : decode cX12_check 49 = .ok (.iinc 1 1, 3) := by decide +kernel
theorem dX12_check_52 : decode cX12_check 52 = .ok (.goto (-41), 3) := by decide +kernel
theorem dX12_check_55 : decode cX12_check 55 = .ok (.iconst 0, 1) := by decide +kernel
theorem dX12_check_56 : decode cX12_check 56 = .ok (.istore_n 1, 1) := by decide +kernel
theorem dX12_check_57 : decode cX12_check 57 = .ok (.iload_n 1, 1) := by decide +kernel
theorem dX12_check_58 : decode cX12_check 58 = .ok (.aload_n 0, 1) := by decide +kernel
theorem dX12_check_59 : decode cX12_check 59 = .ok (.getfield 216, 3) := by decide +kernel
theorem dX12_check_62 : decode cX12_check 62 = .ok (.if_icmp .ge 186, 3) := by decide +kernel
theorem dX12_check_65 : decode cX12_check 65 = .ok (.aload_n 0, 1) := by decide +kernel
theorem dX12_check_66 : decode cX12_check 66 = .ok (.getfield 24, 3) := by decide +kernel
theorem dX12_check_69 : decode cX12_check 69 = .ok (.iload_n 1, 1) := by decide +kernel
theorem dX12_check_70 : decode cX12_check 70 = .ok (.laload, 1) := by decide +kernel
theorem dX12_check_71 : decode cX12_check 71 = .ok (.ldc2_w 228, 3) := by decide +kernel
theorem dX12_check_74 : decode cX12_check 74 = .ok (.lrem, 1) := by decide +kernel
theorem dX12_check_75 : decode cX12_check 75 = .ok (.lconst 0, 1) := by decide +kernel
theorem dX12_check_76 : decode cX12_check 76 = .ok (.lcmp, 1) := by decide +kernel
theorem dX12_check_77 : decode cX12_check 77 = .ok (.ifCond .ne 48, 3) := by decide +kernel
theorem dX12_check_80 : decode cX12_check 80 = .ok (.aload_n 0, 1) := by decide +kernel
theorem dX12_check_81 : decode cX12_check 81 = .ok (.getfield 24, 3) := by decide +kernel
theorem dX12_check_84 : decode cX12_check 84 = .ok (.iload_n 1, 1) := by decide +kernel
theorem dX12_check_85 : decode cX12_check 85 = .ok (.laload, 1) := by decide +kernel
theorem dX12_check_86 : decode cX12_check 86 = .ok (.ldc2_w 230, 3) := by decide +kernel
theorem dX12_check_89 : decode cX12_check 89 = .ok (.ldc2_w 232, 3) := by decide +kernel
theorem dX12_check_92 : decode cX12_check 92 = .ok (.aload_n 0, 1) := by decide +kernel
theorem dX12_check_93 : decode cX12_check 93 = .ok (.getfield 216, 3) := by decide +kernel
theorem dX12_check_96 : decode cX12_check 96 = .ok (.i2l, 1) := by decide +kernel
theorem dX12_check_97 : decode cX12_check 97 = .ok (.lmul, 1) := by decide +kernel
theorem dX12_check_98 : decode cX12_check 98 = .ok (.ladd, 1) := by decide +kernel
theorem dX12_check_99 : decode cX12_check 99 = .ok (.lcmp, 1) := by decide +kernel
theorem dX12_check_100 : decode cX12_check 100 = .ok (.ifCond .lt 25, 3) := by decide +kernel
theorem dX12_check_103 : decode cX12_check 103 = .ok (.aload_n 0, 1) := by decide +kernel
theorem dX12_check_104 : decode cX12_check 104 = .ok (.getfield 24, 3) := by decide +kernel
theorem dX12_check_107 : decode cX12_check 107 = .ok (.iload_n 1, 1) := by decide +kernel
theorem dX12_check_108 : decode cX12_check 108 = .ok (.laload, 1) := by decide +kernel
theorem dX12_check_109 : decode cX12_check 109 = .ok (.aload_n 0, 1) := by decide +kernel
theorem dX12_check_110 : decode cX12_check 110 = .ok (.getfield 27, 3) := by decide +kernel
theorem dX12_check_113 : decode cX12_check 113 = .ok (.iload_n 1, 1) := by decide +kernel
theorem dX12_check_114 : decode cX12_check 114 = .ok (.laload, 1) := by decide +kernel
theorem dX12_check_115 : decode cX12_check 115 = .ok (.ladd, 1) := by decide +kernel
theorem dX12_check_116 : decode cX12_check 116 = .ok (.aload_n 0, 1) := by decide +kernel
theorem dX12_check_117 : decode cX12_check 117 = .ok (.getfield 206, 3) := by decide +kernel
theorem dX12_check_120 : decode cX12_check 120 = .ok (.i2l, 1) := by decide +kernel
theorem dX12_check_121 : decode cX12_check 121 = .ok (.lcmp, 1) := by decide +kernel
theorem dX12_check_122 : decode cX12_check 122 = .ok (.ifCond .le 5, 3) := by decide +kernel
theorem dX12_check_125 : decode cX12_check 125 = .ok (.iconst 3, 1) := by decide +kernel
theorem dX12_check_126 : decode cX12_check 126 = .ok (.ireturn, 1) := by decide +kernel
theorem dX12_check_127 : decode cX12_check 127 = .ok (.iconst 0, 1) := by decide +kernel
theorem dX12_check_128 : decode cX12_check 128 = .ok (.istore_n 2, 1) := by decide +kernel
theorem dX12_check_129 : decode cX12_check 129 = .ok (.iload_n 2, 1) := by decide +kernel
theorem dX12_check_130 : decode cX12_check 130 = .ok (.iload_n 1, 1) := by decide +kernel
theorem dX12_check_131 : decode cX12_check 131 = .ok (.if_icmp .ge 111, 3) := by decide +kernel
theorem dX12_check_134 : decode cX12_check 134 = .ok (.aload_n 0, 1) := by decide +kernel
theorem dX12_check_135 : decode cX12_check 135 = .ok (.getfield 24, 3) := by decide +kernel
theorem dX12_check_138 : decode cX12_check 138 = .ok (.iload_n 2, 1) := by decide +kernel
theorem dX12_check_139 : decode cX12_check 139 = .ok (.laload, 1) := by decide +kernel
theorem dX12_check_140 : decode cX12_check 140 = .ok (.aload_n 0, 1) := by decide +kernel
theorem dX12_check_141 : decode cX12_check 141 = .ok (.getfield 24, 3) := by decide +kernel
theorem dX12_check_144 : decode cX12_check 144 = .ok (.iload_n 1, 1) := by decide +kernel
theorem dX12_check_145 : decode cX12_check 145 = .ok (.laload, 1) := by decide +kernel
theorem dX12_check_146 : decode cX12_check 146 = .ok (.lcmp, 1) := by decide +kernel
theorem dX12_check_147 : decode cX12_check 147 = .ok (.ifCond .le 12, 3) := by decide +kernel
theorem dX12_check_150 : decode cX12_check 150 = .ok (.aload_n 0, 1) := by decide +kernel
theorem dX12_check_151 : decode cX12_check 151 = .ok (.getfield 24, 3) := by decide +kernel
theorem dX12_check_154 : decode cX12_check 154 = .ok (.iload_n 2, 1) := by decide +kernel
theorem dX12_check_155 : decode cX12_check 155 = .ok (.laload, 1) := by decide +kernel
theorem dX12_check_156 : decode cX12_check 156 = .ok (.goto 9, 3) := by decide +kernel
theorem dX12_check_159 : decode cX12_check 159 = .ok (.aload_n 0, 1) := by decide +kernel
theorem dX12_check_160 : decode cX12_check 160 = .ok (.getfield 24, 3) := by decide +kernel
theorem dX12_check_163 : decode cX12_check 163 = .ok (.iload_n 1, 1) := by decide +kernel
theorem dX12_check_164 : decode cX12_check 164 = .ok (.laload, 1) := by decide +kernel
theorem dX12_check_165 : decode cX12_check 165 = .ok (.lstore_n 3, 1) := by decide +kernel
theorem dX12_check_166 : decode cX12_check 166 = .ok (.aload_n 0, 1) := by decide +kernel
theorem dX12_check_167 : decode cX12_check 167 = .ok (.getfield 24, 3) := by decide +kernel
theorem dX12_check_170 : decode cX12_check 170 = .ok (.iload_n 2, 1) := by decide +kernel
theorem dX12_check_171 : decode cX12_check 171 = .ok (.laload, 1) := by decide +kernel
theorem dX12_check_172 : decode cX12_check 172 = .ok (.aload_n 0, 1) := by decide +kernel
theorem dX12_check_173 : decode cX12_check 173 = .ok (.getfield 27, 3) := by decide +kernel
theorem dX12_check_176 : decode cX12_check 176 = .ok (.iload_n 2, 1) := by decide +kernel
theorem dX12_check_177 : decode cX12_check 177 = .ok (.laload, 1) := by decide +kernel
theorem dX12_check_178 : decode cX12_check 178 = .ok (.ladd, 1) := by decide +kernel
theorem dX12_check_179 : decode cX12_check 179 = .ok (.aload_n 0, 1) := by decide +kernel
theorem dX12_check_180 : decode cX12_check 180 = .ok (.getfield 24, 3) := by decide +kernel
theorem dX12_check_183 : decode cX12_check 183 = .ok (.iload_n 1, 1) := by decide +kernel
theorem dX12_check_184 : decode cX12_check 184 = .ok (.laload, 1) := by decide +kernel
theorem dX12_check_185 : decode cX12_check 185 = .ok (.aload_n 0, 1) := by decide +kernel
theorem dX12_check_186 : decode cX12_check 186 = .ok (.getfield 27, 3) := by decide +kernel
theorem dX12_check_189 : decode cX12_check 189 = .ok (.iload_n 1, 1) := by decide +kernel
theorem dX12_check_190 : decode cX12_check 190 = .ok (.laload, 1) := by decide +kernel
theorem dX12_check_191 : decode cX12_check 191 = .ok (.ladd, 1) := by decide +kernel
theorem dX12_check_192 : decode cX12_check 192 = .ok (.lcmp, 1) := by decide +kernel
theorem dX12_check_193 : decode cX12_check 193 = .ok (.ifCond .ge 19, 3) := by decide +kernel
theorem dX12_check_196 : decode cX12_check 196 = .ok (.aload_n 0, 1) := by decide +kernel
theorem dX12_check_197 : decode cX12_check 197 = .ok (.getfield 24, 3) := by decide +kernel
theorem dX12_check_200 : decode cX12_check 200 = .ok (.iload_n 2, 1) := by decide +kernel
theorem dX12_check_201 : decode cX12_check 201 = .ok (.laload, 1) := by decide +kernel
theorem dX12_check_202 : decode cX12_check 202 = .ok (.aload_n 0, 1) := by decide +kernel
theorem dX12_check_203 : decode cX12_check 203 = .ok (.getfield 27, 3) := by decide +kernel
theorem dX12_check_206 : decode cX12_check 206 = .ok (.iload_n 2, 1) := by decide +kernel
theorem dX12_check_207 : decode cX12_check 207 = .ok (.laload, 1) := by decide +kernel
theorem dX12_check_208 : decode cX12_check 208 = .ok (.ladd, 1) := by decide +kernel
theorem dX12_check_209 : decode cX12_check 209 = .ok (.goto 16, 3) := by decide +kernel
theorem dX12_check_212 : decode cX12_check 212 = .ok (.aload_n 0, 1) := by decide +kernel
theorem dX12_check_213 : decode cX12_check 213 = .ok (.getfield 24, 3) := by decide +kernel
theorem dX12_check_216 : decode cX12_check 216 = .ok (.iload_n 1, 1) := by decide +kernel
theorem dX12_check_217 : decode cX12_check 217 = .ok (.laload, 1) := by decide +kernel
theorem dX12_check_218 : decode cX12_check 218 = .ok (.aload_n 0, 1) := by decide +kernel
theorem dX12_check_219 : decode cX12_check 219 = .ok (.getfield 27, 3) := by decide +kernel
theorem dX12_check_222 : decode cX12_check 222 = .ok (.iload_n 1, 1) := by decide +kernel
theorem dX12_check_223 : decode cX12_check 223 = .ok (.laload, 1) := by decide +kernel
theorem dX12_check_224 : decode cX12_check 224 = .ok (.ladd, 1) := by decide +kernel
theorem dX12_check_225 : decode cX12_check 225 = .ok (.lstore 5, 2) := by decide +kernel
theorem dX12_check_227 : decode cX12_check 227 = .ok (.lload_n 3, 1) := by decide +kernel
theorem dX12_check_228 : decode cX12_check 228 = .ok (.lload 5, 2) := by decide +kernel
theorem dX12_check_230 : decode cX12_check 230 = .ok (.lcmp, 1) := by decide +kernel
theorem dX12_check_231 : decode cX12_check 231 = .ok (.ifCond .ge 5, 3) := by decide +kernel
theorem dX12_check_234 : decode cX12_check 234 = .ok (.iconst 3, 1) := by decide +kernel
theorem dX12_check_235 : decode cX12_check 235 = .ok (.ireturn, 1) := by decide +kernel
theorem dX12_check_236 : decode cX12_check 236 = .ok (.iinc 2 1, 3) := by decide +kernel
theorem dX12_check_239 : decode cX12_check 239 = .ok (.goto (-110), 3) := by decide +kernel
theorem dX12_check_242 : decode cX12_check 242 = .ok (.iinc 1 1, 3) := by decide +kernel
theorem dX12_check_245 : decode cX12_check 245 = .ok (.goto (-188), 3) := by decide +kernel
theorem dX12_check_248 : decode cX12_check 248 = .ok (.iconst 0, 1) := by decide +kernel
theorem dX12_check_249 : decode cX12_check 249 = .ok (.istore_n 1, 1) := by decide +kernel
theorem dX12_check_250 : decode cX12_check 250 = .ok (.iload_n 1, 1) := by decide +kernel
theorem dX12_check_251 : decode cX12_check 251 = .ok (.aload_n 0, 1) := by decide +kernel
theorem dX12_check_252 : decode cX12_check 252 = .ok (.getfield 216, 3) := by decide +kernel
theorem dX12_check_255 : decode cX12_check 255 = .ok (.if_icmp .ge 62, 3) := by decide +kernel
theorem dX12_check_258 : decode cX12_check 258 = .ok (.aload_n 0, 1) := by decide +kernel
theorem dX12_check_259 : decode cX12_check 259 = .ok (.getfield 24, 3) := by decide +kernel
theorem dX12_check_262 : decode cX12_check 262 = .ok (.iload_n 1, 1) := by decide +kernel
theorem dX12_check_263 : decode cX12_check 263 = .ok (.laload, 1) := by decide +kernel
theorem dX12_check_264 : decode cX12_check 264 = .ok (.l2i, 1) := by decide +kernel
theorem dX12_check_265 : decode cX12_check 265 = .ok (.istore_n 2, 1) := by decide +kernel
theorem dX12_check_266 : decode cX12_check 266 = .ok (.aload_n 0, 1) := by decide +kernel
theorem dX12_check_267 : decode cX12_check 267 = .ok (.iload_n 2, 1) := by decide +kernel
theorem dX12_check_268 : decode cX12_check 268 = .ok (.iload_n 2, 1) := by decide +kernel
theorem dX12_check_269 : decode cX12_check 269 = .ok (.aload_n 0, 1) := by decide +kernel
theorem dX12_check_270 : decode cX12_check 270 = .ok (.getfield 27, 3) := by decide +kernel
theorem dX12_check_273 : decode cX12_check 273 = .ok (.iload_n 1, 1) := by decide +kernel
theorem dX12_check_274 : decode cX12_check 274 = .ok (.laload, 1) := by decide +kernel
theorem dX12_check_275 : decode cX12_check 275 = .ok (.l2i, 1) := by decide +kernel
theorem dX12_check_276 : decode cX12_check 276 = .ok (.iadd, 1) := by decide +kernel
theorem dX12_check_277 : decode cX12_check 277 = .ok (.aload_n 0, 1) := by decide +kernel
theorem dX12_check_278 : decode cX12_check 278 = .ok (.getfield 16, 3) := by decide +kernel
theorem dX12_check_281 : decode cX12_check 281 = .ok (.iload_n 1, 1) := by decide +kernel
theorem dX12_check_282 : decode cX12_check 282 = .ok (.iaload, 1) := by decide +kernel
theorem dX12_check_283 : decode cX12_check 283 = .ok (.ldc 234, 2) := by decide +kernel
theorem dX12_check_285 : decode cX12_check 285 = .ok (.if_icmp .ne 10, 3) := by decide +kernel
theorem dX12_check_288 : decode cX12_check 288 = .ok (.iload_n 2, 1) := by decide +kernel
theorem dX12_check_289 : decode cX12_check 289 = .ok (.bipush 8, 2) := by decide +kernel
theorem dX12_check_291 : decode cX12_check 291 = .ok (.iadd, 1) := by decide +kernel
theorem dX12_check_292 : decode cX12_check 292 = .ok (.goto 4, 3) := by decide +kernel
theorem dX12_check_295 : decode cX12_check 295 = .ok (.iconst (-1), 1) := by decide +kernel
theorem dX12_check_296 : decode cX12_check 296 = .ok (.invokevirtual 235, 3) := by decide +kernel
theorem dX12_check_299 : decode cX12_check 299 = .ok (.aload_n 0, 1) := by decide +kernel
theorem dX12_check_300 : decode cX12_check 300 = .ok (.getfield 20, 3) := by decide +kernel
theorem dX12_check_303 : decode cX12_check 303 = .ok (.iload_n 1, 1) := by decide +kernel
theorem dX12_check_304 : decode cX12_check 304 = .ok (.laload, 1) := by decide +kernel
theorem dX12_check_305 : decode cX12_check 305 = .ok (.l2i, 1) := by decide +kernel
theorem dX12_check_306 : decode cX12_check 306 = .ok (.if_icmp .eq 5, 3) := by decide +kernel
theorem dX12_check_309 : decode cX12_check 309 = .ok (.iconst 4, 1) := by decide +kernel
theorem dX12_check_310 : decode cX12_check 310 = .ok (.ireturn, 1) := by decide +kernel
theorem dX12_check_311 : decode cX12_check 311 = .ok (.iinc 1 1, 3) := by decide +kernel
theorem dX12_check_314 : decode cX12_check 314 = .ok (.goto (-64), 3) := by decide +kernel
theorem dX12_check_317 : decode cX12_check 317 = .ok (.aload_n 0, 1) := by decide +kernel
theorem dX12_check_318 : decode cX12_check 318 = .ok (.ldc 239, 2) := by decide +kernel
theorem dX12_check_320 : decode cX12_check 320 = .ok (.invokevirtual 219, 3) := by decide +kernel
theorem dX12_check_323 : decode cX12_check 323 = .ok (.ifCond .lt 57, 3) := by decide +kernel
theorem dX12_check_326 : decode cX12_check 326 = .ok (.aload_n 0, 1) := by decide +kernel
theorem dX12_check_327 : decode cX12_check 327 = .ok (.ldc 240, 2) := by decide +kernel
theorem dX12_check_329 : decode cX12_check 329 = .ok (.invokevirtual 219, 3) := by decide +kernel
theorem dX12_check_332 : decode cX12_check 332 = .ok (.ifCond .lt 48, 3) := by decide +kernel
theorem dX12_check_335 : decode cX12_check 335 = .ok (.aload_n 0, 1) := by decide +kernel
theorem dX12_check_336 : decode cX12_check 336 = .ok (.ldc 234, 2) := by decide +kernel
theorem dX12_check_338 : decode cX12_check 338 = .ok (.invokevirtual 219, 3) := by decide +kernel
theorem dX12_check_341 : decode cX12_check 341 = .ok (.ifCond .lt 39, 3) := by decide +kernel
theorem dX12_check_344 : decode cX12_check 344 = .ok (.aload_n 0, 1) := by decide +kernel
theorem dX12_check_345 : decode cX12_check 345 = .ok (.ldc 241, 2) := by decide +kernel
theorem dX12_check_347 : decode cX12_check 347 = .ok (.invokevirtual 219, 3) := by decide +kernel
theorem dX12_check_350 : decode cX12_check 350 = .ok (.ifCond .lt 30, 3) := by decide +kernel
theorem dX12_check_353 : decode cX12_check 353 = .ok (.aload_n 0, 1) := by decide +kernel
theorem dX12_check_354 : decode cX12_check 354 = .ok (.ldc 242, 2) := by decide +kernel
theorem dX12_check_356 : decode cX12_check 356 = .ok (.invokevirtual 219, 3) := by decide +kernel
theorem dX12_check_359 : decode cX12_check 359 = .ok (.ifCond .lt 21, 3) := by decide +kernel
theorem dX12_check_362 : decode cX12_check 362 = .ok (.aload_n 0, 1) := by decide +kernel
theorem dX12_check_363 : decode cX12_check 363 = .ok (.ldc 243, 2) := by decide +kernel
theorem dX12_check_365 : decode cX12_check 365 = .ok (.invokevirtual 219, 3) := by decide +kernel
theorem dX12_check_368 : decode cX12_check 368 = .ok (.ifCond .lt 12, 3) := by decide +kernel
theorem dX12_check_371 : decode cX12_check 371 = .ok (.aload_n 0, 1) := by decide +kernel
theorem dX12_check_372 : decode cX12_check 372 = .ok (.ldc 244, 2) := by decide +kernel
theorem dX12_check_374 : decode cX12_check 374 = .ok (.invokevirtual 219, 3) := by decide +kernel
theorem dX12_check_377 : decode cX12_check 377 = .ok (.ifCond .ge 5, 3) := by decide +kernel
theorem dX12_check_380 : decode cX12_check 380 = .ok (.iconst 5, 1) := by decide +kernel
theorem dX12_check_381 : decode cX12_check 381 = .ok (.ireturn, 1) := by decide +kernel
theorem dX12_check_382 : decode cX12_check 382 = .ok (.aload_n 0, 1) := by decide +kernel
theorem dX12_check_383 : decode cX12_check 383 = .ok (.invokevirtual 245, 3) := by decide +kernel
theorem dX12_check_386 : decode cX12_check 386 = .ok (.ifCond .ne 6, 3) := by decide +kernel
theorem dX12_check_389 : decode cX12_check 389 = .ok (.bipush 6, 2) := by decide +kernel
theorem dX12_check_391 : decode cX12_check 391 = .ok (.ireturn, 1) := by decide +kernel
theorem dX12_check_392 : decode cX12_check 392 = .ok (.aload_n 0, 1) := by decide +kernel
theorem dX12_check_393 : decode cX12_check 393 = .ok (.invokevirtual 248, 3) := by decide +kernel
theorem dX12_check_396 : decode cX12_check 396 = .ok (.ifCond .ne 6, 3) := by decide +kernel
theorem dX12_check_399 : decode cX12_check 399 = .ok (.bipush 7, 2) := by decide +kernel
theorem dX12_check_401 : decode cX12_check 401 = .ok (.ireturn, 1) := by decide +kernel
theorem dX12_check_402 : decode cX12_check 402 = .ok (.aload_n 0, 1) := by decide +kernel
theorem dX12_check_403 : decode cX12_check 403 = .ok (.ldc 241, 2) := by decide +kernel
theorem dX12_check_405 : decode cX12_check 405 = .ok (.invokevirtual 251, 3) := by decide +kernel
theorem dX12_check_408 : decode cX12_check 408 = .ok (.istore_n 1, 1) := by decide +kernel
theorem dX12_check_409 : decode cX12_check 409 = .ok (.aload_n 0, 1) := by decide +kernel
theorem dX12_check_410 : decode cX12_check 410 = .ok (.aload_n 0, 1) := by decide +kernel
theorem dX12_check_411 : decode cX12_check 411 = .ok (.iload_n 1, 1) := by decide +kernel
theorem dX12_check_412 : decode cX12_check 412 = .ok (.bipush 34, 2) := by decide +kernel
theorem dX12_check_414 : decode cX12_check 414 = .ok (.iadd, 1) := by decide +kernel
theorem dX12_check_415 : decode cX12_check 415 = .ok (.invokevirtual 213, 3) := by decide +kernel
theorem dX12_check_418 : decode cX12_check 418 = .ok (.putfield 254, 3) := by decide +kernel
theorem dX12_check_421 : decode cX12_check 421 = .ok (.aload_n 0, 1) := by decide +kernel
theorem dX12_check_422 : decode cX12_check 422 = .ok (.ldc 241, 2) := by decide +kernel
theorem dX12_check_424 : decode cX12_check 424 = .ok (.invokevirtual 257, 3) := by decide +kernel
theorem dX12_check_427 : decode cX12_check 427 = .ok (.bipush 36, 2) := by decide +kernel
theorem dX12_check_429 : decode cX12_check 429 = .ok (.if_icmp .ne 20, 3) := by decide +kernel
theorem dX12_check_432 : decode cX12_check 432 = .ok (.aload_n 0, 1) := by decide +kernel
theorem dX12_check_433 : decode cX12_check 433 = .ok (.getfield 254, 3) := by decide +kernel
theorem dX12_check_436 : decode cX12_check 436 = .ok (.i2l, 1) := by decide +kernel
theorem dX12_check_437 : decode cX12_check 437 = .ok (.lconst 1, 1) := by decide +kernel
theorem dX12_check_438 : decode cX12_check 438 = .ok (.aload_n 0, 1) := by decide +kernel
theorem dX12_check_439 : decode cX12_check 439 = .ok (.getfield 260, 3) := by decide +kernel
theorem dX12_check_442 : decode cX12_check 442 = .ok (.i2l, 1) := by decide +kernel
theorem dX12_check_443 : decode cX12_check 443 = .ok (.invokestatic 263, 3) := by decide +kernel
theorem dX12_check_446 : decode cX12_check 446 = .ok (.ifCond .ne 6, 3) := by decide +kernel
theorem dX12_check_449 : decode cX12_check 449 = .ok (.bipush 8, 2) := by decide +kernel
theorem dX12_check_451 : decode cX12_check 451 = .ok (.ireturn, 1) := by decide +kernel
theorem dX12_check_452 : decode cX12_check 452 = .ok (.aload_n 0, 1) := by decide +kernel
theorem dX12_check_453 : decode cX12_check 453 = .ok (.ldc 242, 2) := by decide +kernel
theorem dX12_check_455 : decode cX12_check 455 = .ok (.invokevirtual 257, 3) := by decide +kernel
theorem dX12_check_458 : decode cX12_check 458 = .ok (.iconst 4, 1) := by decide +kernel
theorem dX12_check_459 : decode cX12_check 459 = .ok (.aload_n 0, 1) := by decide +kernel
theorem dX12_check_460 : decode cX12_check 460 = .ok (.getfield 254, 3) := by decide +kernel
theorem dX12_check_463 : decode cX12_check 463 = .ok (.imul, 1) := by decide +kernel
theorem dX12_check_464 : decode cX12_check 464 = .ok (.iconst 2, 1) := by decide +kernel
theorem dX12_check_465 : decode cX12_check 465 = .ok (.aload_n 0, 1) := by decide +kernel
theorem dX12_check_466 : decode cX12_check 466 = .ok (.getfield 260, 3) := by decide +kernel
theorem dX12_check_469 : decode cX12_check 469 = .ok (.aload_n 0, 1) := by decide +kernel
theorem dX12_check_470 : decode cX12_check 470 = .ok (.getfield 254, 3) := by decide +kernel
theorem dX12_check_473 : decode cX12_check 473 = .ok (.isub, 1) := by decide +kernel
theorem dX12_check_474 : decode cX12_check 474 = .ok (.imul, 1) := by decide +kernel
theorem dX12_check_475 : decode cX12_check 475 = .ok (.iadd, 1) := by decide +kernel
theorem dX12_check_476 : decode cX12_check 476 = .ok (.if_icmp .ge 6, 3) := by decide +kernel
theorem dX12_check_479 : decode cX12_check 479 = .ok (.bipush 9, 2) := by decide +kernel
theorem dX12_check_481 : decode cX12_check 481 = .ok (.ireturn, 1) := by decide +kernel
theorem dX12_check_482 : decode cX12_check 482 = .ok (.aload_n 0, 1) := by decide +kernel
theorem dX12_check_483 : decode cX12_check 483 = .ok (.invokevirtual 267, 3) := by decide +kernel
theorem dX12_check_486 : decode cX12_check 486 = .ok (.ireturn, 1) := by decide +kernel
def B_X12_check_225 (N : Nat) (k57 : Int32 → sv_V → Option (Int32 × sv_V)) (k129 : Int32 → Int32 → sv_V → Option (Int32 × sv_V)) (l1 : Int32) (l2 : Int32) (l3 : Int64) (s0 : Int64) (V : sv_V) : Option (Int32 × sv_V) := if 0 ≤ (lg_cmp l3 s0) then (sx_let (l2 + 1) (fun x2 => k129 l1 x2 V)) else (some ((3 : Int32), V))
set_option maxRecDepth 20000 in
theorem tB_X12_check_225 {g : sx_G} (hG : sx_Go g) {P : Option Value → sv_V → Prop} {r : Int32} {Vr : sv_V} (hP : P (some (.int r)) Vr) {N : Nat} {k57 : Int32 → sv_V → Option (Int32 × sv_V)} {k129 : Int32 → Int32 → sv_V → Option (Int32 × sv_V)} (hk57 : ∀ (l1 : Int32) (V : sv_V), k57 l1 V = some (r, Vr) → sv_N g qX12_check 8 57 [(0, .ref 146), (1, .int l1)] [] V P) (hk129 : ∀ (l1 : Int32) (l2 : Int32) (V : sv_V), k129 l1 l2 V = some (r, Vr) → sv_N g qX12_check 8 129 [(0, .ref 146), (1, .int l1), (2, .int l2)] [] V P) {l1 : Int32} {l2 : Int32} {l3 : Int64} {s0 : Int64} {V : sv_V} (h : B_X12_check_225 N k57 k129 l1 l2 l3 s0 V = some (r, Vr)) : sv_N g qX12_check 8 225 [(0, .ref 146), (1, .int l1), (2, .int l2), (3, .long l3)] [.long s0] V P := by
  unfold B_X12_check_225 at h
  refine sx_lstore (pc := 225) (lo' := [(5, .long s0), (0, .ref 146), (1, .int l1), (2, .int l2), (3, .long l3)]) dX12_check_225 (by decide) rfl ?_
  refine sx_lload_n (pc := 227) dX12_check_227 sx_m4 ?_
  refine sx_lload (pc := 228) dX12_check_228 sx_m0 ?_
  refine sx_lcmp (pc := 230) dX12_check_230 ?_
  refine sx_if_ge (pc := 231) (tgt := 236) dX12_check_231 (by decide) (fun c1 => ?_) (fun c1 => ?_)
  · have h := sx_pos c1 h
    obtain ⟨x2, hx2⟩ : ∃ z : Int32, z = l2 + 1 := ⟨_, rfl⟩
    have h := sx_letE hx2 h
    refine sx_iinc (pc := 236) (v := x2) (lo' := [(2, .int x2), (5, .long s0), (0, .ref 146), (1, .int l1), (3, .long l3)]) dX12_check_236 sx_m3 (by rw [hx2]; rfl) (by decide) rfl ?_
    refine sx_goto (pc := 239) (tgt := 129) dX12_check_239 (by decide) ?_
    refine sx_wk (sx_s1 sx_m2 (sx_s1 sx_m3 (sx_s1 sx_m0 sx_s0))) ?_
    exact hk129 _ _ _ h
  · have h := sx_neg c1 h
    refine sx_iconst (pc := 234) (v := 3) dX12_check_234 (by decide) ?_
    exact sv_iret (pc := 235) dX12_check_235 rfl h hP
def B_X12_check_165 (N : Nat) (k57 : Int32 → sv_V → Option (Int32 × sv_V)) (k129 : Int32 → Int32 → sv_V → Option (Int32 × sv_V)) (l1 : Int32) (l2 : Int32) (s0 : Int64) (V : sv_V) : Option (Int32 × sv_V) := if sx_in l2 16 = true then if sx_in l2 16 = true then if sx_in l1 16 = true then if sx_in l1 16 = true then if 0 ≤ (lg_cmp ((V.2.1 151 l2.toNatClampNeg) + (V.2.1 152 l2.toNatClampNeg)) ((V.2.1 151 l1.toNatClampNeg) + (V.2.1 152 l1.toNatClampNeg))) then (if sx_in l1 16 = true then if sx_in l1 16 = true then B_X12_check_225 N k57 k129 l1 l2 s0 ((V.2.1 151 l1.toNatClampNeg) + (V.2.1 152 l1.toNatClampNeg)) V else none else none) else (if sx_in l2 16 = true then if sx_in l2 16 = true then B_X12_check_225 N k57 k129 l1 l2 s0 ((V.2.1 151 l2.toNatClampNeg) + (V.2.1 152 l2.toNatClampNeg)) V else none else none) else none else none else none else none
set_option maxRecDepth 20000 in
theorem tB_X12_check_165 {g : sx_G} (hG : sx_Go g) {P : Option Value → sv_V → Prop} {r : Int32} {Vr : sv_V} (hP : P (some (.int r)) Vr) {N : Nat} {k57 : Int32 → sv_V → Option (Int32 × sv_V)} {k129 : Int32 → Int32 → sv_V → Option (Int32 × sv_V)} (hk57 : ∀ (l1 : Int32) (V : sv_V), k57 l1 V = some (r, Vr) → sv_N g qX12_check 8 57 [(0, .ref 146), (1, .int l1)] [] V P) (hk129 : ∀ (l1 : Int32) (l2 : Int32) (V : sv_V), k129 l1 l2 V = some (r, Vr) → sv_N g qX12_check 8 129 [(0, .ref 146), (1, .int l1), (2, .int l2)] [] V P) {l1 : Int32} {l2 : Int32} {s0 : Int64} {V : sv_V} (h : B_X12_check_165 N k57 k129 l1 l2 s0 V = some (r, Vr)) : sv_N g qX12_check 8 165 [(0, .ref 146), (1, .int l1), (2, .int l2)] [.long s0] V P := by
  unfold B_X12_check_165 at h
  refine sx_lstore_n (pc := 165) (lo' := [(3, .long s0), (0, .ref 146), (1, .int l1), (2, .int l2)]) dX12_check_165 (by decide) rfl ?_
  refine sx_aload_n (pc := 166) dX12_check_166 sx_m1 ?_
  refine sv_getA (pc := 167) hG dX12_check_167 f_12_24 lay_146 rfl cr_146_8 ?_
  refine sx_iload_n (pc := 170) dX12_check_170 sx_m3 ?_
  obtain ⟨g3, h⟩ := sx_grd h
  refine sv_lald (pc := 171) hG dX12_check_171 lay_151 g3 ?_
  refine sx_aload_n (pc := 172) dX12_check_172 sx_m1 ?_
  refine sv_getA (pc := 173) hG dX12_check_173 f_12_27 lay_146 rfl cr_146_9 ?_
  refine sx_iload_n (pc := 176) dX12_check_176 sx_m3 ?_
  obtain ⟨g4, h⟩ := sx_grd h
  refine sv_lald (pc := 177) hG dX12_check_177 lay_152 g4 ?_
  refine sx_ladd (pc := 178) dX12_check_178 ?_
  refine sx_aload_n (pc := 179) dX12_check_179 sx_m1 ?_
  refine sv_getA (pc := 180) hG dX12_check_180 f_12_24 lay_146 rfl cr_146_8 ?_
  refine sx_iload_n (pc := 183) dX12_check_183 sx_m2 ?_
  obtain ⟨g5, h⟩ := sx_grd h
  refine sv_lald (pc := 184) hG dX12_check_184 lay_151 g5 ?_
  refine sx_aload_n (pc := 185) dX12_check_185 sx_m1 ?_
  refine sv_getA (pc := 186) hG dX12_check_186 f_12_27 lay_146 rfl cr_146_9 ?_
  refine sx_iload_n (pc := 189) dX12_check_189 sx_m2 ?_
  obtain ⟨g6, h⟩ := sx_grd h
  refine sv_lald (pc := 190) hG dX12_check_190 lay_152 g6 ?_
  refine sx_ladd (pc := 191) dX12_check_191 ?_
  refine sx_lcmp (pc := 192) dX12_check_192 ?_
  refine sx_if_ge (pc := 193) (tgt := 212) dX12_check_193 (by decide) (fun c7 => ?_) (fun c7 => ?_)
  · have h := sx_pos c7 h
    refine sx_aload_n (pc := 212) dX12_check_212 sx_m1 ?_
    refine sv_getA (pc := 213) hG dX12_check_213 f_12_24 lay_146 rfl cr_146_8 ?_
    refine sx_iload_n (pc := 216) dX12_check_216 sx_m2 ?_
    obtain ⟨g8, h⟩ := sx_grd h
    refine sv_lald (pc := 217) hG dX12_check_217 lay_151 g8 ?_
    refine sx_aload_n (pc := 218) dX12_check_218 sx_m1 ?_
    refine sv_getA (pc := 219) hG dX12_check_219 f_12_27 lay_146 rfl cr_146_9 ?_
    refine sx_iload_n (pc := 222) dX12_check_222 sx_m2 ?_
    obtain ⟨g9, h⟩ := sx_grd h
    refine sv_lald (pc := 223) hG dX12_check_223 lay_152 g9 ?_
    refine sx_ladd (pc := 224) dX12_check_224 ?_
    refine sx_wk (sx_s1 sx_m1 (sx_s1 sx_m2 (sx_s1 sx_m3 (sx_s1 sx_m0 sx_s0)))) ?_
    exact tB_X12_check_225 hG hP hk57 hk129 h
  · have h := sx_neg c7 h
    refine sx_aload_n (pc := 196) dX12_check_196 sx_m1 ?_
    refine sv_getA (pc := 197) hG dX12_check_197 f_12_24 lay_146 rfl cr_146_8 ?_
    refine sx_iload_n (pc := 200) dX12_check_200 sx_m3 ?_
    obtain ⟨g10, h⟩ := sx_grd h
    refine sv_lald (pc := 201) hG dX12_check_201 lay_151 g10 ?_
    refine sx_aload_n (pc := 202) dX12_check_202 sx_m1 ?_
    refine sv_getA (pc := 203) hG dX12_check_203 f_12_27 lay_146 rfl cr_146_9 ?_
    refine sx_iload_n (pc := 206) dX12_check_206 sx_m3 ?_
    obtain ⟨g11, h⟩ := sx_grd h
    refine sv_lald (pc := 207) hG dX12_check_207 lay_152 g11 ?_
    refine sx_ladd (pc := 208) dX12_check_208 ?_
    refine sx_goto (pc := 209) (tgt := 225) dX12_check_209 (by decide) ?_
    refine sx_wk (sx_s1 sx_m1 (sx_s1 sx_m2 (sx_s1 sx_m3 (sx_s1 sx_m0 sx_s0)))) ?_
    exact tB_X12_check_225 hG hP hk57 hk129 h
def B_X12_check_129 (N : Nat) (k57 : Int32 → sv_V → Option (Int32 × sv_V)) (k129 : Int32 → Int32 → sv_V → Option (Int32 × sv_V)) (l1 : Int32) (l2 : Int32) (V : sv_V) : Option (Int32 × sv_V) := if l1 ≤ l2 then (sx_let (l1 + 1) (fun x13 => k57 x13 V)) else (if sx_in l2 16 = true then if sx_in l1 16 = true then if (lg_cmp (V.2.1 151 l2.toNatClampNeg) (V.2.1 151 l1.toNatClampNeg)) ≤ 0 then (if sx_in l1 16 = true then B_X12_check_165 N k57 k129 l1 l2 (V.2.1 151 l1.toNatClampNeg) V else none) else (if sx_in l2 16 = true then B_X12_check_165 N k57 k129 l1 l2 (V.2.1 151 l2.toNatClampNeg) V else none) else none else none)
set_option maxRecDepth 20000 in
theorem tB_X12_check_129 {g : sx_G} (hG : sx_Go g) {P : Option Value → sv_V → Prop} {r : Int32} {Vr : sv_V} (hP : P (some (.int r)) Vr) {N : Nat} {k57 : Int32 → sv_V → Option (Int32 × sv_V)} {k129 : Int32 → Int32 → sv_V → Option (Int32 × sv_V)} (hk57 : ∀ (l1 : Int32) (V : sv_V), k57 l1 V = some (r, Vr) → sv_N g qX12_check 8 57 [(0, .ref 146), (1, .int l1)] [] V P) (hk129 : ∀ (l1 : Int32) (l2 : Int32) (V : sv_V), k129 l1 l2 V = some (r, Vr) → sv_N g qX12_check 8 129 [(0, .ref 146), (1, .int l1), (2, .int l2)] [] V P) {l1 : Int32} {l2 : Int32} {V : sv_V} (h : B_X12_check_129 N k57 k129 l1 l2 V = some (r, Vr)) : sv_N g qX12_check 8 129 [(0, .ref 146), (1, .int l1), (2, .int l2)] [] V P := by
  unfold B_X12_check_129 at h
  refine sx_iload_n (pc := 129) dX12_check_129 sx_m2 ?_
  refine sx_iload_n (pc := 130) dX12_check_130 sx_m1 ?_
  refine sx_icmp_ge (pc := 131) (tgt := 242) dX12_check_131 (by decide) (fun c12 => ?_) (fun c12 => ?_)
  · have h := sx_pos c12 h
    obtain ⟨x13, hx13⟩ : ∃ z : Int32, z = l1 + 1 := ⟨_, rfl⟩
    have h := sx_letE hx13 h
    refine sx_iinc (pc := 242) (v := x13) (lo' := [(1, .int x13), (0, .ref 146), (2, .int l2)]) dX12_check_242 sx_m1 (by rw [hx13]; rfl) (by decide) rfl ?_
    refine sx_goto (pc := 245) (tgt := 57) dX12_check_245 (by decide) ?_
    refine sx_wk (sx_s1 sx_m1 (sx_s1 sx_m0 sx_s0)) ?_
    exact hk57 _ _ h
  · have h := sx_neg c12 h
    refine sx_aload_n (pc := 134) dX12_check_134 sx_m0 ?_
    refine sv_getA (pc := 135) hG dX12_check_135 f_12_24 lay_146 rfl cr_146_8 ?_
    refine sx_iload_n (pc := 138) dX12_check_138 sx_m2 ?_
    obtain ⟨g14, h⟩ := sx_grd h
    refine sv_lald (pc := 139) hG dX12_check_139 lay_151 g14 ?_
    refine sx_aload_n (pc := 140) dX12_check_140 sx_m0 ?_
    refine sv_getA (pc := 141) hG dX12_check_141 f_12_24 lay_146 rfl cr_146_8 ?_
    refine sx_iload_n (pc := 144) dX12_check_144 sx_m1 ?_
    obtain ⟨g15, h⟩ := sx_grd h
    refine sv_lald (pc := 145) hG dX12_check_145 lay_151 g15 ?_
    refine sx_lcmp (pc := 146) dX12_check_146 ?_
    refine sx_if_le (pc := 147) (tgt := 159) dX12_check_147 (by decide) (fun c16 => ?_) (fun c16 => ?_)
    · have h := sx_pos c16 h
      refine sx_aload_n (pc := 159) dX12_check_159 sx_m0 ?_
      refine sv_getA (pc := 160) hG dX12_check_160 f_12_24 lay_146 rfl cr_146_8 ?_
      refine sx_iload_n (pc := 163) dX12_check_163 sx_m1 ?_
      obtain ⟨g17, h⟩ := sx_grd h
      refine sv_lald (pc := 164) hG dX12_check_164 lay_151 g17 ?_
      refine sx_wk (sx_s1 sx_m0 (sx_s1 sx_m1 (sx_s1 sx_m2 sx_s0))) ?_
      exact tB_X12_check_165 hG hP hk57 hk129 h
    · have h := sx_neg c16 h
      refine sx_aload_n (pc := 150) dX12_check_150 sx_m0 ?_
      refine sv_getA (pc := 151) hG dX12_check_151 f_12_24 lay_146 rfl cr_146_8 ?_
      refine sx_iload_n (pc := 154) dX12_check_154 sx_m2 ?_
      obtain ⟨g18, h⟩ := sx_grd h
      refine sv_lald (pc := 155) hG dX12_check_155 lay_151 g18 ?_
      refine sx_goto (pc := 156) (tgt := 165) dX12_check_156 (by decide) ?_
      refine sx_wk (sx_s1 sx_m0 (sx_s1 sx_m1 (sx_s1 sx_m2 sx_s0))) ?_
      exact tB_X12_check_165 hG hP hk57 hk129 h
theorem tL_X12_check_129 {g : sx_G} (hG : sx_Go g) {P : Option Value → sv_V → Prop} {r : Int32} {Vr : sv_V} (hP : P (some (.int r)) Vr) {N : Nat} {k57 : Int32 → sv_V → Option (Int32 × sv_V)} (hk57 : ∀ (l1 : Int32) (V : sv_V), k57 l1 V = some (r, Vr) → sv_N g qX12_check 8 57 [(0, .ref 146), (1, .int l1)] [] V P) : ∀ (n : Nat) (l1 : Int32) (l2 : Int32) (V : sv_V), sx_lp3 (B_X12_check_129 N k57) n l1 l2 V = some (r, Vr) → sv_N g qX12_check 8 129 [(0, .ref 146), (1, .int l1), (2, .int l2)] [] V P :=
  sx_lp3_ind (fun k0 ih _ _ V h => tB_X12_check_129 hG hP hk57 ih h)
def B_X12_check_296 (N : Nat) (k250 : Int32 → sv_V → Option (Int32 × sv_V)) (l1 : Int32) (s1 : Int32) (s2 : Int32) (s3 : Int32) (V : sv_V) : Option (Int32 × sv_V) := (F_X12_sumOf N s1 s2 s3 V).bind (fun (x21, V19) => if sx_in l1 16 = true then if x21 = ((V19.2.1 150 l1.toNatClampNeg).toInt32) then (sx_let (l1 + 1) (fun x24 => k250 x24 V19)) else (some ((4 : Int32), V19)) else none)
set_option maxRecDepth 20000 in
theorem tB_X12_check_296 {g : sx_G} (hG : sx_Go g) {P : Option Value → sv_V → Prop} {r : Int32} {Vr : sv_V} (hP : P (some (.int r)) Vr) {N : Nat} {k250 : Int32 → sv_V → Option (Int32 × sv_V)} (hk250 : ∀ (l1 : Int32) (V : sv_V), k250 l1 V = some (r, Vr) → sv_N g qX12_check 8 250 [(0, .ref 146), (1, .int l1)] [] V P) {l1 : Int32} {s1 : Int32} {s2 : Int32} {s3 : Int32} {V : sv_V} (h : B_X12_check_296 N k250 l1 s1 s2 s3 V = some (r, Vr)) : sv_N g qX12_check 8 296 [(0, .ref 146), (1, .int l1)] [.int s3, .int s2, .int s1, .ref 146] V P := by
  unfold B_X12_check_296 at h
  obtain ⟨⟨x21, V19⟩, g20, h⟩ := sx_bnd h
  refine sv_cV (pc := 296) (y := qX12_sumOf) (o := (some (.int x21))) (as := [.int s1, .int s2, .int s3]) (V1 := V19) hG dX12_check_296 l_X12_235 y0X12_sumOf yvX12_sumOf rfl (Nat.le_of_ble_eq_true rfl) lay_146 kr_12 (by decide) (Nat.le_of_ble_eq_true rfl) rfl rfl rfl (t_X12_sumOf hG ⟨rfl, rfl⟩ g20) ?_
  refine sx_aload_n (pc := 299) dX12_check_299 sx_m0 ?_
  refine sv_getA (pc := 300) hG dX12_check_300 f_12_20 lay_146 rfl cr_146_7 ?_
  refine sx_iload_n (pc := 303) dX12_check_303 sx_m1 ?_
  obtain ⟨g22, h⟩ := sx_grd h
  refine sv_lald (pc := 304) hG dX12_check_304 lay_150 g22 ?_
  refine sx_l2i (pc := 305) dX12_check_305 ?_
  refine sx_icmp_eq (pc := 306) (tgt := 311) dX12_check_306 (by decide) (fun c23 => ?_) (fun c23 => ?_)
  · have h := sx_pos c23 h
    obtain ⟨x24, hx24⟩ : ∃ z : Int32, z = l1 + 1 := ⟨_, rfl⟩
    have h := sx_letE hx24 h
    refine sx_iinc (pc := 311) (v := x24) (lo' := [(1, .int x24), (0, .ref 146)]) dX12_check_311 sx_m1 (by rw [hx24]; rfl) (by decide) rfl ?_
    refine sx_goto (pc := 314) (tgt := 250) dX12_check_314 (by decide) ?_
    refine sx_wk (sx_s1 sx_m1 (sx_s1 sx_m0 sx_s0)) ?_
    exact hk250 _ _ h
  · have h := sx_neg c23 h
    refine sx_iconst (pc := 309) (v := 4) dX12_check_309 (by decide) ?_
    exact sv_iret (pc := 310) dX12_check_310 rfl h hP
def B_X12_check_250 (N : Nat) (k250 : Int32 → sv_V → Option (Int32 × sv_V)) (l1 : Int32) (V : sv_V) : Option (Int32 × sv_V) := if (V.1 146 5) ≤ l1 then ((F_X12_tableOf N (1668112752 : Int32) V).bind (fun (x28, V26) => if x28 < 0 then (some ((5 : Int32), V26)) else ((F_X12_tableOf N (1735162214 : Int32) V26).bind (fun (x32, V30) => if x32 < 0 then (some ((5 : Int32), V30)) else ((F_X12_tableOf N (1751474532 : Int32) V30).bind (fun (x36, V34) => if x36 < 0 then (some ((5 : Int32), V34)) else ((F_X12_tableOf N (1751672161 : Int32) V34).bind (fun (x40, V38) => if x40 < 0 then (some ((5 : Int32), V38)) else ((F_X12_tableOf N (1752003704 : Int32) V38).bind (fun (x44, V42) => if x44 < 0 then (some ((5 : Int32), V42)) else ((F_X12_tableOf N (1819239265 : Int32) V42).bind (fun (x48, V46) => if x48 < 0 then (some ((5 : Int32), V46)) else ((F_X12_tableOf N (1835104368 : Int32) V46).bind (fun (x52, V50) => if 0 ≤ x52 then ((F_X12_head N  V50).bind (fun (x56, V54) => if x56 = 0 then (some ((6 : Int32), V54)) else ((F_X12_maxp N  V54).bind (fun (x60, V58) => if x60 = 0 then (some ((7 : Int32), V58)) else ((F_X12_beginOf N (1751672161 : Int32) V58).bind (fun (x64, V62) => (F_X12_u2 (x64 + (34 : Int32)) V62).bind (fun (x67, V65) => sx_let (sv_I V65 146 20 x67) (fun V68 => (F_X12_lengthOf N (1751672161 : Int32) V68).bind (fun (x71, V69) => if x71 = (36 : Int32) then ((F_X12_in ((V69.1 146 20).toInt64) (1 : Int64) ((V69.1 146 12).toInt64) V69).bind (fun (x75, V73) => if x75 = 0 then (some ((8 : Int32), V73)) else ((F_X12_lengthOf N (1752003704 : Int32) V73).bind (fun (x79, V77) => if (((4 : Int32) * (V77.1 146 20)) + ((2 : Int32) * ((V77.1 146 12) - (V77.1 146 20)))) ≤ x79 then ((F_X12_checkGlyphs N  V77).bind (fun (x83, V81) => some (x83, V81))) else (some ((9 : Int32), V77)))))) else (some ((8 : Int32), V69))))))))))) else (some ((5 : Int32), V50)))))))))))))))) else (if sx_in l1 16 = true then sx_let ((V.2.1 151 l1.toNatClampNeg).toInt32) (fun x85 => if sx_in l1 16 = true then if sx_in l1 16 = true then if (V.1 149 l1.toNatClampNeg) = (1751474532 : Int32) then (B_X12_check_296 N k250 l1 x85 (x85 + ((V.2.1 152 l1.toNatClampNeg).toInt32)) (x85 + (8 : Int32)) V) else (B_X12_check_296 N k250 l1 x85 (x85 + ((V.2.1 152 l1.toNatClampNeg).toInt32)) (-1 : Int32) V) else none else none) else none)
set_option maxRecDepth 20000 in
theorem tB_X12_check_250 {g : sx_G} (hG : sx_Go g) {P : Option Value → sv_V → Prop} {r : Int32} {Vr : sv_V} (hP : P (some (.int r)) Vr) {N : Nat} {k250 : Int32 → sv_V → Option (Int32 × sv_V)} (hk250 : ∀ (l1 : Int32) (V : sv_V), k250 l1 V = some (r, Vr) → sv_N g qX12_check 8 250 [(0, .ref 146), (1, .int l1)] [] V P) {l1 : Int32} {V : sv_V} (h : B_X12_check_250 N k250 l1 V = some (r, Vr)) : sv_N g qX12_check 8 250 [(0, .ref 146), (1, .int l1)] [] V P := by
  unfold B_X12_check_250 at h
  refine sx_iload_n (pc := 250) dX12_check_250 sx_m1 ?_
  refine sx_aload_n (pc := 251) dX12_check_251 sx_m0 ?_
  refine sv_getI (pc := 252) hG dX12_check_252 f_12_216 lay_146 rfl ?_
  refine sx_icmp_ge (pc := 255) (tgt := 317) dX12_check_255 (by decide) (fun c25 => ?_) (fun c25 => ?_)
  · have h := sx_pos c25 h
    refine sx_aload_n (pc := 317) dX12_check_317 sx_m0 ?_
    refine sx_ldc (pc := 318) dX12_check_318 k_X12_239 ?_
    obtain ⟨⟨x28, V26⟩, g27, h⟩ := sx_bnd h
    refine sv_cV (pc := 320) (y := qX12_tableOf) (o := (some (.int x28))) (as := [.int (1668112752 : Int32)]) (V1 := V26) hG dX12_check_320 l_X12_219 y0X12_tableOf yvX12_tableOf rfl (Nat.le_of_ble_eq_true rfl) lay_146 kr_12 (by decide) (Nat.le_of_ble_eq_true rfl) rfl rfl rfl (t_X12_tableOf hG ⟨rfl, rfl⟩ g27) ?_
    refine sx_if_lt (pc := 323) (tgt := 380) dX12_check_323 (by decide) (fun c29 => ?_) (fun c29 => ?_)
    · have h := sx_pos c29 h
      refine sx_iconst (pc := 380) (v := 5) dX12_check_380 (by decide) ?_
      exact sv_iret (pc := 381) dX12_check_381 rfl h hP
    · have h := sx_neg c29 h
      refine sx_aload_n (pc := 326) dX12_check_326 sx_m0 ?_
      refine sx_ldc (pc := 327) dX12_check_327 k_X12_240 ?_
      obtain ⟨⟨x32, V30⟩, g31, h⟩ := sx_bnd h
      refine sv_cV (pc := 329) (y := qX12_tableOf) (o := (some (.int x32))) (as := [.int (1735162214 : Int32)]) (V1 := V30) hG dX12_check_329 l_X12_219 y0X12_tableOf yvX12_tableOf rfl (Nat.le_of_ble_eq_true rfl) lay_146 kr_12 (by decide) (Nat.le_of_ble_eq_true rfl) rfl rfl rfl (t_X12_tableOf hG ⟨rfl, rfl⟩ g31) ?_
      refine sx_if_lt (pc := 332) (tgt := 380) dX12_check_332 (by decide) (fun c33 => ?_) (fun c33 => ?_)
      · have h := sx_pos c33 h
        refine sx_iconst (pc := 380) (v := 5) dX12_check_380 (by decide) ?_
        exact sv_iret (pc := 381) dX12_check_381 rfl h hP
      · have h := sx_neg c33 h
        refine sx_aload_n (pc := 335) dX12_check_335 sx_m0 ?_
        refine sx_ldc (pc := 336) dX12_check_336 k_X12_234 ?_
        obtain ⟨⟨x36, V34⟩, g35, h⟩ := sx_bnd h
        refine sv_cV (pc := 338) (y := qX12_tableOf) (o := (some (.int x36))) (as := [.int (1751474532 : Int32)]) (V1 := V34) hG dX12_check_338 l_X12_219 y0X12_tableOf yvX12_tableOf rfl (Nat.le_of_ble_eq_true rfl) lay_146 kr_12 (by decide) (Nat.le_of_ble_eq_true rfl) rfl rfl rfl (t_X12_tableOf hG ⟨rfl, rfl⟩ g35) ?_
        refine sx_if_lt (pc := 341) (tgt := 380) dX12_check_341 (by decide) (fun c37 => ?_) (fun c37 => ?_)
        · have h := sx_pos c37 h
          refine sx_iconst (pc := 380) (v := 5) dX12_check_380 (by decide) ?_
          exact sv_iret (pc := 381) dX12_check_381 rfl h hP
        · have h := sx_neg c37 h
          refine sx_aload_n (pc := 344) dX12_check_344 sx_m0 ?_
          refine sx_ldc (pc := 345) dX12_check_345 k_X12_241 ?_
          obtain ⟨⟨x40, V38⟩, g39, h⟩ := sx_bnd h
          refine sv_cV (pc := 347) (y := qX12_tableOf) (o := (some (.int x40))) (as := [.int (1751672161 : Int32)]) (V1 := V38) hG dX12_check_347 l_X12_219 y0X12_tableOf yvX12_tableOf rfl (Nat.le_of_ble_eq_true rfl) lay_146 kr_12 (by decide) (Nat.le_of_ble_eq_true rfl) rfl rfl rfl (t_X12_tableOf hG ⟨rfl, rfl⟩ g39) ?_
          refine sx_if_lt (pc := 350) (tgt := 380) dX12_check_350 (by decide) (fun c41 => ?_) (fun c41 => ?_)
          · have h := sx_pos c41 h
            refine sx_iconst (pc := 380) (v := 5) dX12_check_380 (by decide) ?_
            exact sv_iret (pc := 381) dX12_check_381 rfl h hP
          · have h := sx_neg c41 h
            refine sx_aload_n (pc := 353) dX12_check_353 sx_m0 ?_
            refine sx_ldc (pc := 354) dX12_check_354 k_X12_242 ?_
            obtain ⟨⟨x44, V42⟩, g43, h⟩ := sx_bnd h
            refine sv_cV (pc := 356) (y := qX12_tableOf) (o := (some (.int x44))) (as := [.int (1752003704 : Int32)]) (V1 := V42) hG dX12_check_356 l_X12_219 y0X12_tableOf yvX12_tableOf rfl (Nat.le_of_ble_eq_true rfl) lay_146 kr_12 (by decide) (Nat.le_of_ble_eq_true rfl) rfl rfl rfl (t_X12_tableOf hG ⟨rfl, rfl⟩ g43) ?_
            refine sx_if_lt (pc := 359) (tgt := 380) dX12_check_359 (by decide) (fun c45 => ?_) (fun c45 => ?_)
            · have h := sx_pos c45 h
              refine sx_iconst (pc := 380) (v := 5) dX12_check_380 (by decide) ?_
              exact sv_iret (pc := 381) dX12_check_381 rfl h hP
            · have h := sx_neg c45 h
              refine sx_aload_n (pc := 362) dX12_check_362 sx_m0 ?_
              refine sx_ldc (pc := 363) dX12_check_363 k_X12_243 ?_
              obtain ⟨⟨x48, V46⟩, g47, h⟩ := sx_bnd h
              refine sv_cV (pc := 365) (y := qX12_tableOf) (o := (some (.int x48))) (as := [.int (1819239265 : Int32)]) (V1 := V46) hG dX12_check_365 l_X12_219 y0X12_tableOf yvX12_tableOf rfl (Nat.le_of_ble_eq_true rfl) lay_146 kr_12 (by decide) (Nat.le_of_ble_eq_true rfl) rfl rfl rfl (t_X12_tableOf hG ⟨rfl, rfl⟩ g47) ?_
              refine sx_if_lt (pc := 368) (tgt := 380) dX12_check_368 (by decide) (fun c49 => ?_) (fun c49 => ?_)
              · have h := sx_pos c49 h
                refine sx_iconst (pc := 380) (v := 5) dX12_check_380 (by decide) ?_
                exact sv_iret (pc := 381) dX12_check_381 rfl h hP
              · have h := sx_neg c49 h
                refine sx_aload_n (pc := 371) dX12_check_371 sx_m0 ?_
                refine sx_ldc (pc := 372) dX12_check_372 k_X12_244 ?_
                obtain ⟨⟨x52, V50⟩, g51, h⟩ := sx_bnd h
                refine sv_cV (pc := 374) (y := qX12_tableOf) (o := (some (.int x52))) (as := [.int (1835104368 : Int32)]) (V1 := V50) hG dX12_check_374 l_X12_219 y0X12_tableOf yvX12_tableOf rfl (Nat.le_of_ble_eq_true rfl) lay_146 kr_12 (by decide) (Nat.le_of_ble_eq_true rfl) rfl rfl rfl (t_X12_tableOf hG ⟨rfl, rfl⟩ g51) ?_
                refine sx_if_ge (pc := 377) (tgt := 382) dX12_check_377 (by decide) (fun c53 => ?_) (fun c53 => ?_)
                · have h := sx_pos c53 h
                  refine sx_aload_n (pc := 382) dX12_check_382 sx_m0 ?_
                  obtain ⟨⟨x56, V54⟩, g55, h⟩ := sx_bnd h
                  refine sv_cV (pc := 383) (y := qX12_head) (o := (some (.int x56))) (as := []) (V1 := V54) hG dX12_check_383 l_X12_245 y0X12_head yvX12_head rfl (Nat.le_of_ble_eq_true rfl) lay_146 kr_12 (by decide) (Nat.le_of_ble_eq_true rfl) rfl rfl rfl (t_X12_head hG ⟨rfl, rfl⟩ g55) ?_
                  refine sx_if_ne (pc := 386) (tgt := 392) dX12_check_386 (by decide) (fun c57 => ?_) (fun c57 => ?_)
                  · have h := sx_neg c57 h
                    refine sx_aload_n (pc := 392) dX12_check_392 sx_m0 ?_
                    obtain ⟨⟨x60, V58⟩, g59, h⟩ := sx_bnd h
                    refine sv_cV (pc := 393) (y := qX12_maxp) (o := (some (.int x60))) (as := []) (V1 := V58) hG dX12_check_393 l_X12_248 y0X12_maxp yvX12_maxp rfl (Nat.le_of_ble_eq_true rfl) lay_146 kr_12 (by decide) (Nat.le_of_ble_eq_true rfl) rfl rfl rfl (t_X12_maxp hG ⟨rfl, rfl⟩ g59) ?_
                    refine sx_if_ne (pc := 396) (tgt := 402) dX12_check_396 (by decide) (fun c61 => ?_) (fun c61 => ?_)
                    · have h := sx_neg c61 h
                      refine sx_aload_n (pc := 402) dX12_check_402 sx_m0 ?_
                      refine sx_ldc (pc := 403) dX12_check_403 k_X12_241 ?_
                      obtain ⟨⟨x64, V62⟩, g63, h⟩ := sx_bnd h
                      refine sv_cV (pc := 405) (y := qX12_beginOf) (o := (some (.int x64))) (as := [.int (1751672161 : Int32)]) (V1 := V62) hG dX12_check_405 l_X12_251 y0X12_beginOf yvX12_beginOf rfl (Nat.le_of_ble_eq_true rfl) lay_146 kr_12 (by decide) (Nat.le_of_ble_eq_true rfl) rfl rfl rfl (t_X12_beginOf hG ⟨rfl, rfl⟩ g63) ?_
                      refine sx_istore_n (pc := 408) (lo' := [(1, .int x64), (0, .ref 146)]) dX12_check_408 (by decide) rfl ?_
                      refine sx_aload_n (pc := 409) dX12_check_409 sx_m1 ?_
                      refine sx_aload_n (pc := 410) dX12_check_410 sx_m1 ?_
                      refine sx_iload_n (pc := 411) dX12_check_411 sx_m0 ?_
                      refine sx_bipush (pc := 412) (v := 34) dX12_check_412 (by decide) ?_
                      refine sx_iadd (pc := 414) dX12_check_414 ?_
                      obtain ⟨⟨x67, V65⟩, g66, h⟩ := sx_bnd h
                      refine sv_cV (pc := 415) (y := qX12_u2) (o := (some (.int x67))) (as := [.int (x64 + (34 : Int32))]) (V1 := V65) hG dX12_check_415 l_X12_213 y0X12_u2 yvX12_u2 rfl (Nat.le_of_ble_eq_true rfl) lay_146 kr_12 (by decide) (Nat.le_of_ble_eq_true rfl) rfl rfl rfl (t_X12_u2 hG ⟨rfl, rfl⟩ g66) ?_
                      obtain ⟨V68, hV68⟩ : ∃ z : sv_V, z = sv_I V65 146 20 x67 := ⟨_, rfl⟩
                      have h := sx_letE hV68 h
                      refine sv_putI (pc := 418) hG dX12_check_418 f_12_254 lay_146 rfl hV68 ?_
                      refine sx_aload_n (pc := 421) dX12_check_421 sx_m1 ?_
                      refine sx_ldc (pc := 422) dX12_check_422 k_X12_241 ?_
                      obtain ⟨⟨x71, V69⟩, g70, h⟩ := sx_bnd h
                      refine sv_cV (pc := 424) (y := qX12_lengthOf) (o := (some (.int x71))) (as := [.int (1751672161 : Int32)]) (V1 := V69) hG dX12_check_424 l_X12_257 y0X12_lengthOf yvX12_lengthOf rfl (Nat.le_of_ble_eq_true rfl) lay_146 kr_12 (by decide) (Nat.le_of_ble_eq_true rfl) rfl rfl rfl (t_X12_lengthOf hG ⟨rfl, rfl⟩ g70) ?_
                      refine sx_bipush (pc := 427) (v := 36) dX12_check_427 (by decide) ?_
                      refine sx_icmp_ne (pc := 429) (tgt := 449) dX12_check_429 (by decide) (fun c72 => ?_) (fun c72 => ?_)
                      · have h := sx_neg c72 h
                        refine sx_bipush (pc := 449) (v := 8) dX12_check_449 (by decide) ?_
                        exact sv_iret (pc := 451) dX12_check_451 rfl h hP
                      · have h := sx_pos c72 h
                        refine sx_aload_n (pc := 432) dX12_check_432 sx_m1 ?_
                        refine sv_getI (pc := 433) hG dX12_check_433 f_12_254 lay_146 rfl ?_
                        refine sx_i2l (pc := 436) dX12_check_436 ?_
                        refine sx_lconst (pc := 437) (v := 1) dX12_check_437 rfl ?_
                        refine sx_aload_n (pc := 438) dX12_check_438 sx_m1 ?_
                        refine sv_getI (pc := 439) hG dX12_check_439 f_12_260 lay_146 rfl ?_
                        refine sx_i2l (pc := 442) dX12_check_442 ?_
                        obtain ⟨⟨x75, V73⟩, g74, h⟩ := sx_bnd h
                        refine sv_cS (pc := 443) (y := qX12_in) (o := (some (.int x75))) (as := [.long ((V69.1 146 20).toInt64), .long (1 : Int64), .long ((V69.1 146 12).toInt64)]) (V1 := V73) dX12_check_443 l_X12_263 y0X12_in ysX12_in rfl (Nat.le_of_ble_eq_true rfl) (by decide) (Nat.le_of_ble_eq_true rfl) rfl rfl rfl (t_X12_in hG ⟨rfl, rfl⟩ g74) ?_
                        refine sx_if_ne (pc := 446) (tgt := 452) dX12_check_446 (by decide) (fun c76 => ?_) (fun c76 => ?_)
                        · have h := sx_neg c76 h
                          refine sx_aload_n (pc := 452) dX12_check_452 sx_m1 ?_
                          refine sx_ldc (pc := 453) dX12_check_453 k_X12_242 ?_
                          obtain ⟨⟨x79, V77⟩, g78, h⟩ := sx_bnd h
                          refine sv_cV (pc := 455) (y := qX12_lengthOf) (o := (some (.int x79))) (as := [.int (1752003704 : Int32)]) (V1 := V77) hG dX12_check_455 l_X12_257 y0X12_lengthOf yvX12_lengthOf rfl (Nat.le_of_ble_eq_true rfl) lay_146 kr_12 (by decide) (Nat.le_of_ble_eq_true rfl) rfl rfl rfl (t_X12_lengthOf hG ⟨rfl, rfl⟩ g78) ?_
                          refine sx_iconst (pc := 458) (v := 4) dX12_check_458 (by decide) ?_
                          refine sx_aload_n (pc := 459) dX12_check_459 sx_m1 ?_
                          refine sv_getI (pc := 460) hG dX12_check_460 f_12_254 lay_146 rfl ?_
                          refine sx_imul (pc := 463) dX12_check_463 ?_
                          refine sx_iconst (pc := 464) (v := 2) dX12_check_464 (by decide) ?_
                          refine sx_aload_n (pc := 465) dX12_check_465 sx_m1 ?_
                          refine sv_getI (pc := 466) hG dX12_check_466 f_12_260 lay_146 rfl ?_
                          refine sx_aload_n (pc := 469) dX12_check_469 sx_m1 ?_
                          refine sv_getI (pc := 470) hG dX12_check_470 f_12_254 lay_146 rfl ?_
                          refine sx_isub (pc := 473) dX12_check_473 ?_
                          refine sx_imul (pc := 474) dX12_check_474 ?_
                          refine sx_iadd (pc := 475) dX12_check_475 ?_
                          refine sx_icmp_ge (pc := 476) (tgt := 482) dX12_check_476 (by decide) (fun c80 => ?_) (fun c80 => ?_)
                          · have h := sx_pos c80 h
                            refine sx_aload_n (pc := 482) dX12_check_482 sx_m1 ?_
                            obtain ⟨⟨x83, V81⟩, g82, h⟩ := sx_bnd h
                            refine sv_cV (pc := 483) (y := qX12_checkGlyphs) (o := (some (.int x83))) (as := []) (V1 := V81) hG dX12_check_483 l_X12_267 y0X12_checkGlyphs yvX12_checkGlyphs rfl (Nat.le_of_ble_eq_true rfl) lay_146 kr_12 (by decide) (Nat.le_of_ble_eq_true rfl) rfl rfl rfl (t_X12_checkGlyphs hG ⟨rfl, rfl⟩ g82) ?_
                            exact sv_iret (pc := 486) dX12_check_486 rfl h hP
                          · have h := sx_neg c80 h
                            refine sx_bipush (pc := 479) (v := 9) dX12_check_479 (by decide) ?_
                            exact sv_iret (pc := 481) dX12_check_481 rfl h hP
                        · have h := sx_pos c76 h
                          refine sx_bipush (pc := 449) (v := 8) dX12_check_449 (by decide) ?_
                          exact sv_iret (pc := 451) dX12_check_451 rfl h hP
                    · have h := sx_pos c61 h
                      refine sx_bipush (pc := 399) (v := 7) dX12_check_399 (by decide) ?_
                      exact sv_iret (pc := 401) dX12_check_401 rfl h hP
                  · have h := sx_pos c57 h
                    refine sx_bipush (pc := 389) (v := 6) dX12_check_389 (by decide) ?_
                    exact sv_iret (pc := 391) dX12_check_391 rfl h hP
                · have h := sx_neg c53 h
                  refine sx_iconst (pc := 380) (v := 5) dX12_check_380 (by decide) ?_
                  exact sv_iret (pc := 381) dX12_check_381 rfl h hP
  · have h := sx_neg c25 h
    refine sx_aload_n (pc := 258) dX12_check_258 sx_m0 ?_
    refine sv_getA (pc := 259) hG dX12_check_259 f_12_24 lay_146 rfl cr_146_8 ?_
    refine sx_iload_n (pc := 262) dX12_check_262 sx_m1 ?_
    obtain ⟨g84, h⟩ := sx_grd h
    refine sv_lald (pc := 263) hG dX12_check_263 lay_151 g84 ?_
    refine sx_l2i (pc := 264) dX12_check_264 ?_
    refine sv_tI (fun x85 hx85 => ?_)
    have h := sx_letE hx85 h
    refine sx_istore_n (pc := 265) (lo' := [(2, .int x85), (0, .ref 146), (1, .int l1)]) dX12_check_265 (by decide) rfl ?_
    refine sx_aload_n (pc := 266) dX12_check_266 sx_m1 ?_
    refine sx_iload_n (pc := 267) dX12_check_267 sx_m0 ?_
    refine sx_iload_n (pc := 268) dX12_check_268 sx_m0 ?_
    refine sx_aload_n (pc := 269) dX12_check_269 sx_m1 ?_
    refine sv_getA (pc := 270) hG dX12_check_270 f_12_27 lay_146 rfl cr_146_9 ?_
    refine sx_iload_n (pc := 273) dX12_check_273 sx_m2 ?_
    obtain ⟨g86, h⟩ := sx_grd h
    refine sv_lald (pc := 274) hG dX12_check_274 lay_152 g86 ?_
    refine sx_l2i (pc := 275) dX12_check_275 ?_
    refine sx_iadd (pc := 276) dX12_check_276 ?_
    refine sx_aload_n (pc := 277) dX12_check_277 sx_m1 ?_
    refine sv_getA (pc := 278) hG dX12_check_278 f_12_16 lay_146 rfl cr_146_6 ?_
    refine sx_iload_n (pc := 281) dX12_check_281 sx_m2 ?_
    obtain ⟨g87, h⟩ := sx_grd h
    refine sv_iald (pc := 282) hG dX12_check_282 lay_149 g87 ?_
    refine sx_ldc (pc := 283) dX12_check_283 k_X12_234 ?_
    refine sx_icmp_ne (pc := 285) (tgt := 295) dX12_check_285 (by decide) (fun c88 => ?_) (fun c88 => ?_)
    · have h := sx_neg c88 h
      refine sx_iconst (pc := 295) (v := (-1)) dX12_check_295 (by decide) ?_
      refine sx_wk (sx_s1 sx_m1 (sx_s1 sx_m2 sx_s0)) ?_
      exact tB_X12_check_296 hG hP hk250 h
    · have h := sx_pos c88 h
      refine sx_iload_n (pc := 288) dX12_check_288 sx_m0 ?_
      refine sx_bipush (pc := 289) (v := 8) dX12_check_289 (by decide) ?_
      refine sx_iadd (pc := 291) dX12_check_291 ?_
      refine sx_goto (pc := 292) (tgt := 296) dX12_check_292 (by decide) ?_
      refine sx_wk (sx_s1 sx_m1 (sx_s1 sx_m2 sx_s0)) ?_
      exact tB_X12_check_296 hG hP hk250 h
theorem tL_X12_check_250 {g : sx_G} (hG : sx_Go g) {P : Option Value → sv_V → Prop} {r : Int32} {Vr : sv_V} (hP : P (some (.int r)) Vr) {N : Nat}   : ∀ (n : Nat) (l1 : Int32) (V : sv_V), sx_lp2 (B_X12_check_250 N ) n l1 V = some (r, Vr) → sv_N g qX12_check 8 250 [(0, .ref 146), (1, .int l1)] [] V P :=
  sx_lp2_ind (fun k0 ih _ V h => tB_X12_check_250 hG hP ih h)
def B_X12_check_57 (N : Nat) (k57 : Int32 → sv_V → Option (Int32 × sv_V)) (l1 : Int32) (V : sv_V) : Option (Int32 × sv_V) := if (V.1 146 5) ≤ l1 then (sx_lp2 (B_X12_check_250 N ) N (0 : Int32) V) else (if sx_in l1 16 = true then if (lg_cmp ((V.2.1 151 l1.toNatClampNeg) - (V.2.1 151 l1.toNatClampNeg) / (4 : Int64) * (4 : Int64)) (0 : Int64)) = 0 then (if sx_in l1 16 = true then if (lg_cmp (V.2.1 151 l1.toNatClampNeg) ((12 : Int64) + ((16 : Int64) * ((V.1 146 5).toInt64)))) < 0 then (some ((3 : Int32), V)) else (if sx_in l1 16 = true then if sx_in l1 16 = true then if (lg_cmp ((V.2.1 151 l1.toNatClampNeg) + (V.2.1 152 l1.toNatClampNeg)) ((V.1 146 3).toInt64)) ≤ 0 then (sx_lp3 (B_X12_check_129 N k57) N l1 (0 : Int32) V) else (some ((3 : Int32), V)) else none else none) else none) else (some ((3 : Int32), V)) else none)
set_option maxRecDepth 20000 in
theorem tB_X12_check_57 {g : sx_G} (hG : sx_Go g) {P : Option Value → sv_V → Prop} {r : Int32} {Vr : sv_V} (hP : P (some (.int r)) Vr) {N : Nat} {k57 : Int32 → sv_V → Option (Int32 × sv_V)} (hk57 : ∀ (l1 : Int32) (V : sv_V), k57 l1 V = some (r, Vr) → sv_N g qX12_check 8 57 [(0, .ref 146), (1, .int l1)] [] V P) {l1 : Int32} {V : sv_V} (h : B_X12_check_57 N k57 l1 V = some (r, Vr)) : sv_N g qX12_check 8 57 [(0, .ref 146), (1, .int l1)] [] V P := by
  unfold B_X12_check_57 at h
  refine sx_iload_n (pc := 57) dX12_check_57 sx_m1 ?_
  refine sx_aload_n (pc := 58) dX12_check_58 sx_m0 ?_
  refine sv_getI (pc := 59) hG dX12_check_59 f_12_216 lay_146 rfl ?_
  refine sx_icmp_ge (pc := 62) (tgt := 248) dX12_check_62 (by decide) (fun c89 => ?_) (fun c89 => ?_)
  · have h := sx_pos c89 h
    refine sx_iconst (pc := 248) (v := 0) dX12_check_248 (by decide) ?_
    refine sx_istore_n (pc := 249) (lo' := [(1, .int (0 : Int32)), (0, .ref 146)]) dX12_check_249 (by decide) rfl ?_
    refine sx_wk (sx_s1 sx_m1 (sx_s1 sx_m0 sx_s0)) ?_
    exact tL_X12_check_250 hG hP  N _ _ h
  · have h := sx_neg c89 h
    refine sx_aload_n (pc := 65) dX12_check_65 sx_m0 ?_
    refine sv_getA (pc := 66) hG dX12_check_66 f_12_24 lay_146 rfl cr_146_8 ?_
    refine sx_iload_n (pc := 69) dX12_check_69 sx_m1 ?_
    obtain ⟨g90, h⟩ := sx_grd h
    refine sv_lald (pc := 70) hG dX12_check_70 lay_151 g90 ?_
    refine sx_ldc2 (pc := 71) dX12_check_71 k_X12_228 ?_
    refine sx_lrem (pc := 74) dX12_check_74 (by decide) ?_
    refine sx_lconst (pc := 75) (v := 0) dX12_check_75 rfl ?_
    refine sx_lcmp (pc := 76) dX12_check_76 ?_
    refine sx_if_ne (pc := 77) (tgt := 125) dX12_check_77 (by decide) (fun c91 => ?_) (fun c91 => ?_)
    · have h := sx_neg c91 h
      refine sx_iconst (pc := 125) (v := 3) dX12_check_125 (by decide) ?_
      exact sv_iret (pc := 126) dX12_check_126 rfl h hP
    · have h := sx_pos c91 h
      refine sx_aload_n (pc := 80) dX12_check_80 sx_m0 ?_
      refine sv_getA (pc := 81) hG dX12_check_81 f_12_24 lay_146 rfl cr_146_8 ?_
      refine sx_iload_n (pc := 84) dX12_check_84 sx_m1 ?_
      obtain ⟨g92, h⟩ := sx_grd h
      refine sv_lald (pc := 85) hG dX12_check_85 lay_151 g92 ?_
      refine sx_ldc2 (pc := 86) dX12_check_86 k_X12_230 ?_
      refine sx_ldc2 (pc := 89) dX12_check_89 k_X12_232 ?_
      refine sx_aload_n (pc := 92) dX12_check_92 sx_m0 ?_
      refine sv_getI (pc := 93) hG dX12_check_93 f_12_216 lay_146 rfl ?_
      refine sx_i2l (pc := 96) dX12_check_96 ?_
      refine sx_lmul (pc := 97) dX12_check_97 ?_
      refine sx_ladd (pc := 98) dX12_check_98 ?_
      refine sx_lcmp (pc := 99) dX12_check_99 ?_
      refine sx_if_lt (pc := 100) (tgt := 125) dX12_check_100 (by decide) (fun c93 => ?_) (fun c93 => ?_)
      · have h := sx_pos c93 h
        refine sx_iconst (pc := 125) (v := 3) dX12_check_125 (by decide) ?_
        exact sv_iret (pc := 126) dX12_check_126 rfl h hP
      · have h := sx_neg c93 h
        refine sx_aload_n (pc := 103) dX12_check_103 sx_m0 ?_
        refine sv_getA (pc := 104) hG dX12_check_104 f_12_24 lay_146 rfl cr_146_8 ?_
        refine sx_iload_n (pc := 107) dX12_check_107 sx_m1 ?_
        obtain ⟨g94, h⟩ := sx_grd h
        refine sv_lald (pc := 108) hG dX12_check_108 lay_151 g94 ?_
        refine sx_aload_n (pc := 109) dX12_check_109 sx_m0 ?_
        refine sv_getA (pc := 110) hG dX12_check_110 f_12_27 lay_146 rfl cr_146_9 ?_
        refine sx_iload_n (pc := 113) dX12_check_113 sx_m1 ?_
        obtain ⟨g95, h⟩ := sx_grd h
        refine sv_lald (pc := 114) hG dX12_check_114 lay_152 g95 ?_
        refine sx_ladd (pc := 115) dX12_check_115 ?_
        refine sx_aload_n (pc := 116) dX12_check_116 sx_m0 ?_
        refine sv_getI (pc := 117) hG dX12_check_117 f_12_206 lay_146 rfl ?_
        refine sx_i2l (pc := 120) dX12_check_120 ?_
        refine sx_lcmp (pc := 121) dX12_check_121 ?_
        refine sx_if_le (pc := 122) (tgt := 127) dX12_check_122 (by decide) (fun c96 => ?_) (fun c96 => ?_)
        · have h := sx_pos c96 h
          refine sx_iconst (pc := 127) (v := 0) dX12_check_127 (by decide) ?_
          refine sx_istore_n (pc := 128) (lo' := [(2, .int (0 : Int32)), (0, .ref 146), (1, .int l1)]) dX12_check_128 (by decide) rfl ?_
          refine sx_wk (sx_s1 sx_m1 (sx_s1 sx_m2 (sx_s1 sx_m0 sx_s0))) ?_
          exact tL_X12_check_129 hG hP hk57 N _ _ _ h
        · have h := sx_neg c96 h
          refine sx_iconst (pc := 125) (v := 3) dX12_check_125 (by decide) ?_
          exact sv_iret (pc := 126) dX12_check_126 rfl h hP
theorem tL_X12_check_57 {g : sx_G} (hG : sx_Go g) {P : Option Value → sv_V → Prop} {r : Int32} {Vr : sv_V} (hP : P (some (.int r)) Vr) {N : Nat}   : ∀ (n : Nat) (l1 : Int32) (V : sv_V), sx_lp2 (B_X12_check_57 N ) n l1 V = some (r, Vr) → sv_N g qX12_check 8 57 [(0, .ref 146), (1, .int l1)] [] V P :=
  sx_lp2_ind (fun k0 ih _ V h => tB_X12_check_57 hG hP ih h)
def B_X12_check_11 (N : Nat) (k11 : Int32 → sv_V → Option (Int32 × sv_V)) (l1 : Int32) (V : sv_V) : Option (Int32 × sv_V) := if (V.1 146 5) ≤ l1 then (sx_lp2 (B_X12_check_57 N ) N (0 : Int32) V) else (if sx_in (l1 - (1 : Int32)) 16 = true then if sx_in l1 16 = true then if (lg_cmp (((V.1 149 (l1 - (1 : Int32)).toNatClampNeg).toInt64) &&& (4294967295 : Int64)) (((V.1 149 l1.toNatClampNeg).toInt64) &&& (4294967295 : Int64))) < 0 then (sx_let (l1 + 1) (fun x101 => k11 x101 V)) else (some ((2 : Int32), V)) else none else none)
set_option maxRecDepth 20000 in
theorem tB_X12_check_11 {g : sx_G} (hG : sx_Go g) {P : Option Value → sv_V → Prop} {r : Int32} {Vr : sv_V} (hP : P (some (.int r)) Vr) {N : Nat} {k11 : Int32 → sv_V → Option (Int32 × sv_V)} (hk11 : ∀ (l1 : Int32) (V : sv_V), k11 l1 V = some (r, Vr) → sv_N g qX12_check 8 11 [(0, .ref 146), (1, .int l1)] [] V P) {l1 : Int32} {V : sv_V} (h : B_X12_check_11 N k11 l1 V = some (r, Vr)) : sv_N g qX12_check 8 11 [(0, .ref 146), (1, .int l1)] [] V P := by
  unfold B_X12_check_11 at h
  refine sx_iload_n (pc := 11) dX12_check_11 sx_m1 ?_
  refine sx_aload_n (pc := 12) dX12_check_12 sx_m0 ?_
  refine sv_getI (pc := 13) hG dX12_check_13 f_12_216 lay_146 rfl ?_
  refine sx_icmp_ge (pc := 16) (tgt := 55) dX12_check_16 (by decide) (fun c97 => ?_) (fun c97 => ?_)
  · have h := sx_pos c97 h
    refine sx_iconst (pc := 55) (v := 0) dX12_check_55 (by decide) ?_
    refine sx_istore_n (pc := 56) (lo' := [(1, .int (0 : Int32)), (0, .ref 146)]) dX12_check_56 (by decide) rfl ?_
    refine sx_wk (sx_s1 sx_m1 (sx_s1 sx_m0 sx_s0)) ?_
    exact tL_X12_check_57 hG hP  N _ _ h
  · have h := sx_neg c97 h
    refine sx_aload_n (pc := 19) dX12_check_19 sx_m0 ?_
    refine sv_getA (pc := 20) hG dX12_check_20 f_12_16 lay_146 rfl cr_146_6 ?_
    refine sx_iload_n (pc := 23) dX12_check_23 sx_m1 ?_
    refine sx_iconst (pc := 24) (v := 1) dX12_check_24 (by decide) ?_
    refine sx_isub (pc := 25) dX12_check_25 ?_
    obtain ⟨g98, h⟩ := sx_grd h
    refine sv_iald (pc := 26) hG dX12_check_26 lay_149 g98 ?_
    refine sx_i2l (pc := 27) dX12_check_27 ?_
    refine sx_ldc2 (pc := 28) dX12_check_28 k_X12_226 ?_
    refine sx_land (pc := 31) dX12_check_31 ?_
    refine sx_aload_n (pc := 32) dX12_check_32 sx_m0 ?_
    refine sv_getA (pc := 33) hG dX12_check_33 f_12_16 lay_146 rfl cr_146_6 ?_
    refine sx_iload_n (pc := 36) dX12_check_36 sx_m1 ?_
    obtain ⟨g99, h⟩ := sx_grd h
    refine sv_iald (pc := 37) hG dX12_check_37 lay_149 g99 ?_
    refine sx_i2l (pc := 38) dX12_check_38 ?_
    refine sx_ldc2 (pc := 39) dX12_check_39 k_X12_226 ?_
    refine sx_land (pc := 42) dX12_check_42 ?_
    refine sx_lcmp (pc := 43) dX12_check_43 ?_
    refine sx_if_lt (pc := 44) (tgt := 49) dX12_check_44 (by decide) (fun c100 => ?_) (fun c100 => ?_)
    · have h := sx_pos c100 h
      obtain ⟨x101, hx101⟩ : ∃ z : Int32, z = l1 + 1 := ⟨_, rfl⟩
      have h := sx_letE hx101 h
      refine sx_iinc (pc := 49) (v := x101) (lo' := [(1, .int x101), (0, .ref 146)]) dX12_check_49 sx_m1 (by rw [hx101]; rfl) (by decide) rfl ?_
      refine sx_goto (pc := 52) (tgt := 11) dX12_check_52 (by decide) ?_
      refine sx_wk (sx_s1 sx_m1 (sx_s1 sx_m0 sx_s0)) ?_
      exact hk11 _ _ h
    · have h := sx_neg c100 h
      refine sx_iconst (pc := 47) (v := 2) dX12_check_47 (by decide) ?_
      exact sv_iret (pc := 48) dX12_check_48 rfl h hP
theorem tL_X12_check_11 {g : sx_G} (hG : sx_Go g) {P : Option Value → sv_V → Prop} {r : Int32} {Vr : sv_V} (hP : P (some (.int r)) Vr) {N : Nat}   : ∀ (n : Nat) (l1 : Int32) (V : sv_V), sx_lp2 (B_X12_check_11 N ) n l1 V = some (r, Vr) → sv_N g qX12_check 8 11 [(0, .ref 146), (1, .int l1)] [] V P :=
  sx_lp2_ind (fun k0 ih _ V h => tB_X12_check_11 hG hP ih h)
def F_X12_check (N : Nat)  (V : sv_V) : Option (Int32 × sv_V) := (F_X12_directory N  V).bind (fun (x104, V102) => if x104 = 0 then (some ((1 : Int32), V102)) else (sx_lp2 (B_X12_check_11 N ) N (1 : Int32) V102))
set_option maxRecDepth 20000 in
theorem t_X12_check {g : sx_G} (hG : sx_Go g) {P : Option Value → sv_V → Prop} {r : Int32} {Vr : sv_V} (hP : P (some (.int r)) Vr) {N : Nat}  {V : sv_V} (h : F_X12_check N  V = some (r, Vr)) : sv_N g qX12_check 8 0 [(0, .ref 146)] [] V P := by
  unfold F_X12_check at h
  refine sx_aload_n (pc := 0) dX12_check_0 sx_m0 ?_
  obtain ⟨⟨x104, V102⟩, g103, h⟩ := sx_bnd h
  refine sv_cV (pc := 1) (y := qX12_directory) (o := (some (.int x104))) (as := []) (V1 := V102) hG dX12_check_1 l_X12_222 y0X12_directory yvX12_directory rfl (Nat.le_of_ble_eq_true rfl) lay_146 kr_12 (by decide) (Nat.le_of_ble_eq_true rfl) rfl rfl rfl (t_X12_directory hG ⟨rfl, rfl⟩ g103) ?_
  refine sx_if_ne (pc := 4) (tgt := 9) dX12_check_4 (by decide) (fun c105 => ?_) (fun c105 => ?_)
  · have h := sx_neg c105 h
    refine sx_iconst (pc := 9) (v := 1) dX12_check_9 (by decide) ?_
    refine sx_istore_n (pc := 10) (lo' := [(1, .int (1 : Int32)), (0, .ref 146)]) dX12_check_10 (by decide) rfl ?_
    refine sx_wk (sx_s1 sx_m1 (sx_s1 sx_m0 sx_s0)) ?_
    exact tL_X12_check_11 hG hP  N _ _ h
  · have h := sx_pos c105 h
    refine sx_iconst (pc := 7) (v := 1) dX12_check_7 (by decide) ?_
    exact sv_iret (pc := 8) dX12_check_8 rfl h hP
