/-! methods: X12_middle, X12_load, X5_runForSize, X6_setSize, X6_build, X11_size, X12_perform, X6_makeGlyph, X11_make, X11_line -/
theorem dX12_middle_0 : decode cX12_middle 0 = .ok (.iload_n 1, 1) := by decide +kernel
theorem dX12_middle_1 : decode cX12_middle 1 = .ok (.tableswitch 633 48 78 #[139, 153, 167, 167, 167, 167, 167, 167, 173, 173, 179, 179, 173, 185, 197, 197, 203, 203, 257, 304, 350, 356, 387, 387, 459, 538, 538, 607, 607, 617, 617], 139) := by decide +kernel
theorem dX12_middle_140 : decode cX12_middle 140 = .ok (.aload_n 0, 1) := by decide +kernel
theorem dX12_middle_141 : decode cX12_middle 141 = .ok (.aload_n 0, 1) := by decide +kernel
theorem dX12_middle_142 : decode cX12_middle 142 = .ok (.getfield 73, 3) := by decide +kernel
theorem dX12_middle_145 : decode cX12_middle 145 = .ok (.aload_n 0, 1) := by decide +kernel
theorem dX12_middle_146 : decode cX12_middle 146 = .ok (.getfield 79, 3) := by decide +kernel
theorem dX12_middle_149 : decode cX12_middle 149 = .ok (.iconst 2, 1) := by decide +kernel
theorem dX12_middle_150 : decode cX12_middle 150 = .ok (.invokevirtual 658, 3) := by decide +kernel
theorem dX12_middle_153 : decode cX12_middle 153 = .ok (.return_, 1) := by decide +kernel
theorem dX12_middle_154 : decode cX12_middle 154 = .ok (.aload_n 0, 1) := by decide +kernel
theorem dX12_middle_155 : decode cX12_middle 155 = .ok (.aload_n 0, 1) := by decide +kernel
theorem dX12_middle_156 : decode cX12_middle 156 = .ok (.getfield 70, 3) := by decide +kernel
theorem dX12_middle_159 : decode cX12_middle 159 = .ok (.aload_n 0, 1) := by decide +kernel
theorem dX12_middle_160 : decode cX12_middle 160 = .ok (.getfield 76, 3) := by decide +kernel
theorem dX12_middle_163 : decode cX12_middle 163 = .ok (.iconst 1, 1) := by decide +kernel
theorem dX12_middle_164 : decode cX12_middle 164 = .ok (.invokevirtual 658, 3) := by decide +kernel
theorem dX12_middle_167 : decode cX12_middle 167 = .ok (.return_, 1) := by decide +kernel
theorem dX12_middle_168 : decode cX12_middle 168 = .ok (.aload_n 0, 1) := by decide +kernel
theorem dX12_middle_169 : decode cX12_middle 169 = .ok (.iload_n 1, 1) := by decide +kernel
theorem dX12_middle_170 : decode cX12_middle 170 = .ok (.invokevirtual 662, 3) := by decide +kernel
theorem dX12_middle_173 : decode cX12_middle 173 = .ok (.return_, 1) := by decide +kernel
theorem dX12_middle_174 : decode cX12_middle 174 = .ok (.aload_n 0, 1) := by decide +kernel
theorem dX12_middle_175 : decode cX12_middle 175 = .ok (.iload_n 1, 1) := by decide +kernel
theorem dX12_middle_176 : decode cX12_middle 176 = .ok (.invokevirtual 665, 3) := by decide +kernel
theorem dX12_middle_179 : decode cX12_middle 179 = .ok (.return_, 1) := by decide +kernel
theorem dX12_middle_180 : decode cX12_middle 180 = .ok (.aload_n 0, 1) := by decide +kernel
theorem dX12_middle_181 : decode cX12_middle 181 = .ok (.iload_n 1, 1) := by decide +kernel
theorem dX12_middle_182 : decode cX12_middle 182 = .ok (.invokevirtual 668, 3) := by decide +kernel
theorem dX12_middle_185 : decode cX12_middle 185 = .ok (.return_, 1) := by decide +kernel
theorem dX12_middle_186 : decode cX12_middle 186 = .ok (.aload_n 0, 1) := by decide +kernel
theorem dX12_middle_187 : decode cX12_middle 187 = .ok (.bipush 61, 2) := by decide +kernel
theorem dX12_middle_189 : decode cX12_middle 189 = .ok (.bipush 32, 2) := by decide +kernel
theorem dX12_middle_191 : decode cX12_middle 191 = .ok (.iconst 0, 1) := by decide +kernel
theorem dX12_middle_192 : decode cX12_middle 192 = .ok (.bipush 16, 2) := by decide +kernel
theorem dX12_middle_194 : decode cX12_middle 194 = .ok (.invokevirtual 472, 3) := by decide +kernel
theorem dX12_middle_197 : decode cX12_middle 197 = .ok (.return_, 1) := by decide +kernel
theorem dX12_middle_198 : decode cX12_middle 198 = .ok (.aload_n 0, 1) := by decide +kernel
theorem dX12_middle_199 : decode cX12_middle 199 = .ok (.iload_n 1, 1) := by decide +kernel
theorem dX12_middle_200 : decode cX12_middle 200 = .ok (.invokevirtual 671, 3) := by decide +kernel
theorem dX12_middle_203 : decode cX12_middle 203 = .ok (.return_, 1) := by decide +kernel
theorem dX12_middle_204 : decode cX12_middle 204 = .ok (.aload_n 0, 1) := by decide +kernel
theorem dX12_middle_205 : decode cX12_middle 205 = .ok (.getfield 496, 3) := by decide +kernel
theorem dX12_middle_208 : decode cX12_middle 208 = .ok (.aload_n 0, 1) := by decide +kernel
theorem dX12_middle_209 : decode cX12_middle 209 = .ok (.getfield 97, 3) := by decide +kernel
theorem dX12_middle_212 : decode cX12_middle 212 = .ok (.aload_n 0, 1) := by decide +kernel
theorem dX12_middle_213 : decode cX12_middle 213 = .ok (.getfield 427, 3) := by decide +kernel
theorem dX12_middle_216 : decode cX12_middle 216 = .ok (.iaload, 1) := by decide +kernel
theorem dX12_middle_217 : decode cX12_middle 217 = .ok (.if_icmp .lt 11, 3) := by decide +kernel
theorem dX12_middle_220 : decode cX12_middle 220 = .ok (.aload_n 0, 1) := by decide +kernel
theorem dX12_middle_221 : decode cX12_middle 221 = .ok (.iconst 4, 1) := by decide +kernel
theorem dX12_middle_222 : decode cX12_middle 222 = .ok (.invokevirtual 421, 3) := by decide +kernel
theorem dX12_middle_225 : decode cX12_middle 225 = .ok (.goto 32, 3) := by decide +kernel
theorem dX12_middle_228 : decode cX12_middle 228 = .ok (.aload_n 0, 1) := by decide +kernel
theorem dX12_middle_229 : decode cX12_middle 229 = .ok (.aload_n 0, 1) := by decide +kernel
theorem dX12_middle_230 : decode cX12_middle 230 = .ok (.aload_n 0, 1) := by decide +kernel
theorem dX12_middle_231 : decode cX12_middle 231 = .ok (.getfield 496, 3) := by decide +kernel
theorem dX12_middle_234 : decode cX12_middle 234 = .ok (.invokevirtual 430, 3) := by decide +kernel
theorem dX12_middle_237 : decode cX12_middle 237 = .ok (.iload_n 1, 1) := by decide +kernel
theorem dX12_middle_238 : decode cX12_middle 238 = .ok (.bipush 65, 2) := by decide +kernel
theorem dX12_middle_240 : decode cX12_middle 240 = .ok (.if_icmp .ne 7, 3) := by decide +kernel
theorem dX12_middle_243 : decode cX12_middle 243 = .ok (.iconst 1, 1) := by decide +kernel
theorem dX12_middle_244 : decode cX12_middle 244 = .ok (.goto 4, 3) := by decide +kernel
theorem dX12_middle_247 : decode cX12_middle 247 = .ok (.iconst 0, 1) := by decide +kernel
theorem dX12_middle_248 : decode cX12_middle 248 = .ok (.aload_n 0, 1) := by decide +kernel
theorem dX12_middle_249 : decode cX12_middle 249 = .ok (.getfield 496, 3) := by decide +kernel
theorem dX12_middle_252 : decode cX12_middle 252 = .ok (.iconst 1, 1) := by decide +kernel
theorem dX12_middle_253 : decode cX12_middle 253 = .ok (.iadd, 1) := by decide +kernel
theorem dX12_middle_254 : decode cX12_middle 254 = .ok (.invokevirtual 551, 3) := by decide +kernel
theorem dX12_middle_257 : decode cX12_middle 257 = .ok (.return_, 1) := by decide +kernel
theorem dX12_middle_258 : decode cX12_middle 258 = .ok (.aload_n 0, 1) := by decide +kernel
theorem dX12_middle_259 : decode cX12_middle 259 = .ok (.iconst 2, 1) := by decide +kernel
theorem dX12_middle_260 : decode cX12_middle 260 = .ok (.invokevirtual 576, 3) := by decide +kernel
theorem dX12_middle_263 : decode cX12_middle 263 = .ok (.ifCond .eq 41, 3) := by decide +kernel
theorem dX12_middle_266 : decode cX12_middle 266 = .ok (.aload_n 0, 1) := by decide +kernel
theorem dX12_middle_267 : decode cX12_middle 267 = .ok (.invokevirtual 579, 3) := by decide +kernel
theorem dX12_middle_270 : decode cX12_middle 270 = .ok (.istore_n 2, 1) := by decide +kernel
theorem dX12_middle_271 : decode cX12_middle 271 = .ok (.aload_n 0, 1) := by decide +kernel
theorem dX12_middle_272 : decode cX12_middle 272 = .ok (.invokevirtual 579, 3) := by decide +kernel
theorem dX12_middle_275 : decode cX12_middle 275 = .ok (.istore_n 3, 1) := by decide +kernel
theorem dX12_middle_276 : decode cX12_middle 276 = .ok (.iload_n 3, 1) := by decide +kernel
theorem dX12_middle_277 : decode cX12_middle 277 = .ok (.ifCond .lt 11, 3) := by decide +kernel
theorem dX12_middle_280 : decode cX12_middle 280 = .ok (.iload_n 3, 1) := by decide +kernel
theorem dX12_middle_281 : decode cX12_middle 281 = .ok (.aload_n 0, 1) := by decide +kernel
theorem dX12_middle_282 : decode cX12_middle 282 = .ok (.getfield 319, 3) := by decide +kernel
theorem dX12_middle_285 : decode cX12_middle 285 = .ok (.if_icmp .lt 12, 3) := by decide +kernel
theorem dX12_middle_288 : decode cX12_middle 288 = .ok (.aload_n 0, 1) := by decide +kernel
theorem dX12_middle_289 : decode cX12_middle 289 = .ok (.bipush 6, 2) := by decide +kernel
theorem dX12_middle_291 : decode cX12_middle 291 = .ok (.invokevirtual 421, 3) := by decide +kernel
theorem dX12_middle_294 : decode cX12_middle 294 = .ok (.goto 10, 3) := by decide +kernel
theorem dX12_middle_297 : decode cX12_middle 297 = .ok (.aload_n 0, 1) := by decide +kernel
theorem dX12_middle_298 : decode cX12_middle 298 = .ok (.getfield 67, 3) := by decide +kernel
theorem dX12_middle_301 : decode cX12_middle 301 = .ok (.iload_n 3, 1) := by decide +kernel
theorem dX12_middle_302 : decode cX12_middle 302 = .ok (.iload_n 2, 1) := by decide +kernel
theorem dX12_middle_303 : decode cX12_middle 303 = .ok (.iastore, 1) := by decide +kernel
theorem dX12_middle_304 : decode cX12_middle 304 = .ok (.return_, 1) := by decide +kernel
theorem dX12_middle_305 : decode cX12_middle 305 = .ok (.aload_n 0, 1) := by decide +kernel
theorem dX12_middle_306 : decode cX12_middle 306 = .ok (.iconst 1, 1) := by decide +kernel
theorem dX12_middle_307 : decode cX12_middle 307 = .ok (.invokevirtual 576, 3) := by decide +kernel
theorem dX12_middle_310 : decode cX12_middle 310 = .ok (.ifCond .eq 40, 3) := by decide +kernel
theorem dX12_middle_313 : decode cX12_middle 313 = .ok (.aload_n 0, 1) := by decide +kernel
theorem dX12_middle_314 : decode cX12_middle 314 = .ok (.invokevirtual 579, 3) := by decide +kernel
theorem dX12_middle_317 : decode cX12_middle 317 = .ok (.istore_n 2, 1) := by decide +kernel
theorem dX12_middle_318 : decode cX12_middle 318 = .ok (.iload_n 2, 1) := by decide +kernel
theorem dX12_middle_319 : decode cX12_middle 319 = .ok (.ifCond .lt 11, 3) := by decide +kernel
theorem dX12_middle_322 : decode cX12_middle 322 = .ok (.iload_n 2, 1) := by decide +kernel
theorem dX12_middle_323 : decode cX12_middle 323 = .ok (.aload_n 0, 1) := by decide +kernel
theorem dX12_middle_324 : decode cX12_middle 324 = .ok (.getfield 319, 3) := by decide +kernel
theorem dX12_middle_327 : decode cX12_middle 327 = .ok (.if_icmp .lt 12, 3) := by decide +kernel
theorem dX12_middle_330 : decode cX12_middle 330 = .ok (.aload_n 0, 1) := by decide +kernel
theorem dX12_middle_331 : decode cX12_middle 331 = .ok (.bipush 6, 2) := by decide +kernel
theorem dX12_middle_333 : decode cX12_middle 333 = .ok (.invokevirtual 421, 3) := by decide +kernel
theorem dX12_middle_336 : decode cX12_middle 336 = .ok (.goto 14, 3) := by decide +kernel
theorem dX12_middle_339 : decode cX12_middle 339 = .ok (.aload_n 0, 1) := by decide +kernel
theorem dX12_middle_340 : decode cX12_middle 340 = .ok (.aload_n 0, 1) := by decide +kernel
theorem dX12_middle_341 : decode cX12_middle 341 = .ok (.getfield 67, 3) := by decide +kernel
theorem dX12_middle_344 : decode cX12_middle 344 = .ok (.iload_n 2, 1) := by decide +kernel
theorem dX12_middle_345 : decode cX12_middle 345 = .ok (.iaload, 1) := by decide +kernel
theorem dX12_middle_346 : decode cX12_middle 346 = .ok (.i2l, 1) := by decide +kernel
theorem dX12_middle_347 : decode cX12_middle 347 = .ok (.invokevirtual 564, 3) := by decide +kernel
theorem dX12_middle_350 : decode cX12_middle 350 = .ok (.return_, 1) := by decide +kernel
theorem dX12_middle_351 : decode cX12_middle 351 = .ok (.aload_n 0, 1) := by decide +kernel
theorem dX12_middle_352 : decode cX12_middle 352 = .ok (.iconst 0, 1) := by decide +kernel
theorem dX12_middle_353 : decode cX12_middle 353 = .ok (.invokevirtual 674, 3) := by decide +kernel
theorem dX12_middle_356 : decode cX12_middle 356 = .ok (.return_, 1) := by decide +kernel
theorem dX12_middle_357 : decode cX12_middle 357 = .ok (.aload_n 0, 1) := by decide +kernel
theorem dX12_middle_358 : decode cX12_middle 358 = .ok (.iconst 1, 1) := by decide +kernel
theorem dX12_middle_359 : decode cX12_middle 359 = .ok (.invokevirtual 576, 3) := by decide +kernel
theorem dX12_middle_362 : decode cX12_middle 362 = .ok (.ifCond .eq 25, 3) := by decide +kernel
theorem dX12_middle_365 : decode cX12_middle 365 = .ok (.aload_n 0, 1) := by decide +kernel
theorem dX12_middle_366 : decode cX12_middle 366 = .ok (.aload_n 0, 1) := by decide +kernel
theorem dX12_middle_367 : decode cX12_middle 367 = .ok (.invokevirtual 579, 3) := by decide +kernel
theorem dX12_middle_370 : decode cX12_middle 370 = .ok (.invokevirtual 677, 3) := by decide +kernel
theorem dX12_middle_373 : decode cX12_middle 373 = .ok (.istore_n 2, 1) := by decide +kernel
theorem dX12_middle_374 : decode cX12_middle 374 = .ok (.aload_n 0, 1) := by decide +kernel
theorem dX12_middle_375 : decode cX12_middle 375 = .ok (.getfield 409, 3) := by decide +kernel
theorem dX12_middle_378 : decode cX12_middle 378 = .ok (.ifCond .ne 9, 3) := by decide +kernel
theorem dX12_middle_381 : decode cX12_middle 381 = .ok (.aload_n 0, 1) := by decide +kernel
theorem dX12_middle_382 : decode cX12_middle 382 = .ok (.iload_n 2, 1) := by decide +kernel
theorem dX12_middle_383 : decode cX12_middle 383 = .ok (.i2l, 1) := by decide +kernel
theorem dX12_middle_384 : decode cX12_middle 384 = .ok (.invokevirtual 564, 3) := by decide +kernel
theorem dX12_middle_387 : decode cX12_middle 387 = .ok (.return_, 1) := by decide +kernel
theorem dX12_middle_388 : decode cX12_middle 388 = .ok (.aload_n 0, 1) := by decide +kernel
theorem dX12_middle_389 : decode cX12_middle 389 = .ok (.iconst 1, 1) := by decide +kernel
theorem dX12_middle_390 : decode cX12_middle 390 = .ok (.invokevirtual 576, 3) := by decide +kernel
theorem dX12_middle_393 : decode cX12_middle 393 = .ok (.ifCond .eq 66, 3) := by decide +kernel
theorem dX12_middle_396 : decode cX12_middle 396 = .ok (.aload_n 0, 1) := by decide +kernel
theorem dX12_middle_397 : decode cX12_middle 397 = .ok (.aload_n 0, 1) := by decide +kernel
theorem dX12_middle_398 : decode cX12_middle 398 = .ok (.getfield 466, 3) := by decide +kernel
theorem dX12_middle_401 : decode cX12_middle 401 = .ok (.aload_n 0, 1) := by decide +kernel
theorem dX12_middle_402 : decode cX12_middle 402 = .ok (.invokevirtual 579, 3) := by decide +kernel
theorem dX12_middle_405 : decode cX12_middle 405 = .ok (.invokevirtual 582, 3) := by decide +kernel
theorem dX12_middle_408 : decode cX12_middle 408 = .ok (.istore_n 2, 1) := by decide +kernel
theorem dX12_middle_409 : decode cX12_middle 409 = .ok (.aload_n 0, 1) := by decide +kernel
theorem dX12_middle_410 : decode cX12_middle 410 = .ok (.getfield 409, 3) := by decide +kernel
theorem dX12_middle_413 : decode cX12_middle 413 = .ok (.ifCond .ne 46, 3) := by decide +kernel
theorem dX12_middle_416 : decode cX12_middle 416 = .ok (.aload_n 0, 1) := by decide +kernel
theorem dX12_middle_417 : decode cX12_middle 417 = .ok (.iload_n 1, 1) := by decide +kernel
theorem dX12_middle_418 : decode cX12_middle 418 = .ok (.bipush 70, 2) := by decide +kernel
theorem dX12_middle_420 : decode cX12_middle 420 = .ok (.if_icmp .ne 12, 3) := by decide +kernel
theorem dX12_middle_423 : decode cX12_middle 423 = .ok (.aload_n 0, 1) := by decide +kernel
theorem dX12_middle_424 : decode cX12_middle 424 = .ok (.iload_n 2, 1) := by decide +kernel
theorem dX12_middle_425 : decode cX12_middle 425 = .ok (.invokevirtual 644, 3) := by decide +kernel
theorem dX12_middle_428 : decode cX12_middle 428 = .ok (.i2l, 1) := by decide +kernel
theorem dX12_middle_429 : decode cX12_middle 429 = .ok (.goto 27, 3) := by decide +kernel
theorem dX12_middle_432 : decode cX12_middle 432 = .ok (.aload_n 0, 1) := by decide +kernel
theorem dX12_middle_433 : decode cX12_middle 433 = .ok (.getfield 70, 3) := by decide +kernel
theorem dX12_middle_436 : decode cX12_middle 436 = .ok (.iload_n 2, 1) := by decide +kernel
theorem dX12_middle_437 : decode cX12_middle 437 = .ok (.iaload, 1) := by decide +kernel
theorem dX12_middle_438 : decode cX12_middle 438 = .ok (.aload_n 0, 1) := by decide +kernel
theorem dX12_middle_439 : decode cX12_middle 439 = .ok (.getfield 73, 3) := by decide +kernel
theorem dX12_middle_442 : decode cX12_middle 442 = .ok (.iload_n 2, 1) := by decide +kernel
theorem dX12_middle_443 : decode cX12_middle 443 = .ok (.iaload, 1) := by decide +kernel
theorem dX12_middle_444 : decode cX12_middle 444 = .ok (.aload_n 0, 1) := by decide +kernel
theorem dX12_middle_445 : decode cX12_middle 445 = .ok (.getfield 445, 3) := by decide +kernel
theorem dX12_middle_448 : decode cX12_middle 448 = .ok (.aload_n 0, 1) := by decide +kernel
theorem dX12_middle_449 : decode cX12_middle 449 = .ok (.getfield 448, 3) := by decide +kernel
theorem dX12_middle_452 : decode cX12_middle 452 = .ok (.invokestatic 520, 3) := by decide +kernel
theorem dX12_middle_455 : decode cX12_middle 455 = .ok (.i2l, 1) := by decide +kernel
theorem dX12_middle_456 : decode cX12_middle 456 = .ok (.invokevirtual 564, 3) := by decide +kernel
theorem dX12_middle_459 : decode cX12_middle 459 = .ok (.return_, 1) := by decide +kernel
theorem dX12_middle_460 : decode cX12_middle 460 = .ok (.aload_n 0, 1) := by decide +kernel
theorem dX12_middle_461 : decode cX12_middle 461 = .ok (.iconst 2, 1) := by decide +kernel
theorem dX12_middle_462 : decode cX12_middle 462 = .ok (.invokevirtual 576, 3) := by decide +kernel
theorem dX12_middle_465 : decode cX12_middle 465 = .ok (.ifCond .eq 73, 3) := by decide +kernel
theorem dX12_middle_468 : decode cX12_middle 468 = .ok (.aload_n 0, 1) := by decide +kernel
theorem dX12_middle_469 : decode cX12_middle 469 = .ok (.invokevirtual 579, 3) := by decide +kernel
theorem dX12_middle_472 : decode cX12_middle 472 = .ok (.istore_n 2, 1) := by decide +kernel
theorem dX12_middle_473 : decode cX12_middle 473 = .ok (.aload_n 0, 1) := by decide +kernel
theorem dX12_middle_474 : decode cX12_middle 474 = .ok (.aload_n 0, 1) := by decide +kernel
theorem dX12_middle_475 : decode cX12_middle 475 = .ok (.getfield 466, 3) := by decide +kernel
theorem dX12_middle_478 : decode cX12_middle 478 = .ok (.aload_n 0, 1) := by decide +kernel
theorem dX12_middle_479 : decode cX12_middle 479 = .ok (.invokevirtual 579, 3) := by decide +kernel
theorem dX12_middle_482 : decode cX12_middle 482 = .ok (.invokevirtual 582, 3) := by decide +kernel
theorem dX12_middle_485 : decode cX12_middle 485 = .ok (.istore_n 3, 1) := by decide +kernel
theorem dX12_middle_486 : decode cX12_middle 486 = .ok (.aload_n 0, 1) := by decide +kernel
theorem dX12_middle_487 : decode cX12_middle 487 = .ok (.getfield 409, 3) := by decide +kernel
theorem dX12_middle_490 : decode cX12_middle 490 = .ok (.ifCond .ne 48, 3) := by decide +kernel
theorem dX12_middle_493 : decode cX12_middle 493 = .ok (.aload_n 0, 1) := by decide +kernel
theorem dX12_middle_494 : decode cX12_middle 494 = .ok (.iload_n 3, 1) := by decide +kernel
theorem dX12_middle_495 : decode cX12_middle 495 = .ok (.iload_n 2, 1) := by decide +kernel
theorem dX12_middle_496 : decode cX12_middle 496 = .ok (.i2l, 1) := by decide +kernel
theorem dX12_middle_497 : decode cX12_middle 497 = .ok (.aload_n 0, 1) := by decide +kernel
theorem dX12_middle_498 : decode cX12_middle 498 = .ok (.iload_n 3, 1) := by decide +kernel
theorem dX12_middle_499 : decode cX12_middle 499 = .ok (.invokevirtual 644, 3) := by decide +kernel
theorem dX12_middle_502 : decode cX12_middle 502 = .ok (.i2l, 1) := by decide +kernel
theorem dX12_middle_503 : decode cX12_middle 503 = .ok (.lsub, 1) := by decide +kernel
theorem dX12_middle_504 : decode cX12_middle 504 = .ok (.invokevirtual 630, 3) := by decide +kernel
theorem dX12_middle_507 : decode cX12_middle 507 = .ok (.aload_n 0, 1) := by decide +kernel
theorem dX12_middle_508 : decode cX12_middle 508 = .ok (.getfield 466, 3) := by decide +kernel
theorem dX12_middle_511 : decode cX12_middle 511 = .ok (.ifCond .ne 27, 3) := by decide +kernel
theorem dX12_middle_514 : decode cX12_middle 514 = .ok (.aload_n 0, 1) := by decide +kernel
theorem dX12_middle_515 : decode cX12_middle 515 = .ok (.getfield 70, 3) := by decide +kernel
theorem dX12_middle_518 : decode cX12_middle 518 = .ok (.iload_n 3, 1) := by decide +kernel
theorem dX12_middle_519 : decode cX12_middle 519 = .ok (.aload_n 0, 1) := by decide +kernel
theorem dX12_middle_520 : decode cX12_middle 520 = .ok (.getfield 76, 3) := by decide +kernel
theorem dX12_middle_523 : decode cX12_middle 523 = .ok (.iload_n 3, 1) := by decide +kernel
theorem dX12_middle_524 : decode cX12_middle 524 = .ok (.iaload, 1) := by decide +kernel
theorem dX12_middle_525 : decode cX12_middle 525 = .ok (.iastore, 1) := by decide +kernel
theorem dX12_middle_526 : decode cX12_middle 526 = .ok (.aload_n 0, 1) := by decide +kernel
theorem dX12_middle_527 : decode cX12_middle 527 = .ok (.getfield 73, 3) := by decide +kernel
theorem dX12_middle_530 : decode cX12_middle 530 = .ok (.iload_n 3, 1) := by decide +kernel
theorem dX12_middle_531 : decode cX12_middle 531 = .ok (.aload_n 0, 1) := by decide +kernel
theorem dX12_middle_532 : decode cX12_middle 532 = .ok (.getfield 79, 3) := by decide +kernel
theorem dX12_middle_535 : decode cX12_middle 535 = .ok (.iload_n 3, 1) := by decide +kernel
theorem dX12_middle_536 : decode cX12_middle 536 = .ok (.iaload, 1) := by decide +kernel
theorem dX12_middle_537 : decode cX12_middle 537 = .ok (.iastore, 1) := by decide +kernel
theorem dX12_middle_538 : decode cX12_middle 538 = .ok (.return_, 1) := by decide +kernel
theorem dX12_middle_539 : decode cX12_middle 539 = .ok (.aload_n 0, 1) := by decide +kernel
theorem dX12_middle_540 : decode cX12_middle 540 = .ok (.iconst 2, 1) := by decide +kernel
theorem dX12_middle_541 : decode cX12_middle 541 = .ok (.invokevirtual 576, 3) := by decide +kernel
theorem dX12_middle_544 : decode cX12_middle 544 = .ok (.ifCond .eq 63, 3) := by decide +kernel
theorem dX12_middle_547 : decode cX12_middle 547 = .ok (.aload_n 0, 1) := by decide +kernel
theorem dX12_middle_548 : decode cX12_middle 548 = .ok (.aload_n 0, 1) := by decide +kernel
theorem dX12_middle_549 : decode cX12_middle 549 = .ok (.getfield 463, 3) := by decide +kernel
theorem dX12_middle_552 : decode cX12_middle 552 = .ok (.aload_n 0, 1) := by decide +kernel
theorem dX12_middle_553 : decode cX12_middle 553 = .ok (.invokevirtual 579, 3) := by decide +kernel
theorem dX12_middle_556 : decode cX12_middle 556 = .ok (.invokevirtual 582, 3) := by decide +kernel
theorem dX12_middle_559 : decode cX12_middle 559 = .ok (.istore_n 2, 1) := by decide +kernel
theorem dX12_middle_560 : decode cX12_middle 560 = .ok (.aload_n 0, 1) := by decide +kernel
theorem dX12_middle_561 : decode cX12_middle 561 = .ok (.aload_n 0, 1) := by decide +kernel
theorem dX12_middle_562 : decode cX12_middle 562 = .ok (.getfield 460, 3) := by decide +kernel
theorem dX12_middle_565 : decode cX12_middle 565 = .ok (.aload_n 0, 1) := by decide +kernel
theorem dX12_middle_566 : decode cX12_middle 566 = .ok (.invokevirtual 579, 3) := by decide +kernel
theorem dX12_middle_569 : decode cX12_middle 569 = .ok (.invokevirtual 582, 3) := by decide +kernel
theorem dX12_middle_572 : decode cX12_middle 572 = .ok (.istore_n 3, 1) := by decide +kernel
theorem dX12_middle_573 : decode cX12_middle 573 = .ok (.aload_n 0, 1) := by decide +kernel
theorem dX12_middle_574 : decode cX12_middle 574 = .ok (.getfield 409, 3) := by decide +kernel
theorem dX12_middle_577 : decode cX12_middle 577 = .ok (.ifCond .ne 30, 3) := by decide +kernel
theorem dX12_middle_580 : decode cX12_middle 580 = .ok (.aload_n 0, 1) := by decide +kernel
theorem dX12_middle_581 : decode cX12_middle 581 = .ok (.iload_n 1, 1) := by decide +kernel
theorem dX12_middle_582 : decode cX12_middle 582 = .ok (.bipush 73, 2) := by decide +kernel
theorem dX12_middle_584 : decode cX12_middle 584 = .ok (.if_icmp .ne 13, 3) := by decide +kernel
theorem dX12_middle_587 : decode cX12_middle 587 = .ok (.aload_n 0, 1) := by decide +kernel
theorem dX12_middle_588 : decode cX12_middle 588 = .ok (.iload_n 3, 1) := by decide +kernel
theorem dX12_middle_589 : decode cX12_middle 589 = .ok (.iload_n 2, 1) := by decide +kernel
theorem dX12_middle_590 : decode cX12_middle 590 = .ok (.invokevirtual 627, 3) := by decide +kernel
theorem dX12_middle_593 : decode cX12_middle 593 = .ok (.i2l, 1) := by decide +kernel
theorem dX12_middle_594 : decode cX12_middle 594 = .ok (.goto 10, 3) := by decide +kernel
theorem dX12_middle_597 : decode cX12_middle 597 = .ok (.aload_n 0, 1) := by decide +kernel
theorem dX12_middle_598 : decode cX12_middle 598 = .ok (.iload_n 3, 1) := by decide +kernel
theorem dX12_middle_599 : decode cX12_middle 599 = .ok (.iload_n 2, 1) := by decide +kernel
theorem dX12_middle_600 : decode cX12_middle 600 = .ok (.invokevirtual 680, 3) := by decide +kernel
theorem dX12_middle_603 : decode cX12_middle 603 = .ok (.i2l, 1) := by decide +kernel
theorem dX12_middle_604 : decode cX12_middle 604 = .ok (.invokevirtual 564, 3) := by decide +kernel
theorem dX12_middle_607 : decode cX12_middle 607 = .ok (.return_, 1) := by decide +kernel
theorem dX12_middle_608 : decode cX12_middle 608 = .ok (.aload_n 0, 1) := by decide +kernel
theorem dX12_middle_609 : decode cX12_middle 609 = .ok (.aload_n 0, 1) := by decide +kernel
theorem dX12_middle_610 : decode cX12_middle 610 = .ok (.getfield 621, 3) := by decide +kernel
theorem dX12_middle_613 : decode cX12_middle 613 = .ok (.i2l, 1) := by decide +kernel
theorem dX12_middle_614 : decode cX12_middle 614 = .ok (.invokevirtual 564, 3) := by decide +kernel
theorem dX12_middle_617 : decode cX12_middle 617 = .ok (.return_, 1) := by decide +kernel
theorem dX12_middle_618 : decode cX12_middle 618 = .ok (.aload_n 0, 1) := by decide +kernel
theorem dX12_middle_619 : decode cX12_middle 619 = .ok (.iload_n 1, 1) := by decide +kernel
theorem dX12_middle_620 : decode cX12_middle 620 = .ok (.bipush 77, 2) := by decide +kernel
theorem dX12_middle_622 : decode cX12_middle 622 = .ok (.if_icmp .ne 7, 3) := by decide +kernel
theorem dX12_middle_625 : decode cX12_middle 625 = .ok (.iconst 1, 1) := by decide +kernel
theorem dX12_middle_626 : decode cX12_middle 626 = .ok (.goto 4, 3) := by decide +kernel
theorem dX12_middle_629 : decode cX12_middle 629 = .ok (.iconst 0, 1) := by decide +kernel
theorem dX12_middle_630 : decode cX12_middle 630 = .ok (.putfield 683, 3) := by decide +kernel
theorem dX12_middle_633 : decode cX12_middle 633 = .ok (.return_, 1) := by decide +kernel
theorem dX12_middle_634 : decode cX12_middle 634 = .ok (.aload_n 0, 1) := by decide +kernel
theorem dX12_middle_635 : decode cX12_middle 635 = .ok (.iload_n 1, 1) := by decide +kernel
theorem dX12_middle_636 : decode cX12_middle 636 = .ok (.invokevirtual 687, 3) := by decide +kernel
theorem dX12_middle_639 : decode cX12_middle 639 = .ok (.return_, 1) := by decide +kernel
def B_X12_middle_168 (N : Nat)  (l1 : Int32) (V : sv_V) : Option sv_V := (F_X12_likeReference N l1 V).bind (fun V1 => some V1)
set_option maxRecDepth 20000 in
theorem tB_X12_middle_168 {g : sx_G} (hG : sx_Go g) {P : Option Value → sv_V → Prop} {Vr : sv_V} (hP : P none Vr) {N : Nat}   {l1 : Int32} {V : sv_V} (h : B_X12_middle_168 N  l1 V = some Vr) : sv_N g qX12_middle 7 168 [(0, .ref 146), (1, .int l1)] [] V P := by
  unfold B_X12_middle_168 at h
  refine sx_aload_n (pc := 168) dX12_middle_168 sx_m0 ?_
  refine sx_iload_n (pc := 169) dX12_middle_169 sx_m1 ?_
  obtain ⟨V1, g2, h⟩ := sx_bnd h
  refine sv_cV (pc := 170) (y := qX12_likeReference) (o := none) (as := [.int l1]) (V1 := V1) hG dX12_middle_170 l_X12_662 y0X12_likeReference yvX12_likeReference rfl (Nat.le_of_ble_eq_true rfl) lay_146 kr_12 (by decide) (Nat.le_of_ble_eq_true rfl) rfl rfl rfl (t_X12_likeReference hG ⟨rfl, rfl⟩ g2) ?_
  exact sv_vret (pc := 173) dX12_middle_173 rfl h hP
def B_X12_middle_174 (N : Nat)  (l1 : Int32) (V : sv_V) : Option sv_V := (F_X12_loops N l1 V).bind (fun V3 => some V3)
set_option maxRecDepth 20000 in
theorem tB_X12_middle_174 {g : sx_G} (hG : sx_Go g) {P : Option Value → sv_V → Prop} {Vr : sv_V} (hP : P none Vr) {N : Nat}   {l1 : Int32} {V : sv_V} (h : B_X12_middle_174 N  l1 V = some Vr) : sv_N g qX12_middle 7 174 [(0, .ref 146), (1, .int l1)] [] V P := by
  unfold B_X12_middle_174 at h
  refine sx_aload_n (pc := 174) dX12_middle_174 sx_m0 ?_
  refine sx_iload_n (pc := 175) dX12_middle_175 sx_m1 ?_
  obtain ⟨V3, g4, h⟩ := sx_bnd h
  refine sv_cV (pc := 176) (y := qX12_loops) (o := none) (as := [.int l1]) (V1 := V3) hG dX12_middle_176 l_X12_665 y0X12_loops yvX12_loops rfl (Nat.le_of_ble_eq_true rfl) lay_146 kr_12 (by decide) (Nat.le_of_ble_eq_true rfl) rfl rfl rfl (t_X12_loops hG ⟨rfl, rfl⟩ g4) ?_
  exact sv_vret (pc := 179) dX12_middle_179 rfl h hP
def B_X12_middle_180 (N : Nat)  (l1 : Int32) (V : sv_V) : Option sv_V := (F_X12_toDistance l1 V).bind (fun V5 => some V5)
set_option maxRecDepth 20000 in
theorem tB_X12_middle_180 {g : sx_G} (hG : sx_Go g) {P : Option Value → sv_V → Prop} {Vr : sv_V} (hP : P none Vr) {N : Nat}   {l1 : Int32} {V : sv_V} (h : B_X12_middle_180 N  l1 V = some Vr) : sv_N g qX12_middle 7 180 [(0, .ref 146), (1, .int l1)] [] V P := by
  unfold B_X12_middle_180 at h
  refine sx_aload_n (pc := 180) dX12_middle_180 sx_m0 ?_
  refine sx_iload_n (pc := 181) dX12_middle_181 sx_m1 ?_
  obtain ⟨V5, g6, h⟩ := sx_bnd h
  refine sv_cV (pc := 182) (y := qX12_toDistance) (o := none) (as := [.int l1]) (V1 := V5) hG dX12_middle_182 l_X12_668 y0X12_toDistance yvX12_toDistance rfl (Nat.le_of_ble_eq_true rfl) lay_146 kr_12 (by decide) (Nat.le_of_ble_eq_true rfl) rfl rfl rfl (t_X12_toDistance hG ⟨rfl, rfl⟩ g6) ?_
  exact sv_vret (pc := 185) dX12_middle_185 rfl h hP
def B_X12_middle_198 (N : Nat)  (l1 : Int32) (V : sv_V) : Option sv_V := (F_X12_toCvt l1 V).bind (fun V7 => some V7)
set_option maxRecDepth 20000 in
theorem tB_X12_middle_198 {g : sx_G} (hG : sx_Go g) {P : Option Value → sv_V → Prop} {Vr : sv_V} (hP : P none Vr) {N : Nat}   {l1 : Int32} {V : sv_V} (h : B_X12_middle_198 N  l1 V = some Vr) : sv_N g qX12_middle 7 198 [(0, .ref 146), (1, .int l1)] [] V P := by
  unfold B_X12_middle_198 at h
  refine sx_aload_n (pc := 198) dX12_middle_198 sx_m0 ?_
  refine sx_iload_n (pc := 199) dX12_middle_199 sx_m1 ?_
  obtain ⟨V7, g8, h⟩ := sx_bnd h
  refine sv_cV (pc := 200) (y := qX12_toCvt) (o := none) (as := [.int l1]) (V1 := V7) hG dX12_middle_200 l_X12_671 y0X12_toCvt yvX12_toCvt rfl (Nat.le_of_ble_eq_true rfl) lay_146 kr_12 (by decide) (Nat.le_of_ble_eq_true rfl) rfl rfl rfl (t_X12_toCvt hG ⟨rfl, rfl⟩ g8) ?_
  exact sv_vret (pc := 203) dX12_middle_203 rfl h hP
def B_X12_middle_248 (N : Nat)  (s1 : Int32) (s2 : Int32) (V : sv_V) : Option sv_V := (F_X12_pushBytes N s1 s2 ((V.1 146 93) + (1 : Int32)) V).bind (fun V9 => some V9)
set_option maxRecDepth 20000 in
theorem tB_X12_middle_248 {g : sx_G} (hG : sx_Go g) {P : Option Value → sv_V → Prop} {Vr : sv_V} (hP : P none Vr) {N : Nat}   {s1 : Int32} {s2 : Int32} {V : sv_V} (h : B_X12_middle_248 N  s1 s2 V = some Vr) : sv_N g qX12_middle 7 248 [(0, .ref 146)] [.int s2, .int s1, .ref 146] V P := by
  unfold B_X12_middle_248 at h
  refine sx_aload_n (pc := 248) dX12_middle_248 sx_m0 ?_
  refine sv_getI (pc := 249) hG dX12_middle_249 f_12_496 lay_146 rfl ?_
  refine sx_iconst (pc := 252) (v := 1) dX12_middle_252 (by decide) ?_
  refine sx_iadd (pc := 253) dX12_middle_253 ?_
  obtain ⟨V9, g10, h⟩ := sx_bnd h
  refine sv_cV (pc := 254) (y := qX12_pushBytes) (o := none) (as := [.int s1, .int s2, .int ((V.1 146 93) + (1 : Int32))]) (V1 := V9) hG dX12_middle_254 l_X12_551 y0X12_pushBytes yvX12_pushBytes rfl (Nat.le_of_ble_eq_true rfl) lay_146 kr_12 (by decide) (Nat.le_of_ble_eq_true rfl) rfl rfl rfl (t_X12_pushBytes hG ⟨rfl, rfl⟩ g10) ?_
  exact sv_vret (pc := 257) dX12_middle_257 rfl h hP
def B_X12_middle_204 (N : Nat)  (l1 : Int32) (V : sv_V) : Option sv_V := if sx_in (V.1 146 92) 3 = true then if (V.1 146 93) < (V.1 175 (V.1 146 92).toNatClampNeg) then ((F_X12_codeByte (V.1 146 93) V).bind (fun (x15, V13) => if l1 = (65 : Int32) then (B_X12_middle_248 N  x15 (1 : Int32) V13) else (B_X12_middle_248 N  x15 (0 : Int32) V13))) else ((F_X12_fail (4 : Int32) V).bind (fun V17 => some V17)) else none
set_option maxRecDepth 20000 in
theorem tB_X12_middle_204 {g : sx_G} (hG : sx_Go g) {P : Option Value → sv_V → Prop} {Vr : sv_V} (hP : P none Vr) {N : Nat}   {l1 : Int32} {V : sv_V} (h : B_X12_middle_204 N  l1 V = some Vr) : sv_N g qX12_middle 7 204 [(0, .ref 146), (1, .int l1)] [] V P := by
  unfold B_X12_middle_204 at h
  refine sx_aload_n (pc := 204) dX12_middle_204 sx_m0 ?_
  refine sv_getI (pc := 205) hG dX12_middle_205 f_12_496 lay_146 rfl ?_
  refine sx_aload_n (pc := 208) dX12_middle_208 sx_m0 ?_
  refine sv_getA (pc := 209) hG dX12_middle_209 f_12_97 lay_146 rfl cr_146_90 ?_
  refine sx_aload_n (pc := 212) dX12_middle_212 sx_m0 ?_
  refine sv_getI (pc := 213) hG dX12_middle_213 f_12_427 lay_146 rfl ?_
  obtain ⟨g11, h⟩ := sx_grd h
  refine sv_iald (pc := 216) hG dX12_middle_216 lay_175 g11 ?_
  refine sx_icmp_lt (pc := 217) (tgt := 228) dX12_middle_217 (by decide) (fun c12 => ?_) (fun c12 => ?_)
  · have h := sx_pos c12 h
    refine sx_aload_n (pc := 228) dX12_middle_228 sx_m0 ?_
    refine sx_aload_n (pc := 229) dX12_middle_229 sx_m0 ?_
    refine sx_aload_n (pc := 230) dX12_middle_230 sx_m0 ?_
    refine sv_getI (pc := 231) hG dX12_middle_231 f_12_496 lay_146 rfl ?_
    obtain ⟨⟨x15, V13⟩, g14, h⟩ := sx_bnd h
    refine sv_cV (pc := 234) (y := qX12_codeByte) (o := (some (.int x15))) (as := [.int (V.1 146 93)]) (V1 := V13) hG dX12_middle_234 l_X12_430 y0X12_codeByte yvX12_codeByte rfl (Nat.le_of_ble_eq_true rfl) lay_146 kr_12 (by decide) (Nat.le_of_ble_eq_true rfl) rfl rfl rfl (t_X12_codeByte hG ⟨rfl, rfl⟩ g14) ?_
    refine sx_iload_n (pc := 237) dX12_middle_237 sx_m1 ?_
    refine sx_bipush (pc := 238) (v := 65) dX12_middle_238 (by decide) ?_
    refine sx_icmp_ne (pc := 240) (tgt := 247) dX12_middle_240 (by decide) (fun c16 => ?_) (fun c16 => ?_)
    · have h := sx_neg c16 h
      refine sx_iconst (pc := 247) (v := 0) dX12_middle_247 (by decide) ?_
      refine sx_wk (sx_s1 sx_m0 sx_s0) ?_
      exact tB_X12_middle_248 hG hP  h
    · have h := sx_pos c16 h
      refine sx_iconst (pc := 243) (v := 1) dX12_middle_243 (by decide) ?_
      refine sx_goto (pc := 244) (tgt := 248) dX12_middle_244 (by decide) ?_
      refine sx_wk (sx_s1 sx_m0 sx_s0) ?_
      exact tB_X12_middle_248 hG hP  h
  · have h := sx_neg c12 h
    refine sx_aload_n (pc := 220) dX12_middle_220 sx_m0 ?_
    refine sx_iconst (pc := 221) (v := 4) dX12_middle_221 (by decide) ?_
    obtain ⟨V17, g18, h⟩ := sx_bnd h
    refine sv_cV (pc := 222) (y := qX12_fail) (o := none) (as := [.int (4 : Int32)]) (V1 := V17) hG dX12_middle_222 l_X12_421 y0X12_fail yvX12_fail rfl (Nat.le_of_ble_eq_true rfl) lay_146 kr_12 (by decide) (Nat.le_of_ble_eq_true rfl) rfl rfl rfl (t_X12_fail hG ⟨rfl, rfl⟩ g18) ?_
    refine sx_goto (pc := 225) (tgt := 257) dX12_middle_225 (by decide) ?_
    exact sv_vret (pc := 257) dX12_middle_257 rfl h hP
def B_X12_middle_288 (N : Nat)   (V : sv_V) : Option sv_V := (F_X12_fail (6 : Int32) V).bind (fun V19 => some V19)
set_option maxRecDepth 20000 in
theorem tB_X12_middle_288 {g : sx_G} (hG : sx_Go g) {P : Option Value → sv_V → Prop} {Vr : sv_V} (hP : P none Vr) {N : Nat}    {V : sv_V} (h : B_X12_middle_288 N   V = some Vr) : sv_N g qX12_middle 7 288 [(0, .ref 146)] [] V P := by
  unfold B_X12_middle_288 at h
  refine sx_aload_n (pc := 288) dX12_middle_288 sx_m0 ?_
  refine sx_bipush (pc := 289) (v := 6) dX12_middle_289 (by decide) ?_
  obtain ⟨V19, g20, h⟩ := sx_bnd h
  refine sv_cV (pc := 291) (y := qX12_fail) (o := none) (as := [.int (6 : Int32)]) (V1 := V19) hG dX12_middle_291 l_X12_421 y0X12_fail yvX12_fail rfl (Nat.le_of_ble_eq_true rfl) lay_146 kr_12 (by decide) (Nat.le_of_ble_eq_true rfl) rfl rfl rfl (t_X12_fail hG ⟨rfl, rfl⟩ g20) ?_
  refine sx_goto (pc := 294) (tgt := 304) dX12_middle_294 (by decide) ?_
  exact sv_vret (pc := 304) dX12_middle_304 rfl h hP
def B_X12_middle_330 (N : Nat)   (V : sv_V) : Option sv_V := (F_X12_fail (6 : Int32) V).bind (fun V21 => some V21)
set_option maxRecDepth 20000 in
theorem tB_X12_middle_330 {g : sx_G} (hG : sx_Go g) {P : Option Value → sv_V → Prop} {Vr : sv_V} (hP : P none Vr) {N : Nat}    {V : sv_V} (h : B_X12_middle_330 N   V = some Vr) : sv_N g qX12_middle 7 330 [(0, .ref 146)] [] V P := by
  unfold B_X12_middle_330 at h
  refine sx_aload_n (pc := 330) dX12_middle_330 sx_m0 ?_
  refine sx_bipush (pc := 331) (v := 6) dX12_middle_331 (by decide) ?_
  obtain ⟨V21, g22, h⟩ := sx_bnd h
  refine sv_cV (pc := 333) (y := qX12_fail) (o := none) (as := [.int (6 : Int32)]) (V1 := V21) hG dX12_middle_333 l_X12_421 y0X12_fail yvX12_fail rfl (Nat.le_of_ble_eq_true rfl) lay_146 kr_12 (by decide) (Nat.le_of_ble_eq_true rfl) rfl rfl rfl (t_X12_fail hG ⟨rfl, rfl⟩ g22) ?_
  refine sx_goto (pc := 336) (tgt := 350) dX12_middle_336 (by decide) ?_
  exact sv_vret (pc := 350) dX12_middle_350 rfl h hP
def B_X12_middle_456 (N : Nat)  (s1 : Int64) (V : sv_V) : Option sv_V := (F_X12_push s1 V).bind (fun V23 => some V23)
set_option maxRecDepth 20000 in
theorem tB_X12_middle_456 {g : sx_G} (hG : sx_Go g) {P : Option Value → sv_V → Prop} {Vr : sv_V} (hP : P none Vr) {N : Nat}   {s1 : Int64} {V : sv_V} (h : B_X12_middle_456 N  s1 V = some Vr) : sv_N g qX12_middle 7 456 [] [.long s1, .ref 146] V P := by
  unfold B_X12_middle_456 at h
  obtain ⟨V23, g24, h⟩ := sx_bnd h
  refine sv_cV (pc := 456) (y := qX12_push) (o := none) (as := [.long s1]) (V1 := V23) hG dX12_middle_456 l_X12_564 y0X12_push yvX12_push rfl (Nat.le_of_ble_eq_true rfl) lay_146 kr_12 (by decide) (Nat.le_of_ble_eq_true rfl) rfl rfl rfl (t_X12_push hG ⟨rfl, rfl⟩ g24) ?_
  exact sv_vret (pc := 459) dX12_middle_459 rfl h hP
def B_X12_middle_388 (N : Nat)  (l1 : Int32) (V : sv_V) : Option sv_V := (F_X12_has (1 : Int32) V).bind (fun (x27, V25) => if x27 = 0 then (some V25) else ((F_X12_pop  V25).bind (fun (x31, V29) => (F_X12_pointOf (V25.1 146 74) x31 V29).bind (fun (x34, V32) => if (V32.1 146 59) = 0 then (if l1 = (70 : Int32) then ((F_X12_longOf x34 V32).bind (fun (x44, V42) => B_X12_middle_456 N  x44.toInt64 V42)) else (if sx_in x34 204 = true then if sx_in x34 204 = true then (F_X12_by (V32.1 166 x34.toNatClampNeg) (V32.1 167 x34.toNatClampNeg) (V32.1 146 67) (V32.1 146 68) V32).bind (fun (x41, V39) => B_X12_middle_456 N  x41.toInt64 V39) else none else none)) else (some V32)))))
set_option maxRecDepth 20000 in
theorem tB_X12_middle_388 {g : sx_G} (hG : sx_Go g) {P : Option Value → sv_V → Prop} {Vr : sv_V} (hP : P none Vr) {N : Nat}   {l1 : Int32} {V : sv_V} (h : B_X12_middle_388 N  l1 V = some Vr) : sv_N g qX12_middle 7 388 [(0, .ref 146), (1, .int l1)] [] V P := by
  unfold B_X12_middle_388 at h
  refine sx_aload_n (pc := 388) dX12_middle_388 sx_m0 ?_
  refine sx_iconst (pc := 389) (v := 1) dX12_middle_389 (by decide) ?_
  obtain ⟨⟨x27, V25⟩, g26, h⟩ := sx_bnd h
  refine sv_cV (pc := 390) (y := qX12_has) (o := (some (.int x27))) (as := [.int (1 : Int32)]) (V1 := V25) hG dX12_middle_390 l_X12_576 y0X12_has yvX12_has rfl (Nat.le_of_ble_eq_true rfl) lay_146 kr_12 (by decide) (Nat.le_of_ble_eq_true rfl) rfl rfl rfl (t_X12_has hG ⟨rfl, rfl⟩ g26) ?_
  refine sx_if_eq (pc := 393) (tgt := 459) dX12_middle_393 (by decide) (fun c28 => ?_) (fun c28 => ?_)
  · have h := sx_pos c28 h
    exact sv_vret (pc := 459) dX12_middle_459 rfl h hP
  · have h := sx_neg c28 h
    refine sx_aload_n (pc := 396) dX12_middle_396 sx_m0 ?_
    refine sx_aload_n (pc := 397) dX12_middle_397 sx_m0 ?_
    refine sv_getI (pc := 398) hG dX12_middle_398 f_12_466 lay_146 rfl ?_
    refine sx_aload_n (pc := 401) dX12_middle_401 sx_m0 ?_
    obtain ⟨⟨x31, V29⟩, g30, h⟩ := sx_bnd h
    refine sv_cV (pc := 402) (y := qX12_pop) (o := (some (.int x31))) (as := []) (V1 := V29) hG dX12_middle_402 l_X12_579 y0X12_pop yvX12_pop rfl (Nat.le_of_ble_eq_true rfl) lay_146 kr_12 (by decide) (Nat.le_of_ble_eq_true rfl) rfl rfl rfl (t_X12_pop hG ⟨rfl, rfl⟩ g30) ?_
    obtain ⟨⟨x34, V32⟩, g33, h⟩ := sx_bnd h
    refine sv_cV (pc := 405) (y := qX12_pointOf) (o := (some (.int x34))) (as := [.int (V25.1 146 74), .int x31]) (V1 := V32) hG dX12_middle_405 l_X12_582 y0X12_pointOf yvX12_pointOf rfl (Nat.le_of_ble_eq_true rfl) lay_146 kr_12 (by decide) (Nat.le_of_ble_eq_true rfl) rfl rfl rfl (t_X12_pointOf hG ⟨rfl, rfl⟩ g33) ?_
    refine sx_istore_n (pc := 408) (lo' := [(2, .int x34), (0, .ref 146), (1, .int l1)]) dX12_middle_408 (by decide) rfl ?_
    refine sx_aload_n (pc := 409) dX12_middle_409 sx_m1 ?_
    refine sv_getI (pc := 410) hG dX12_middle_410 f_12_409 lay_146 rfl ?_
    refine sx_if_ne (pc := 413) (tgt := 459) dX12_middle_413 (by decide) (fun c35 => ?_) (fun c35 => ?_)
    · have h := sx_neg c35 h
      exact sv_vret (pc := 459) dX12_middle_459 rfl h hP
    · have h := sx_pos c35 h
      refine sx_aload_n (pc := 416) dX12_middle_416 sx_m1 ?_
      refine sx_iload_n (pc := 417) dX12_middle_417 sx_m2 ?_
      refine sx_bipush (pc := 418) (v := 70) dX12_middle_418 (by decide) ?_
      refine sx_icmp_ne (pc := 420) (tgt := 432) dX12_middle_420 (by decide) (fun c36 => ?_) (fun c36 => ?_)
      · have h := sx_neg c36 h
        refine sx_aload_n (pc := 432) dX12_middle_432 sx_m1 ?_
        refine sv_getA (pc := 433) hG dX12_middle_433 f_12_70 lay_146 rfl cr_146_46 ?_
        refine sx_iload_n (pc := 436) dX12_middle_436 sx_m0 ?_
        obtain ⟨g37, h⟩ := sx_grd h
        refine sv_iald (pc := 437) hG dX12_middle_437 lay_166 g37 ?_
        refine sx_aload_n (pc := 438) dX12_middle_438 sx_m1 ?_
        refine sv_getA (pc := 439) hG dX12_middle_439 f_12_73 lay_146 rfl cr_146_47 ?_
        refine sx_iload_n (pc := 442) dX12_middle_442 sx_m0 ?_
        obtain ⟨g38, h⟩ := sx_grd h
        refine sv_iald (pc := 443) hG dX12_middle_443 lay_167 g38 ?_
        refine sx_aload_n (pc := 444) dX12_middle_444 sx_m1 ?_
        refine sv_getI (pc := 445) hG dX12_middle_445 f_12_445 lay_146 rfl ?_
        refine sx_aload_n (pc := 448) dX12_middle_448 sx_m1 ?_
        refine sv_getI (pc := 449) hG dX12_middle_449 f_12_448 lay_146 rfl ?_
        obtain ⟨⟨x41, V39⟩, g40, h⟩ := sx_bnd h
        refine sv_cS (pc := 452) (y := qX12_by) (o := (some (.int x41))) (as := [.int (V32.1 166 x34.toNatClampNeg), .int (V32.1 167 x34.toNatClampNeg), .int (V32.1 146 67), .int (V32.1 146 68)]) (V1 := V39) dX12_middle_452 l_X12_520 y0X12_by ysX12_by rfl (Nat.le_of_ble_eq_true rfl) (by decide) (Nat.le_of_ble_eq_true rfl) rfl rfl rfl (t_X12_by hG ⟨rfl, rfl⟩ g40) ?_
        refine sx_i2l (pc := 455) dX12_middle_455 ?_
        refine sx_wk sx_s0 ?_
        exact tB_X12_middle_456 hG hP  h
      · have h := sx_pos c36 h
        refine sx_aload_n (pc := 423) dX12_middle_423 sx_m1 ?_
        refine sx_iload_n (pc := 424) dX12_middle_424 sx_m0 ?_
        obtain ⟨⟨x44, V42⟩, g43, h⟩ := sx_bnd h
        refine sv_cV (pc := 425) (y := qX12_longOf) (o := (some (.int x44))) (as := [.int x34]) (V1 := V42) hG dX12_middle_425 l_X12_644 y0X12_longOf yvX12_longOf rfl (Nat.le_of_ble_eq_true rfl) lay_146 kr_12 (by decide) (Nat.le_of_ble_eq_true rfl) rfl rfl rfl (t_X12_longOf hG ⟨rfl, rfl⟩ g43) ?_
        refine sx_i2l (pc := 428) dX12_middle_428 ?_
        refine sx_goto (pc := 429) (tgt := 456) dX12_middle_429 (by decide) ?_
        refine sx_wk sx_s0 ?_
        exact tB_X12_middle_456 hG hP  h
def B_X12_middle_604 (N : Nat)  (s1 : Int64) (V : sv_V) : Option sv_V := (F_X12_push s1 V).bind (fun V45 => some V45)
set_option maxRecDepth 20000 in
theorem tB_X12_middle_604 {g : sx_G} (hG : sx_Go g) {P : Option Value → sv_V → Prop} {Vr : sv_V} (hP : P none Vr) {N : Nat}   {s1 : Int64} {V : sv_V} (h : B_X12_middle_604 N  s1 V = some Vr) : sv_N g qX12_middle 7 604 [] [.long s1, .ref 146] V P := by
  unfold B_X12_middle_604 at h
  obtain ⟨V45, g46, h⟩ := sx_bnd h
  refine sv_cV (pc := 604) (y := qX12_push) (o := none) (as := [.long s1]) (V1 := V45) hG dX12_middle_604 l_X12_564 y0X12_push yvX12_push rfl (Nat.le_of_ble_eq_true rfl) lay_146 kr_12 (by decide) (Nat.le_of_ble_eq_true rfl) rfl rfl rfl (t_X12_push hG ⟨rfl, rfl⟩ g46) ?_
  exact sv_vret (pc := 607) dX12_middle_607 rfl h hP
def B_X12_middle_539 (N : Nat)  (l1 : Int32) (V : sv_V) : Option sv_V := (F_X12_has (2 : Int32) V).bind (fun (x49, V47) => if x49 = 0 then (some V47) else ((F_X12_pop  V47).bind (fun (x53, V51) => (F_X12_pointOf (V47.1 146 73) x53 V51).bind (fun (x56, V54) => (F_X12_pop  V54).bind (fun (x59, V57) => (F_X12_pointOf (V54.1 146 72) x59 V57).bind (fun (x62, V60) => if (V60.1 146 59) = 0 then (if l1 = (73 : Int32) then ((F_X12_between x62 x56 V60).bind (fun (x70, V68) => B_X12_middle_604 N  x70.toInt64 V68)) else ((F_X12_originally x62 x56 V60).bind (fun (x67, V65) => B_X12_middle_604 N  x67.toInt64 V65))) else (some V60)))))))
set_option maxRecDepth 20000 in
theorem tB_X12_middle_539 {g : sx_G} (hG : sx_Go g) {P : Option Value → sv_V → Prop} {Vr : sv_V} (hP : P none Vr) {N : Nat}   {l1 : Int32} {V : sv_V} (h : B_X12_middle_539 N  l1 V = some Vr) : sv_N g qX12_middle 7 539 [(0, .ref 146), (1, .int l1)] [] V P := by
  unfold B_X12_middle_539 at h
  refine sx_aload_n (pc := 539) dX12_middle_539 sx_m0 ?_
  refine sx_iconst (pc := 540) (v := 2) dX12_middle_540 (by decide) ?_
  obtain ⟨⟨x49, V47⟩, g48, h⟩ := sx_bnd h
  refine sv_cV (pc := 541) (y := qX12_has) (o := (some (.int x49))) (as := [.int (2 : Int32)]) (V1 := V47) hG dX12_middle_541 l_X12_576 y0X12_has yvX12_has rfl (Nat.le_of_ble_eq_true rfl) lay_146 kr_12 (by decide) (Nat.le_of_ble_eq_true rfl) rfl rfl rfl (t_X12_has hG ⟨rfl, rfl⟩ g48) ?_
  refine sx_if_eq (pc := 544) (tgt := 607) dX12_middle_544 (by decide) (fun c50 => ?_) (fun c50 => ?_)
  · have h := sx_pos c50 h
    exact sv_vret (pc := 607) dX12_middle_607 rfl h hP
  · have h := sx_neg c50 h
    refine sx_aload_n (pc := 547) dX12_middle_547 sx_m0 ?_
    refine sx_aload_n (pc := 548) dX12_middle_548 sx_m0 ?_
    refine sv_getI (pc := 549) hG dX12_middle_549 f_12_463 lay_146 rfl ?_
    refine sx_aload_n (pc := 552) dX12_middle_552 sx_m0 ?_
    obtain ⟨⟨x53, V51⟩, g52, h⟩ := sx_bnd h
    refine sv_cV (pc := 553) (y := qX12_pop) (o := (some (.int x53))) (as := []) (V1 := V51) hG dX12_middle_553 l_X12_579 y0X12_pop yvX12_pop rfl (Nat.le_of_ble_eq_true rfl) lay_146 kr_12 (by decide) (Nat.le_of_ble_eq_true rfl) rfl rfl rfl (t_X12_pop hG ⟨rfl, rfl⟩ g52) ?_
    obtain ⟨⟨x56, V54⟩, g55, h⟩ := sx_bnd h
    refine sv_cV (pc := 556) (y := qX12_pointOf) (o := (some (.int x56))) (as := [.int (V47.1 146 73), .int x53]) (V1 := V54) hG dX12_middle_556 l_X12_582 y0X12_pointOf yvX12_pointOf rfl (Nat.le_of_ble_eq_true rfl) lay_146 kr_12 (by decide) (Nat.le_of_ble_eq_true rfl) rfl rfl rfl (t_X12_pointOf hG ⟨rfl, rfl⟩ g55) ?_
    refine sx_istore_n (pc := 559) (lo' := [(2, .int x56), (0, .ref 146), (1, .int l1)]) dX12_middle_559 (by decide) rfl ?_
    refine sx_aload_n (pc := 560) dX12_middle_560 sx_m1 ?_
    refine sx_aload_n (pc := 561) dX12_middle_561 sx_m1 ?_
    refine sv_getI (pc := 562) hG dX12_middle_562 f_12_460 lay_146 rfl ?_
    refine sx_aload_n (pc := 565) dX12_middle_565 sx_m1 ?_
    obtain ⟨⟨x59, V57⟩, g58, h⟩ := sx_bnd h
    refine sv_cV (pc := 566) (y := qX12_pop) (o := (some (.int x59))) (as := []) (V1 := V57) hG dX12_middle_566 l_X12_579 y0X12_pop yvX12_pop rfl (Nat.le_of_ble_eq_true rfl) lay_146 kr_12 (by decide) (Nat.le_of_ble_eq_true rfl) rfl rfl rfl (t_X12_pop hG ⟨rfl, rfl⟩ g58) ?_
    obtain ⟨⟨x62, V60⟩, g61, h⟩ := sx_bnd h
    refine sv_cV (pc := 569) (y := qX12_pointOf) (o := (some (.int x62))) (as := [.int (V54.1 146 72), .int x59]) (V1 := V60) hG dX12_middle_569 l_X12_582 y0X12_pointOf yvX12_pointOf rfl (Nat.le_of_ble_eq_true rfl) lay_146 kr_12 (by decide) (Nat.le_of_ble_eq_true rfl) rfl rfl rfl (t_X12_pointOf hG ⟨rfl, rfl⟩ g61) ?_
    refine sx_istore_n (pc := 572) (lo' := [(3, .int x62), (2, .int x56), (0, .ref 146), (1, .int l1)]) dX12_middle_572 (by decide) rfl ?_
    refine sx_aload_n (pc := 573) dX12_middle_573 sx_m2 ?_
    refine sv_getI (pc := 574) hG dX12_middle_574 f_12_409 lay_146 rfl ?_
    refine sx_if_ne (pc := 577) (tgt := 607) dX12_middle_577 (by decide) (fun c63 => ?_) (fun c63 => ?_)
    · have h := sx_neg c63 h
      exact sv_vret (pc := 607) dX12_middle_607 rfl h hP
    · have h := sx_pos c63 h
      refine sx_aload_n (pc := 580) dX12_middle_580 sx_m2 ?_
      refine sx_iload_n (pc := 581) dX12_middle_581 sx_m3 ?_
      refine sx_bipush (pc := 582) (v := 73) dX12_middle_582 (by decide) ?_
      refine sx_icmp_ne (pc := 584) (tgt := 597) dX12_middle_584 (by decide) (fun c64 => ?_) (fun c64 => ?_)
      · have h := sx_neg c64 h
        refine sx_aload_n (pc := 597) dX12_middle_597 sx_m2 ?_
        refine sx_iload_n (pc := 598) dX12_middle_598 sx_m0 ?_
        refine sx_iload_n (pc := 599) dX12_middle_599 sx_m1 ?_
        obtain ⟨⟨x67, V65⟩, g66, h⟩ := sx_bnd h
        refine sv_cV (pc := 600) (y := qX12_originally) (o := (some (.int x67))) (as := [.int x62, .int x56]) (V1 := V65) hG dX12_middle_600 l_X12_680 y0X12_originally yvX12_originally rfl (Nat.le_of_ble_eq_true rfl) lay_146 kr_12 (by decide) (Nat.le_of_ble_eq_true rfl) rfl rfl rfl (t_X12_originally hG ⟨rfl, rfl⟩ g66) ?_
        refine sx_i2l (pc := 603) dX12_middle_603 ?_
        refine sx_wk sx_s0 ?_
        exact tB_X12_middle_604 hG hP  h
      · have h := sx_pos c64 h
        refine sx_aload_n (pc := 587) dX12_middle_587 sx_m2 ?_
        refine sx_iload_n (pc := 588) dX12_middle_588 sx_m0 ?_
        refine sx_iload_n (pc := 589) dX12_middle_589 sx_m1 ?_
        obtain ⟨⟨x70, V68⟩, g69, h⟩ := sx_bnd h
        refine sv_cV (pc := 590) (y := qX12_between) (o := (some (.int x70))) (as := [.int x62, .int x56]) (V1 := V68) hG dX12_middle_590 l_X12_627 y0X12_between yvX12_between rfl (Nat.le_of_ble_eq_true rfl) lay_146 kr_12 (by decide) (Nat.le_of_ble_eq_true rfl) rfl rfl rfl (t_X12_between hG ⟨rfl, rfl⟩ g69) ?_
        refine sx_i2l (pc := 593) dX12_middle_593 ?_
        refine sx_goto (pc := 594) (tgt := 604) dX12_middle_594 (by decide) ?_
        refine sx_wk sx_s0 ?_
        exact tB_X12_middle_604 hG hP  h
def B_X12_middle_608 (N : Nat)   (V : sv_V) : Option sv_V := (F_X12_push ((V.1 146 62).toInt64) V).bind (fun V71 => some V71)
set_option maxRecDepth 20000 in
theorem tB_X12_middle_608 {g : sx_G} (hG : sx_Go g) {P : Option Value → sv_V → Prop} {Vr : sv_V} (hP : P none Vr) {N : Nat}    {V : sv_V} (h : B_X12_middle_608 N   V = some Vr) : sv_N g qX12_middle 7 608 [(0, .ref 146)] [] V P := by
  unfold B_X12_middle_608 at h
  refine sx_aload_n (pc := 608) dX12_middle_608 sx_m0 ?_
  refine sx_aload_n (pc := 609) dX12_middle_609 sx_m0 ?_
  refine sv_getI (pc := 610) hG dX12_middle_610 f_12_621 lay_146 rfl ?_
  refine sx_i2l (pc := 613) dX12_middle_613 ?_
  obtain ⟨V71, g72, h⟩ := sx_bnd h
  refine sv_cV (pc := 614) (y := qX12_push) (o := none) (as := [.long ((V.1 146 62).toInt64)]) (V1 := V71) hG dX12_middle_614 l_X12_564 y0X12_push yvX12_push rfl (Nat.le_of_ble_eq_true rfl) lay_146 kr_12 (by decide) (Nat.le_of_ble_eq_true rfl) rfl rfl rfl (t_X12_push hG ⟨rfl, rfl⟩ g72) ?_
  exact sv_vret (pc := 617) dX12_middle_617 rfl h hP
def B_X12_middle_618 (N : Nat)  (l1 : Int32) (V : sv_V) : Option sv_V := if l1 = (77 : Int32) then (sx_let (sv_I V 146 84 (1 : Int32)) (fun V75 => some V75)) else (sx_let (sv_I V 146 84 (0 : Int32)) (fun V74 => some V74))
set_option maxRecDepth 20000 in
theorem tB_X12_middle_618 {g : sx_G} (hG : sx_Go g) {P : Option Value → sv_V → Prop} {Vr : sv_V} (hP : P none Vr) {N : Nat}   {l1 : Int32} {V : sv_V} (h : B_X12_middle_618 N  l1 V = some Vr) : sv_N g qX12_middle 7 618 [(0, .ref 146), (1, .int l1)] [] V P := by
  unfold B_X12_middle_618 at h
  refine sx_aload_n (pc := 618) dX12_middle_618 sx_m0 ?_
  refine sx_iload_n (pc := 619) dX12_middle_619 sx_m1 ?_
  refine sx_bipush (pc := 620) (v := 77) dX12_middle_620 (by decide) ?_
  refine sx_icmp_ne (pc := 622) (tgt := 629) dX12_middle_622 (by decide) (fun c73 => ?_) (fun c73 => ?_)
  · have h := sx_neg c73 h
    refine sx_iconst (pc := 629) (v := 0) dX12_middle_629 (by decide) ?_
    obtain ⟨V74, hV74⟩ : ∃ z : sv_V, z = sv_I V 146 84 (0 : Int32) := ⟨_, rfl⟩
    have h := sx_letE hV74 h
    refine sv_putZ (pc := 630) hG dX12_middle_630 f_12_683 lay_146 rfl rfl hV74 ?_
    exact sv_vret (pc := 633) dX12_middle_633 rfl h hP
  · have h := sx_pos c73 h
    refine sx_iconst (pc := 625) (v := 1) dX12_middle_625 (by decide) ?_
    refine sx_goto (pc := 626) (tgt := 630) dX12_middle_626 (by decide) ?_
    obtain ⟨V75, hV75⟩ : ∃ z : sv_V, z = sv_I V 146 84 (1 : Int32) := ⟨_, rfl⟩
    have h := sx_letE hV75 h
    refine sv_putZ (pc := 630) hG dX12_middle_630 f_12_683 lay_146 rfl rfl hV75 ?_
    exact sv_vret (pc := 633) dX12_middle_633 rfl h hP
def F_X12_middle (N : Nat) (l1 : Int32) (V : sv_V) : Option sv_V := if l1 = 48 then ((F_X12_followAll N 167 169 (2 : Int32) V).bind (fun V77 => some V77)) else (if l1 = 49 then ((F_X12_followAll N 166 168 (1 : Int32) V).bind (fun V80 => some V80)) else (if l1 = 50 then (B_X12_middle_168 N  l1 V) else (if l1 = 51 then (B_X12_middle_168 N  l1 V) else (if l1 = 52 then (B_X12_middle_168 N  l1 V) else (if l1 = 53 then (B_X12_middle_168 N  l1 V) else (if l1 = 54 then (B_X12_middle_168 N  l1 V) else (if l1 = 55 then (B_X12_middle_168 N  l1 V) else (if l1 = 56 then (B_X12_middle_174 N  l1 V) else (if l1 = 57 then (B_X12_middle_174 N  l1 V) else (if l1 = 58 then (B_X12_middle_180 N  l1 V) else (if l1 = 59 then (B_X12_middle_180 N  l1 V) else (if l1 = 60 then (B_X12_middle_174 N  l1 V) else (if l1 = 61 then ((F_X12_setRounding (61 : Int32) (32 : Int32) (0 : Int32) (16 : Int32) V).bind (fun V94 => some V94)) else (if l1 = 62 then (B_X12_middle_198 N  l1 V) else (if l1 = 63 then (B_X12_middle_198 N  l1 V) else (if l1 = 64 then (B_X12_middle_204 N  l1 V) else (if l1 = 65 then (B_X12_middle_204 N  l1 V) else (if l1 = 66 then ((F_X12_has (2 : Int32) V).bind (fun (x103, V101) => if x103 = 0 then (some V101) else ((F_X12_pop  V101).bind (fun (x107, V105) => (F_X12_pop  V105).bind (fun (x110, V108) => if x110 < 0 then (B_X12_middle_288 N   V108) else (if x110 < (V108.1 146 15) then (if sx_in x110 64 = true then sx_let (sv_I V108 165 x110.toNatClampNeg x107) (fun V114 => some V114) else none) else (B_X12_middle_288 N   V108))))))) else (if l1 = 67 then ((F_X12_has (1 : Int32) V).bind (fun (x118, V116) => if x118 = 0 then (some V116) else ((F_X12_pop  V116).bind (fun (x122, V120) => if x122 < 0 then (B_X12_middle_330 N   V120) else (if x122 < (V120.1 146 15) then (if sx_in x122 64 = true then (F_X12_push ((V120.1 165 x122.toNatClampNeg).toInt64) V120).bind (fun V126 => some V126) else none) else (B_X12_middle_330 N   V120)))))) else (if l1 = 68 then ((F_X12_setCvt (0 : Int32) V).bind (fun V129 => some V129)) else (if l1 = 69 then ((F_X12_has (1 : Int32) V).bind (fun (x134, V132) => if x134 = 0 then (some V132) else ((F_X12_pop  V132).bind (fun (x138, V136) => (F_X12_cvtOf x138 V136).bind (fun (x141, V139) => if (V139.1 146 59) = 0 then ((F_X12_push x141.toInt64 V139).bind (fun V143 => some V143)) else (some V139)))))) else (if l1 = 70 then (B_X12_middle_388 N  l1 V) else (if l1 = 71 then (B_X12_middle_388 N  l1 V) else (if l1 = 72 then ((F_X12_has (2 : Int32) V).bind (fun (x150, V148) => if x150 = 0 then (some V148) else ((F_X12_pop  V148).bind (fun (x154, V152) => (F_X12_pop  V152).bind (fun (x157, V155) => (F_X12_pointOf (V152.1 146 74) x157 V155).bind (fun (x160, V158) => if (V158.1 146 59) = 0 then ((F_X12_longOf x160 V158).bind (fun (x164, V162) => (F_X12_move x160 (x154.toInt64 - x164.toInt64) V162).bind (fun V165 => if (V165.1 146 74) = 0 then (if sx_in x160 204 = true then if sx_in x160 204 = true then sx_let (sv_I V165 166 x160.toNatClampNeg (V165.1 168 x160.toNatClampNeg)) (fun V170 => if sx_in x160 204 = true then if sx_in x160 204 = true then sx_let (sv_I V170 167 x160.toNatClampNeg (V170.1 169 x160.toNatClampNeg)) (fun V173 => some V173) else none else none) else none else none) else (some V165)))) else (some V158))))))) else (if l1 = 73 then (B_X12_middle_539 N  l1 V) else (if l1 = 74 then (B_X12_middle_539 N  l1 V) else (if l1 = 75 then (B_X12_middle_608 N   V) else (if l1 = 76 then (B_X12_middle_608 N   V) else (if l1 = 77 then (B_X12_middle_618 N  l1 V) else (if l1 = 78 then (B_X12_middle_618 N  l1 V) else ((F_X12_tests N l1 V).bind (fun V180 => some V180))))))))))))))))))))))))))))))))
set_option maxRecDepth 20000 in
theorem t_X12_middle {g : sx_G} (hG : sx_Go g) {P : Option Value → sv_V → Prop} {Vr : sv_V} (hP : P none Vr) {N : Nat} {l1 : Int32} {V : sv_V} (h : F_X12_middle N l1 V = some Vr) : sv_N g qX12_middle 7 0 [(0, .ref 146), (1, .int l1)] [] V P := by
  unfold F_X12_middle at h
  refine sx_iload_n (pc := 0) dX12_middle_0 sx_m1 ?_
  by_cases c76 : l1 = 48
  · have h := sx_pos c76 h
    refine sx_tabI (pc := 1) (off := 139) (tgt := 140) dX12_middle_1 (by rw [c76]; decide) (by rw [c76]; decide) (by rw [c76]; rfl) (by decide) ?_
    refine sx_aload_n (pc := 140) dX12_middle_140 sx_m0 ?_
    refine sx_aload_n (pc := 141) dX12_middle_141 sx_m0 ?_
    refine sv_getA (pc := 142) hG dX12_middle_142 f_12_73 lay_146 rfl cr_146_47 ?_
    refine sx_aload_n (pc := 145) dX12_middle_145 sx_m0 ?_
    refine sv_getA (pc := 146) hG dX12_middle_146 f_12_79 lay_146 rfl cr_146_49 ?_
    refine sx_iconst (pc := 149) (v := 2) dX12_middle_149 (by decide) ?_
    obtain ⟨V77, g78, h⟩ := sx_bnd h
    refine sv_cV (pc := 150) (y := qX12_followAll) (o := none) (as := [.ref 167, .ref 169, .int (2 : Int32)]) (V1 := V77) hG dX12_middle_150 l_X12_658 y0X12_followAll yvX12_followAll rfl (Nat.le_of_ble_eq_true rfl) lay_146 kr_12 (by decide) (Nat.le_of_ble_eq_true rfl) rfl rfl rfl (t_X12_followAll hG ⟨rfl, rfl⟩ g78) ?_
    exact sv_vret (pc := 153) dX12_middle_153 rfl h hP
  have h := sx_neg c76 h
  by_cases c79 : l1 = 49
  · have h := sx_pos c79 h
    refine sx_tabI (pc := 1) (off := 153) (tgt := 154) dX12_middle_1 (by rw [c79]; decide) (by rw [c79]; decide) (by rw [c79]; rfl) (by decide) ?_
    refine sx_aload_n (pc := 154) dX12_middle_154 sx_m0 ?_
    refine sx_aload_n (pc := 155) dX12_middle_155 sx_m0 ?_
    refine sv_getA (pc := 156) hG dX12_middle_156 f_12_70 lay_146 rfl cr_146_46 ?_
    refine sx_aload_n (pc := 159) dX12_middle_159 sx_m0 ?_
    refine sv_getA (pc := 160) hG dX12_middle_160 f_12_76 lay_146 rfl cr_146_48 ?_
    refine sx_iconst (pc := 163) (v := 1) dX12_middle_163 (by decide) ?_
    obtain ⟨V80, g81, h⟩ := sx_bnd h
    refine sv_cV (pc := 164) (y := qX12_followAll) (o := none) (as := [.ref 166, .ref 168, .int (1 : Int32)]) (V1 := V80) hG dX12_middle_164 l_X12_658 y0X12_followAll yvX12_followAll rfl (Nat.le_of_ble_eq_true rfl) lay_146 kr_12 (by decide) (Nat.le_of_ble_eq_true rfl) rfl rfl rfl (t_X12_followAll hG ⟨rfl, rfl⟩ g81) ?_
    exact sv_vret (pc := 167) dX12_middle_167 rfl h hP
  have h := sx_neg c79 h
  by_cases c82 : l1 = 50
  · have h := sx_pos c82 h
    refine sx_tabI (pc := 1) (off := 167) (tgt := 168) dX12_middle_1 (by rw [c82]; decide) (by rw [c82]; decide) (by rw [c82]; rfl) (by decide) ?_
    refine sx_wk (sx_s1 sx_m0 (sx_s1 sx_m1 sx_s0)) ?_
    exact tB_X12_middle_168 hG hP  h
  have h := sx_neg c82 h
  by_cases c83 : l1 = 51
  · have h := sx_pos c83 h
    refine sx_tabI (pc := 1) (off := 167) (tgt := 168) dX12_middle_1 (by rw [c83]; decide) (by rw [c83]; decide) (by rw [c83]; rfl) (by decide) ?_
    refine sx_wk (sx_s1 sx_m0 (sx_s1 sx_m1 sx_s0)) ?_
    exact tB_X12_middle_168 hG hP  h
  have h := sx_neg c83 h
  by_cases c84 : l1 = 52
  · have h := sx_pos c84 h
    refine sx_tabI (pc := 1) (off := 167) (tgt := 168) dX12_middle_1 (by rw [c84]; decide) (by rw [c84]; decide) (by rw [c84]; rfl) (by decide) ?_
    refine sx_wk (sx_s1 sx_m0 (sx_s1 sx_m1 sx_s0)) ?_
    exact tB_X12_middle_168 hG hP  h
  have h := sx_neg c84 h
  by_cases c85 : l1 = 53
  · have h := sx_pos c85 h
    refine sx_tabI (pc := 1) (off := 167) (tgt := 168) dX12_middle_1 (by rw [c85]; decide) (by rw [c85]; decide) (by rw [c85]; rfl) (by decide) ?_
    refine sx_wk (sx_s1 sx_m0 (sx_s1 sx_m1 sx_s0)) ?_
    exact tB_X12_middle_168 hG hP  h
  have h := sx_neg c85 h
  by_cases c86 : l1 = 54
  · have h := sx_pos c86 h
    refine sx_tabI (pc := 1) (off := 167) (tgt := 168) dX12_middle_1 (by rw [c86]; decide) (by rw [c86]; decide) (by rw [c86]; rfl) (by decide) ?_
    refine sx_wk (sx_s1 sx_m0 (sx_s1 sx_m1 sx_s0)) ?_
    exact tB_X12_middle_168 hG hP  h
  have h := sx_neg c86 h
  by_cases c87 : l1 = 55
  · have h := sx_pos c87 h
    refine sx_tabI (pc := 1) (off := 167) (tgt := 168) dX12_middle_1 (by rw [c87]; decide) (by rw [c87]; decide) (by rw [c87]; rfl) (by decide) ?_
    refine sx_wk (sx_s1 sx_m0 (sx_s1 sx_m1 sx_s0)) ?_
    exact tB_X12_middle_168 hG hP  h
  have h := sx_neg c87 h
  by_cases c88 : l1 = 56
  · have h := sx_pos c88 h
    refine sx_tabI (pc := 1) (off := 173) (tgt := 174) dX12_middle_1 (by rw [c88]; decide) (by rw [c88]; decide) (by rw [c88]; rfl) (by decide) ?_
    refine sx_wk (sx_s1 sx_m0 (sx_s1 sx_m1 sx_s0)) ?_
    exact tB_X12_middle_174 hG hP  h
  have h := sx_neg c88 h
  by_cases c89 : l1 = 57
  · have h := sx_pos c89 h
    refine sx_tabI (pc := 1) (off := 173) (tgt := 174) dX12_middle_1 (by rw [c89]; decide) (by rw [c89]; decide) (by rw [c89]; rfl) (by decide) ?_
    refine sx_wk (sx_s1 sx_m0 (sx_s1 sx_m1 sx_s0)) ?_
    exact tB_X12_middle_174 hG hP  h
  have h := sx_neg c89 h
  by_cases c90 : l1 = 58
  · have h := sx_pos c90 h
    refine sx_tabI (pc := 1) (off := 179) (tgt := 180) dX12_middle_1 (by rw [c90]; decide) (by rw [c90]; decide) (by rw [c90]; rfl) (by decide) ?_
    refine sx_wk (sx_s1 sx_m0 (sx_s1 sx_m1 sx_s0)) ?_
    exact tB_X12_middle_180 hG hP  h
  have h := sx_neg c90 h
  by_cases c91 : l1 = 59
  · have h := sx_pos c91 h
    refine sx_tabI (pc := 1) (off := 179) (tgt := 180) dX12_middle_1 (by rw [c91]; decide) (by rw [c91]; decide) (by rw [c91]; rfl) (by decide) ?_
    refine sx_wk (sx_s1 sx_m0 (sx_s1 sx_m1 sx_s0)) ?_
    exact tB_X12_middle_180 hG hP  h
  have h := sx_neg c91 h
  by_cases c92 : l1 = 60
  · have h := sx_pos c92 h
    refine sx_tabI (pc := 1) (off := 173) (tgt := 174) dX12_middle_1 (by rw [c92]; decide) (by rw [c92]; decide) (by rw [c92]; rfl) (by decide) ?_
    refine sx_wk (sx_s1 sx_m0 (sx_s1 sx_m1 sx_s0)) ?_
    exact tB_X12_middle_174 hG hP  h
  have h := sx_neg c92 h
  by_cases c93 : l1 = 61
  · have h := sx_pos c93 h
    refine sx_tabI (pc := 1) (off := 185) (tgt := 186) dX12_middle_1 (by rw [c93]; decide) (by rw [c93]; decide) (by rw [c93]; rfl) (by decide) ?_
    refine sx_aload_n (pc := 186) dX12_middle_186 sx_m0 ?_
    refine sx_bipush (pc := 187) (v := 61) dX12_middle_187 (by decide) ?_
    refine sx_bipush (pc := 189) (v := 32) dX12_middle_189 (by decide) ?_
    refine sx_iconst (pc := 191) (v := 0) dX12_middle_191 (by decide) ?_
    refine sx_bipush (pc := 192) (v := 16) dX12_middle_192 (by decide) ?_
    obtain ⟨V94, g95, h⟩ := sx_bnd h
    refine sv_cV (pc := 194) (y := qX12_setRounding) (o := none) (as := [.int (61 : Int32), .int (32 : Int32), .int (0 : Int32), .int (16 : Int32)]) (V1 := V94) hG dX12_middle_194 l_X12_472 y0X12_setRounding yvX12_setRounding rfl (Nat.le_of_ble_eq_true rfl) lay_146 kr_12 (by decide) (Nat.le_of_ble_eq_true rfl) rfl rfl rfl (t_X12_setRounding hG ⟨rfl, rfl⟩ g95) ?_
    exact sv_vret (pc := 197) dX12_middle_197 rfl h hP
  have h := sx_neg c93 h
  by_cases c96 : l1 = 62
  · have h := sx_pos c96 h
    refine sx_tabI (pc := 1) (off := 197) (tgt := 198) dX12_middle_1 (by rw [c96]; decide) (by rw [c96]; decide) (by rw [c96]; rfl) (by decide) ?_
    refine sx_wk (sx_s1 sx_m0 (sx_s1 sx_m1 sx_s0)) ?_
    exact tB_X12_middle_198 hG hP  h
  have h := sx_neg c96 h
  by_cases c97 : l1 = 63
  · have h := sx_pos c97 h
    refine sx_tabI (pc := 1) (off := 197) (tgt := 198) dX12_middle_1 (by rw [c97]; decide) (by rw [c97]; decide) (by rw [c97]; rfl) (by decide) ?_
    refine sx_wk (sx_s1 sx_m0 (sx_s1 sx_m1 sx_s0)) ?_
    exact tB_X12_middle_198 hG hP  h
  have h := sx_neg c97 h
  by_cases c98 : l1 = 64
  · have h := sx_pos c98 h
    refine sx_tabI (pc := 1) (off := 203) (tgt := 204) dX12_middle_1 (by rw [c98]; decide) (by rw [c98]; decide) (by rw [c98]; rfl) (by decide) ?_
    refine sx_wk (sx_s1 sx_m0 (sx_s1 sx_m1 sx_s0)) ?_
    exact tB_X12_middle_204 hG hP  h
  have h := sx_neg c98 h
  by_cases c99 : l1 = 65
  · have h := sx_pos c99 h
    refine sx_tabI (pc := 1) (off := 203) (tgt := 204) dX12_middle_1 (by rw [c99]; decide) (by rw [c99]; decide) (by rw [c99]; rfl) (by decide) ?_
    refine sx_wk (sx_s1 sx_m0 (sx_s1 sx_m1 sx_s0)) ?_
    exact tB_X12_middle_204 hG hP  h
  have h := sx_neg c99 h
  by_cases c100 : l1 = 66
  · have h := sx_pos c100 h
    refine sx_tabI (pc := 1) (off := 257) (tgt := 258) dX12_middle_1 (by rw [c100]; decide) (by rw [c100]; decide) (by rw [c100]; rfl) (by decide) ?_
    refine sx_aload_n (pc := 258) dX12_middle_258 sx_m0 ?_
    refine sx_iconst (pc := 259) (v := 2) dX12_middle_259 (by decide) ?_
    obtain ⟨⟨x103, V101⟩, g102, h⟩ := sx_bnd h
    refine sv_cV (pc := 260) (y := qX12_has) (o := (some (.int x103))) (as := [.int (2 : Int32)]) (V1 := V101) hG dX12_middle_260 l_X12_576 y0X12_has yvX12_has rfl (Nat.le_of_ble_eq_true rfl) lay_146 kr_12 (by decide) (Nat.le_of_ble_eq_true rfl) rfl rfl rfl (t_X12_has hG ⟨rfl, rfl⟩ g102) ?_
    refine sx_if_eq (pc := 263) (tgt := 304) dX12_middle_263 (by decide) (fun c104 => ?_) (fun c104 => ?_)
    · have h := sx_pos c104 h
      exact sv_vret (pc := 304) dX12_middle_304 rfl h hP
    · have h := sx_neg c104 h
      refine sx_aload_n (pc := 266) dX12_middle_266 sx_m0 ?_
      obtain ⟨⟨x107, V105⟩, g106, h⟩ := sx_bnd h
      refine sv_cV (pc := 267) (y := qX12_pop) (o := (some (.int x107))) (as := []) (V1 := V105) hG dX12_middle_267 l_X12_579 y0X12_pop yvX12_pop rfl (Nat.le_of_ble_eq_true rfl) lay_146 kr_12 (by decide) (Nat.le_of_ble_eq_true rfl) rfl rfl rfl (t_X12_pop hG ⟨rfl, rfl⟩ g106) ?_
      refine sx_istore_n (pc := 270) (lo' := [(2, .int x107), (0, .ref 146), (1, .int l1)]) dX12_middle_270 (by decide) rfl ?_
      refine sx_aload_n (pc := 271) dX12_middle_271 sx_m1 ?_
      obtain ⟨⟨x110, V108⟩, g109, h⟩ := sx_bnd h
      refine sv_cV (pc := 272) (y := qX12_pop) (o := (some (.int x110))) (as := []) (V1 := V108) hG dX12_middle_272 l_X12_579 y0X12_pop yvX12_pop rfl (Nat.le_of_ble_eq_true rfl) lay_146 kr_12 (by decide) (Nat.le_of_ble_eq_true rfl) rfl rfl rfl (t_X12_pop hG ⟨rfl, rfl⟩ g109) ?_
      refine sx_istore_n (pc := 275) (lo' := [(3, .int x110), (2, .int x107), (0, .ref 146), (1, .int l1)]) dX12_middle_275 (by decide) rfl ?_
      refine sx_iload_n (pc := 276) dX12_middle_276 sx_m0 ?_
      refine sx_if_lt (pc := 277) (tgt := 288) dX12_middle_277 (by decide) (fun c111 => ?_) (fun c111 => ?_)
      · have h := sx_pos c111 h
        refine sx_wk (sx_s1 sx_m2 sx_s0) ?_
        exact tB_X12_middle_288 hG hP  h
      · have h := sx_neg c111 h
        refine sx_iload_n (pc := 280) dX12_middle_280 sx_m0 ?_
        refine sx_aload_n (pc := 281) dX12_middle_281 sx_m2 ?_
        refine sv_getI (pc := 282) hG dX12_middle_282 f_12_319 lay_146 rfl ?_
        refine sx_icmp_lt (pc := 285) (tgt := 297) dX12_middle_285 (by decide) (fun c112 => ?_) (fun c112 => ?_)
        · have h := sx_pos c112 h
          refine sx_aload_n (pc := 297) dX12_middle_297 sx_m2 ?_
          refine sv_getA (pc := 298) hG dX12_middle_298 f_12_67 lay_146 rfl cr_146_45 ?_
          refine sx_iload_n (pc := 301) dX12_middle_301 sx_m0 ?_
          refine sx_iload_n (pc := 302) dX12_middle_302 sx_m1 ?_
          obtain ⟨g113, h⟩ := sx_grd h
          obtain ⟨V114, hV114⟩ : ∃ z : sv_V, z = sv_I V108 165 x110.toNatClampNeg x107 := ⟨_, rfl⟩
          have h := sx_letE hV114 h
          refine sv_iast (pc := 303) hG dX12_middle_303 lay_165 g113 hV114 ?_
          exact sv_vret (pc := 304) dX12_middle_304 rfl h hP
        · have h := sx_neg c112 h
          refine sx_wk (sx_s1 sx_m2 sx_s0) ?_
          exact tB_X12_middle_288 hG hP  h
  have h := sx_neg c100 h
  by_cases c115 : l1 = 67
  · have h := sx_pos c115 h
    refine sx_tabI (pc := 1) (off := 304) (tgt := 305) dX12_middle_1 (by rw [c115]; decide) (by rw [c115]; decide) (by rw [c115]; rfl) (by decide) ?_
    refine sx_aload_n (pc := 305) dX12_middle_305 sx_m0 ?_
    refine sx_iconst (pc := 306) (v := 1) dX12_middle_306 (by decide) ?_
    obtain ⟨⟨x118, V116⟩, g117, h⟩ := sx_bnd h
    refine sv_cV (pc := 307) (y := qX12_has) (o := (some (.int x118))) (as := [.int (1 : Int32)]) (V1 := V116) hG dX12_middle_307 l_X12_576 y0X12_has yvX12_has rfl (Nat.le_of_ble_eq_true rfl) lay_146 kr_12 (by decide) (Nat.le_of_ble_eq_true rfl) rfl rfl rfl (t_X12_has hG ⟨rfl, rfl⟩ g117) ?_
    refine sx_if_eq (pc := 310) (tgt := 350) dX12_middle_310 (by decide) (fun c119 => ?_) (fun c119 => ?_)
    · have h := sx_pos c119 h
      exact sv_vret (pc := 350) dX12_middle_350 rfl h hP
    · have h := sx_neg c119 h
      refine sx_aload_n (pc := 313) dX12_middle_313 sx_m0 ?_
      obtain ⟨⟨x122, V120⟩, g121, h⟩ := sx_bnd h
      refine sv_cV (pc := 314) (y := qX12_pop) (o := (some (.int x122))) (as := []) (V1 := V120) hG dX12_middle_314 l_X12_579 y0X12_pop yvX12_pop rfl (Nat.le_of_ble_eq_true rfl) lay_146 kr_12 (by decide) (Nat.le_of_ble_eq_true rfl) rfl rfl rfl (t_X12_pop hG ⟨rfl, rfl⟩ g121) ?_
      refine sx_istore_n (pc := 317) (lo' := [(2, .int x122), (0, .ref 146), (1, .int l1)]) dX12_middle_317 (by decide) rfl ?_
      refine sx_iload_n (pc := 318) dX12_middle_318 sx_m0 ?_
      refine sx_if_lt (pc := 319) (tgt := 330) dX12_middle_319 (by decide) (fun c123 => ?_) (fun c123 => ?_)
      · have h := sx_pos c123 h
        refine sx_wk (sx_s1 sx_m1 sx_s0) ?_
        exact tB_X12_middle_330 hG hP  h
      · have h := sx_neg c123 h
        refine sx_iload_n (pc := 322) dX12_middle_322 sx_m0 ?_
        refine sx_aload_n (pc := 323) dX12_middle_323 sx_m1 ?_
        refine sv_getI (pc := 324) hG dX12_middle_324 f_12_319 lay_146 rfl ?_
        refine sx_icmp_lt (pc := 327) (tgt := 339) dX12_middle_327 (by decide) (fun c124 => ?_) (fun c124 => ?_)
        · have h := sx_pos c124 h
          refine sx_aload_n (pc := 339) dX12_middle_339 sx_m1 ?_
          refine sx_aload_n (pc := 340) dX12_middle_340 sx_m1 ?_
          refine sv_getA (pc := 341) hG dX12_middle_341 f_12_67 lay_146 rfl cr_146_45 ?_
          refine sx_iload_n (pc := 344) dX12_middle_344 sx_m0 ?_
          obtain ⟨g125, h⟩ := sx_grd h
          refine sv_iald (pc := 345) hG dX12_middle_345 lay_165 g125 ?_
          refine sx_i2l (pc := 346) dX12_middle_346 ?_
          obtain ⟨V126, g127, h⟩ := sx_bnd h
          refine sv_cV (pc := 347) (y := qX12_push) (o := none) (as := [.long ((V120.1 165 x122.toNatClampNeg).toInt64)]) (V1 := V126) hG dX12_middle_347 l_X12_564 y0X12_push yvX12_push rfl (Nat.le_of_ble_eq_true rfl) lay_146 kr_12 (by decide) (Nat.le_of_ble_eq_true rfl) rfl rfl rfl (t_X12_push hG ⟨rfl, rfl⟩ g127) ?_
          exact sv_vret (pc := 350) dX12_middle_350 rfl h hP
        · have h := sx_neg c124 h
          refine sx_wk (sx_s1 sx_m1 sx_s0) ?_
          exact tB_X12_middle_330 hG hP  h
  have h := sx_neg c115 h
  by_cases c128 : l1 = 68
  · have h := sx_pos c128 h
    refine sx_tabI (pc := 1) (off := 350) (tgt := 351) dX12_middle_1 (by rw [c128]; decide) (by rw [c128]; decide) (by rw [c128]; rfl) (by decide) ?_
    refine sx_aload_n (pc := 351) dX12_middle_351 sx_m0 ?_
    refine sx_iconst (pc := 352) (v := 0) dX12_middle_352 (by decide) ?_
    obtain ⟨V129, g130, h⟩ := sx_bnd h
    refine sv_cV (pc := 353) (y := qX12_setCvt) (o := none) (as := [.int (0 : Int32)]) (V1 := V129) hG dX12_middle_353 l_X12_674 y0X12_setCvt yvX12_setCvt rfl (Nat.le_of_ble_eq_true rfl) lay_146 kr_12 (by decide) (Nat.le_of_ble_eq_true rfl) rfl rfl rfl (t_X12_setCvt hG ⟨rfl, rfl⟩ g130) ?_
    exact sv_vret (pc := 356) dX12_middle_356 rfl h hP
  have h := sx_neg c128 h
  by_cases c131 : l1 = 69
  · have h := sx_pos c131 h
    refine sx_tabI (pc := 1) (off := 356) (tgt := 357) dX12_middle_1 (by rw [c131]; decide) (by rw [c131]; decide) (by rw [c131]; rfl) (by decide) ?_
    refine sx_aload_n (pc := 357) dX12_middle_357 sx_m0 ?_
    refine sx_iconst (pc := 358) (v := 1) dX12_middle_358 (by decide) ?_
    obtain ⟨⟨x134, V132⟩, g133, h⟩ := sx_bnd h
    refine sv_cV (pc := 359) (y := qX12_has) (o := (some (.int x134))) (as := [.int (1 : Int32)]) (V1 := V132) hG dX12_middle_359 l_X12_576 y0X12_has yvX12_has rfl (Nat.le_of_ble_eq_true rfl) lay_146 kr_12 (by decide) (Nat.le_of_ble_eq_true rfl) rfl rfl rfl (t_X12_has hG ⟨rfl, rfl⟩ g133) ?_
    refine sx_if_eq (pc := 362) (tgt := 387) dX12_middle_362 (by decide) (fun c135 => ?_) (fun c135 => ?_)
    · have h := sx_pos c135 h
      exact sv_vret (pc := 387) dX12_middle_387 rfl h hP
    · have h := sx_neg c135 h
      refine sx_aload_n (pc := 365) dX12_middle_365 sx_m0 ?_
      refine sx_aload_n (pc := 366) dX12_middle_366 sx_m0 ?_
      obtain ⟨⟨x138, V136⟩, g137, h⟩ := sx_bnd h
      refine sv_cV (pc := 367) (y := qX12_pop) (o := (some (.int x138))) (as := []) (V1 := V136) hG dX12_middle_367 l_X12_579 y0X12_pop yvX12_pop rfl (Nat.le_of_ble_eq_true rfl) lay_146 kr_12 (by decide) (Nat.le_of_ble_eq_true rfl) rfl rfl rfl (t_X12_pop hG ⟨rfl, rfl⟩ g137) ?_
      obtain ⟨⟨x141, V139⟩, g140, h⟩ := sx_bnd h
      refine sv_cV (pc := 370) (y := qX12_cvtOf) (o := (some (.int x141))) (as := [.int x138]) (V1 := V139) hG dX12_middle_370 l_X12_677 y0X12_cvtOf yvX12_cvtOf rfl (Nat.le_of_ble_eq_true rfl) lay_146 kr_12 (by decide) (Nat.le_of_ble_eq_true rfl) rfl rfl rfl (t_X12_cvtOf hG ⟨rfl, rfl⟩ g140) ?_
      refine sx_istore_n (pc := 373) (lo' := [(2, .int x141), (0, .ref 146), (1, .int l1)]) dX12_middle_373 (by decide) rfl ?_
      refine sx_aload_n (pc := 374) dX12_middle_374 sx_m1 ?_
      refine sv_getI (pc := 375) hG dX12_middle_375 f_12_409 lay_146 rfl ?_
      refine sx_if_ne (pc := 378) (tgt := 387) dX12_middle_378 (by decide) (fun c142 => ?_) (fun c142 => ?_)
      · have h := sx_neg c142 h
        exact sv_vret (pc := 387) dX12_middle_387 rfl h hP
      · have h := sx_pos c142 h
        refine sx_aload_n (pc := 381) dX12_middle_381 sx_m1 ?_
        refine sx_iload_n (pc := 382) dX12_middle_382 sx_m0 ?_
        refine sx_i2l (pc := 383) dX12_middle_383 ?_
        obtain ⟨V143, g144, h⟩ := sx_bnd h
        refine sv_cV (pc := 384) (y := qX12_push) (o := none) (as := [.long x141.toInt64]) (V1 := V143) hG dX12_middle_384 l_X12_564 y0X12_push yvX12_push rfl (Nat.le_of_ble_eq_true rfl) lay_146 kr_12 (by decide) (Nat.le_of_ble_eq_true rfl) rfl rfl rfl (t_X12_push hG ⟨rfl, rfl⟩ g144) ?_
        exact sv_vret (pc := 387) dX12_middle_387 rfl h hP
  have h := sx_neg c131 h
  by_cases c145 : l1 = 70
  · have h := sx_pos c145 h
    refine sx_tabI (pc := 1) (off := 387) (tgt := 388) dX12_middle_1 (by rw [c145]; decide) (by rw [c145]; decide) (by rw [c145]; rfl) (by decide) ?_
    refine sx_wk (sx_s1 sx_m0 (sx_s1 sx_m1 sx_s0)) ?_
    exact tB_X12_middle_388 hG hP  h
  have h := sx_neg c145 h
  by_cases c146 : l1 = 71
  · have h := sx_pos c146 h
    refine sx_tabI (pc := 1) (off := 387) (tgt := 388) dX12_middle_1 (by rw [c146]; decide) (by rw [c146]; decide) (by rw [c146]; rfl) (by decide) ?_
    refine sx_wk (sx_s1 sx_m0 (sx_s1 sx_m1 sx_s0)) ?_
    exact tB_X12_middle_388 hG hP  h
  have h := sx_neg c146 h
  by_cases c147 : l1 = 72
  · have h := sx_pos c147 h
    refine sx_tabI (pc := 1) (off := 459) (tgt := 460) dX12_middle_1 (by rw [c147]; decide) (by rw [c147]; decide) (by rw [c147]; rfl) (by decide) ?_
    refine sx_aload_n (pc := 460) dX12_middle_460 sx_m0 ?_
    refine sx_iconst (pc := 461) (v := 2) dX12_middle_461 (by decide) ?_
    obtain ⟨⟨x150, V148⟩, g149, h⟩ := sx_bnd h
    refine sv_cV (pc := 462) (y := qX12_has) (o := (some (.int x150))) (as := [.int (2 : Int32)]) (V1 := V148) hG dX12_middle_462 l_X12_576 y0X12_has yvX12_has rfl (Nat.le_of_ble_eq_true rfl) lay_146 kr_12 (by decide) (Nat.le_of_ble_eq_true rfl) rfl rfl rfl (t_X12_has hG ⟨rfl, rfl⟩ g149) ?_
    refine sx_if_eq (pc := 465) (tgt := 538) dX12_middle_465 (by decide) (fun c151 => ?_) (fun c151 => ?_)
    · have h := sx_pos c151 h
      exact sv_vret (pc := 538) dX12_middle_538 rfl h hP
    · have h := sx_neg c151 h
      refine sx_aload_n (pc := 468) dX12_middle_468 sx_m0 ?_
      obtain ⟨⟨x154, V152⟩, g153, h⟩ := sx_bnd h
      refine sv_cV (pc := 469) (y := qX12_pop) (o := (some (.int x154))) (as := []) (V1 := V152) hG dX12_middle_469 l_X12_579 y0X12_pop yvX12_pop rfl (Nat.le_of_ble_eq_true rfl) lay_146 kr_12 (by decide) (Nat.le_of_ble_eq_true rfl) rfl rfl rfl (t_X12_pop hG ⟨rfl, rfl⟩ g153) ?_
      refine sx_istore_n (pc := 472) (lo' := [(2, .int x154), (0, .ref 146), (1, .int l1)]) dX12_middle_472 (by decide) rfl ?_
      refine sx_aload_n (pc := 473) dX12_middle_473 sx_m1 ?_
      refine sx_aload_n (pc := 474) dX12_middle_474 sx_m1 ?_
      refine sv_getI (pc := 475) hG dX12_middle_475 f_12_466 lay_146 rfl ?_
      refine sx_aload_n (pc := 478) dX12_middle_478 sx_m1 ?_
      obtain ⟨⟨x157, V155⟩, g156, h⟩ := sx_bnd h
      refine sv_cV (pc := 479) (y := qX12_pop) (o := (some (.int x157))) (as := []) (V1 := V155) hG dX12_middle_479 l_X12_579 y0X12_pop yvX12_pop rfl (Nat.le_of_ble_eq_true rfl) lay_146 kr_12 (by decide) (Nat.le_of_ble_eq_true rfl) rfl rfl rfl (t_X12_pop hG ⟨rfl, rfl⟩ g156) ?_
      obtain ⟨⟨x160, V158⟩, g159, h⟩ := sx_bnd h
      refine sv_cV (pc := 482) (y := qX12_pointOf) (o := (some (.int x160))) (as := [.int (V152.1 146 74), .int x157]) (V1 := V158) hG dX12_middle_482 l_X12_582 y0X12_pointOf yvX12_pointOf rfl (Nat.le_of_ble_eq_true rfl) lay_146 kr_12 (by decide) (Nat.le_of_ble_eq_true rfl) rfl rfl rfl (t_X12_pointOf hG ⟨rfl, rfl⟩ g159) ?_
      refine sx_istore_n (pc := 485) (lo' := [(3, .int x160), (2, .int x154), (0, .ref 146), (1, .int l1)]) dX12_middle_485 (by decide) rfl ?_
      refine sx_aload_n (pc := 486) dX12_middle_486 sx_m2 ?_
      refine sv_getI (pc := 487) hG dX12_middle_487 f_12_409 lay_146 rfl ?_
      refine sx_if_ne (pc := 490) (tgt := 538) dX12_middle_490 (by decide) (fun c161 => ?_) (fun c161 => ?_)
      · have h := sx_neg c161 h
        exact sv_vret (pc := 538) dX12_middle_538 rfl h hP
      · have h := sx_pos c161 h
        refine sx_aload_n (pc := 493) dX12_middle_493 sx_m2 ?_
        refine sx_iload_n (pc := 494) dX12_middle_494 sx_m0 ?_
        refine sx_iload_n (pc := 495) dX12_middle_495 sx_m1 ?_
        refine sx_i2l (pc := 496) dX12_middle_496 ?_
        refine sx_aload_n (pc := 497) dX12_middle_497 sx_m2 ?_
        refine sx_iload_n (pc := 498) dX12_middle_498 sx_m0 ?_
        obtain ⟨⟨x164, V162⟩, g163, h⟩ := sx_bnd h
        refine sv_cV (pc := 499) (y := qX12_longOf) (o := (some (.int x164))) (as := [.int x160]) (V1 := V162) hG dX12_middle_499 l_X12_644 y0X12_longOf yvX12_longOf rfl (Nat.le_of_ble_eq_true rfl) lay_146 kr_12 (by decide) (Nat.le_of_ble_eq_true rfl) rfl rfl rfl (t_X12_longOf hG ⟨rfl, rfl⟩ g163) ?_
        refine sx_i2l (pc := 502) dX12_middle_502 ?_
        refine sx_lsub (pc := 503) dX12_middle_503 ?_
        obtain ⟨V165, g166, h⟩ := sx_bnd h
        refine sv_cV (pc := 504) (y := qX12_move) (o := none) (as := [.int x160, .long (x154.toInt64 - x164.toInt64)]) (V1 := V165) hG dX12_middle_504 l_X12_630 y0X12_move yvX12_move rfl (Nat.le_of_ble_eq_true rfl) lay_146 kr_12 (by decide) (Nat.le_of_ble_eq_true rfl) rfl rfl rfl (t_X12_move hG ⟨rfl, rfl⟩ g166) ?_
        refine sx_aload_n (pc := 507) dX12_middle_507 sx_m2 ?_
        refine sv_getI (pc := 508) hG dX12_middle_508 f_12_466 lay_146 rfl ?_
        refine sx_if_ne (pc := 511) (tgt := 538) dX12_middle_511 (by decide) (fun c167 => ?_) (fun c167 => ?_)
        · have h := sx_neg c167 h
          exact sv_vret (pc := 538) dX12_middle_538 rfl h hP
        · have h := sx_pos c167 h
          refine sx_aload_n (pc := 514) dX12_middle_514 sx_m2 ?_
          refine sv_getA (pc := 515) hG dX12_middle_515 f_12_70 lay_146 rfl cr_146_46 ?_
          refine sx_iload_n (pc := 518) dX12_middle_518 sx_m0 ?_
          refine sx_aload_n (pc := 519) dX12_middle_519 sx_m2 ?_
          refine sv_getA (pc := 520) hG dX12_middle_520 f_12_76 lay_146 rfl cr_146_48 ?_
          refine sx_iload_n (pc := 523) dX12_middle_523 sx_m0 ?_
          obtain ⟨g168, h⟩ := sx_grd h
          refine sv_iald (pc := 524) hG dX12_middle_524 lay_168 g168 ?_
          obtain ⟨g169, h⟩ := sx_grd h
          obtain ⟨V170, hV170⟩ : ∃ z : sv_V, z = sv_I V165 166 x160.toNatClampNeg (V165.1 168 x160.toNatClampNeg) := ⟨_, rfl⟩
          have h := sx_letE hV170 h
          refine sv_iast (pc := 525) hG dX12_middle_525 lay_166 g169 hV170 ?_
          refine sx_aload_n (pc := 526) dX12_middle_526 sx_m2 ?_
          refine sv_getA (pc := 527) hG dX12_middle_527 f_12_73 lay_146 rfl cr_146_47 ?_
          refine sx_iload_n (pc := 530) dX12_middle_530 sx_m0 ?_
          refine sx_aload_n (pc := 531) dX12_middle_531 sx_m2 ?_
          refine sv_getA (pc := 532) hG dX12_middle_532 f_12_79 lay_146 rfl cr_146_49 ?_
          refine sx_iload_n (pc := 535) dX12_middle_535 sx_m0 ?_
          obtain ⟨g171, h⟩ := sx_grd h
          refine sv_iald (pc := 536) hG dX12_middle_536 lay_169 g171 ?_
          obtain ⟨g172, h⟩ := sx_grd h
          obtain ⟨V173, hV173⟩ : ∃ z : sv_V, z = sv_I V170 167 x160.toNatClampNeg (V170.1 169 x160.toNatClampNeg) := ⟨_, rfl⟩
          have h := sx_letE hV173 h
          refine sv_iast (pc := 537) hG dX12_middle_537 lay_167 g172 hV173 ?_
          exact sv_vret (pc := 538) dX12_middle_538 rfl h hP
  have h := sx_neg c147 h
  by_cases c174 : l1 = 73
  · have h := sx_pos c174 h
    refine sx_tabI (pc := 1) (off := 538) (tgt := 539) dX12_middle_1 (by rw [c174]; decide) (by rw [c174]; decide) (by rw [c174]; rfl) (by decide) ?_
    refine sx_wk (sx_s1 sx_m0 (sx_s1 sx_m1 sx_s0)) ?_
    exact tB_X12_middle_539 hG hP  h
  have h := sx_neg c174 h
  by_cases c175 : l1 = 74
  · have h := sx_pos c175 h
    refine sx_tabI (pc := 1) (off := 538) (tgt := 539) dX12_middle_1 (by rw [c175]; decide) (by rw [c175]; decide) (by rw [c175]; rfl) (by decide) ?_
    refine sx_wk (sx_s1 sx_m0 (sx_s1 sx_m1 sx_s0)) ?_
    exact tB_X12_middle_539 hG hP  h
  have h := sx_neg c175 h
  by_cases c176 : l1 = 75
  · have h := sx_pos c176 h
    refine sx_tabI (pc := 1) (off := 607) (tgt := 608) dX12_middle_1 (by rw [c176]; decide) (by rw [c176]; decide) (by rw [c176]; rfl) (by decide) ?_
    refine sx_wk (sx_s1 sx_m0 sx_s0) ?_
    exact tB_X12_middle_608 hG hP  h
  have h := sx_neg c176 h
  by_cases c177 : l1 = 76
  · have h := sx_pos c177 h
    refine sx_tabI (pc := 1) (off := 607) (tgt := 608) dX12_middle_1 (by rw [c177]; decide) (by rw [c177]; decide) (by rw [c177]; rfl) (by decide) ?_
    refine sx_wk (sx_s1 sx_m0 sx_s0) ?_
    exact tB_X12_middle_608 hG hP  h
  have h := sx_neg c177 h
  by_cases c178 : l1 = 77
  · have h := sx_pos c178 h
    refine sx_tabI (pc := 1) (off := 617) (tgt := 618) dX12_middle_1 (by rw [c178]; decide) (by rw [c178]; decide) (by rw [c178]; rfl) (by decide) ?_
    refine sx_wk (sx_s1 sx_m0 (sx_s1 sx_m1 sx_s0)) ?_
    exact tB_X12_middle_618 hG hP  h
  have h := sx_neg c178 h
  by_cases c179 : l1 = 78
  · have h := sx_pos c179 h
    refine sx_tabI (pc := 1) (off := 617) (tgt := 618) dX12_middle_1 (by rw [c179]; decide) (by rw [c179]; decide) (by rw [c179]; rfl) (by decide) ?_
    refine sx_wk (sx_s1 sx_m0 (sx_s1 sx_m1 sx_s0)) ?_
    exact tB_X12_middle_618 hG hP  h
  have h := sx_neg c179 h
  refine sx_tabO (pc := 1) (tgt := 634) dX12_middle_1 (by have ec76 := lv_neT (a := 48) c76 rfl; have ec79 := lv_neT (a := 49) c79 rfl; have ec82 := lv_neT (a := 50) c82 rfl; have ec83 := lv_neT (a := 51) c83 rfl; have ec84 := lv_neT (a := 52) c84 rfl; have ec85 := lv_neT (a := 53) c85 rfl; have ec86 := lv_neT (a := 54) c86 rfl; have ec87 := lv_neT (a := 55) c87 rfl; have ec88 := lv_neT (a := 56) c88 rfl; have ec89 := lv_neT (a := 57) c89 rfl; have ec90 := lv_neT (a := 58) c90 rfl; have ec91 := lv_neT (a := 59) c91 rfl; have ec92 := lv_neT (a := 60) c92 rfl; have ec93 := lv_neT (a := 61) c93 rfl; have ec96 := lv_neT (a := 62) c96 rfl; have ec97 := lv_neT (a := 63) c97 rfl; have ec98 := lv_neT (a := 64) c98 rfl; have ec99 := lv_neT (a := 65) c99 rfl; have ec100 := lv_neT (a := 66) c100 rfl; have ec115 := lv_neT (a := 67) c115 rfl; have ec128 := lv_neT (a := 68) c128 rfl; have ec131 := lv_neT (a := 69) c131 rfl; have ec145 := lv_neT (a := 70) c145 rfl; have ec146 := lv_neT (a := 71) c146 rfl; have ec147 := lv_neT (a := 72) c147 rfl; have ec174 := lv_neT (a := 73) c174 rfl; have ec175 := lv_neT (a := 74) c175 rfl; have ec176 := lv_neT (a := 75) c176 rfl; have ec177 := lv_neT (a := 76) c177 rfl; have ec178 := lv_neT (a := 77) c178 rfl; have ec179 := lv_neT (a := 78) c179 rfl; omega) (by decide) ?_
  refine sx_aload_n (pc := 634) dX12_middle_634 sx_m0 ?_
  refine sx_iload_n (pc := 635) dX12_middle_635 sx_m1 ?_
  obtain ⟨V180, g181, h⟩ := sx_bnd h
  refine sv_cV (pc := 636) (y := qX12_tests) (o := none) (as := [.int l1]) (V1 := V180) hG dX12_middle_636 l_X12_687 y0X12_tests yvX12_tests rfl (Nat.le_of_ble_eq_true rfl) lay_146 kr_12 (by decide) (Nat.le_of_ble_eq_true rfl) rfl rfl rfl (t_X12_tests hG ⟨rfl, rfl⟩ g181) ?_
  exact sv_vret (pc := 639) dX12_middle_639 rfl h hP
theorem dX12_load_0 : decode cX12_load 0 = .ok (.aload_n 0, 1) := by decide +kernel
theorem dX12_load_1 : decode cX12_load 1 = .ok (.aload_n 0, 1) := by decide +kernel
theorem dX12_load_2 : decode cX12_load 2 = .ok (.getfield 910, 3) := by decide +kernel
theorem dX12_load_5 : decode cX12_load 5 = .ok (.putfield 206, 3) := by decide +kernel
theorem dX12_load_8 : decode cX12_load 8 = .ok (.iconst 0, 1) := by decide +kernel
theorem dX12_load_9 : decode cX12_load 9 = .ok (.istore_n 1, 1) := by decide +kernel
theorem dX12_load_10 : decode cX12_load 10 = .ok (.iload_n 1, 1) := by decide +kernel
theorem dX12_load_11 : decode cX12_load 11 = .ok (.aload_n 0, 1) := by decide +kernel
theorem dX12_load_12 : decode cX12_load 12 = .ok (.getfield 206, 3) := by decide +kernel
theorem dX12_load_15 : decode cX12_load 15 = .ok (.if_icmp .ge 21, 3) := by decide +kernel
theorem dX12_load_18 : decode cX12_load 18 = .ok (.aload_n 0, 1) := by decide +kernel
theorem dX12_load_19 : decode cX12_load 19 = .ok (.getfield 13, 3) := by decide +kernel
theorem dX12_load_22 : decode cX12_load 22 = .ok (.iload_n 1, 1) := by decide +kernel
theorem dX12_load_23 : decode cX12_load 23 = .ok (.aload_n 0, 1) := by decide +kernel
theorem dX12_load_24 : decode cX12_load 24 = .ok (.getfield 7, 3) := by decide +kernel
theorem dX12_load_27 : decode cX12_load 27 = .ok (.iload_n 1, 1) := by decide +kernel
theorem dX12_load_28 : decode cX12_load 28 = .ok (.baload, 1) := by decide +kernel
theorem dX12_load_29 : decode cX12_load 29 = .ok (.bastore, 1) := by decide +kernel
theorem dX12_load_30 : decode cX12_load 30 = .ok (.iinc 1 1, 3) := by decide +kernel
theorem dX12_load_33 : decode cX12_load 33 = .ok (.goto (-23), 3) := by decide +kernel
theorem dX12_load_36 : decode cX12_load 36 = .ok (.aload_n 0, 1) := by decide +kernel
theorem dX12_load_37 : decode cX12_load 37 = .ok (.iconst 0, 1) := by decide +kernel
theorem dX12_load_38 : decode cX12_load 38 = .ok (.putfield 767, 3) := by decide +kernel
theorem dX12_load_41 : decode cX12_load 41 = .ok (.aload_n 0, 1) := by decide +kernel
theorem dX12_load_42 : decode cX12_load 42 = .ok (.iconst 0, 1) := by decide +kernel
theorem dX12_load_43 : decode cX12_load 43 = .ok (.putfield 764, 3) := by decide +kernel
theorem dX12_load_46 : decode cX12_load 46 = .ok (.aload_n 0, 1) := by decide +kernel
theorem dX12_load_47 : decode cX12_load 47 = .ok (.iconst 0, 1) := by decide +kernel
theorem dX12_load_48 : decode cX12_load 48 = .ok (.putfield 759, 3) := by decide +kernel
theorem dX12_load_51 : decode cX12_load 51 = .ok (.aload_n 0, 1) := by decide +kernel
theorem dX12_load_52 : decode cX12_load 52 = .ok (.iconst 0, 1) := by decide +kernel
theorem dX12_load_53 : decode cX12_load 53 = .ok (.putfield 621, 3) := by decide +kernel
theorem dX12_load_56 : decode cX12_load 56 = .ok (.aload_n 0, 1) := by decide +kernel
theorem dX12_load_57 : decode cX12_load 57 = .ok (.iconst 0, 1) := by decide +kernel
theorem dX12_load_58 : decode cX12_load 58 = .ok (.putfield 424, 3) := by decide +kernel
theorem dX12_load_61 : decode cX12_load 61 = .ok (.aload_n 0, 1) := by decide +kernel
theorem dX12_load_62 : decode cX12_load 62 = .ok (.iconst 0, 1) := by decide +kernel
theorem dX12_load_63 : decode cX12_load 63 = .ok (.putfield 216, 3) := by decide +kernel
theorem dX12_load_66 : decode cX12_load 66 = .ok (.aload_n 0, 1) := by decide +kernel
theorem dX12_load_67 : decode cX12_load 67 = .ok (.invokevirtual 913, 3) := by decide +kernel
theorem dX12_load_70 : decode cX12_load 70 = .ok (.istore_n 1, 1) := by decide +kernel
theorem dX12_load_71 : decode cX12_load 71 = .ok (.iload_n 1, 1) := by decide +kernel
theorem dX12_load_72 : decode cX12_load 72 = .ok (.ifCond .le 8, 3) := by decide +kernel
theorem dX12_load_75 : decode cX12_load 75 = .ok (.bipush (-100), 2) := by decide +kernel
theorem dX12_load_77 : decode cX12_load 77 = .ok (.iload_n 1, 1) := by decide +kernel
theorem dX12_load_78 : decode cX12_load 78 = .ok (.isub, 1) := by decide +kernel
theorem dX12_load_79 : decode cX12_load 79 = .ok (.ireturn, 1) := by decide +kernel
theorem dX12_load_80 : decode cX12_load 80 = .ok (.aload_n 0, 1) := by decide +kernel
theorem dX12_load_81 : decode cX12_load 81 = .ok (.iconst 1, 1) := by decide +kernel
theorem dX12_load_82 : decode cX12_load 82 = .ok (.putfield 759, 3) := by decide +kernel
theorem dX12_load_85 : decode cX12_load 85 = .ok (.aload_n 0, 1) := by decide +kernel
theorem dX12_load_86 : decode cX12_load 86 = .ok (.getfield 260, 3) := by decide +kernel
theorem dX12_load_89 : decode cX12_load 89 = .ok (.ireturn, 1) := by decide +kernel
def B_X12_load_10 (N : Nat) (k10 : Int32 → sv_V → Option (Int32 × sv_V)) (l1 : Int32) (V : sv_V) : Option (Int32 × sv_V) := if (V.1 146 3) ≤ l1 then (sx_let (sv_I V 146 107 (0 : Int32)) (fun V2 => sx_let (sv_I V2 146 108 (0 : Int32)) (fun V3 => sx_let (sv_I V3 146 4 (0 : Int32)) (fun V4 => sx_let (sv_I V4 146 62 (0 : Int32)) (fun V5 => sx_let (sv_I V5 146 57 (0 : Int32)) (fun V6 => sx_let (sv_I V6 146 5 (0 : Int32)) (fun V7 => (F_X12_check N  V7).bind (fun (x10, V8) => if x10 ≤ 0 then (sx_let (sv_I V8 146 4 (1 : Int32)) (fun V12 => some (V12.1 146 12, V12))) else (some ((-100 : Int32) - x10, V8)))))))))) else (if sx_in l1 12000 = true then if sx_in l1 12000 = true then sx_let (sv_I V 148 l1.toNatClampNeg (V.1 147 l1.toNatClampNeg).toInt8.toInt32) (fun V15 => sx_let (l1 + 1) (fun x16 => k10 x16 V15)) else none else none)
set_option maxRecDepth 20000 in
theorem tB_X12_load_10 {g : sx_G} (hG : sx_Go g) {P : Option Value → sv_V → Prop} {r : Int32} {Vr : sv_V} (hP : P (some (.int r)) Vr) {N : Nat} {k10 : Int32 → sv_V → Option (Int32 × sv_V)} (hk10 : ∀ (l1 : Int32) (V : sv_V), k10 l1 V = some (r, Vr) → sv_N g qX12_load 9 10 [(0, .ref 146), (1, .int l1)] [] V P) {l1 : Int32} {V : sv_V} (h : B_X12_load_10 N k10 l1 V = some (r, Vr)) : sv_N g qX12_load 9 10 [(0, .ref 146), (1, .int l1)] [] V P := by
  unfold B_X12_load_10 at h
  refine sx_iload_n (pc := 10) dX12_load_10 sx_m1 ?_
  refine sx_aload_n (pc := 11) dX12_load_11 sx_m0 ?_
  refine sv_getI (pc := 12) hG dX12_load_12 f_12_206 lay_146 rfl ?_
  refine sx_icmp_ge (pc := 15) (tgt := 36) dX12_load_15 (by decide) (fun c1 => ?_) (fun c1 => ?_)
  · have h := sx_pos c1 h
    refine sx_aload_n (pc := 36) dX12_load_36 sx_m0 ?_
    refine sx_iconst (pc := 37) (v := 0) dX12_load_37 (by decide) ?_
    obtain ⟨V2, hV2⟩ : ∃ z : sv_V, z = sv_I V 146 107 (0 : Int32) := ⟨_, rfl⟩
    have h := sx_letE hV2 h
    refine sv_putZ (pc := 38) hG dX12_load_38 f_12_767 lay_146 rfl rfl hV2 ?_
    refine sx_aload_n (pc := 41) dX12_load_41 sx_m0 ?_
    refine sx_iconst (pc := 42) (v := 0) dX12_load_42 (by decide) ?_
    obtain ⟨V3, hV3⟩ : ∃ z : sv_V, z = sv_I V2 146 108 (0 : Int32) := ⟨_, rfl⟩
    have h := sx_letE hV3 h
    refine sv_putZ (pc := 43) hG dX12_load_43 f_12_764 lay_146 rfl rfl hV3 ?_
    refine sx_aload_n (pc := 46) dX12_load_46 sx_m0 ?_
    refine sx_iconst (pc := 47) (v := 0) dX12_load_47 (by decide) ?_
    obtain ⟨V4, hV4⟩ : ∃ z : sv_V, z = sv_I V3 146 4 (0 : Int32) := ⟨_, rfl⟩
    have h := sx_letE hV4 h
    refine sv_putZ (pc := 48) hG dX12_load_48 f_12_759 lay_146 rfl rfl hV4 ?_
    refine sx_aload_n (pc := 51) dX12_load_51 sx_m0 ?_
    refine sx_iconst (pc := 52) (v := 0) dX12_load_52 (by decide) ?_
    obtain ⟨V5, hV5⟩ : ∃ z : sv_V, z = sv_I V4 146 62 (0 : Int32) := ⟨_, rfl⟩
    have h := sx_letE hV5 h
    refine sv_putI (pc := 53) hG dX12_load_53 f_12_621 lay_146 rfl hV5 ?_
    refine sx_aload_n (pc := 56) dX12_load_56 sx_m0 ?_
    refine sx_iconst (pc := 57) (v := 0) dX12_load_57 (by decide) ?_
    obtain ⟨V6, hV6⟩ : ∃ z : sv_V, z = sv_I V5 146 57 (0 : Int32) := ⟨_, rfl⟩
    have h := sx_letE hV6 h
    refine sv_putI (pc := 58) hG dX12_load_58 f_12_424 lay_146 rfl hV6 ?_
    refine sx_aload_n (pc := 61) dX12_load_61 sx_m0 ?_
    refine sx_iconst (pc := 62) (v := 0) dX12_load_62 (by decide) ?_
    obtain ⟨V7, hV7⟩ : ∃ z : sv_V, z = sv_I V6 146 5 (0 : Int32) := ⟨_, rfl⟩
    have h := sx_letE hV7 h
    refine sv_putI (pc := 63) hG dX12_load_63 f_12_216 lay_146 rfl hV7 ?_
    refine sx_aload_n (pc := 66) dX12_load_66 sx_m0 ?_
    obtain ⟨⟨x10, V8⟩, g9, h⟩ := sx_bnd h
    refine sv_cV (pc := 67) (y := qX12_check) (o := (some (.int x10))) (as := []) (V1 := V8) hG dX12_load_67 l_X12_913 y0X12_check yvX12_check rfl (Nat.le_of_ble_eq_true rfl) lay_146 kr_12 (by decide) (Nat.le_of_ble_eq_true rfl) rfl rfl rfl (t_X12_check hG ⟨rfl, rfl⟩ g9) ?_
    refine sx_istore_n (pc := 70) (lo' := [(1, .int x10), (0, .ref 146)]) dX12_load_70 (by decide) rfl ?_
    refine sx_iload_n (pc := 71) dX12_load_71 sx_m0 ?_
    refine sx_if_le (pc := 72) (tgt := 80) dX12_load_72 (by decide) (fun c11 => ?_) (fun c11 => ?_)
    · have h := sx_pos c11 h
      refine sx_aload_n (pc := 80) dX12_load_80 sx_m1 ?_
      refine sx_iconst (pc := 81) (v := 1) dX12_load_81 (by decide) ?_
      obtain ⟨V12, hV12⟩ : ∃ z : sv_V, z = sv_I V8 146 4 (1 : Int32) := ⟨_, rfl⟩
      have h := sx_letE hV12 h
      refine sv_putZ (pc := 82) hG dX12_load_82 f_12_759 lay_146 rfl rfl hV12 ?_
      refine sx_aload_n (pc := 85) dX12_load_85 sx_m1 ?_
      refine sv_getI (pc := 86) hG dX12_load_86 f_12_260 lay_146 rfl ?_
      exact sv_iret (pc := 89) dX12_load_89 rfl h hP
    · have h := sx_neg c11 h
      refine sx_bipush (pc := 75) (v := (-100)) dX12_load_75 (by decide) ?_
      refine sx_iload_n (pc := 77) dX12_load_77 sx_m0 ?_
      refine sx_isub (pc := 78) dX12_load_78 ?_
      exact sv_iret (pc := 79) dX12_load_79 rfl h hP
  · have h := sx_neg c1 h
    refine sx_aload_n (pc := 18) dX12_load_18 sx_m0 ?_
    refine sv_getA (pc := 19) hG dX12_load_19 f_12_13 lay_146 rfl cr_146_2 ?_
    refine sx_iload_n (pc := 22) dX12_load_22 sx_m1 ?_
    refine sx_aload_n (pc := 23) dX12_load_23 sx_m0 ?_
    refine sv_getA (pc := 24) hG dX12_load_24 f_12_7 lay_146 rfl cr_146_0 ?_
    refine sx_iload_n (pc := 27) dX12_load_27 sx_m1 ?_
    obtain ⟨g13, h⟩ := sx_grd h
    refine sv_bald (pc := 28) hG dX12_load_28 lay_147 g13 ?_
    obtain ⟨g14, h⟩ := sx_grd h
    obtain ⟨V15, hV15⟩ : ∃ z : sv_V, z = sv_I V 148 l1.toNatClampNeg (V.1 147 l1.toNatClampNeg).toInt8.toInt32 := ⟨_, rfl⟩
    have h := sx_letE hV15 h
    refine sv_bast (pc := 29) hG dX12_load_29 lay_148 g14 hV15 ?_
    obtain ⟨x16, hx16⟩ : ∃ z : Int32, z = l1 + 1 := ⟨_, rfl⟩
    have h := sx_letE hx16 h
    refine sx_iinc (pc := 30) (v := x16) (lo' := [(1, .int x16), (0, .ref 146)]) dX12_load_30 sx_m1 (by rw [hx16]; rfl) (by decide) rfl ?_
    refine sx_goto (pc := 33) (tgt := 10) dX12_load_33 (by decide) ?_
    refine sx_wk (sx_s1 sx_m1 (sx_s1 sx_m0 sx_s0)) ?_
    exact hk10 _ _ h
theorem tL_X12_load_10 {g : sx_G} (hG : sx_Go g) {P : Option Value → sv_V → Prop} {r : Int32} {Vr : sv_V} (hP : P (some (.int r)) Vr) {N : Nat}   : ∀ (n : Nat) (l1 : Int32) (V : sv_V), sx_lp2 (B_X12_load_10 N ) n l1 V = some (r, Vr) → sv_N g qX12_load 9 10 [(0, .ref 146), (1, .int l1)] [] V P :=
  sx_lp2_ind (fun k0 ih _ V h => tB_X12_load_10 hG hP ih h)
def F_X12_load (N : Nat)  (V : sv_V) : Option (Int32 × sv_V) := sx_let (sv_I V 146 3 (V.1 146 1)) (fun V17 => sx_lp2 (B_X12_load_10 N ) N (0 : Int32) V17)
set_option maxRecDepth 20000 in
theorem t_X12_load {g : sx_G} (hG : sx_Go g) {P : Option Value → sv_V → Prop} {r : Int32} {Vr : sv_V} (hP : P (some (.int r)) Vr) {N : Nat}  {V : sv_V} (h : F_X12_load N  V = some (r, Vr)) : sv_N g qX12_load 9 0 [(0, .ref 146)] [] V P := by
  unfold F_X12_load at h
  refine sx_aload_n (pc := 0) dX12_load_0 sx_m0 ?_
  refine sx_aload_n (pc := 1) dX12_load_1 sx_m0 ?_
  refine sv_getI (pc := 2) hG dX12_load_2 f_12_910 lay_146 rfl ?_
  obtain ⟨V17, hV17⟩ : ∃ z : sv_V, z = sv_I V 146 3 (V.1 146 1) := ⟨_, rfl⟩
  have h := sx_letE hV17 h
  refine sv_putI (pc := 5) hG dX12_load_5 f_12_206 lay_146 rfl hV17 ?_
  refine sx_iconst (pc := 8) (v := 0) dX12_load_8 (by decide) ?_
  refine sx_istore_n (pc := 9) (lo' := [(1, .int (0 : Int32)), (0, .ref 146)]) dX12_load_9 (by decide) rfl ?_
  refine sx_wk (sx_s1 sx_m1 (sx_s1 sx_m0 sx_s0)) ?_
  exact tL_X12_load_10 hG hP  N _ _ h
theorem dX5_runForSize_0 : decode cX5_runForSize 0 = .ok (.aload_n 0, 1) := by decide +kernel
theorem dX5_runForSize_1 : decode cX5_runForSize 1 = .ok (.iload_n 1, 1) := by decide +kernel
theorem dX5_runForSize_2 : decode cX5_runForSize 2 = .ok (.iload_n 2, 1) := by decide +kernel
theorem dX5_runForSize_3 : decode cX5_runForSize 3 = .ok (.aload_n 3, 1) := by decide +kernel
theorem dX5_runForSize_4 : decode cX5_runForSize 4 = .ok (.aload_n 0, 1) := by decide +kernel
theorem dX5_runForSize_5 : decode cX5_runForSize 5 = .ok (.getfield 30, 3) := by decide +kernel
theorem dX5_runForSize_8 : decode cX5_runForSize 8 = .ok (.invokevirtual 79, 3) := by decide +kernel
theorem dX5_runForSize_11 : decode cX5_runForSize 11 = .ok (.return_, 1) := by decide +kernel
def F_X5_runForSize (N : Nat) (l1 : Int32) (l2 : Int32) (l3 : Nat) (V : sv_V) : Option sv_V := (F_X5_run N l1 l2 l3 82 V).bind (fun V1 => some V1)
set_option maxRecDepth 20000 in
theorem t_X5_runForSize {g : sx_G} (hG : sx_Go g) {P : Option Value → sv_V → Prop} {Vr : sv_V} (hP : P none Vr) {N : Nat} {l1 : Int32} {l2 : Int32} {l3 : Nat} {V : sv_V} (h : F_X5_runForSize N l1 l2 l3 V = some Vr) : sv_N g qX5_runForSize 5 0 [(0, .ref 69), (1, .int l1), (2, .int l2), (3, .ref l3)] [] V P := by
  unfold F_X5_runForSize at h
  refine sx_aload_n (pc := 0) dX5_runForSize_0 sx_m0 ?_
  refine sx_iload_n (pc := 1) dX5_runForSize_1 sx_m1 ?_
  refine sx_iload_n (pc := 2) dX5_runForSize_2 sx_m2 ?_
  refine sx_aload_n (pc := 3) dX5_runForSize_3 sx_m3 ?_
  refine sx_aload_n (pc := 4) dX5_runForSize_4 sx_m0 ?_
  refine sv_getO (pc := 5) hG dX5_runForSize_5 f_5_30 lay_69 rfl cr_69_3 ?_
  obtain ⟨V1, g2, h⟩ := sx_bnd h
  refine sv_cV (pc := 8) (y := qX5_run) (o := none) (as := [.int l1, .int l2, .ref l3, .ref 82]) (V1 := V1) hG dX5_runForSize_8 l_X5_79 y0X5_run yvX5_run rfl (Nat.le_of_ble_eq_true rfl) lay_69 kr_5 (by decide) (Nat.le_of_ble_eq_true rfl) rfl rfl rfl (t_X5_run hG ⟨rfl, rfl⟩ g2) ?_
  exact sv_vret (pc := 11) dX5_runForSize_11 rfl h hP
theorem dX6_setSize_0 : decode cX6_setSize 0 = .ok (.aload_n 0, 1) := by decide +kernel
theorem dX6_setSize_1 : decode cX6_setSize 1 = .ok (.iconst 0, 1) := by decide +kernel
theorem dX6_setSize_2 : decode cX6_setSize 2 = .ok (.putfield 58, 3) := by decide +kernel
theorem dX6_setSize_5 : decode cX6_setSize 5 = .ok (.aload_n 0, 1) := by decide +kernel
theorem dX6_setSize_6 : decode cX6_setSize 6 = .ok (.iconst 0, 1) := by decide +kernel
theorem dX6_setSize_7 : decode cX6_setSize 7 = .ok (.putfield 54, 3) := by decide +kernel
theorem dX6_setSize_10 : decode cX6_setSize 10 = .ok (.aload_n 0, 1) := by decide +kernel
theorem dX6_setSize_11 : decode cX6_setSize 11 = .ok (.getfield 12, 3) := by decide +kernel
theorem dX6_setSize_14 : decode cX6_setSize 14 = .ok (.aload_n 0, 1) := by decide +kernel
theorem dX6_setSize_15 : decode cX6_setSize 15 = .ok (.getfield 34, 3) := by decide +kernel
theorem dX6_setSize_18 : decode cX6_setSize 18 = .ok (.iload_n 1, 1) := by decide +kernel
theorem dX6_setSize_19 : decode cX6_setSize 19 = .ok (.invokevirtual 72, 3) := by decide +kernel
theorem dX6_setSize_22 : decode cX6_setSize 22 = .ok (.aload_n 0, 1) := by decide +kernel
theorem dX6_setSize_23 : decode cX6_setSize 23 = .ok (.getfield 47, 3) := by decide +kernel
theorem dX6_setSize_26 : decode cX6_setSize 26 = .ok (.iload_n 1, 1) := by decide +kernel
theorem dX6_setSize_27 : decode cX6_setSize 27 = .ok (.invokevirtual 76, 3) := by decide +kernel
theorem dX6_setSize_30 : decode cX6_setSize 30 = .ok (.aload_n 0, 1) := by decide +kernel
theorem dX6_setSize_31 : decode cX6_setSize 31 = .ok (.getfield 47, 3) := by decide +kernel
theorem dX6_setSize_34 : decode cX6_setSize 34 = .ok (.aload_n 0, 1) := by decide +kernel
theorem dX6_setSize_35 : decode cX6_setSize 35 = .ok (.getfield 34, 3) := by decide +kernel
theorem dX6_setSize_38 : decode cX6_setSize 38 = .ok (.getfield 80, 3) := by decide +kernel
theorem dX6_setSize_41 : decode cX6_setSize 41 = .ok (.bipush 9, 2) := by decide +kernel
theorem dX6_setSize_43 : decode cX6_setSize 43 = .ok (.iaload, 1) := by decide +kernel
theorem dX6_setSize_44 : decode cX6_setSize 44 = .ok (.aload_n 0, 1) := by decide +kernel
theorem dX6_setSize_45 : decode cX6_setSize 45 = .ok (.getfield 34, 3) := by decide +kernel
theorem dX6_setSize_48 : decode cX6_setSize 48 = .ok (.getfield 85, 3) := by decide +kernel
theorem dX6_setSize_51 : decode cX6_setSize 51 = .ok (.bipush 9, 2) := by decide +kernel
theorem dX6_setSize_53 : decode cX6_setSize 53 = .ok (.iaload, 1) := by decide +kernel
theorem dX6_setSize_54 : decode cX6_setSize 54 = .ok (.aload_n 0, 1) := by decide +kernel
theorem dX6_setSize_55 : decode cX6_setSize 55 = .ok (.getfield 12, 3) := by decide +kernel
theorem dX6_setSize_58 : decode cX6_setSize 58 = .ok (.invokevirtual 88, 3) := by decide +kernel
theorem dX6_setSize_61 : decode cX6_setSize 61 = .ok (.aload_n 0, 1) := by decide +kernel
theorem dX6_setSize_62 : decode cX6_setSize 62 = .ok (.getfield 47, 3) := by decide +kernel
theorem dX6_setSize_65 : decode cX6_setSize 65 = .ok (.getfield 92, 3) := by decide +kernel
theorem dX6_setSize_68 : decode cX6_setSize 68 = .ok (.ifCond .ne 34, 3) := by decide +kernel
theorem dX6_setSize_71 : decode cX6_setSize 71 = .ok (.aload_n 0, 1) := by decide +kernel
theorem dX6_setSize_72 : decode cX6_setSize 72 = .ok (.getfield 47, 3) := by decide +kernel
theorem dX6_setSize_75 : decode cX6_setSize 75 = .ok (.aload_n 0, 1) := by decide +kernel
theorem dX6_setSize_76 : decode cX6_setSize 76 = .ok (.getfield 34, 3) := by decide +kernel
theorem dX6_setSize_79 : decode cX6_setSize 79 = .ok (.getfield 80, 3) := by decide +kernel
theorem dX6_setSize_82 : decode cX6_setSize 82 = .ok (.bipush 10, 2) := by decide +kernel
theorem dX6_setSize_84 : decode cX6_setSize 84 = .ok (.iaload, 1) := by decide +kernel
theorem dX6_setSize_85 : decode cX6_setSize 85 = .ok (.aload_n 0, 1) := by decide +kernel
theorem dX6_setSize_86 : decode cX6_setSize 86 = .ok (.getfield 34, 3) := by decide +kernel
theorem dX6_setSize_89 : decode cX6_setSize 89 = .ok (.getfield 85, 3) := by decide +kernel
theorem dX6_setSize_92 : decode cX6_setSize 92 = .ok (.bipush 10, 2) := by decide +kernel
theorem dX6_setSize_94 : decode cX6_setSize 94 = .ok (.iaload, 1) := by decide +kernel
theorem dX6_setSize_95 : decode cX6_setSize 95 = .ok (.aload_n 0, 1) := by decide +kernel
theorem dX6_setSize_96 : decode cX6_setSize 96 = .ok (.getfield 12, 3) := by decide +kernel
theorem dX6_setSize_99 : decode cX6_setSize 99 = .ok (.invokevirtual 88, 3) := by decide +kernel
theorem dX6_setSize_102 : decode cX6_setSize 102 = .ok (.aload_n 0, 1) := by decide +kernel
theorem dX6_setSize_103 : decode cX6_setSize 103 = .ok (.getfield 47, 3) := by decide +kernel
theorem dX6_setSize_106 : decode cX6_setSize 106 = .ok (.getfield 92, 3) := by decide +kernel
theorem dX6_setSize_109 : decode cX6_setSize 109 = .ok (.ifCond .eq 24, 3) := by decide +kernel
theorem dX6_setSize_112 : decode cX6_setSize 112 = .ok (.aload_n 0, 1) := by decide +kernel
theorem dX6_setSize_113 : decode cX6_setSize 113 = .ok (.dup, 1) := by decide +kernel
theorem dX6_setSize_114 : decode cX6_setSize 114 = .ok (.getfield 95, 3) := by decide +kernel
theorem dX6_setSize_117 : decode cX6_setSize 117 = .ok (.iconst 1, 1) := by decide +kernel
theorem dX6_setSize_118 : decode cX6_setSize 118 = .ok (.iadd, 1) := by decide +kernel
theorem dX6_setSize_119 : decode cX6_setSize 119 = .ok (.putfield 95, 3) := by decide +kernel
theorem dX6_setSize_122 : decode cX6_setSize 122 = .ok (.bipush (-100), 2) := by decide +kernel
theorem dX6_setSize_124 : decode cX6_setSize 124 = .ok (.aload_n 0, 1) := by decide +kernel
theorem dX6_setSize_125 : decode cX6_setSize 125 = .ok (.getfield 47, 3) := by decide +kernel
theorem dX6_setSize_128 : decode cX6_setSize 128 = .ok (.getfield 92, 3) := by decide +kernel
theorem dX6_setSize_131 : decode cX6_setSize 131 = .ok (.isub, 1) := by decide +kernel
theorem dX6_setSize_132 : decode cX6_setSize 132 = .ok (.ireturn, 1) := by decide +kernel
theorem dX6_setSize_133 : decode cX6_setSize 133 = .ok (.aload_n 0, 1) := by decide +kernel
theorem dX6_setSize_134 : decode cX6_setSize 134 = .ok (.iload_n 1, 1) := by decide +kernel
theorem dX6_setSize_135 : decode cX6_setSize 135 = .ok (.putfield 54, 3) := by decide +kernel
theorem dX6_setSize_138 : decode cX6_setSize 138 = .ok (.aload_n 0, 1) := by decide +kernel
theorem dX6_setSize_139 : decode cX6_setSize 139 = .ok (.getfield 47, 3) := by decide +kernel
theorem dX6_setSize_142 : decode cX6_setSize 142 = .ok (.getfield 98, 3) := by decide +kernel
theorem dX6_setSize_145 : decode cX6_setSize 145 = .ok (.ireturn, 1) := by decide +kernel
def B_X6_setSize_102 (N : Nat)  (l1 : Int32) (V : sv_V) : Option (Int32 × sv_V) := if (V.1 69 14) = 0 then (sx_let (sv_I V 30 7 l1) (fun V2 => some (V2.1 69 13, V2))) else (sx_let (sv_I V 30 11 ((V.1 30 11) + (1 : Int32))) (fun V3 => some ((-100 : Int32) - (V3.1 69 14), V3)))
set_option maxRecDepth 20000 in
theorem tB_X6_setSize_102 {g : sx_G} (hG : sx_Go g) {P : Option Value → sv_V → Prop} {r : Int32} {Vr : sv_V} (hP : P (some (.int r)) Vr) {N : Nat}   {l1 : Int32} {V : sv_V} (h : B_X6_setSize_102 N  l1 V = some (r, Vr)) : sv_N g qX6_setSize 6 102 [(0, .ref 30), (1, .int l1)] [] V P := by
  unfold B_X6_setSize_102 at h
  refine sx_aload_n (pc := 102) dX6_setSize_102 sx_m0 ?_
  refine sv_getO (pc := 103) hG dX6_setSize_103 f_6_47 lay_30 rfl cr_30_2 ?_
  refine sv_getI (pc := 106) hG dX6_setSize_106 f_6_92 lay_69 rfl ?_
  refine sx_if_eq (pc := 109) (tgt := 133) dX6_setSize_109 (by decide) (fun c1 => ?_) (fun c1 => ?_)
  · have h := sx_pos c1 h
    refine sx_aload_n (pc := 133) dX6_setSize_133 sx_m0 ?_
    refine sx_iload_n (pc := 134) dX6_setSize_134 sx_m1 ?_
    obtain ⟨V2, hV2⟩ : ∃ z : sv_V, z = sv_I V 30 7 l1 := ⟨_, rfl⟩
    have h := sx_letE hV2 h
    refine sv_putI (pc := 135) hG dX6_setSize_135 f_6_54 lay_30 rfl hV2 ?_
    refine sx_aload_n (pc := 138) dX6_setSize_138 sx_m0 ?_
    refine sv_getO (pc := 139) hG dX6_setSize_139 f_6_47 lay_30 rfl cr_30_2 ?_
    refine sv_getI (pc := 142) hG dX6_setSize_142 f_6_98 lay_69 rfl ?_
    exact sv_iret (pc := 145) dX6_setSize_145 rfl h hP
  · have h := sx_neg c1 h
    refine sx_aload_n (pc := 112) dX6_setSize_112 sx_m0 ?_
    refine sx_dup (pc := 113) dX6_setSize_113 rfl ?_
    refine sv_getI (pc := 114) hG dX6_setSize_114 f_6_95 lay_30 rfl ?_
    refine sx_iconst (pc := 117) (v := 1) dX6_setSize_117 (by decide) ?_
    refine sx_iadd (pc := 118) dX6_setSize_118 ?_
    obtain ⟨V3, hV3⟩ : ∃ z : sv_V, z = sv_I V 30 11 ((V.1 30 11) + (1 : Int32)) := ⟨_, rfl⟩
    have h := sx_letE hV3 h
    refine sv_putI (pc := 119) hG dX6_setSize_119 f_6_95 lay_30 rfl hV3 ?_
    refine sx_bipush (pc := 122) (v := (-100)) dX6_setSize_122 (by decide) ?_
    refine sx_aload_n (pc := 124) dX6_setSize_124 sx_m0 ?_
    refine sv_getO (pc := 125) hG dX6_setSize_125 f_6_47 lay_30 rfl cr_30_2 ?_
    refine sv_getI (pc := 128) hG dX6_setSize_128 f_6_92 lay_69 rfl ?_
    refine sx_isub (pc := 131) dX6_setSize_131 ?_
    exact sv_iret (pc := 132) dX6_setSize_132 rfl h hP
def F_X6_setSize (N : Nat) (l1 : Int32) (V : sv_V) : Option (Int32 × sv_V) := sx_let (sv_I V 30 8 (0 : Int32)) (fun V4 => sx_let (sv_I V4 30 7 (0 : Int32)) (fun V5 => (F_X7_renew N 31 l1 V5).bind (fun V6 => (F_X5_beginSize N l1 V6).bind (fun V8 => (F_X5_runForSize N (V8.1 4 (9 : Int32).toNatClampNeg) (V8.1 5 (9 : Int32).toNatClampNeg) 31 V8).bind (fun V10 => if (V10.1 69 14) = 0 then ((F_X5_runForSize N (V10.1 4 (10 : Int32).toNatClampNeg) (V10.1 5 (10 : Int32).toNatClampNeg) 31 V10).bind (fun V13 => B_X6_setSize_102 N  l1 V13)) else (B_X6_setSize_102 N  l1 V10))))))
set_option maxRecDepth 20000 in
theorem t_X6_setSize {g : sx_G} (hG : sx_Go g) {P : Option Value → sv_V → Prop} {r : Int32} {Vr : sv_V} (hP : P (some (.int r)) Vr) {N : Nat} {l1 : Int32} {V : sv_V} (h : F_X6_setSize N l1 V = some (r, Vr)) : sv_N g qX6_setSize 6 0 [(0, .ref 30), (1, .int l1)] [] V P := by
  unfold F_X6_setSize at h
  refine sx_aload_n (pc := 0) dX6_setSize_0 sx_m0 ?_
  refine sx_iconst (pc := 1) (v := 0) dX6_setSize_1 (by decide) ?_
  obtain ⟨V4, hV4⟩ : ∃ z : sv_V, z = sv_I V 30 8 (0 : Int32) := ⟨_, rfl⟩
  have h := sx_letE hV4 h
  refine sv_putZ (pc := 2) hG dX6_setSize_2 f_6_58 lay_30 rfl rfl hV4 ?_
  refine sx_aload_n (pc := 5) dX6_setSize_5 sx_m0 ?_
  refine sx_iconst (pc := 6) (v := 0) dX6_setSize_6 (by decide) ?_
  obtain ⟨V5, hV5⟩ : ∃ z : sv_V, z = sv_I V4 30 7 (0 : Int32) := ⟨_, rfl⟩
  have h := sx_letE hV5 h
  refine sv_putI (pc := 7) hG dX6_setSize_7 f_6_54 lay_30 rfl hV5 ?_
  refine sx_aload_n (pc := 10) dX6_setSize_10 sx_m0 ?_
  refine sv_getO (pc := 11) hG dX6_setSize_11 f_6_12 lay_30 rfl cr_30_3 ?_
  refine sx_aload_n (pc := 14) dX6_setSize_14 sx_m0 ?_
  refine sv_getO (pc := 15) hG dX6_setSize_15 f_6_34 lay_30 rfl cr_30_0 ?_
  refine sx_iload_n (pc := 18) dX6_setSize_18 sx_m1 ?_
  obtain ⟨V6, g7, h⟩ := sx_bnd h
  refine sv_cV (pc := 19) (y := qX7_renew) (o := none) (as := [.ref 2, .int l1]) (V1 := V6) hG dX6_setSize_19 l_X6_72 y0X7_renew yvX7_renew rfl (Nat.le_of_ble_eq_true rfl) lay_31 kr_7 (by decide) (Nat.le_of_ble_eq_true rfl) rfl rfl rfl (t_X7_renew hG ⟨rfl, rfl⟩ g7) ?_
  refine sx_aload_n (pc := 22) dX6_setSize_22 sx_m0 ?_
  refine sv_getO (pc := 23) hG dX6_setSize_23 f_6_47 lay_30 rfl cr_30_2 ?_
  refine sx_iload_n (pc := 26) dX6_setSize_26 sx_m1 ?_
  obtain ⟨V8, g9, h⟩ := sx_bnd h
  refine sv_cV (pc := 27) (y := qX5_beginSize) (o := none) (as := [.int l1]) (V1 := V8) hG dX6_setSize_27 l_X6_76 y0X5_beginSize yvX5_beginSize rfl (Nat.le_of_ble_eq_true rfl) lay_69 kr_5 (by decide) (Nat.le_of_ble_eq_true rfl) rfl rfl rfl (t_X5_beginSize hG ⟨rfl, rfl⟩ g9) ?_
  refine sx_aload_n (pc := 30) dX6_setSize_30 sx_m0 ?_
  refine sv_getO (pc := 31) hG dX6_setSize_31 f_6_47 lay_30 rfl cr_30_2 ?_
  refine sx_aload_n (pc := 34) dX6_setSize_34 sx_m0 ?_
  refine sv_getO (pc := 35) hG dX6_setSize_35 f_6_34 lay_30 rfl cr_30_0 ?_
  refine sv_getA (pc := 38) hG dX6_setSize_38 f_6_80 lay_2 rfl cr_2_3 ?_
  refine sx_bipush (pc := 41) (v := 9) dX6_setSize_41 (by decide) ?_
  refine sv_iald (pc := 43) hG dX6_setSize_43 lay_4 (by decide) ?_
  refine sx_aload_n (pc := 44) dX6_setSize_44 sx_m0 ?_
  refine sv_getO (pc := 45) hG dX6_setSize_45 f_6_34 lay_30 rfl cr_30_0 ?_
  refine sv_getA (pc := 48) hG dX6_setSize_48 f_6_85 lay_2 rfl cr_2_4 ?_
  refine sx_bipush (pc := 51) (v := 9) dX6_setSize_51 (by decide) ?_
  refine sv_iald (pc := 53) hG dX6_setSize_53 lay_5 (by decide) ?_
  refine sx_aload_n (pc := 54) dX6_setSize_54 sx_m0 ?_
  refine sv_getO (pc := 55) hG dX6_setSize_55 f_6_12 lay_30 rfl cr_30_3 ?_
  obtain ⟨V10, g11, h⟩ := sx_bnd h
  refine sv_cV (pc := 58) (y := qX5_runForSize) (o := none) (as := [.int (V8.1 4 (9 : Int32).toNatClampNeg), .int (V8.1 5 (9 : Int32).toNatClampNeg), .ref 31]) (V1 := V10) hG dX6_setSize_58 l_X6_88 y0X5_runForSize yvX5_runForSize rfl (Nat.le_of_ble_eq_true rfl) lay_69 kr_5 (by decide) (Nat.le_of_ble_eq_true rfl) rfl rfl rfl (t_X5_runForSize hG ⟨rfl, rfl⟩ g11) ?_
  refine sx_aload_n (pc := 61) dX6_setSize_61 sx_m0 ?_
  refine sv_getO (pc := 62) hG dX6_setSize_62 f_6_47 lay_30 rfl cr_30_2 ?_
  refine sv_getI (pc := 65) hG dX6_setSize_65 f_6_92 lay_69 rfl ?_
  refine sx_if_ne (pc := 68) (tgt := 102) dX6_setSize_68 (by decide) (fun c12 => ?_) (fun c12 => ?_)
  · have h := sx_neg c12 h
    refine sx_wk (sx_s1 sx_m0 (sx_s1 sx_m1 sx_s0)) ?_
    exact tB_X6_setSize_102 hG hP  h
  · have h := sx_pos c12 h
    refine sx_aload_n (pc := 71) dX6_setSize_71 sx_m0 ?_
    refine sv_getO (pc := 72) hG dX6_setSize_72 f_6_47 lay_30 rfl cr_30_2 ?_
    refine sx_aload_n (pc := 75) dX6_setSize_75 sx_m0 ?_
    refine sv_getO (pc := 76) hG dX6_setSize_76 f_6_34 lay_30 rfl cr_30_0 ?_
    refine sv_getA (pc := 79) hG dX6_setSize_79 f_6_80 lay_2 rfl cr_2_3 ?_
    refine sx_bipush (pc := 82) (v := 10) dX6_setSize_82 (by decide) ?_
    refine sv_iald (pc := 84) hG dX6_setSize_84 lay_4 (by decide) ?_
    refine sx_aload_n (pc := 85) dX6_setSize_85 sx_m0 ?_
    refine sv_getO (pc := 86) hG dX6_setSize_86 f_6_34 lay_30 rfl cr_30_0 ?_
    refine sv_getA (pc := 89) hG dX6_setSize_89 f_6_85 lay_2 rfl cr_2_4 ?_
    refine sx_bipush (pc := 92) (v := 10) dX6_setSize_92 (by decide) ?_
    refine sv_iald (pc := 94) hG dX6_setSize_94 lay_5 (by decide) ?_
    refine sx_aload_n (pc := 95) dX6_setSize_95 sx_m0 ?_
    refine sv_getO (pc := 96) hG dX6_setSize_96 f_6_12 lay_30 rfl cr_30_3 ?_
    obtain ⟨V13, g14, h⟩ := sx_bnd h
    refine sv_cV (pc := 99) (y := qX5_runForSize) (o := none) (as := [.int (V10.1 4 (10 : Int32).toNatClampNeg), .int (V10.1 5 (10 : Int32).toNatClampNeg), .ref 31]) (V1 := V13) hG dX6_setSize_99 l_X6_88 y0X5_runForSize yvX5_runForSize rfl (Nat.le_of_ble_eq_true rfl) lay_69 kr_5 (by decide) (Nat.le_of_ble_eq_true rfl) rfl rfl rfl (t_X5_runForSize hG ⟨rfl, rfl⟩ g14) ?_
    refine sx_wk (sx_s1 sx_m0 (sx_s1 sx_m1 sx_s0)) ?_
    exact tB_X6_setSize_102 hG hP  h
theorem dX6_build_0 : decode cX6_build 0 = .ok (.iload_n 2, 1) := by decide +kernel
theorem dX6_build_1 : decode cX6_build 1 = .ok (.iconst 5, 1) := by decide +kernel
theorem dX6_build_2 : decode cX6_build 2 = .ok (.if_icmp .ge 14, 3) := by decide +kernel
theorem dX6_build_5 : decode cX6_build 5 = .ok (.aload_n 0, 1) := by decide +kernel
theorem dX6_build_6 : decode cX6_build 6 = .ok (.getfield 34, 3) := by decide +kernel
theorem dX6_build_9 : decode cX6_build 9 = .ok (.iload_n 1, 1) := by decide +kernel
theorem dX6_build_10 : decode cX6_build 10 = .ok (.invokevirtual 139, 3) := by decide +kernel
theorem dX6_build_13 : decode cX6_build 13 = .ok (.ifCond .ne 14, 3) := by decide +kernel
theorem dX6_build_16 : decode cX6_build 16 = .ok (.aload_n 0, 1) := by decide +kernel
theorem dX6_build_17 : decode cX6_build 17 = .ok (.getfield 47, 3) := by decide +kernel
theorem dX6_build_20 : decode cX6_build 20 = .ok (.bipush 12, 2) := by decide +kernel
theorem dX6_build_22 : decode cX6_build 22 = .ok (.invokevirtual 129, 3) := by decide +kernel
theorem dX6_build_25 : decode cX6_build 25 = .ok (.iconst 0, 1) := by decide +kernel
theorem dX6_build_26 : decode cX6_build 26 = .ok (.ireturn, 1) := by decide +kernel
theorem dX6_build_27 : decode cX6_build 27 = .ok (.aload_n 0, 1) := by decide +kernel
theorem dX6_build_28 : decode cX6_build 28 = .ok (.getfield 23, 3) := by decide +kernel
theorem dX6_build_31 : decode cX6_build 31 = .ok (.iload_n 2, 1) := by decide +kernel
theorem dX6_build_32 : decode cX6_build 32 = .ok (.aaload, 1) := by decide +kernel
theorem dX6_build_33 : decode cX6_build 33 = .ok (.astore_n 3, 1) := by decide +kernel
theorem dX6_build_34 : decode cX6_build 34 = .ok (.aload_n 0, 1) := by decide +kernel
theorem dX6_build_35 : decode cX6_build 35 = .ok (.iload_n 1, 1) := by decide +kernel
theorem dX6_build_36 : decode cX6_build 36 = .ok (.aload_n 3, 1) := by decide +kernel
theorem dX6_build_37 : decode cX6_build 37 = .ok (.invokevirtual 142, 3) := by decide +kernel
theorem dX6_build_40 : decode cX6_build 40 = .ok (.aload_n 0, 1) := by decide +kernel
theorem dX6_build_41 : decode cX6_build 41 = .ok (.getfield 34, 3) := by decide +kernel
theorem dX6_build_44 : decode cX6_build 44 = .ok (.getfield 111, 3) := by decide +kernel
theorem dX6_build_47 : decode cX6_build 47 = .ok (.iconst 5, 1) := by decide +kernel
theorem dX6_build_48 : decode cX6_build 48 = .ok (.aaload, 1) := by decide +kernel
theorem dX6_build_49 : decode cX6_build 49 = .ok (.iload_n 1, 1) := by decide +kernel
theorem dX6_build_50 : decode cX6_build 50 = .ok (.iaload, 1) := by decide +kernel
theorem dX6_build_51 : decode cX6_build 51 = .ok (.ifCond .le 14, 3) := by decide +kernel
theorem dX6_build_54 : decode cX6_build 54 = .ok (.aload_n 0, 1) := by decide +kernel
theorem dX6_build_55 : decode cX6_build 55 = .ok (.iload_n 1, 1) := by decide +kernel
theorem dX6_build_56 : decode cX6_build 56 = .ok (.iload_n 2, 1) := by decide +kernel
theorem dX6_build_57 : decode cX6_build 57 = .ok (.invokevirtual 146, 3) := by decide +kernel
theorem dX6_build_60 : decode cX6_build 60 = .ok (.ifCond .ne 25, 3) := by decide +kernel
theorem dX6_build_63 : decode cX6_build 63 = .ok (.iconst 0, 1) := by decide +kernel
theorem dX6_build_64 : decode cX6_build 64 = .ok (.ireturn, 1) := by decide +kernel
theorem dX6_build_65 : decode cX6_build 65 = .ok (.aload_n 0, 1) := by decide +kernel
theorem dX6_build_66 : decode cX6_build 66 = .ok (.getfield 34, 3) := by decide +kernel
theorem dX6_build_69 : decode cX6_build 69 = .ok (.getfield 111, 3) := by decide +kernel
theorem dX6_build_72 : decode cX6_build 72 = .ok (.iconst 1, 1) := by decide +kernel
theorem dX6_build_73 : decode cX6_build 73 = .ok (.aaload, 1) := by decide +kernel
theorem dX6_build_74 : decode cX6_build 74 = .ok (.iload_n 1, 1) := by decide +kernel
theorem dX6_build_75 : decode cX6_build 75 = .ok (.iaload, 1) := by decide +kernel
theorem dX6_build_76 : decode cX6_build 76 = .ok (.ifCond .le 9, 3) := by decide +kernel
theorem dX6_build_79 : decode cX6_build 79 = .ok (.aload_n 0, 1) := by decide +kernel
theorem dX6_build_80 : decode cX6_build 80 = .ok (.iload_n 1, 1) := by decide +kernel
theorem dX6_build_81 : decode cX6_build 81 = .ok (.aload_n 3, 1) := by decide +kernel
theorem dX6_build_82 : decode cX6_build 82 = .ok (.invokevirtual 149, 3) := by decide +kernel
theorem dX6_build_85 : decode cX6_build 85 = .ok (.aload_n 3, 1) := by decide +kernel
theorem dX6_build_86 : decode cX6_build 86 = .ok (.ldc 152, 2) := by decide +kernel
theorem dX6_build_88 : decode cX6_build 88 = .ok (.invokevirtual 125, 3) := by decide +kernel
theorem dX6_build_91 : decode cX6_build 91 = .ok (.ifCond .ne 14, 3) := by decide +kernel
theorem dX6_build_94 : decode cX6_build 94 = .ok (.aload_n 0, 1) := by decide +kernel
theorem dX6_build_95 : decode cX6_build 95 = .ok (.getfield 47, 3) := by decide +kernel
theorem dX6_build_98 : decode cX6_build 98 = .ok (.bipush 13, 2) := by decide +kernel
theorem dX6_build_100 : decode cX6_build 100 = .ok (.invokevirtual 129, 3) := by decide +kernel
theorem dX6_build_103 : decode cX6_build 103 = .ok (.iconst 0, 1) := by decide +kernel
theorem dX6_build_104 : decode cX6_build 104 = .ok (.ireturn, 1) := by decide +kernel
theorem dX6_build_105 : decode cX6_build 105 = .ok (.aload_n 0, 1) := by decide +kernel
theorem dX6_build_106 : decode cX6_build 106 = .ok (.getfield 34, 3) := by decide +kernel
theorem dX6_build_109 : decode cX6_build 109 = .ok (.getfield 111, 3) := by decide +kernel
theorem dX6_build_112 : decode cX6_build 112 = .ok (.bipush 7, 2) := by decide +kernel
theorem dX6_build_114 : decode cX6_build 114 = .ok (.aaload, 1) := by decide +kernel
theorem dX6_build_115 : decode cX6_build 115 = .ok (.iload_n 1, 1) := by decide +kernel
theorem dX6_build_116 : decode cX6_build 116 = .ok (.iaload, 1) := by decide +kernel
theorem dX6_build_117 : decode cX6_build 117 = .ok (.istore 4, 2) := by decide +kernel
theorem dX6_build_119 : decode cX6_build 119 = .ok (.iload 4, 2) := by decide +kernel
theorem dX6_build_121 : decode cX6_build 121 = .ok (.ifCond .le 48, 3) := by decide +kernel
theorem dX6_build_124 : decode cX6_build 124 = .ok (.aload_n 0, 1) := by decide +kernel
theorem dX6_build_125 : decode cX6_build 125 = .ok (.getfield 18, 3) := by decide +kernel
theorem dX6_build_128 : decode cX6_build 128 = .ok (.aload_n 0, 1) := by decide +kernel
theorem dX6_build_129 : decode cX6_build 129 = .ok (.getfield 12, 3) := by decide +kernel
theorem dX6_build_132 : decode cX6_build 132 = .ok (.invokevirtual 153, 3) := by decide +kernel
theorem dX6_build_135 : decode cX6_build 135 = .ok (.aload_n 3, 1) := by decide +kernel
theorem dX6_build_136 : decode cX6_build 136 = .ok (.invokevirtual 157, 3) := by decide +kernel
theorem dX6_build_139 : decode cX6_build 139 = .ok (.aload_n 0, 1) := by decide +kernel
theorem dX6_build_140 : decode cX6_build 140 = .ok (.getfield 47, 3) := by decide +kernel
theorem dX6_build_143 : decode cX6_build 143 = .ok (.aload_n 0, 1) := by decide +kernel
theorem dX6_build_144 : decode cX6_build 144 = .ok (.getfield 34, 3) := by decide +kernel
theorem dX6_build_147 : decode cX6_build 147 = .ok (.getfield 111, 3) := by decide +kernel
theorem dX6_build_150 : decode cX6_build 150 = .ok (.bipush 6, 2) := by decide +kernel
theorem dX6_build_152 : decode cX6_build 152 = .ok (.aaload, 1) := by decide +kernel
theorem dX6_build_153 : decode cX6_build 153 = .ok (.iload_n 1, 1) := by decide +kernel
theorem dX6_build_154 : decode cX6_build 154 = .ok (.iaload, 1) := by decide +kernel
theorem dX6_build_155 : decode cX6_build 155 = .ok (.iload 4, 2) := by decide +kernel
theorem dX6_build_157 : decode cX6_build 157 = .ok (.aload_n 0, 1) := by decide +kernel
theorem dX6_build_158 : decode cX6_build 158 = .ok (.getfield 18, 3) := by decide +kernel
theorem dX6_build_161 : decode cX6_build 161 = .ok (.aload_n 3, 1) := by decide +kernel
theorem dX6_build_162 : decode cX6_build 162 = .ok (.invokevirtual 160, 3) := by decide +kernel
theorem dX6_build_165 : decode cX6_build 165 = .ok (.aload_n 3, 1) := by decide +kernel
theorem dX6_build_166 : decode cX6_build 166 = .ok (.invokevirtual 164, 3) := by decide +kernel
theorem dX6_build_169 : decode cX6_build 169 = .ok (.aload_n 0, 1) := by decide +kernel
theorem dX6_build_170 : decode cX6_build 170 = .ok (.getfield 47, 3) := by decide +kernel
theorem dX6_build_173 : decode cX6_build 173 = .ok (.getfield 92, 3) := by decide +kernel
theorem dX6_build_176 : decode cX6_build 176 = .ok (.ifCond .ne 7, 3) := by decide +kernel
theorem dX6_build_179 : decode cX6_build 179 = .ok (.iconst 1, 1) := by decide +kernel
theorem dX6_build_180 : decode cX6_build 180 = .ok (.goto 4, 3) := by decide +kernel
theorem dX6_build_183 : decode cX6_build 183 = .ok (.iconst 0, 1) := by decide +kernel
theorem dX6_build_184 : decode cX6_build 184 = .ok (.ireturn, 1) := by decide +kernel
def B_X6_build_16 (N : Nat) (kb : Int32 → Int32 → sv_V → Option (Int32 × sv_V))   (V : sv_V) : Option (Int32 × sv_V) := (F_X5_failOutside (12 : Int32) V).bind (fun V1 => some ((0 : Int32), V1))
set_option maxRecDepth 20000 in
theorem tB_X6_build_16 {g : sx_G} (hG : sx_Go g) {P : Option Value → sv_V → Prop} {r : Int32} {Vr : sv_V} (hP : P (some (.int r)) Vr) {N : Nat} {D : Nat} {kb : Int32 → Int32 → sv_V → Option (Int32 × sv_V)} (hkb : ∀ (l1 : Int32) (l2 : Int32) (V : sv_V) (r : Int32) (Wr : sv_V), kb l1 l2 V = some (r, Wr) → ∀ P : Option Value → sv_V → Prop, P (some (.int r)) Wr → sv_N g qX6_build (30 + 2 * D) 0 [(0, .ref 30), (1, .int l1), (2, .int l2)] [] V P)    {V : sv_V} (h : B_X6_build_16 N kb   V = some (r, Vr)) : sv_N g qX6_build (30 + 2 * (D + 1)) 16 [(0, .ref 30)] [] V P := by
  unfold B_X6_build_16 at h
  refine sx_aload_n (pc := 16) dX6_build_16 sx_m0 ?_
  refine sv_getO (pc := 17) hG dX6_build_17 f_6_47 lay_30 rfl cr_30_2 ?_
  refine sx_bipush (pc := 20) (v := 12) dX6_build_20 (by decide) ?_
  obtain ⟨V1, g2, h⟩ := sx_bnd h
  refine sv_cV (pc := 22) (y := qX5_failOutside) (o := none) (as := [.int (12 : Int32)]) (V1 := V1) hG dX6_build_22 l_X6_129 y0X5_failOutside yvX5_failOutside rfl (Nat.le_of_ble_eq_true rfl) lay_69 kr_5 (by omega) (Nat.le_of_ble_eq_true rfl) rfl rfl rfl (t_X5_failOutside hG ⟨rfl, rfl⟩ g2) ?_
  refine sx_iconst (pc := 25) (v := 0) dX6_build_25 (by decide) ?_
  exact sv_zret (pc := 26) dX6_build_26 rfl rfl h hP
def B_X6_build_169 (N : Nat) (kb : Int32 → Int32 → sv_V → Option (Int32 × sv_V))   (V : sv_V) : Option (Int32 × sv_V) := if (V.1 69 14) = 0 then (some ((1 : Int32), V)) else (some ((0 : Int32), V))
set_option maxRecDepth 20000 in
theorem tB_X6_build_169 {g : sx_G} (hG : sx_Go g) {P : Option Value → sv_V → Prop} {r : Int32} {Vr : sv_V} (hP : P (some (.int r)) Vr) {N : Nat} {D : Nat} {kb : Int32 → Int32 → sv_V → Option (Int32 × sv_V)} (hkb : ∀ (l1 : Int32) (l2 : Int32) (V : sv_V) (r : Int32) (Wr : sv_V), kb l1 l2 V = some (r, Wr) → ∀ P : Option Value → sv_V → Prop, P (some (.int r)) Wr → sv_N g qX6_build (30 + 2 * D) 0 [(0, .ref 30), (1, .int l1), (2, .int l2)] [] V P)    {V : sv_V} (h : B_X6_build_169 N kb   V = some (r, Vr)) : sv_N g qX6_build (30 + 2 * (D + 1)) 169 [(0, .ref 30)] [] V P := by
  unfold B_X6_build_169 at h
  refine sx_aload_n (pc := 169) dX6_build_169 sx_m0 ?_
  refine sv_getO (pc := 170) hG dX6_build_170 f_6_47 lay_30 rfl cr_30_2 ?_
  refine sv_getI (pc := 173) hG dX6_build_173 f_6_92 lay_69 rfl ?_
  refine sx_if_ne (pc := 176) (tgt := 183) dX6_build_176 (by decide) (fun c3 => ?_) (fun c3 => ?_)
  · have h := sx_neg c3 h
    refine sx_iconst (pc := 183) (v := 0) dX6_build_183 (by decide) ?_
    exact sv_zret (pc := 184) dX6_build_184 rfl rfl h hP
  · have h := sx_pos c3 h
    refine sx_iconst (pc := 179) (v := 1) dX6_build_179 (by decide) ?_
    refine sx_goto (pc := 180) (tgt := 184) dX6_build_180 (by decide) ?_
    exact sv_zret (pc := 184) dX6_build_184 rfl rfl h hP
def B_X6_build_85 (N : Nat) (kb : Int32 → Int32 → sv_V → Option (Int32 × sv_V))  (l1 : Int32) (l3 : Nat) (V : sv_V) : Option (Int32 × sv_V) := (F_X8_liesWithin N l3 (1000000 : Int32) V).bind (fun (x6, V4) => if lay l3 = .inl 8 then if x6 = 0 then ((F_X5_failOutside (13 : Int32) V4).bind (fun V29 => some ((0 : Int32), V29))) else ((cr 7 (7 : Int32).toNatClampNeg).bind (fun b9 => (sv_len 0 b9).bind (fun n11 => if sx_in l1 n11 = true then sx_let (V4.1 b9 l1.toNatClampNeg) (fun x14 => if x14 ≤ 0 then (B_X6_build_169 N kb   V4) else ((F_X7_copyFrom 45 31 V4).bind (fun V16 => (F_X8_beginProgram N l3 V16).bind (fun V18 => (cr 7 (6 : Int32).toNatClampNeg).bind (fun b20 => (sv_len 0 b20).bind (fun n22 => if sx_in l1 n22 = true then (F_X5_run N (V18.1 b20 l1.toNatClampNeg) x14 45 l3 V18).bind (fun V25 => (F_X8_endProgram N l3 V25).bind (fun V27 => B_X6_build_169 N kb   V27)) else none)))))) else none))) else none)
set_option maxRecDepth 20000 in
theorem tB_X6_build_85 {g : sx_G} (hG : sx_Go g) {P : Option Value → sv_V → Prop} {r : Int32} {Vr : sv_V} (hP : P (some (.int r)) Vr) {N : Nat} {D : Nat} {kb : Int32 → Int32 → sv_V → Option (Int32 × sv_V)} (hkb : ∀ (l1 : Int32) (l2 : Int32) (V : sv_V) (r : Int32) (Wr : sv_V), kb l1 l2 V = some (r, Wr) → ∀ P : Option Value → sv_V → Prop, P (some (.int r)) Wr → sv_N g qX6_build (30 + 2 * D) 0 [(0, .ref 30), (1, .int l1), (2, .int l2)] [] V P)   {l1 : Int32} {l3 : Nat} {V : sv_V} (h : B_X6_build_85 N kb  l1 l3 V = some (r, Vr)) : sv_N g qX6_build (30 + 2 * (D + 1)) 85 [(0, .ref 30), (1, .int l1), (3, .ref l3)] [] V P := by
  unfold B_X6_build_85 at h
  refine sx_aload_n (pc := 85) dX6_build_85 sx_m2 ?_
  refine sx_ldc (pc := 86) dX6_build_86 k_X6_152 ?_
  obtain ⟨⟨x6, V4⟩, g5, h⟩ := sx_bnd h
  obtain ⟨g7, h⟩ := sx_grd h
  refine sv_cV (pc := 88) (y := qX8_liesWithin) (o := (some (.int x6))) (as := [.int (1000000 : Int32)]) (V1 := V4) hG dX6_build_88 l_X6_125 y0X8_liesWithin yvX8_liesWithin rfl (Nat.le_of_ble_eq_true rfl) g7 kr_8 (by omega) (Nat.le_of_ble_eq_true rfl) rfl rfl rfl (t_X8_liesWithin hG ⟨rfl, rfl⟩ g5) ?_
  refine sx_if_ne (pc := 91) (tgt := 105) dX6_build_91 (by decide) (fun c8 => ?_) (fun c8 => ?_)
  · have h := sx_neg c8 h
    refine sx_aload_n (pc := 105) dX6_build_105 sx_m0 ?_
    refine sv_getO (pc := 106) hG dX6_build_106 f_6_34 lay_30 rfl cr_30_0 ?_
    refine sv_getA (pc := 109) hG dX6_build_109 f_6_111 lay_2 rfl cr_2_16 ?_
    refine sx_bipush (pc := 112) (v := 7) dX6_build_112 (by decide) ?_
    obtain ⟨b9, g10, h⟩ := sx_bnd h
    refine sv_aald (pc := 114) hG dX6_build_114 (by decide) lay_7 (by decide) g10 ?_
    refine sx_iload_n (pc := 115) dX6_build_115 sx_m1 ?_
    obtain ⟨n11, g12, h⟩ := sx_bnd h
    obtain ⟨g13, h⟩ := sx_grd h
    refine sv_iald (pc := 116) hG dX6_build_116 (sv_len_e g12) g13 ?_
    refine sv_tI (fun x14 hx14 => ?_)
    have h := sx_letE hx14 h
    refine sx_istore (pc := 117) (lo' := [(4, .int x14), (0, .ref 30), (1, .int l1), (3, .ref l3)]) dX6_build_117 (by decide) rfl ?_
    refine sx_iload (pc := 119) dX6_build_119 sx_m0 ?_
    refine sx_if_le (pc := 121) (tgt := 169) dX6_build_121 (by decide) (fun c15 => ?_) (fun c15 => ?_)
    · have h := sx_pos c15 h
      refine sx_wk (sx_s1 sx_m1 sx_s0) ?_
      exact tB_X6_build_169 hG hP hkb  h
    · have h := sx_neg c15 h
      refine sx_aload_n (pc := 124) dX6_build_124 sx_m1 ?_
      refine sv_getO (pc := 125) hG dX6_build_125 f_6_18 lay_30 rfl cr_30_4 ?_
      refine sx_aload_n (pc := 128) dX6_build_128 sx_m1 ?_
      refine sv_getO (pc := 129) hG dX6_build_129 f_6_12 lay_30 rfl cr_30_3 ?_
      obtain ⟨V16, g17, h⟩ := sx_bnd h
      refine sv_cV (pc := 132) (y := qX7_copyFrom) (o := none) (as := [.ref 31]) (V1 := V16) hG dX6_build_132 l_X6_153 y0X7_copyFrom yvX7_copyFrom rfl (Nat.le_of_ble_eq_true rfl) lay_45 kr_7 (by omega) (Nat.le_of_ble_eq_true rfl) rfl rfl rfl (t_X7_copyFrom hG ⟨rfl, rfl⟩ g17) ?_
      refine sx_aload_n (pc := 135) dX6_build_135 sx_m3 ?_
      obtain ⟨V18, g19, h⟩ := sx_bnd h
      refine sv_cV (pc := 136) (y := qX8_beginProgram) (o := none) (as := []) (V1 := V18) hG dX6_build_136 l_X6_157 y0X8_beginProgram yvX8_beginProgram rfl (Nat.le_of_ble_eq_true rfl) g7 kr_8 (by omega) (Nat.le_of_ble_eq_true rfl) rfl rfl rfl (t_X8_beginProgram hG ⟨rfl, rfl⟩ g19) ?_
      refine sx_aload_n (pc := 139) dX6_build_139 sx_m1 ?_
      refine sv_getO (pc := 140) hG dX6_build_140 f_6_47 lay_30 rfl cr_30_2 ?_
      refine sx_aload_n (pc := 143) dX6_build_143 sx_m1 ?_
      refine sv_getO (pc := 144) hG dX6_build_144 f_6_34 lay_30 rfl cr_30_0 ?_
      refine sv_getA (pc := 147) hG dX6_build_147 f_6_111 lay_2 rfl cr_2_16 ?_
      refine sx_bipush (pc := 150) (v := 6) dX6_build_150 (by decide) ?_
      obtain ⟨b20, g21, h⟩ := sx_bnd h
      refine sv_aald (pc := 152) hG dX6_build_152 (by decide) lay_7 (by decide) g21 ?_
      refine sx_iload_n (pc := 153) dX6_build_153 sx_m2 ?_
      obtain ⟨n22, g23, h⟩ := sx_bnd h
      obtain ⟨g24, h⟩ := sx_grd h
      refine sv_iald (pc := 154) hG dX6_build_154 (sv_len_e g23) g24 ?_
      refine sx_iload (pc := 155) dX6_build_155 sx_m0 ?_
      refine sx_aload_n (pc := 157) dX6_build_157 sx_m1 ?_
      refine sv_getO (pc := 158) hG dX6_build_158 f_6_18 lay_30 rfl cr_30_4 ?_
      refine sx_aload_n (pc := 161) dX6_build_161 sx_m3 ?_
      obtain ⟨V25, g26, h⟩ := sx_bnd h
      refine sv_cV (pc := 162) (y := qX5_run) (o := none) (as := [.int (V18.1 b20 l1.toNatClampNeg), .int x14, .ref 45, .ref l3]) (V1 := V25) hG dX6_build_162 l_X6_160 y0X5_run yvX5_run rfl (Nat.le_of_ble_eq_true rfl) lay_69 kr_5 (by omega) (Nat.le_of_ble_eq_true rfl) rfl rfl rfl (t_X5_run hG ⟨rfl, rfl⟩ g26) ?_
      refine sx_aload_n (pc := 165) dX6_build_165 sx_m3 ?_
      obtain ⟨V27, g28, h⟩ := sx_bnd h
      refine sv_cV (pc := 166) (y := qX8_endProgram) (o := none) (as := []) (V1 := V27) hG dX6_build_166 l_X6_164 y0X8_endProgram yvX8_endProgram rfl (Nat.le_of_ble_eq_true rfl) g7 kr_8 (by omega) (Nat.le_of_ble_eq_true rfl) rfl rfl rfl (t_X8_endProgram hG ⟨rfl, rfl⟩ g28) ?_
      refine sx_wk (sx_s1 sx_m1 sx_s0) ?_
      exact tB_X6_build_169 hG hP hkb  h
  · have h := sx_pos c8 h
    refine sx_aload_n (pc := 94) dX6_build_94 sx_m0 ?_
    refine sv_getO (pc := 95) hG dX6_build_95 f_6_47 lay_30 rfl cr_30_2 ?_
    refine sx_bipush (pc := 98) (v := 13) dX6_build_98 (by decide) ?_
    obtain ⟨V29, g30, h⟩ := sx_bnd h
    refine sv_cV (pc := 100) (y := qX5_failOutside) (o := none) (as := [.int (13 : Int32)]) (V1 := V29) hG dX6_build_100 l_X6_129 y0X5_failOutside yvX5_failOutside rfl (Nat.le_of_ble_eq_true rfl) lay_69 kr_5 (by omega) (Nat.le_of_ble_eq_true rfl) rfl rfl rfl (t_X5_failOutside hG ⟨rfl, rfl⟩ g30) ?_
    refine sx_iconst (pc := 103) (v := 0) dX6_build_103 (by decide) ?_
    exact sv_zret (pc := 104) dX6_build_104 rfl rfl h hP
def G_X6_build (N : Nat) (kb : Int32 → Int32 → sv_V → Option (Int32 × sv_V)) (l1 : Int32) (l2 : Int32) (V : sv_V) : Option (Int32 × sv_V) := if (5 : Int32) ≤ l2 then (B_X6_build_16 N kb   V) else ((F_X2_hasGlyph l1 V).bind (fun (x34, V32) => if x34 = 0 then (B_X6_build_16 N kb   V32) else (if sx_in l2 5 = true then (cr 59 l2.toNatClampNeg).bind (fun b37 => (F_X6_beginOutline l1 b37 V32).bind (fun V39 => (cr 7 (5 : Int32).toNatClampNeg).bind (fun b41 => (sv_len 0 b41).bind (fun n43 => if sx_in l1 n43 = true then if (V39.1 b41 l1.toNatClampNeg) ≤ 0 then ((cr 7 (1 : Int32).toNatClampNeg).bind (fun b47 => (sv_len 0 b47).bind (fun n49 => if sx_in l1 n49 = true then if (V39.1 b47 l1.toNatClampNeg) ≤ 0 then (B_X6_build_85 N kb  l1 b37 V39) else ((F_X6_takeOutline N l1 b37 V39).bind (fun V53 => B_X6_build_85 N kb  l1 b37 V53)) else none))) else ((F_X6_addParts N kb l1 l2 V39).bind (fun (x57, V55) => if x57 = 0 then (some ((0 : Int32), V55)) else (B_X6_build_85 N kb  l1 b37 V55))) else none)))) else none)))
set_option maxRecDepth 20000 in
theorem tG_X6_build {g : sx_G} (hG : sx_Go g) {P : Option Value → sv_V → Prop} {r : Int32} {Vr : sv_V} (hP : P (some (.int r)) Vr) {N : Nat} {D : Nat} {kb : Int32 → Int32 → sv_V → Option (Int32 × sv_V)} (hkb : ∀ (l1 : Int32) (l2 : Int32) (V : sv_V) (r : Int32) (Wr : sv_V), kb l1 l2 V = some (r, Wr) → ∀ P : Option Value → sv_V → Prop, P (some (.int r)) Wr → sv_N g qX6_build (30 + 2 * D) 0 [(0, .ref 30), (1, .int l1), (2, .int l2)] [] V P) {l1 : Int32} {l2 : Int32} {V : sv_V} (h : G_X6_build N kb l1 l2 V = some (r, Vr)) : sv_N g qX6_build (30 + 2 * (D + 1)) 0 [(0, .ref 30), (1, .int l1), (2, .int l2)] [] V P := by
  unfold G_X6_build at h
  refine sx_iload_n (pc := 0) dX6_build_0 sx_m2 ?_
  refine sx_iconst (pc := 1) (v := 5) dX6_build_1 (by decide) ?_
  refine sx_icmp_ge (pc := 2) (tgt := 16) dX6_build_2 (by decide) (fun c31 => ?_) (fun c31 => ?_)
  · have h := sx_pos c31 h
    refine sx_wk (sx_s1 sx_m0 sx_s0) ?_
    exact tB_X6_build_16 hG hP hkb  h
  · have h := sx_neg c31 h
    refine sx_aload_n (pc := 5) dX6_build_5 sx_m0 ?_
    refine sv_getO (pc := 6) hG dX6_build_6 f_6_34 lay_30 rfl cr_30_0 ?_
    refine sx_iload_n (pc := 9) dX6_build_9 sx_m1 ?_
    obtain ⟨⟨x34, V32⟩, g33, h⟩ := sx_bnd h
    refine sv_cV (pc := 10) (y := qX2_hasGlyph) (o := (some (.int x34))) (as := [.int l1]) (V1 := V32) hG dX6_build_10 l_X6_139 y0X2_hasGlyph yvX2_hasGlyph rfl (Nat.le_of_ble_eq_true rfl) lay_2 kr_2 (by omega) (Nat.le_of_ble_eq_true rfl) rfl rfl rfl (t_X2_hasGlyph hG ⟨rfl, rfl⟩ g33) ?_
    refine sx_if_ne (pc := 13) (tgt := 27) dX6_build_13 (by decide) (fun c35 => ?_) (fun c35 => ?_)
    · have h := sx_neg c35 h
      refine sx_aload_n (pc := 27) dX6_build_27 sx_m0 ?_
      refine sv_getA (pc := 28) hG dX6_build_28 f_6_23 lay_30 rfl cr_30_5 ?_
      refine sx_iload_n (pc := 31) dX6_build_31 sx_m2 ?_
      obtain ⟨g36, h⟩ := sx_grd h
      obtain ⟨b37, g38, h⟩ := sx_bnd h
      refine sv_aald (pc := 32) hG dX6_build_32 (by decide) lay_59 g36 g38 ?_
      refine sx_astore_n (pc := 33) (lo' := [(3, .ref b37), (0, .ref 30), (1, .int l1), (2, .int l2)]) dX6_build_33 (by decide) rfl ?_
      refine sx_aload_n (pc := 34) dX6_build_34 sx_m1 ?_
      refine sx_iload_n (pc := 35) dX6_build_35 sx_m2 ?_
      refine sx_aload_n (pc := 36) dX6_build_36 sx_m0 ?_
      obtain ⟨V39, g40, h⟩ := sx_bnd h
      refine sv_cV (pc := 37) (y := qX6_beginOutline) (o := none) (as := [.int l1, .ref b37]) (V1 := V39) hG dX6_build_37 l_X6_142 y0X6_beginOutline yvX6_beginOutline rfl (Nat.le_of_ble_eq_true rfl) lay_30 kr_6 (by omega) (Nat.le_of_ble_eq_true rfl) rfl rfl rfl (t_X6_beginOutline hG ⟨rfl, rfl⟩ g40) ?_
      refine sx_aload_n (pc := 40) dX6_build_40 sx_m1 ?_
      refine sv_getO (pc := 41) hG dX6_build_41 f_6_34 lay_30 rfl cr_30_0 ?_
      refine sv_getA (pc := 44) hG dX6_build_44 f_6_111 lay_2 rfl cr_2_16 ?_
      refine sx_iconst (pc := 47) (v := 5) dX6_build_47 (by decide) ?_
      obtain ⟨b41, g42, h⟩ := sx_bnd h
      refine sv_aald (pc := 48) hG dX6_build_48 (by decide) lay_7 (by decide) g42 ?_
      refine sx_iload_n (pc := 49) dX6_build_49 sx_m2 ?_
      obtain ⟨n43, g44, h⟩ := sx_bnd h
      obtain ⟨g45, h⟩ := sx_grd h
      refine sv_iald (pc := 50) hG dX6_build_50 (sv_len_e g44) g45 ?_
      refine sx_if_le (pc := 51) (tgt := 65) dX6_build_51 (by decide) (fun c46 => ?_) (fun c46 => ?_)
      · have h := sx_pos c46 h
        refine sx_aload_n (pc := 65) dX6_build_65 sx_m1 ?_
        refine sv_getO (pc := 66) hG dX6_build_66 f_6_34 lay_30 rfl cr_30_0 ?_
        refine sv_getA (pc := 69) hG dX6_build_69 f_6_111 lay_2 rfl cr_2_16 ?_
        refine sx_iconst (pc := 72) (v := 1) dX6_build_72 (by decide) ?_
        obtain ⟨b47, g48, h⟩ := sx_bnd h
        refine sv_aald (pc := 73) hG dX6_build_73 (by decide) lay_7 (by decide) g48 ?_
        refine sx_iload_n (pc := 74) dX6_build_74 sx_m2 ?_
        obtain ⟨n49, g50, h⟩ := sx_bnd h
        obtain ⟨g51, h⟩ := sx_grd h
        refine sv_iald (pc := 75) hG dX6_build_75 (sv_len_e g50) g51 ?_
        refine sx_if_le (pc := 76) (tgt := 85) dX6_build_76 (by decide) (fun c52 => ?_) (fun c52 => ?_)
        · have h := sx_pos c52 h
          refine sx_wk (sx_s1 sx_m1 (sx_s1 sx_m2 (sx_s1 sx_m0 sx_s0))) ?_
          exact tB_X6_build_85 hG hP hkb  h
        · have h := sx_neg c52 h
          refine sx_aload_n (pc := 79) dX6_build_79 sx_m1 ?_
          refine sx_iload_n (pc := 80) dX6_build_80 sx_m2 ?_
          refine sx_aload_n (pc := 81) dX6_build_81 sx_m0 ?_
          obtain ⟨V53, g54, h⟩ := sx_bnd h
          refine sv_cV (pc := 82) (y := qX6_takeOutline) (o := none) (as := [.int l1, .ref b37]) (V1 := V53) hG dX6_build_82 l_X6_149 y0X6_takeOutline yvX6_takeOutline rfl (Nat.le_of_ble_eq_true rfl) lay_30 kr_6 (by omega) (Nat.le_of_ble_eq_true rfl) rfl rfl rfl (t_X6_takeOutline hG ⟨rfl, rfl⟩ g54) ?_
          refine sx_wk (sx_s1 sx_m1 (sx_s1 sx_m2 (sx_s1 sx_m0 sx_s0))) ?_
          exact tB_X6_build_85 hG hP hkb  h
      · have h := sx_neg c46 h
        refine sx_aload_n (pc := 54) dX6_build_54 sx_m1 ?_
        refine sx_iload_n (pc := 55) dX6_build_55 sx_m2 ?_
        refine sx_iload_n (pc := 56) dX6_build_56 sx_m3 ?_
        obtain ⟨⟨x57, V55⟩, g56, h⟩ := sx_bnd h
        refine sv_cV (pc := 57) (y := qX6_addParts) (o := (some (.int x57))) (as := [.int l1, .int l2]) (V1 := V55) hG dX6_build_57 l_X6_146 y0X6_addParts yvX6_addParts rfl (Nat.le_of_ble_eq_true rfl) lay_30 kr_6 (by omega) (Nat.le_of_ble_eq_true rfl) rfl rfl rfl (t_X6_addParts hG ⟨rfl, rfl⟩ hkb g56) ?_
        refine sx_if_ne (pc := 60) (tgt := 85) dX6_build_60 (by decide) (fun c58 => ?_) (fun c58 => ?_)
        · have h := sx_neg c58 h
          refine sx_wk (sx_s1 sx_m1 (sx_s1 sx_m2 (sx_s1 sx_m0 sx_s0))) ?_
          exact tB_X6_build_85 hG hP hkb  h
        · have h := sx_pos c58 h
          refine sx_iconst (pc := 63) (v := 0) dX6_build_63 (by decide) ?_
          exact sv_zret (pc := 64) dX6_build_64 rfl rfl h hP
    · have h := sx_pos c35 h
      refine sx_wk (sx_s1 sx_m0 sx_s0) ?_
      exact tB_X6_build_16 hG hP hkb  h
def F_X6_build (N : Nat) (l1 : Int32) (l2 : Int32) (V : sv_V) : Option (Int32 × sv_V) := sx_lp3 (G_X6_build N ) 8 l1 l2 V
theorem tD_X6_build {g : sx_G} (hG : sx_Go g) {N : Nat} : ∀ (D : Nat) (l1 : Int32) (l2 : Int32) (V : sv_V) (r : Int32) (Vr : sv_V), sx_lp3 (G_X6_build N ) D l1 l2 V = some (r, Vr) → ∀ P : Option Value → sv_V → Prop, P (some (.int r)) Vr → sv_N g qX6_build (30 + 2 * D) 0 [(0, .ref 30), (1, .int l1), (2, .int l2)] [] V P := by
  intro D
  induction D with
  | zero => intro l1 l2 V r Vr h; cases h
  | succ D ih => intro l1 l2 V r Vr h P hP; exact tG_X6_build hG hP ih h
theorem t_X6_build {g : sx_G} (hG : sx_Go g) {P : Option Value → sv_V → Prop} {r : Int32} {Vr : sv_V} (hP : P (some (.int r)) Vr) {N : Nat} {l1 : Int32} {l2 : Int32} {V : sv_V} (h : F_X6_build N l1 l2 V = some (r, Vr)) : sv_N g qX6_build 46 0 [(0, .ref 30), (1, .int l1), (2, .int l2)] [] V P := tD_X6_build hG 8 l1 l2 V r Vr h P hP
theorem dX11_size_0 : decode cX11_size 0 = .ok (.aload_n 0, 1) := by decide +kernel
theorem dX11_size_1 : decode cX11_size 1 = .ok (.getfield 16, 3) := by decide +kernel
theorem dX11_size_4 : decode cX11_size 4 = .ok (.getfield 67, 3) := by decide +kernel
theorem dX11_size_7 : decode cX11_size 7 = .ok (.ifCond .ne 6, 3) := by decide +kernel
theorem dX11_size_10 : decode cX11_size 10 = .ok (.bipush (-3), 2) := by decide +kernel
theorem dX11_size_12 : decode cX11_size 12 = .ok (.ireturn, 1) := by decide +kernel
theorem dX11_size_13 : decode cX11_size 13 = .ok (.iload_n 1, 1) := by decide +kernel
theorem dX11_size_14 : decode cX11_size 14 = .ok (.iconst 4, 1) := by decide +kernel
theorem dX11_size_15 : decode cX11_size 15 = .ok (.if_icmp .lt 9, 3) := by decide +kernel
theorem dX11_size_18 : decode cX11_size 18 = .ok (.iload_n 1, 1) := by decide +kernel
theorem dX11_size_19 : decode cX11_size 19 = .ok (.bipush 48, 2) := by decide +kernel
theorem dX11_size_21 : decode cX11_size 21 = .ok (.if_icmp .le 6, 3) := by decide +kernel
theorem dX11_size_24 : decode cX11_size 24 = .ok (.bipush (-2), 2) := by decide +kernel
theorem dX11_size_26 : decode cX11_size 26 = .ok (.ireturn, 1) := by decide +kernel
theorem dX11_size_27 : decode cX11_size 27 = .ok (.aload_n 0, 1) := by decide +kernel
theorem dX11_size_28 : decode cX11_size 28 = .ok (.getfield 37, 3) := by decide +kernel
theorem dX11_size_31 : decode cX11_size 31 = .ok (.iload_n 1, 1) := by decide +kernel
theorem dX11_size_32 : decode cX11_size 32 = .ok (.invokevirtual 134, 3) := by decide +kernel
theorem dX11_size_35 : decode cX11_size 35 = .ok (.ireturn, 1) := by decide +kernel
def F_X11_size (N : Nat) (l1 : Int32) (V : sv_V) : Option (Int32 × sv_V) := if (V.1 2 2) = 0 then (some ((-3 : Int32), V)) else (if l1 < (4 : Int32) then (some ((-2 : Int32), V)) else (if l1 ≤ (48 : Int32) then ((F_X6_setSize N l1 V).bind (fun (x6, V4) => some (x6, V4))) else (some ((-2 : Int32), V))))
set_option maxRecDepth 20000 in
theorem t_X11_size {g : sx_G} (hG : sx_Go g) {P : Option Value → sv_V → Prop} {r : Int32} {Vr : sv_V} (hP : P (some (.int r)) Vr) {N : Nat} {l1 : Int32} {V : sv_V} (h : F_X11_size N l1 V = some (r, Vr)) : sv_N g qX11_size 7 0 [(0, .ref 0), (1, .int l1)] [] V P := by
  unfold F_X11_size at h
  refine sx_aload_n (pc := 0) dX11_size_0 sx_m0 ?_
  refine sv_getO (pc := 1) hG dX11_size_1 f_11_16 lay_0 rfl cr_0_2 ?_
  refine sv_getZ (pc := 4) hG dX11_size_4 f_11_67 lay_2 rfl ?_
  refine sx_if_ne (pc := 7) (tgt := 13) dX11_size_7 (by decide) (fun c1 => ?_) (fun c1 => ?_)
  · have h := sx_neg c1 h
    refine sx_iload_n (pc := 13) dX11_size_13 sx_m1 ?_
    refine sx_iconst (pc := 14) (v := 4) dX11_size_14 (by decide) ?_
    refine sx_icmp_lt (pc := 15) (tgt := 24) dX11_size_15 (by decide) (fun c2 => ?_) (fun c2 => ?_)
    · have h := sx_pos c2 h
      refine sx_bipush (pc := 24) (v := (-2)) dX11_size_24 (by decide) ?_
      exact sv_iret (pc := 26) dX11_size_26 rfl h hP
    · have h := sx_neg c2 h
      refine sx_iload_n (pc := 18) dX11_size_18 sx_m1 ?_
      refine sx_bipush (pc := 19) (v := 48) dX11_size_19 (by decide) ?_
      refine sx_icmp_le (pc := 21) (tgt := 27) dX11_size_21 (by decide) (fun c3 => ?_) (fun c3 => ?_)
      · have h := sx_pos c3 h
        refine sx_aload_n (pc := 27) dX11_size_27 sx_m0 ?_
        refine sv_getO (pc := 28) hG dX11_size_28 f_11_37 lay_0 rfl cr_0_4 ?_
        refine sx_iload_n (pc := 31) dX11_size_31 sx_m1 ?_
        obtain ⟨⟨x6, V4⟩, g5, h⟩ := sx_bnd h
        refine sv_cV (pc := 32) (y := qX6_setSize) (o := (some (.int x6))) (as := [.int l1]) (V1 := V4) hG dX11_size_32 l_X11_134 y0X6_setSize yvX6_setSize rfl (Nat.le_of_ble_eq_true rfl) lay_30 kr_6 (by decide) (Nat.le_of_ble_eq_true rfl) rfl rfl rfl (t_X6_setSize hG ⟨rfl, rfl⟩ g5) ?_
        exact sv_iret (pc := 35) dX11_size_35 rfl h hP
      · have h := sx_neg c3 h
        refine sx_bipush (pc := 24) (v := (-2)) dX11_size_24 (by decide) ?_
        exact sv_iret (pc := 26) dX11_size_26 rfl h hP
  · have h := sx_pos c1 h
    refine sx_bipush (pc := 10) (v := (-3)) dX11_size_10 (by decide) ?_
    exact sv_iret (pc := 12) dX11_size_12 rfl h hP
theorem dX12_perform_0 : decode cX12_perform 0 = .ok (.iload_n 1, 1) := by decide +kernel
theorem dX12_perform_1 : decode cX12_perform 1 = .ok (.sipush 192, 3) := by decide +kernel
theorem dX12_perform_4 : decode cX12_perform 4 = .ok (.if_icmp .lt 26, 3) := by decide +kernel
theorem dX12_perform_7 : decode cX12_perform 7 = .ok (.iload_n 1, 1) := by decide +kernel
theorem dX12_perform_8 : decode cX12_perform 8 = .ok (.sipush 224, 3) := by decide +kernel
theorem dX12_perform_11 : decode cX12_perform 11 = .ok (.if_icmp .ge 11, 3) := by decide +kernel
theorem dX12_perform_14 : decode cX12_perform 14 = .ok (.aload_n 0, 1) := by decide +kernel
theorem dX12_perform_15 : decode cX12_perform 15 = .ok (.iload_n 1, 1) := by decide +kernel
theorem dX12_perform_16 : decode cX12_perform 16 = .ok (.invokevirtual 545, 3) := by decide +kernel
theorem dX12_perform_19 : decode cX12_perform 19 = .ok (.goto 94, 3) := by decide +kernel
theorem dX12_perform_22 : decode cX12_perform 22 = .ok (.aload_n 0, 1) := by decide +kernel
theorem dX12_perform_23 : decode cX12_perform 23 = .ok (.iload_n 1, 1) := by decide +kernel
theorem dX12_perform_24 : decode cX12_perform 24 = .ok (.invokevirtual 548, 3) := by decide +kernel
theorem dX12_perform_27 : decode cX12_perform 27 = .ok (.goto 86, 3) := by decide +kernel
theorem dX12_perform_30 : decode cX12_perform 30 = .ok (.iload_n 1, 1) := by decide +kernel
theorem dX12_perform_31 : decode cX12_perform 31 = .ok (.sipush 176, 3) := by decide +kernel
theorem dX12_perform_34 : decode cX12_perform 34 = .ok (.if_icmp .lt 46, 3) := by decide +kernel
theorem dX12_perform_37 : decode cX12_perform 37 = .ok (.aload_n 0, 1) := by decide +kernel
theorem dX12_perform_38 : decode cX12_perform 38 = .ok (.iload_n 1, 1) := by decide +kernel
theorem dX12_perform_39 : decode cX12_perform 39 = .ok (.sipush 184, 3) := by decide +kernel
theorem dX12_perform_42 : decode cX12_perform 42 = .ok (.if_icmp .lt 11, 3) := by decide +kernel
theorem dX12_perform_45 : decode cX12_perform 45 = .ok (.iload_n 1, 1) := by decide +kernel
theorem dX12_perform_46 : decode cX12_perform 46 = .ok (.sipush 183, 3) := by decide +kernel
theorem dX12_perform_49 : decode cX12_perform 49 = .ok (.isub, 1) := by decide +kernel
theorem dX12_perform_50 : decode cX12_perform 50 = .ok (.goto 8, 3) := by decide +kernel
theorem dX12_perform_53 : decode cX12_perform 53 = .ok (.iload_n 1, 1) := by decide +kernel
theorem dX12_perform_54 : decode cX12_perform 54 = .ok (.sipush 175, 3) := by decide +kernel
theorem dX12_perform_57 : decode cX12_perform 57 = .ok (.isub, 1) := by decide +kernel
theorem dX12_perform_58 : decode cX12_perform 58 = .ok (.iload_n 1, 1) := by decide +kernel
theorem dX12_perform_59 : decode cX12_perform 59 = .ok (.sipush 184, 3) := by decide +kernel
theorem dX12_perform_62 : decode cX12_perform 62 = .ok (.if_icmp .lt 7, 3) := by decide +kernel
theorem dX12_perform_65 : decode cX12_perform 65 = .ok (.iconst 1, 1) := by decide +kernel
theorem dX12_perform_66 : decode cX12_perform 66 = .ok (.goto 4, 3) := by decide +kernel
theorem dX12_perform_69 : decode cX12_perform 69 = .ok (.iconst 0, 1) := by decide +kernel
theorem dX12_perform_70 : decode cX12_perform 70 = .ok (.aload_n 0, 1) := by decide +kernel
theorem dX12_perform_71 : decode cX12_perform 71 = .ok (.getfield 496, 3) := by decide +kernel
theorem dX12_perform_74 : decode cX12_perform 74 = .ok (.invokevirtual 551, 3) := by decide +kernel
theorem dX12_perform_77 : decode cX12_perform 77 = .ok (.goto 36, 3) := by decide +kernel
theorem dX12_perform_80 : decode cX12_perform 80 = .ok (.iload_n 1, 1) := by decide +kernel
theorem dX12_perform_81 : decode cX12_perform 81 = .ok (.bipush 48, 2) := by decide +kernel
theorem dX12_perform_83 : decode cX12_perform 83 = .ok (.if_icmp .ge 11, 3) := by decide +kernel
theorem dX12_perform_86 : decode cX12_perform 86 = .ok (.aload_n 0, 1) := by decide +kernel
theorem dX12_perform_87 : decode cX12_perform 87 = .ok (.iload_n 1, 1) := by decide +kernel
theorem dX12_perform_88 : decode cX12_perform 88 = .ok (.invokevirtual 555, 3) := by decide +kernel
theorem dX12_perform_91 : decode cX12_perform 91 = .ok (.goto 22, 3) := by decide +kernel
theorem dX12_perform_94 : decode cX12_perform 94 = .ok (.iload_n 1, 1) := by decide +kernel
theorem dX12_perform_95 : decode cX12_perform 95 = .ok (.bipush 96, 2) := by decide +kernel
theorem dX12_perform_97 : decode cX12_perform 97 = .ok (.if_icmp .ge 11, 3) := by decide +kernel
theorem dX12_perform_100 : decode cX12_perform 100 = .ok (.aload_n 0, 1) := by decide +kernel
theorem dX12_perform_101 : decode cX12_perform 101 = .ok (.iload_n 1, 1) := by decide +kernel
theorem dX12_perform_102 : decode cX12_perform 102 = .ok (.invokevirtual 558, 3) := by decide +kernel
theorem dX12_perform_105 : decode cX12_perform 105 = .ok (.goto 8, 3) := by decide +kernel
theorem dX12_perform_108 : decode cX12_perform 108 = .ok (.aload_n 0, 1) := by decide +kernel
theorem dX12_perform_109 : decode cX12_perform 109 = .ok (.iload_n 1, 1) := by decide +kernel
theorem dX12_perform_110 : decode cX12_perform 110 = .ok (.invokevirtual 561, 3) := by decide +kernel
theorem dX12_perform_113 : decode cX12_perform 113 = .ok (.return_, 1) := by decide +kernel
def B_X12_perform_70 (N : Nat)  (s1 : Int32) (s2 : Int32) (V : sv_V) : Option sv_V := (F_X12_pushBytes N s1 s2 (V.1 146 93) V).bind (fun V1 => some V1)
set_option maxRecDepth 20000 in
theorem tB_X12_perform_70 {g : sx_G} (hG : sx_Go g) {P : Option Value → sv_V → Prop} {Vr : sv_V} (hP : P none Vr) {N : Nat}   {s1 : Int32} {s2 : Int32} {V : sv_V} (h : B_X12_perform_70 N  s1 s2 V = some Vr) : sv_N g qX12_perform 8 70 [(0, .ref 146)] [.int s2, .int s1, .ref 146] V P := by
  unfold B_X12_perform_70 at h
  refine sx_aload_n (pc := 70) dX12_perform_70 sx_m0 ?_
  refine sv_getI (pc := 71) hG dX12_perform_71 f_12_496 lay_146 rfl ?_
  obtain ⟨V1, g2, h⟩ := sx_bnd h
  refine sv_cV (pc := 74) (y := qX12_pushBytes) (o := none) (as := [.int s1, .int s2, .int (V.1 146 93)]) (V1 := V1) hG dX12_perform_74 l_X12_551 y0X12_pushBytes yvX12_pushBytes rfl (Nat.le_of_ble_eq_true rfl) lay_146 kr_12 (by decide) (Nat.le_of_ble_eq_true rfl) rfl rfl rfl (t_X12_pushBytes hG ⟨rfl, rfl⟩ g2) ?_
  refine sx_goto (pc := 77) (tgt := 113) dX12_perform_77 (by decide) ?_
  exact sv_vret (pc := 113) dX12_perform_113 rfl h hP
def B_X12_perform_58 (N : Nat)  (l1 : Int32) (s1 : Int32) (V : sv_V) : Option sv_V := if l1 < (184 : Int32) then (B_X12_perform_70 N  s1 (0 : Int32) V) else (B_X12_perform_70 N  s1 (1 : Int32) V)
set_option maxRecDepth 20000 in
theorem tB_X12_perform_58 {g : sx_G} (hG : sx_Go g) {P : Option Value → sv_V → Prop} {Vr : sv_V} (hP : P none Vr) {N : Nat}   {l1 : Int32} {s1 : Int32} {V : sv_V} (h : B_X12_perform_58 N  l1 s1 V = some Vr) : sv_N g qX12_perform 8 58 [(0, .ref 146), (1, .int l1)] [.int s1, .ref 146] V P := by
  unfold B_X12_perform_58 at h
  refine sx_iload_n (pc := 58) dX12_perform_58 sx_m1 ?_
  refine sx_sipush (pc := 59) (v := 184) dX12_perform_59 (by decide) ?_
  refine sx_icmp_lt (pc := 62) (tgt := 69) dX12_perform_62 (by decide) (fun c3 => ?_) (fun c3 => ?_)
  · have h := sx_pos c3 h
    refine sx_iconst (pc := 69) (v := 0) dX12_perform_69 (by decide) ?_
    refine sx_wk (sx_s1 sx_m0 sx_s0) ?_
    exact tB_X12_perform_70 hG hP  h
  · have h := sx_neg c3 h
    refine sx_iconst (pc := 65) (v := 1) dX12_perform_65 (by decide) ?_
    refine sx_goto (pc := 66) (tgt := 70) dX12_perform_66 (by decide) ?_
    refine sx_wk (sx_s1 sx_m0 sx_s0) ?_
    exact tB_X12_perform_70 hG hP  h
def F_X12_perform (N : Nat) (l1 : Int32) (V : sv_V) : Option sv_V := if l1 < (192 : Int32) then (if l1 < (176 : Int32) then (if (48 : Int32) ≤ l1 then (if (96 : Int32) ≤ l1 then ((F_X12_high N l1 V).bind (fun V8 => some V8)) else ((F_X12_middle N l1 V).bind (fun V10 => some V10))) else ((F_X12_low N l1 V).bind (fun V12 => some V12))) else (if l1 < (184 : Int32) then (B_X12_perform_58 N  l1 (l1 - (175 : Int32)) V) else (B_X12_perform_58 N  l1 (l1 - (183 : Int32)) V))) else (if (224 : Int32) ≤ l1 then ((F_X12_indirect l1 V).bind (fun V16 => some V16)) else ((F_X12_relative l1 V).bind (fun V18 => some V18)))
set_option maxRecDepth 20000 in
theorem t_X12_perform {g : sx_G} (hG : sx_Go g) {P : Option Value → sv_V → Prop} {Vr : sv_V} (hP : P none Vr) {N : Nat} {l1 : Int32} {V : sv_V} (h : F_X12_perform N l1 V = some Vr) : sv_N g qX12_perform 8 0 [(0, .ref 146), (1, .int l1)] [] V P := by
  unfold F_X12_perform at h
  refine sx_iload_n (pc := 0) dX12_perform_0 sx_m1 ?_
  refine sx_sipush (pc := 1) (v := 192) dX12_perform_1 (by decide) ?_
  refine sx_icmp_lt (pc := 4) (tgt := 30) dX12_perform_4 (by decide) (fun c4 => ?_) (fun c4 => ?_)
  · have h := sx_pos c4 h
    refine sx_iload_n (pc := 30) dX12_perform_30 sx_m1 ?_
    refine sx_sipush (pc := 31) (v := 176) dX12_perform_31 (by decide) ?_
    refine sx_icmp_lt (pc := 34) (tgt := 80) dX12_perform_34 (by decide) (fun c5 => ?_) (fun c5 => ?_)
    · have h := sx_pos c5 h
      refine sx_iload_n (pc := 80) dX12_perform_80 sx_m1 ?_
      refine sx_bipush (pc := 81) (v := 48) dX12_perform_81 (by decide) ?_
      refine sx_icmp_ge (pc := 83) (tgt := 94) dX12_perform_83 (by decide) (fun c6 => ?_) (fun c6 => ?_)
      · have h := sx_pos c6 h
        refine sx_iload_n (pc := 94) dX12_perform_94 sx_m1 ?_
        refine sx_bipush (pc := 95) (v := 96) dX12_perform_95 (by decide) ?_
        refine sx_icmp_ge (pc := 97) (tgt := 108) dX12_perform_97 (by decide) (fun c7 => ?_) (fun c7 => ?_)
        · have h := sx_pos c7 h
          refine sx_aload_n (pc := 108) dX12_perform_108 sx_m0 ?_
          refine sx_iload_n (pc := 109) dX12_perform_109 sx_m1 ?_
          obtain ⟨V8, g9, h⟩ := sx_bnd h
          refine sv_cV (pc := 110) (y := qX12_high) (o := none) (as := [.int l1]) (V1 := V8) hG dX12_perform_110 l_X12_561 y0X12_high yvX12_high rfl (Nat.le_of_ble_eq_true rfl) lay_146 kr_12 (by decide) (Nat.le_of_ble_eq_true rfl) rfl rfl rfl (t_X12_high hG ⟨rfl, rfl⟩ g9) ?_
          exact sv_vret (pc := 113) dX12_perform_113 rfl h hP
        · have h := sx_neg c7 h
          refine sx_aload_n (pc := 100) dX12_perform_100 sx_m0 ?_
          refine sx_iload_n (pc := 101) dX12_perform_101 sx_m1 ?_
          obtain ⟨V10, g11, h⟩ := sx_bnd h
          refine sv_cV (pc := 102) (y := qX12_middle) (o := none) (as := [.int l1]) (V1 := V10) hG dX12_perform_102 l_X12_558 y0X12_middle yvX12_middle rfl (Nat.le_of_ble_eq_true rfl) lay_146 kr_12 (by decide) (Nat.le_of_ble_eq_true rfl) rfl rfl rfl (t_X12_middle hG ⟨rfl, rfl⟩ g11) ?_
          refine sx_goto (pc := 105) (tgt := 113) dX12_perform_105 (by decide) ?_
          exact sv_vret (pc := 113) dX12_perform_113 rfl h hP
      · have h := sx_neg c6 h
        refine sx_aload_n (pc := 86) dX12_perform_86 sx_m0 ?_
        refine sx_iload_n (pc := 87) dX12_perform_87 sx_m1 ?_
        obtain ⟨V12, g13, h⟩ := sx_bnd h
        refine sv_cV (pc := 88) (y := qX12_low) (o := none) (as := [.int l1]) (V1 := V12) hG dX12_perform_88 l_X12_555 y0X12_low yvX12_low rfl (Nat.le_of_ble_eq_true rfl) lay_146 kr_12 (by decide) (Nat.le_of_ble_eq_true rfl) rfl rfl rfl (t_X12_low hG ⟨rfl, rfl⟩ g13) ?_
        refine sx_goto (pc := 91) (tgt := 113) dX12_perform_91 (by decide) ?_
        exact sv_vret (pc := 113) dX12_perform_113 rfl h hP
    · have h := sx_neg c5 h
      refine sx_aload_n (pc := 37) dX12_perform_37 sx_m0 ?_
      refine sx_iload_n (pc := 38) dX12_perform_38 sx_m1 ?_
      refine sx_sipush (pc := 39) (v := 184) dX12_perform_39 (by decide) ?_
      refine sx_icmp_lt (pc := 42) (tgt := 53) dX12_perform_42 (by decide) (fun c14 => ?_) (fun c14 => ?_)
      · have h := sx_pos c14 h
        refine sx_iload_n (pc := 53) dX12_perform_53 sx_m1 ?_
        refine sx_sipush (pc := 54) (v := 175) dX12_perform_54 (by decide) ?_
        refine sx_isub (pc := 57) dX12_perform_57 ?_
        refine sx_wk (sx_s1 sx_m0 (sx_s1 sx_m1 sx_s0)) ?_
        exact tB_X12_perform_58 hG hP  h
      · have h := sx_neg c14 h
        refine sx_iload_n (pc := 45) dX12_perform_45 sx_m1 ?_
        refine sx_sipush (pc := 46) (v := 183) dX12_perform_46 (by decide) ?_
        refine sx_isub (pc := 49) dX12_perform_49 ?_
        refine sx_goto (pc := 50) (tgt := 58) dX12_perform_50 (by decide) ?_
        refine sx_wk (sx_s1 sx_m0 (sx_s1 sx_m1 sx_s0)) ?_
        exact tB_X12_perform_58 hG hP  h
  · have h := sx_neg c4 h
    refine sx_iload_n (pc := 7) dX12_perform_7 sx_m1 ?_
    refine sx_sipush (pc := 8) (v := 224) dX12_perform_8 (by decide) ?_
    refine sx_icmp_ge (pc := 11) (tgt := 22) dX12_perform_11 (by decide) (fun c15 => ?_) (fun c15 => ?_)
    · have h := sx_pos c15 h
      refine sx_aload_n (pc := 22) dX12_perform_22 sx_m0 ?_
      refine sx_iload_n (pc := 23) dX12_perform_23 sx_m1 ?_
      obtain ⟨V16, g17, h⟩ := sx_bnd h
      refine sv_cV (pc := 24) (y := qX12_indirect) (o := none) (as := [.int l1]) (V1 := V16) hG dX12_perform_24 l_X12_548 y0X12_indirect yvX12_indirect rfl (Nat.le_of_ble_eq_true rfl) lay_146 kr_12 (by decide) (Nat.le_of_ble_eq_true rfl) rfl rfl rfl (t_X12_indirect hG ⟨rfl, rfl⟩ g17) ?_
      refine sx_goto (pc := 27) (tgt := 113) dX12_perform_27 (by decide) ?_
      exact sv_vret (pc := 113) dX12_perform_113 rfl h hP
    · have h := sx_neg c15 h
      refine sx_aload_n (pc := 14) dX12_perform_14 sx_m0 ?_
      refine sx_iload_n (pc := 15) dX12_perform_15 sx_m1 ?_
      obtain ⟨V18, g19, h⟩ := sx_bnd h
      refine sv_cV (pc := 16) (y := qX12_relative) (o := none) (as := [.int l1]) (V1 := V18) hG dX12_perform_16 l_X12_545 y0X12_relative yvX12_relative rfl (Nat.le_of_ble_eq_true rfl) lay_146 kr_12 (by decide) (Nat.le_of_ble_eq_true rfl) rfl rfl rfl (t_X12_relative hG ⟨rfl, rfl⟩ g19) ?_
      refine sx_goto (pc := 19) (tgt := 113) dX12_perform_19 (by decide) ?_
      exact sv_vret (pc := 113) dX12_perform_113 rfl h hP
theorem dX6_makeGlyph_0 : decode cX6_makeGlyph 0 = .ok (.aload_n 0, 1) := by decide +kernel
theorem dX6_makeGlyph_1 : decode cX6_makeGlyph 1 = .ok (.iconst 0, 1) := by decide +kernel
theorem dX6_makeGlyph_2 : decode cX6_makeGlyph 2 = .ok (.putfield 58, 3) := by decide +kernel
theorem dX6_makeGlyph_5 : decode cX6_makeGlyph 5 = .ok (.aload_n 0, 1) := by decide +kernel
theorem dX6_makeGlyph_6 : decode cX6_makeGlyph 6 = .ok (.iconst 0, 1) := by decide +kernel
theorem dX6_makeGlyph_7 : decode cX6_makeGlyph 7 = .ok (.putfield 101, 3) := by decide +kernel
theorem dX6_makeGlyph_10 : decode cX6_makeGlyph 10 = .ok (.aload_n 0, 1) := by decide +kernel
theorem dX6_makeGlyph_11 : decode cX6_makeGlyph 11 = .ok (.getfield 47, 3) := by decide +kernel
theorem dX6_makeGlyph_14 : decode cX6_makeGlyph 14 = .ok (.invokevirtual 104, 3) := by decide +kernel
theorem dX6_makeGlyph_17 : decode cX6_makeGlyph 17 = .ok (.aload_n 0, 1) := by decide +kernel
theorem dX6_makeGlyph_18 : decode cX6_makeGlyph 18 = .ok (.getfield 23, 3) := by decide +kernel
theorem dX6_makeGlyph_21 : decode cX6_makeGlyph 21 = .ok (.iconst 0, 1) := by decide +kernel
theorem dX6_makeGlyph_22 : decode cX6_makeGlyph 22 = .ok (.aaload, 1) := by decide +kernel
theorem dX6_makeGlyph_23 : decode cX6_makeGlyph 23 = .ok (.astore_n 2, 1) := by decide +kernel
theorem dX6_makeGlyph_24 : decode cX6_makeGlyph 24 = .ok (.aload_n 0, 1) := by decide +kernel
theorem dX6_makeGlyph_25 : decode cX6_makeGlyph 25 = .ok (.iload_n 1, 1) := by decide +kernel
theorem dX6_makeGlyph_26 : decode cX6_makeGlyph 26 = .ok (.iconst 0, 1) := by decide +kernel
theorem dX6_makeGlyph_27 : decode cX6_makeGlyph 27 = .ok (.invokevirtual 107, 3) := by decide +kernel
theorem dX6_makeGlyph_30 : decode cX6_makeGlyph 30 = .ok (.ifCond .eq 76, 3) := by decide +kernel
theorem dX6_makeGlyph_33 : decode cX6_makeGlyph 33 = .ok (.aload_n 0, 1) := by decide +kernel
theorem dX6_makeGlyph_34 : decode cX6_makeGlyph 34 = .ok (.aload_n 0, 1) := by decide +kernel
theorem dX6_makeGlyph_35 : decode cX6_makeGlyph 35 = .ok (.getfield 34, 3) := by decide +kernel
theorem dX6_makeGlyph_38 : decode cX6_makeGlyph 38 = .ok (.getfield 111, 3) := by decide +kernel
theorem dX6_makeGlyph_41 : decode cX6_makeGlyph 41 = .ok (.bipush 7, 2) := by decide +kernel
theorem dX6_makeGlyph_43 : decode cX6_makeGlyph 43 = .ok (.aaload, 1) := by decide +kernel
theorem dX6_makeGlyph_44 : decode cX6_makeGlyph 44 = .ok (.iload_n 1, 1) := by decide +kernel
theorem dX6_makeGlyph_45 : decode cX6_makeGlyph 45 = .ok (.iaload, 1) := by decide +kernel
theorem dX6_makeGlyph_46 : decode cX6_makeGlyph 46 = .ok (.ifCond .le 7, 3) := by decide +kernel
theorem dX6_makeGlyph_49 : decode cX6_makeGlyph 49 = .ok (.iconst 1, 1) := by decide +kernel
theorem dX6_makeGlyph_50 : decode cX6_makeGlyph 50 = .ok (.goto 4, 3) := by decide +kernel
theorem dX6_makeGlyph_53 : decode cX6_makeGlyph 53 = .ok (.iconst 0, 1) := by decide +kernel
theorem dX6_makeGlyph_54 : decode cX6_makeGlyph 54 = .ok (.putfield 65, 3) := by decide +kernel
theorem dX6_makeGlyph_57 : decode cX6_makeGlyph 57 = .ok (.aload_n 0, 1) := by decide +kernel
theorem dX6_makeGlyph_58 : decode cX6_makeGlyph 58 = .ok (.aload_n 2, 1) := by decide +kernel
theorem dX6_makeGlyph_59 : decode cX6_makeGlyph 59 = .ok (.getfield 115, 3) := by decide +kernel
theorem dX6_makeGlyph_62 : decode cX6_makeGlyph 62 = .ok (.iconst 1, 1) := by decide +kernel
theorem dX6_makeGlyph_63 : decode cX6_makeGlyph 63 = .ok (.iaload, 1) := by decide +kernel
theorem dX6_makeGlyph_64 : decode cX6_makeGlyph 64 = .ok (.aload_n 2, 1) := by decide +kernel
theorem dX6_makeGlyph_65 : decode cX6_makeGlyph 65 = .ok (.getfield 115, 3) := by decide +kernel
theorem dX6_makeGlyph_68 : decode cX6_makeGlyph 68 = .ok (.iconst 0, 1) := by decide +kernel
theorem dX6_makeGlyph_69 : decode cX6_makeGlyph 69 = .ok (.iaload, 1) := by decide +kernel
theorem dX6_makeGlyph_70 : decode cX6_makeGlyph 70 = .ok (.isub, 1) := by decide +kernel
theorem dX6_makeGlyph_71 : decode cX6_makeGlyph 71 = .ok (.putfield 118, 3) := by decide +kernel
theorem dX6_makeGlyph_74 : decode cX6_makeGlyph 74 = .ok (.aload_n 2, 1) := by decide +kernel
theorem dX6_makeGlyph_75 : decode cX6_makeGlyph 75 = .ok (.iconst 0, 1) := by decide +kernel
theorem dX6_makeGlyph_76 : decode cX6_makeGlyph 76 = .ok (.aload_n 2, 1) := by decide +kernel
theorem dX6_makeGlyph_77 : decode cX6_makeGlyph 77 = .ok (.getfield 115, 3) := by decide +kernel
theorem dX6_makeGlyph_80 : decode cX6_makeGlyph 80 = .ok (.iconst 0, 1) := by decide +kernel
theorem dX6_makeGlyph_81 : decode cX6_makeGlyph 81 = .ok (.iaload, 1) := by decide +kernel
theorem dX6_makeGlyph_82 : decode cX6_makeGlyph 82 = .ok (.ineg, 1) := by decide +kernel
theorem dX6_makeGlyph_83 : decode cX6_makeGlyph 83 = .ok (.iconst 0, 1) := by decide +kernel
theorem dX6_makeGlyph_84 : decode cX6_makeGlyph 84 = .ok (.invokevirtual 121, 3) := by decide +kernel
theorem dX6_makeGlyph_87 : decode cX6_makeGlyph 87 = .ok (.aload_n 2, 1) := by decide +kernel
theorem dX6_makeGlyph_88 : decode cX6_makeGlyph 88 = .ok (.sipush 4096, 3) := by decide +kernel
theorem dX6_makeGlyph_91 : decode cX6_makeGlyph 91 = .ok (.invokevirtual 125, 3) := by decide +kernel
theorem dX6_makeGlyph_94 : decode cX6_makeGlyph 94 = .ok (.ifCond .ne 12, 3) := by decide +kernel
theorem dX6_makeGlyph_97 : decode cX6_makeGlyph 97 = .ok (.aload_n 0, 1) := by decide +kernel
theorem dX6_makeGlyph_98 : decode cX6_makeGlyph 98 = .ok (.getfield 47, 3) := by decide +kernel
theorem dX6_makeGlyph_101 : decode cX6_makeGlyph 101 = .ok (.bipush 13, 2) := by decide +kernel
theorem dX6_makeGlyph_103 : decode cX6_makeGlyph 103 = .ok (.invokevirtual 129, 3) := by decide +kernel
theorem dX6_makeGlyph_106 : decode cX6_makeGlyph 106 = .ok (.aload_n 0, 1) := by decide +kernel
theorem dX6_makeGlyph_107 : decode cX6_makeGlyph 107 = .ok (.getfield 47, 3) := by decide +kernel
theorem dX6_makeGlyph_110 : decode cX6_makeGlyph 110 = .ok (.getfield 92, 3) := by decide +kernel
theorem dX6_makeGlyph_113 : decode cX6_makeGlyph 113 = .ok (.ifCond .eq 24, 3) := by decide +kernel
theorem dX6_makeGlyph_116 : decode cX6_makeGlyph 116 = .ok (.aload_n 0, 1) := by decide +kernel
theorem dX6_makeGlyph_117 : decode cX6_makeGlyph 117 = .ok (.dup, 1) := by decide +kernel
theorem dX6_makeGlyph_118 : decode cX6_makeGlyph 118 = .ok (.getfield 95, 3) := by decide +kernel
theorem dX6_makeGlyph_121 : decode cX6_makeGlyph 121 = .ok (.iconst 1, 1) := by decide +kernel
theorem dX6_makeGlyph_122 : decode cX6_makeGlyph 122 = .ok (.iadd, 1) := by decide +kernel
theorem dX6_makeGlyph_123 : decode cX6_makeGlyph 123 = .ok (.putfield 95, 3) := by decide +kernel
theorem dX6_makeGlyph_126 : decode cX6_makeGlyph 126 = .ok (.bipush (-100), 2) := by decide +kernel
theorem dX6_makeGlyph_128 : decode cX6_makeGlyph 128 = .ok (.aload_n 0, 1) := by decide +kernel
theorem dX6_makeGlyph_129 : decode cX6_makeGlyph 129 = .ok (.getfield 47, 3) := by decide +kernel
theorem dX6_makeGlyph_132 : decode cX6_makeGlyph 132 = .ok (.getfield 92, 3) := by decide +kernel
theorem dX6_makeGlyph_135 : decode cX6_makeGlyph 135 = .ok (.isub, 1) := by decide +kernel
theorem dX6_makeGlyph_136 : decode cX6_makeGlyph 136 = .ok (.ireturn, 1) := by decide +kernel
theorem dX6_makeGlyph_137 : decode cX6_makeGlyph 137 = .ok (.aload_n 0, 1) := by decide +kernel
theorem dX6_makeGlyph_138 : decode cX6_makeGlyph 138 = .ok (.iconst 1, 1) := by decide +kernel
theorem dX6_makeGlyph_139 : decode cX6_makeGlyph 139 = .ok (.putfield 58, 3) := by decide +kernel
theorem dX6_makeGlyph_142 : decode cX6_makeGlyph 142 = .ok (.aload_n 0, 1) := by decide +kernel
theorem dX6_makeGlyph_143 : decode cX6_makeGlyph 143 = .ok (.getfield 30, 3) := by decide +kernel
theorem dX6_makeGlyph_146 : decode cX6_makeGlyph 146 = .ok (.aload_n 2, 1) := by decide +kernel
theorem dX6_makeGlyph_147 : decode cX6_makeGlyph 147 = .ok (.invokevirtual 132, 3) := by decide +kernel
theorem dX6_makeGlyph_150 : decode cX6_makeGlyph 150 = .ok (.aload_n 2, 1) := by decide +kernel
theorem dX6_makeGlyph_151 : decode cX6_makeGlyph 151 = .ok (.getfield 136, 3) := by decide +kernel
theorem dX6_makeGlyph_154 : decode cX6_makeGlyph 154 = .ok (.ireturn, 1) := by decide +kernel
def B_X6_makeGlyph_106 (N : Nat)  (l2 : Nat) (V : sv_V) : Option (Int32 × sv_V) := if (V.1 69 14) = 0 then (sx_let (sv_I V 30 8 (1 : Int32)) (fun V2 => (F_X10_trace N l2 V2).bind (fun V3 => if lay l2 = .inl 8 then some (V3.1 l2 9, V3) else none))) else (sx_let (sv_I V 30 11 ((V.1 30 11) + (1 : Int32))) (fun V6 => some ((-100 : Int32) - (V6.1 69 14), V6)))
set_option maxRecDepth 20000 in
theorem tB_X6_makeGlyph_106 {g : sx_G} (hG : sx_Go g) {P : Option Value → sv_V → Prop} {r : Int32} {Vr : sv_V} (hP : P (some (.int r)) Vr) {N : Nat}   {l2 : Nat} {V : sv_V} (h : B_X6_makeGlyph_106 N  l2 V = some (r, Vr)) : sv_N g qX6_makeGlyph 47 106 [(0, .ref 30), (2, .ref l2)] [] V P := by
  unfold B_X6_makeGlyph_106 at h
  refine sx_aload_n (pc := 106) dX6_makeGlyph_106 sx_m0 ?_
  refine sv_getO (pc := 107) hG dX6_makeGlyph_107 f_6_47 lay_30 rfl cr_30_2 ?_
  refine sv_getI (pc := 110) hG dX6_makeGlyph_110 f_6_92 lay_69 rfl ?_
  refine sx_if_eq (pc := 113) (tgt := 137) dX6_makeGlyph_113 (by decide) (fun c1 => ?_) (fun c1 => ?_)
  · have h := sx_pos c1 h
    refine sx_aload_n (pc := 137) dX6_makeGlyph_137 sx_m0 ?_
    refine sx_iconst (pc := 138) (v := 1) dX6_makeGlyph_138 (by decide) ?_
    obtain ⟨V2, hV2⟩ : ∃ z : sv_V, z = sv_I V 30 8 (1 : Int32) := ⟨_, rfl⟩
    have h := sx_letE hV2 h
    refine sv_putZ (pc := 139) hG dX6_makeGlyph_139 f_6_58 lay_30 rfl rfl hV2 ?_
    refine sx_aload_n (pc := 142) dX6_makeGlyph_142 sx_m0 ?_
    refine sv_getO (pc := 143) hG dX6_makeGlyph_143 f_6_30 lay_30 rfl cr_30_6 ?_
    refine sx_aload_n (pc := 146) dX6_makeGlyph_146 sx_m1 ?_
    obtain ⟨V3, g4, h⟩ := sx_bnd h
    refine sv_cV (pc := 147) (y := qX10_trace) (o := none) (as := [.ref l2]) (V1 := V3) hG dX6_makeGlyph_147 l_X6_132 y0X10_trace yvX10_trace rfl (Nat.le_of_ble_eq_true rfl) lay_60 kr_10 (by decide) (Nat.le_of_ble_eq_true rfl) rfl rfl rfl (t_X10_trace hG ⟨rfl, rfl⟩ g4) ?_
    refine sx_aload_n (pc := 150) dX6_makeGlyph_150 sx_m1 ?_
    obtain ⟨g5, h⟩ := sx_grd h
    refine sv_getI (pc := 151) hG dX6_makeGlyph_151 f_6_136 g5 rfl ?_
    exact sv_iret (pc := 154) dX6_makeGlyph_154 rfl h hP
  · have h := sx_neg c1 h
    refine sx_aload_n (pc := 116) dX6_makeGlyph_116 sx_m0 ?_
    refine sx_dup (pc := 117) dX6_makeGlyph_117 rfl ?_
    refine sv_getI (pc := 118) hG dX6_makeGlyph_118 f_6_95 lay_30 rfl ?_
    refine sx_iconst (pc := 121) (v := 1) dX6_makeGlyph_121 (by decide) ?_
    refine sx_iadd (pc := 122) dX6_makeGlyph_122 ?_
    obtain ⟨V6, hV6⟩ : ∃ z : sv_V, z = sv_I V 30 11 ((V.1 30 11) + (1 : Int32)) := ⟨_, rfl⟩
    have h := sx_letE hV6 h
    refine sv_putI (pc := 123) hG dX6_makeGlyph_123 f_6_95 lay_30 rfl hV6 ?_
    refine sx_bipush (pc := 126) (v := (-100)) dX6_makeGlyph_126 (by decide) ?_
    refine sx_aload_n (pc := 128) dX6_makeGlyph_128 sx_m0 ?_
    refine sv_getO (pc := 129) hG dX6_makeGlyph_129 f_6_47 lay_30 rfl cr_30_2 ?_
    refine sv_getI (pc := 132) hG dX6_makeGlyph_132 f_6_92 lay_69 rfl ?_
    refine sx_isub (pc := 135) dX6_makeGlyph_135 ?_
    exact sv_iret (pc := 136) dX6_makeGlyph_136 rfl h hP
def B_X6_makeGlyph_54 (N : Nat)  (l2 : Nat) (s1 : Int32) (V : sv_V) : Option (Int32 × sv_V) := if sv_bl s1 = true then sx_let (sv_I V 30 9 s1) (fun V8 => if lay l2 = .inl 8 then (cr l2 7).bind (fun b10 => (sv_len 0 b10).bind (fun n12 => if sx_in (1 : Int32) n12 = true then if sx_in (0 : Int32) n12 = true then sx_let (sv_I V8 30 10 ((V8.1 b10 (1 : Int32).toNatClampNeg) - (V8.1 b10 (0 : Int32).toNatClampNeg))) (fun V16 => if sx_in (0 : Int32) n12 = true then (F_X8_shift N l2 (0 : Int32) (-(V16.1 b10 (0 : Int32).toNatClampNeg)) (0 : Int32) V16).bind (fun V18 => (F_X8_liesWithin N l2 (4096 : Int32) V18).bind (fun (x22, V20) => if x22 = 0 then ((F_X5_failOutside (13 : Int32) V20).bind (fun V24 => B_X6_makeGlyph_106 N  l2 V24)) else (B_X6_makeGlyph_106 N  l2 V20))) else none) else none else none)) else none) else none
set_option maxRecDepth 20000 in
theorem tB_X6_makeGlyph_54 {g : sx_G} (hG : sx_Go g) {P : Option Value → sv_V → Prop} {r : Int32} {Vr : sv_V} (hP : P (some (.int r)) Vr) {N : Nat}   {l2 : Nat} {s1 : Int32} {V : sv_V} (h : B_X6_makeGlyph_54 N  l2 s1 V = some (r, Vr)) : sv_N g qX6_makeGlyph 47 54 [(0, .ref 30), (2, .ref l2)] [.int s1, .ref 30] V P := by
  unfold B_X6_makeGlyph_54 at h
  obtain ⟨g7, h⟩ := sx_grd h
  obtain ⟨V8, hV8⟩ : ∃ z : sv_V, z = sv_I V 30 9 s1 := ⟨_, rfl⟩
  have h := sx_letE hV8 h
  refine sv_putZ (pc := 54) hG dX6_makeGlyph_54 f_6_65 lay_30 rfl g7 hV8 ?_
  refine sx_aload_n (pc := 57) dX6_makeGlyph_57 sx_m0 ?_
  refine sx_aload_n (pc := 58) dX6_makeGlyph_58 sx_m1 ?_
  obtain ⟨g9, h⟩ := sx_grd h
  obtain ⟨b10, g11, h⟩ := sx_bnd h
  refine sv_getA (pc := 59) hG dX6_makeGlyph_59 f_6_115 g9 rfl g11 ?_
  refine sx_iconst (pc := 62) (v := 1) dX6_makeGlyph_62 (by decide) ?_
  obtain ⟨n12, g13, h⟩ := sx_bnd h
  obtain ⟨g14, h⟩ := sx_grd h
  refine sv_iald (pc := 63) hG dX6_makeGlyph_63 (sv_len_e g13) g14 ?_
  refine sx_aload_n (pc := 64) dX6_makeGlyph_64 sx_m1 ?_
  refine sv_getA (pc := 65) hG dX6_makeGlyph_65 f_6_115 g9 rfl g11 ?_
  refine sx_iconst (pc := 68) (v := 0) dX6_makeGlyph_68 (by decide) ?_
  obtain ⟨g15, h⟩ := sx_grd h
  refine sv_iald (pc := 69) hG dX6_makeGlyph_69 (sv_len_e g13) g15 ?_
  refine sx_isub (pc := 70) dX6_makeGlyph_70 ?_
  obtain ⟨V16, hV16⟩ : ∃ z : sv_V, z = sv_I V8 30 10 ((V8.1 b10 (1 : Int32).toNatClampNeg) - (V8.1 b10 (0 : Int32).toNatClampNeg)) := ⟨_, rfl⟩
  have h := sx_letE hV16 h
  refine sv_putI (pc := 71) hG dX6_makeGlyph_71 f_6_118 lay_30 rfl hV16 ?_
  refine sx_aload_n (pc := 74) dX6_makeGlyph_74 sx_m1 ?_
  refine sx_iconst (pc := 75) (v := 0) dX6_makeGlyph_75 (by decide) ?_
  refine sx_aload_n (pc := 76) dX6_makeGlyph_76 sx_m1 ?_
  refine sv_getA (pc := 77) hG dX6_makeGlyph_77 f_6_115 g9 rfl g11 ?_
  refine sx_iconst (pc := 80) (v := 0) dX6_makeGlyph_80 (by decide) ?_
  obtain ⟨g17, h⟩ := sx_grd h
  refine sv_iald (pc := 81) hG dX6_makeGlyph_81 (sv_len_e g13) g17 ?_
  refine sx_ineg (pc := 82) dX6_makeGlyph_82 ?_
  refine sx_iconst (pc := 83) (v := 0) dX6_makeGlyph_83 (by decide) ?_
  obtain ⟨V18, g19, h⟩ := sx_bnd h
  refine sv_cV (pc := 84) (y := qX8_shift) (o := none) (as := [.int (0 : Int32), .int (-(V16.1 b10 (0 : Int32).toNatClampNeg)), .int (0 : Int32)]) (V1 := V18) hG dX6_makeGlyph_84 l_X6_121 y0X8_shift yvX8_shift rfl (Nat.le_of_ble_eq_true rfl) g9 kr_8 (by decide) (Nat.le_of_ble_eq_true rfl) rfl rfl rfl (t_X8_shift hG ⟨rfl, rfl⟩ g19) ?_
  refine sx_aload_n (pc := 87) dX6_makeGlyph_87 sx_m1 ?_
  refine sx_sipush (pc := 88) (v := 4096) dX6_makeGlyph_88 (by decide) ?_
  obtain ⟨⟨x22, V20⟩, g21, h⟩ := sx_bnd h
  refine sv_cV (pc := 91) (y := qX8_liesWithin) (o := (some (.int x22))) (as := [.int (4096 : Int32)]) (V1 := V20) hG dX6_makeGlyph_91 l_X6_125 y0X8_liesWithin yvX8_liesWithin rfl (Nat.le_of_ble_eq_true rfl) g9 kr_8 (by decide) (Nat.le_of_ble_eq_true rfl) rfl rfl rfl (t_X8_liesWithin hG ⟨rfl, rfl⟩ g21) ?_
  refine sx_if_ne (pc := 94) (tgt := 106) dX6_makeGlyph_94 (by decide) (fun c23 => ?_) (fun c23 => ?_)
  · have h := sx_neg c23 h
    refine sx_wk (sx_s1 sx_m0 (sx_s1 sx_m1 sx_s0)) ?_
    exact tB_X6_makeGlyph_106 hG hP  h
  · have h := sx_pos c23 h
    refine sx_aload_n (pc := 97) dX6_makeGlyph_97 sx_m0 ?_
    refine sv_getO (pc := 98) hG dX6_makeGlyph_98 f_6_47 lay_30 rfl cr_30_2 ?_
    refine sx_bipush (pc := 101) (v := 13) dX6_makeGlyph_101 (by decide) ?_
    obtain ⟨V24, g25, h⟩ := sx_bnd h
    refine sv_cV (pc := 103) (y := qX5_failOutside) (o := none) (as := [.int (13 : Int32)]) (V1 := V24) hG dX6_makeGlyph_103 l_X6_129 y0X5_failOutside yvX5_failOutside rfl (Nat.le_of_ble_eq_true rfl) lay_69 kr_5 (by decide) (Nat.le_of_ble_eq_true rfl) rfl rfl rfl (t_X5_failOutside hG ⟨rfl, rfl⟩ g25) ?_
    refine sx_wk (sx_s1 sx_m0 (sx_s1 sx_m1 sx_s0)) ?_
    exact tB_X6_makeGlyph_106 hG hP  h
def F_X6_makeGlyph (N : Nat) (l1 : Int32) (V : sv_V) : Option (Int32 × sv_V) := sx_let (sv_I V 30 8 (0 : Int32)) (fun V26 => sx_let (sv_I V26 30 12 (0 : Int32)) (fun V27 => (F_X5_beginCount  V27).bind (fun V28 => (cr 59 (0 : Int32).toNatClampNeg).bind (fun b30 => (F_X6_build N l1 (0 : Int32) V28).bind (fun (x34, V32) => if x34 = 0 then (B_X6_makeGlyph_106 N  b30 V32) else ((cr 7 (7 : Int32).toNatClampNeg).bind (fun b36 => (sv_len 0 b36).bind (fun n38 => if sx_in l1 n38 = true then if (V32.1 b36 l1.toNatClampNeg) ≤ 0 then (B_X6_makeGlyph_54 N  b30 (0 : Int32) V32) else (B_X6_makeGlyph_54 N  b30 (1 : Int32) V32) else none))))))))
set_option maxRecDepth 20000 in
theorem t_X6_makeGlyph {g : sx_G} (hG : sx_Go g) {P : Option Value → sv_V → Prop} {r : Int32} {Vr : sv_V} (hP : P (some (.int r)) Vr) {N : Nat} {l1 : Int32} {V : sv_V} (h : F_X6_makeGlyph N l1 V = some (r, Vr)) : sv_N g qX6_makeGlyph 47 0 [(0, .ref 30), (1, .int l1)] [] V P := by
  unfold F_X6_makeGlyph at h
  refine sx_aload_n (pc := 0) dX6_makeGlyph_0 sx_m0 ?_
  refine sx_iconst (pc := 1) (v := 0) dX6_makeGlyph_1 (by decide) ?_
  obtain ⟨V26, hV26⟩ : ∃ z : sv_V, z = sv_I V 30 8 (0 : Int32) := ⟨_, rfl⟩
  have h := sx_letE hV26 h
  refine sv_putZ (pc := 2) hG dX6_makeGlyph_2 f_6_58 lay_30 rfl rfl hV26 ?_
  refine sx_aload_n (pc := 5) dX6_makeGlyph_5 sx_m0 ?_
  refine sx_iconst (pc := 6) (v := 0) dX6_makeGlyph_6 (by decide) ?_
  obtain ⟨V27, hV27⟩ : ∃ z : sv_V, z = sv_I V26 30 12 (0 : Int32) := ⟨_, rfl⟩
  have h := sx_letE hV27 h
  refine sv_putI (pc := 7) hG dX6_makeGlyph_7 f_6_101 lay_30 rfl hV27 ?_
  refine sx_aload_n (pc := 10) dX6_makeGlyph_10 sx_m0 ?_
  refine sv_getO (pc := 11) hG dX6_makeGlyph_11 f_6_47 lay_30 rfl cr_30_2 ?_
  obtain ⟨V28, g29, h⟩ := sx_bnd h
  refine sv_cV (pc := 14) (y := qX5_beginCount) (o := none) (as := []) (V1 := V28) hG dX6_makeGlyph_14 l_X6_104 y0X5_beginCount yvX5_beginCount rfl (Nat.le_of_ble_eq_true rfl) lay_69 kr_5 (by decide) (Nat.le_of_ble_eq_true rfl) rfl rfl rfl (t_X5_beginCount hG ⟨rfl, rfl⟩ g29) ?_
  refine sx_aload_n (pc := 17) dX6_makeGlyph_17 sx_m0 ?_
  refine sv_getA (pc := 18) hG dX6_makeGlyph_18 f_6_23 lay_30 rfl cr_30_5 ?_
  refine sx_iconst (pc := 21) (v := 0) dX6_makeGlyph_21 (by decide) ?_
  obtain ⟨b30, g31, h⟩ := sx_bnd h
  refine sv_aald (pc := 22) hG dX6_makeGlyph_22 (by decide) lay_59 (by decide) g31 ?_
  refine sx_astore_n (pc := 23) (lo' := [(2, .ref b30), (0, .ref 30), (1, .int l1)]) dX6_makeGlyph_23 (by decide) rfl ?_
  refine sx_aload_n (pc := 24) dX6_makeGlyph_24 sx_m1 ?_
  refine sx_iload_n (pc := 25) dX6_makeGlyph_25 sx_m2 ?_
  refine sx_iconst (pc := 26) (v := 0) dX6_makeGlyph_26 (by decide) ?_
  obtain ⟨⟨x34, V32⟩, g33, h⟩ := sx_bnd h
  refine sv_cV (pc := 27) (y := qX6_build) (o := (some (.int x34))) (as := [.int l1, .int (0 : Int32)]) (V1 := V32) hG dX6_makeGlyph_27 l_X6_107 y0X6_build yvX6_build rfl (Nat.le_of_ble_eq_true rfl) lay_30 kr_6 (by decide) (Nat.le_of_ble_eq_true rfl) rfl rfl rfl (t_X6_build hG ⟨rfl, rfl⟩ g33) ?_
  refine sx_if_eq (pc := 30) (tgt := 106) dX6_makeGlyph_30 (by decide) (fun c35 => ?_) (fun c35 => ?_)
  · have h := sx_pos c35 h
    refine sx_wk (sx_s1 sx_m1 (sx_s1 sx_m0 sx_s0)) ?_
    exact tB_X6_makeGlyph_106 hG hP  h
  · have h := sx_neg c35 h
    refine sx_aload_n (pc := 33) dX6_makeGlyph_33 sx_m1 ?_
    refine sx_aload_n (pc := 34) dX6_makeGlyph_34 sx_m1 ?_
    refine sv_getO (pc := 35) hG dX6_makeGlyph_35 f_6_34 lay_30 rfl cr_30_0 ?_
    refine sv_getA (pc := 38) hG dX6_makeGlyph_38 f_6_111 lay_2 rfl cr_2_16 ?_
    refine sx_bipush (pc := 41) (v := 7) dX6_makeGlyph_41 (by decide) ?_
    obtain ⟨b36, g37, h⟩ := sx_bnd h
    refine sv_aald (pc := 43) hG dX6_makeGlyph_43 (by decide) lay_7 (by decide) g37 ?_
    refine sx_iload_n (pc := 44) dX6_makeGlyph_44 sx_m2 ?_
    obtain ⟨n38, g39, h⟩ := sx_bnd h
    obtain ⟨g40, h⟩ := sx_grd h
    refine sv_iald (pc := 45) hG dX6_makeGlyph_45 (sv_len_e g39) g40 ?_
    refine sx_if_le (pc := 46) (tgt := 53) dX6_makeGlyph_46 (by decide) (fun c41 => ?_) (fun c41 => ?_)
    · have h := sx_pos c41 h
      refine sx_iconst (pc := 53) (v := 0) dX6_makeGlyph_53 (by decide) ?_
      refine sx_wk (sx_s1 sx_m1 (sx_s1 sx_m0 sx_s0)) ?_
      exact tB_X6_makeGlyph_54 hG hP  h
    · have h := sx_neg c41 h
      refine sx_iconst (pc := 49) (v := 1) dX6_makeGlyph_49 (by decide) ?_
      refine sx_goto (pc := 50) (tgt := 54) dX6_makeGlyph_50 (by decide) ?_
      refine sx_wk (sx_s1 sx_m1 (sx_s1 sx_m0 sx_s0)) ?_
      exact tB_X6_makeGlyph_54 hG hP  h
theorem dX11_make_0 : decode cX11_make 0 = .ok (.aload_n 0, 1) := by decide +kernel
theorem dX11_make_1 : decode cX11_make 1 = .ok (.getfield 16, 3) := by decide +kernel
theorem dX11_make_4 : decode cX11_make 4 = .ok (.getfield 67, 3) := by decide +kernel
theorem dX11_make_7 : decode cX11_make 7 = .ok (.ifCond .eq 13, 3) := by decide +kernel
theorem dX11_make_10 : decode cX11_make 10 = .ok (.aload_n 0, 1) := by decide +kernel
theorem dX11_make_11 : decode cX11_make 11 = .ok (.getfield 37, 3) := by decide +kernel
theorem dX11_make_14 : decode cX11_make 14 = .ok (.getfield 137, 3) := by decide +kernel
theorem dX11_make_17 : decode cX11_make 17 = .ok (.ifCond .ne 6, 3) := by decide +kernel
theorem dX11_make_20 : decode cX11_make 20 = .ok (.bipush (-3), 2) := by decide +kernel
theorem dX11_make_22 : decode cX11_make 22 = .ok (.ireturn, 1) := by decide +kernel
theorem dX11_make_23 : decode cX11_make 23 = .ok (.aload_n 0, 1) := by decide +kernel
theorem dX11_make_24 : decode cX11_make 24 = .ok (.getfield 16, 3) := by decide +kernel
theorem dX11_make_27 : decode cX11_make 27 = .ok (.iload_n 1, 1) := by decide +kernel
theorem dX11_make_28 : decode cX11_make 28 = .ok (.invokevirtual 116, 3) := by decide +kernel
theorem dX11_make_31 : decode cX11_make 31 = .ok (.ifCond .ne 5, 3) := by decide +kernel
theorem dX11_make_34 : decode cX11_make 34 = .ok (.iconst (-1), 1) := by decide +kernel
theorem dX11_make_35 : decode cX11_make 35 = .ok (.ireturn, 1) := by decide +kernel
theorem dX11_make_36 : decode cX11_make 36 = .ok (.aload_n 0, 1) := by decide +kernel
theorem dX11_make_37 : decode cX11_make 37 = .ok (.getfield 37, 3) := by decide +kernel
theorem dX11_make_40 : decode cX11_make 40 = .ok (.iload_n 1, 1) := by decide +kernel
theorem dX11_make_41 : decode cX11_make 41 = .ok (.invokevirtual 140, 3) := by decide +kernel
theorem dX11_make_44 : decode cX11_make 44 = .ok (.ireturn, 1) := by decide +kernel
def F_X11_make (N : Nat) (l1 : Int32) (V : sv_V) : Option (Int32 × sv_V) := if (V.1 2 2) = 0 then (some ((-3 : Int32), V)) else (if (V.1 30 7) = 0 then (some ((-3 : Int32), V)) else ((F_X2_hasGlyph l1 V).bind (fun (x5, V3) => if x5 = 0 then (some ((-1 : Int32), V3)) else ((F_X6_makeGlyph N l1 V3).bind (fun (x9, V7) => some (x9, V7))))))
set_option maxRecDepth 20000 in
theorem t_X11_make {g : sx_G} (hG : sx_Go g) {P : Option Value → sv_V → Prop} {r : Int32} {Vr : sv_V} (hP : P (some (.int r)) Vr) {N : Nat} {l1 : Int32} {V : sv_V} (h : F_X11_make N l1 V = some (r, Vr)) : sv_N g qX11_make 48 0 [(0, .ref 0), (1, .int l1)] [] V P := by
  unfold F_X11_make at h
  refine sx_aload_n (pc := 0) dX11_make_0 sx_m0 ?_
  refine sv_getO (pc := 1) hG dX11_make_1 f_11_16 lay_0 rfl cr_0_2 ?_
  refine sv_getZ (pc := 4) hG dX11_make_4 f_11_67 lay_2 rfl ?_
  refine sx_if_eq (pc := 7) (tgt := 20) dX11_make_7 (by decide) (fun c1 => ?_) (fun c1 => ?_)
  · have h := sx_pos c1 h
    refine sx_bipush (pc := 20) (v := (-3)) dX11_make_20 (by decide) ?_
    exact sv_iret (pc := 22) dX11_make_22 rfl h hP
  · have h := sx_neg c1 h
    refine sx_aload_n (pc := 10) dX11_make_10 sx_m0 ?_
    refine sv_getO (pc := 11) hG dX11_make_11 f_11_37 lay_0 rfl cr_0_4 ?_
    refine sv_getI (pc := 14) hG dX11_make_14 f_11_137 lay_30 rfl ?_
    refine sx_if_ne (pc := 17) (tgt := 23) dX11_make_17 (by decide) (fun c2 => ?_) (fun c2 => ?_)
    · have h := sx_neg c2 h
      refine sx_aload_n (pc := 23) dX11_make_23 sx_m0 ?_
      refine sv_getO (pc := 24) hG dX11_make_24 f_11_16 lay_0 rfl cr_0_2 ?_
      refine sx_iload_n (pc := 27) dX11_make_27 sx_m1 ?_
      obtain ⟨⟨x5, V3⟩, g4, h⟩ := sx_bnd h
      refine sv_cV (pc := 28) (y := qX2_hasGlyph) (o := (some (.int x5))) (as := [.int l1]) (V1 := V3) hG dX11_make_28 l_X11_116 y0X2_hasGlyph yvX2_hasGlyph rfl (Nat.le_of_ble_eq_true rfl) lay_2 kr_2 (by decide) (Nat.le_of_ble_eq_true rfl) rfl rfl rfl (t_X2_hasGlyph hG ⟨rfl, rfl⟩ g4) ?_
      refine sx_if_ne (pc := 31) (tgt := 36) dX11_make_31 (by decide) (fun c6 => ?_) (fun c6 => ?_)
      · have h := sx_neg c6 h
        refine sx_aload_n (pc := 36) dX11_make_36 sx_m0 ?_
        refine sv_getO (pc := 37) hG dX11_make_37 f_11_37 lay_0 rfl cr_0_4 ?_
        refine sx_iload_n (pc := 40) dX11_make_40 sx_m1 ?_
        obtain ⟨⟨x9, V7⟩, g8, h⟩ := sx_bnd h
        refine sv_cV (pc := 41) (y := qX6_makeGlyph) (o := (some (.int x9))) (as := [.int l1]) (V1 := V7) hG dX11_make_41 l_X11_140 y0X6_makeGlyph yvX6_makeGlyph rfl (Nat.le_of_ble_eq_true rfl) lay_30 kr_6 (by decide) (Nat.le_of_ble_eq_true rfl) rfl rfl rfl (t_X6_makeGlyph hG ⟨rfl, rfl⟩ g8) ?_
        exact sv_iret (pc := 44) dX11_make_44 rfl h hP
      · have h := sx_pos c6 h
        refine sx_iconst (pc := 34) (v := (-1)) dX11_make_34 (by decide) ?_
        exact sv_iret (pc := 35) dX11_make_35 rfl h hP
    · have h := sx_pos c2 h
      refine sx_bipush (pc := 20) (v := (-3)) dX11_make_20 (by decide) ?_
      exact sv_iret (pc := 22) dX11_make_22 rfl h hP
theorem dX11_line_0 : decode cX11_line 0 = .ok (.aload_n 0, 1) := by decide +kernel
theorem dX11_line_1 : decode cX11_line 1 = .ok (.getfield 16, 3) := by decide +kernel
theorem dX11_line_4 : decode cX11_line 4 = .ok (.getfield 67, 3) := by decide +kernel
theorem dX11_line_7 : decode cX11_line 7 = .ok (.ifCond .eq 23, 3) := by decide +kernel
theorem dX11_line_10 : decode cX11_line 10 = .ok (.aload_n 0, 1) := by decide +kernel
theorem dX11_line_11 : decode cX11_line 11 = .ok (.getfield 37, 3) := by decide +kernel
theorem dX11_line_14 : decode cX11_line 14 = .ok (.getfield 137, 3) := by decide +kernel
theorem dX11_line_17 : decode cX11_line 17 = .ok (.ifCond .eq 13, 3) := by decide +kernel
theorem dX11_line_20 : decode cX11_line 20 = .ok (.aload_n 0, 1) := by decide +kernel
theorem dX11_line_21 : decode cX11_line 21 = .ok (.getfield 44, 3) := by decide +kernel
theorem dX11_line_24 : decode cX11_line 24 = .ok (.getfield 247, 3) := by decide +kernel
theorem dX11_line_27 : decode cX11_line 27 = .ok (.ifCond .ne 6, 3) := by decide +kernel
theorem dX11_line_30 : decode cX11_line 30 = .ok (.bipush (-3), 2) := by decide +kernel
theorem dX11_line_32 : decode cX11_line 32 = .ok (.ireturn, 1) := by decide +kernel
theorem dX11_line_33 : decode cX11_line 33 = .ok (.iload_n 1, 1) := by decide +kernel
theorem dX11_line_34 : decode cX11_line 34 = .ok (.i2l, 1) := by decide +kernel
theorem dX11_line_35 : decode cX11_line 35 = .ok (.sipush 20000, 3) := by decide +kernel
theorem dX11_line_38 : decode cX11_line 38 = .ok (.invokestatic 225, 3) := by decide +kernel
theorem dX11_line_41 : decode cX11_line 41 = .ok (.ifCond .ne 14, 3) := by decide +kernel
theorem dX11_line_44 : decode cX11_line 44 = .ok (.iload_n 2, 1) := by decide +kernel
theorem dX11_line_45 : decode cX11_line 45 = .ok (.i2l, 1) := by decide +kernel
theorem dX11_line_46 : decode cX11_line 46 = .ok (.sipush 20000, 3) := by decide +kernel
theorem dX11_line_49 : decode cX11_line 49 = .ok (.invokestatic 225, 3) := by decide +kernel
theorem dX11_line_52 : decode cX11_line 52 = .ok (.ifCond .eq 6, 3) := by decide +kernel
theorem dX11_line_55 : decode cX11_line 55 = .ok (.bipush (-2), 2) := by decide +kernel
theorem dX11_line_57 : decode cX11_line 57 = .ok (.ireturn, 1) := by decide +kernel
theorem dX11_line_58 : decode cX11_line 58 = .ok (.aload_n 0, 1) := by decide +kernel
theorem dX11_line_59 : decode cX11_line 59 = .ok (.getfield 260, 3) := by decide +kernel
theorem dX11_line_62 : decode cX11_line 62 = .ok (.istore_n 3, 1) := by decide +kernel
theorem dX11_line_63 : decode cX11_line 63 = .ok (.aload_n 0, 1) := by decide +kernel
theorem dX11_line_64 : decode cX11_line 64 = .ok (.iconst 0, 1) := by decide +kernel
theorem dX11_line_65 : decode cX11_line 65 = .ok (.putfield 260, 3) := by decide +kernel
theorem dX11_line_68 : decode cX11_line 68 = .ok (.iload_n 1, 1) := by decide +kernel
theorem dX11_line_69 : decode cX11_line 69 = .ok (.i2l, 1) := by decide +kernel
theorem dX11_line_70 : decode cX11_line 70 = .ok (.lstore 4, 2) := by decide +kernel
theorem dX11_line_72 : decode cX11_line 72 = .ok (.iconst (-1), 1) := by decide +kernel
theorem dX11_line_73 : decode cX11_line 73 = .ok (.istore 6, 2) := by decide +kernel
theorem dX11_line_75 : decode cX11_line 75 = .ok (.iconst 0, 1) := by decide +kernel
theorem dX11_line_76 : decode cX11_line 76 = .ok (.istore 7, 2) := by decide +kernel
theorem dX11_line_78 : decode cX11_line 78 = .ok (.iload 7, 2) := by decide +kernel
theorem dX11_line_80 : decode cX11_line 80 = .ok (.iload_n 3, 1) := by decide +kernel
theorem dX11_line_81 : decode cX11_line 81 = .ok (.if_icmp .ge 132, 3) := by decide +kernel
theorem dX11_line_84 : decode cX11_line 84 = .ok (.aload_n 0, 1) := by decide +kernel
theorem dX11_line_85 : decode cX11_line 85 = .ok (.getfield 16, 3) := by decide +kernel
theorem dX11_line_88 : decode cX11_line 88 = .ok (.aload_n 0, 1) := by decide +kernel
theorem dX11_line_89 : decode cX11_line 89 = .ok (.getfield 48, 3) := by decide +kernel
theorem dX11_line_92 : decode cX11_line 92 = .ok (.iload 7, 2) := by decide +kernel
theorem dX11_line_94 : decode cX11_line 94 = .ok (.iaload, 1) := by decide +kernel
theorem dX11_line_95 : decode cX11_line 95 = .ok (.invokevirtual 112, 3) := by decide +kernel
theorem dX11_line_98 : decode cX11_line 98 = .ok (.istore 8, 2) := by decide +kernel
theorem dX11_line_100 : decode cX11_line 100 = .ok (.iload 6, 2) := by decide +kernel
theorem dX11_line_102 : decode cX11_line 102 = .ok (.iconst (-1), 1) := by decide +kernel
theorem dX11_line_103 : decode cX11_line 103 = .ok (.if_icmp .eq 30, 3) := by decide +kernel
theorem dX11_line_106 : decode cX11_line 106 = .ok (.lload 4, 2) := by decide +kernel
theorem dX11_line_108 : decode cX11_line 108 = .ok (.aload_n 0, 1) := by decide +kernel
theorem dX11_line_109 : decode cX11_line 109 = .ok (.getfield 37, 3) := by decide +kernel
theorem dX11_line_112 : decode cX11_line 112 = .ok (.getfield 167, 3) := by decide +kernel
theorem dX11_line_115 : decode cX11_line 115 = .ok (.aload_n 0, 1) := by decide +kernel
theorem dX11_line_116 : decode cX11_line 116 = .ok (.getfield 16, 3) := by decide +kernel
theorem dX11_line_119 : decode cX11_line 119 = .ok (.iload 6, 2) := by decide +kernel
theorem dX11_line_121 : decode cX11_line 121 = .ok (.iload 8, 2) := by decide +kernel
theorem dX11_line_123 : decode cX11_line 123 = .ok (.invokevirtual 130, 3) := by decide +kernel
theorem dX11_line_126 : decode cX11_line 126 = .ok (.i2l, 1) := by decide +kernel
theorem dX11_line_127 : decode cX11_line 127 = .ok (.invokevirtual 263, 3) := by decide +kernel
theorem dX11_line_130 : decode cX11_line 130 = .ok (.ladd, 1) := by decide +kernel
theorem dX11_line_131 : decode cX11_line 131 = .ok (.lstore 4, 2) := by decide +kernel
theorem dX11_line_133 : decode cX11_line 133 = .ok (.aload_n 0, 1) := by decide +kernel
theorem dX11_line_134 : decode cX11_line 134 = .ok (.getfield 37, 3) := by decide +kernel
theorem dX11_line_137 : decode cX11_line 137 = .ok (.iload 8, 2) := by decide +kernel
theorem dX11_line_139 : decode cX11_line 139 = .ok (.invokevirtual 140, 3) := by decide +kernel
theorem dX11_line_142 : decode cX11_line 142 = .ok (.istore 9, 2) := by decide +kernel
theorem dX11_line_144 : decode cX11_line 144 = .ok (.iload 9, 2) := by decide +kernel
theorem dX11_line_146 : decode cX11_line 146 = .ok (.ifCond .ge 10, 3) := by decide +kernel
theorem dX11_line_149 : decode cX11_line 149 = .ok (.ldc_w 267, 3) := by decide +kernel
theorem dX11_line_152 : decode cX11_line 152 = .ok (.iload 9, 2) := by decide +kernel
theorem dX11_line_154 : decode cX11_line 154 = .ok (.iadd, 1) := by decide +kernel
theorem dX11_line_155 : decode cX11_line 155 = .ok (.ireturn, 1) := by decide +kernel
theorem dX11_line_156 : decode cX11_line 156 = .ok (.lload 4, 2) := by decide +kernel
theorem dX11_line_158 : decode cX11_line 158 = .ok (.sipush 20000, 3) := by decide +kernel
theorem dX11_line_161 : decode cX11_line 161 = .ok (.invokestatic 225, 3) := by decide +kernel
theorem dX11_line_164 : decode cX11_line 164 = .ok (.ifCond .eq 7, 3) := by decide +kernel
theorem dX11_line_167 : decode cX11_line 167 = .ok (.ldc_w 268, 3) := by decide +kernel
theorem dX11_line_170 : decode cX11_line 170 = .ok (.ireturn, 1) := by decide +kernel
theorem dX11_line_171 : decode cX11_line 171 = .ok (.aload_n 0, 1) := by decide +kernel
theorem dX11_line_172 : decode cX11_line 172 = .ok (.getfield 44, 3) := by decide +kernel
theorem dX11_line_175 : decode cX11_line 175 = .ok (.aload_n 0, 1) := by decide +kernel
theorem dX11_line_176 : decode cX11_line 176 = .ok (.getfield 37, 3) := by decide +kernel
theorem dX11_line_179 : decode cX11_line 179 = .ok (.getfield 229, 3) := by decide +kernel
theorem dX11_line_182 : decode cX11_line 182 = .ok (.lload 4, 2) := by decide +kernel
theorem dX11_line_184 : decode cX11_line 184 = .ok (.l2i, 1) := by decide +kernel
theorem dX11_line_185 : decode cX11_line 185 = .ok (.iload_n 2, 1) := by decide +kernel
theorem dX11_line_186 : decode cX11_line 186 = .ok (.invokevirtual 250, 3) := by decide +kernel
theorem dX11_line_189 : decode cX11_line 189 = .ok (.pop, 1) := by decide +kernel
theorem dX11_line_190 : decode cX11_line 190 = .ok (.lload 4, 2) := by decide +kernel
theorem dX11_line_192 : decode cX11_line 192 = .ok (.aload_n 0, 1) := by decide +kernel
theorem dX11_line_193 : decode cX11_line 193 = .ok (.getfield 37, 3) := by decide +kernel
theorem dX11_line_196 : decode cX11_line 196 = .ok (.getfield 185, 3) := by decide +kernel
theorem dX11_line_199 : decode cX11_line 199 = .ok (.i2l, 1) := by decide +kernel
theorem dX11_line_200 : decode cX11_line 200 = .ok (.ladd, 1) := by decide +kernel
theorem dX11_line_201 : decode cX11_line 201 = .ok (.lstore 4, 2) := by decide +kernel
theorem dX11_line_203 : decode cX11_line 203 = .ok (.iload 8, 2) := by decide +kernel
theorem dX11_line_205 : decode cX11_line 205 = .ok (.istore 6, 2) := by decide +kernel
theorem dX11_line_207 : decode cX11_line 207 = .ok (.iinc 7 1, 3) := by decide +kernel
theorem dX11_line_210 : decode cX11_line 210 = .ok (.goto (-132), 3) := by decide +kernel
theorem dX11_line_213 : decode cX11_line 213 = .ok (.lload 4, 2) := by decide +kernel
theorem dX11_line_215 : decode cX11_line 215 = .ok (.l2i, 1) := by decide +kernel
theorem dX11_line_216 : decode cX11_line 216 = .ok (.ireturn, 1) := by decide +kernel
def B_X11_line_133 (N : Nat) (k78 : Int32 → Int32 → Int64 → Int32 → Int32 → sv_V → Option (Int32 × sv_V)) (l2 : Int32) (l3 : Int32) (l4 : Int64) (l7 : Int32) (l8 : Int32) (V : sv_V) : Option (Int32 × sv_V) := (F_X6_makeGlyph N l8 V).bind (fun (x3, V1) => if 0 ≤ x3 then ((F_X11_isBeyond l4 (20000 : Int32) V1).bind (fun (x7, V5) => if x7 = 0 then ((F_X1_fillIn N l4.toInt32 l2 V5).bind (fun (x11, V9) => sx_let (l4 + ((V9.1 30 10).toInt64)) (fun x12 => sx_let (l7 + 1) (fun x13 => k78 l2 l3 x12 l8 x13 V9)))) else (some ((-1000200 : Int32), V5)))) else (some ((-1000000 : Int32) + x3, V1)))
set_option maxRecDepth 20000 in
theorem tB_X11_line_133 {g : sx_G} (hG : sx_Go g) {P : Option Value → sv_V → Prop} {r : Int32} {Vr : sv_V} (hP : P (some (.int r)) Vr) {N : Nat} {k78 : Int32 → Int32 → Int64 → Int32 → Int32 → sv_V → Option (Int32 × sv_V)} (hk78 : ∀ (l2 : Int32) (l3 : Int32) (l4 : Int64) (l6 : Int32) (l7 : Int32) (V : sv_V), k78 l2 l3 l4 l6 l7 V = some (r, Vr) → sv_N g qX11_line 48 78 [(0, .ref 0), (2, .int l2), (3, .int l3), (4, .long l4), (6, .int l6), (7, .int l7)] [] V P) {l2 : Int32} {l3 : Int32} {l4 : Int64} {l7 : Int32} {l8 : Int32} {V : sv_V} (h : B_X11_line_133 N k78 l2 l3 l4 l7 l8 V = some (r, Vr)) : sv_N g qX11_line 48 133 [(0, .ref 0), (2, .int l2), (3, .int l3), (4, .long l4), (7, .int l7), (8, .int l8)] [] V P := by
  unfold B_X11_line_133 at h
  refine sx_aload_n (pc := 133) dX11_line_133 sx_m0 ?_
  refine sv_getO (pc := 134) hG dX11_line_134 f_11_37 lay_0 rfl cr_0_4 ?_
  refine sx_iload (pc := 137) dX11_line_137 sx_m5 ?_
  obtain ⟨⟨x3, V1⟩, g2, h⟩ := sx_bnd h
  refine sv_cV (pc := 139) (y := qX6_makeGlyph) (o := (some (.int x3))) (as := [.int l8]) (V1 := V1) hG dX11_line_139 l_X11_140 y0X6_makeGlyph yvX6_makeGlyph rfl (Nat.le_of_ble_eq_true rfl) lay_30 kr_6 (by decide) (Nat.le_of_ble_eq_true rfl) rfl rfl rfl (t_X6_makeGlyph hG ⟨rfl, rfl⟩ g2) ?_
  refine sx_istore (pc := 142) (lo' := [(9, .int x3), (0, .ref 0), (2, .int l2), (3, .int l3), (4, .long l4), (7, .int l7), (8, .int l8)]) dX11_line_142 (by decide) rfl ?_
  refine sx_iload (pc := 144) dX11_line_144 sx_m0 ?_
  refine sx_if_ge (pc := 146) (tgt := 156) dX11_line_146 (by decide) (fun c4 => ?_) (fun c4 => ?_)
  · have h := sx_pos c4 h
    refine sx_lload (pc := 156) dX11_line_156 sx_m4 ?_
    refine sx_sipush (pc := 158) (v := 20000) dX11_line_158 (by decide) ?_
    obtain ⟨⟨x7, V5⟩, g6, h⟩ := sx_bnd h
    refine sv_cS (pc := 161) (y := qX11_isBeyond) (o := (some (.int x7))) (as := [.long l4, .int (20000 : Int32)]) (V1 := V5) dX11_line_161 l_X11_225 y0X11_isBeyond ysX11_isBeyond rfl (Nat.le_of_ble_eq_true rfl) (by decide) (Nat.le_of_ble_eq_true rfl) rfl rfl rfl (t_X11_isBeyond hG ⟨rfl, rfl⟩ g6) ?_
    refine sx_if_eq (pc := 164) (tgt := 171) dX11_line_164 (by decide) (fun c8 => ?_) (fun c8 => ?_)
    · have h := sx_pos c8 h
      refine sx_aload_n (pc := 171) dX11_line_171 sx_m1 ?_
      refine sv_getO (pc := 172) hG dX11_line_172 f_11_44 lay_0 rfl cr_0_5 ?_
      refine sx_aload_n (pc := 175) dX11_line_175 sx_m1 ?_
      refine sv_getO (pc := 176) hG dX11_line_176 f_11_37 lay_0 rfl cr_0_4 ?_
      refine sv_getO (pc := 179) hG dX11_line_179 f_11_229 lay_30 rfl cr_30_6 ?_
      refine sx_lload (pc := 182) dX11_line_182 sx_m4 ?_
      refine sx_l2i (pc := 184) dX11_line_184 ?_
      refine sx_iload_n (pc := 185) dX11_line_185 sx_m2 ?_
      obtain ⟨⟨x11, V9⟩, g10, h⟩ := sx_bnd h
      refine sv_cV (pc := 186) (y := qX1_fillIn) (o := (some (.int x11))) (as := [.ref 60, .int l4.toInt32, .int l2]) (V1 := V9) hG dX11_line_186 l_X11_250 y0X1_fillIn yvX1_fillIn rfl (Nat.le_of_ble_eq_true rfl) lay_143 kr_1 (by decide) (Nat.le_of_ble_eq_true rfl) rfl rfl rfl (t_X1_fillIn hG ⟨rfl, rfl⟩ g10) ?_
      refine sx_pop (pc := 189) dX11_line_189 rfl ?_
      refine sx_lload (pc := 190) dX11_line_190 sx_m4 ?_
      refine sx_aload_n (pc := 192) dX11_line_192 sx_m1 ?_
      refine sv_getO (pc := 193) hG dX11_line_193 f_11_37 lay_0 rfl cr_0_4 ?_
      refine sv_getI (pc := 196) hG dX11_line_196 f_11_185 lay_30 rfl ?_
      refine sx_i2l (pc := 199) dX11_line_199 ?_
      refine sx_ladd (pc := 200) dX11_line_200 ?_
      refine sv_tJ (fun x12 hx12 => ?_)
      have h := sx_letE hx12 h
      refine sx_lstore (pc := 201) (lo' := [(4, .long x12), (9, .int x3), (0, .ref 0), (2, .int l2), (3, .int l3), (7, .int l7), (8, .int l8)]) dX11_line_201 (by decide) rfl ?_
      refine sx_iload (pc := 203) dX11_line_203 sx_m6 ?_
      refine sx_istore (pc := 205) (lo' := [(6, .int l8), (4, .long x12), (9, .int x3), (0, .ref 0), (2, .int l2), (3, .int l3), (7, .int l7), (8, .int l8)]) dX11_line_205 (by decide) rfl ?_
      obtain ⟨x13, hx13⟩ : ∃ z : Int32, z = l7 + 1 := ⟨_, rfl⟩
      have h := sx_letE hx13 h
      refine sx_iinc (pc := 207) (v := x13) (lo' := [(7, .int x13), (6, .int l8), (4, .long x12), (9, .int x3), (0, .ref 0), (2, .int l2), (3, .int l3), (8, .int l8)]) dX11_line_207 sx_m6 (by rw [hx13]; rfl) (by decide) rfl ?_
      refine sx_goto (pc := 210) (tgt := 78) dX11_line_210 (by decide) ?_
      refine sx_wk (sx_s1 sx_m4 (sx_s1 sx_m5 (sx_s1 sx_m6 (sx_s1 sx_m2 (sx_s1 sx_m1 (sx_s1 sx_m0 sx_s0)))))) ?_
      exact hk78 _ _ _ _ _ _ h
    · have h := sx_neg c8 h
      refine sx_ldcw (pc := 167) dX11_line_167 k_X11_268 ?_
      exact sv_iret (pc := 170) dX11_line_170 rfl h hP
  · have h := sx_neg c4 h
    refine sx_ldcw (pc := 149) dX11_line_149 k_X11_267 ?_
    refine sx_iload (pc := 152) dX11_line_152 sx_m0 ?_
    refine sx_iadd (pc := 154) dX11_line_154 ?_
    exact sv_iret (pc := 155) dX11_line_155 rfl h hP
def B_X11_line_78 (N : Nat) (k78 : Int32 → Int32 → Int64 → Int32 → Int32 → sv_V → Option (Int32 × sv_V)) (l2 : Int32) (l3 : Int32) (l4 : Int64) (l6 : Int32) (l7 : Int32) (V : sv_V) : Option (Int32 × sv_V) := if l3 ≤ l7 then (some (l4.toInt32, V)) else (if sx_in l7 100 = true then (F_X2_findGlyph N (V.1 145 l7.toNatClampNeg) V).bind (fun (x18, V16) => if l6 = (-1 : Int32) then (B_X11_line_133 N k78 l2 l3 l4 l7 x18 V16) else ((F_X2_kernOf N l6 x18 V16).bind (fun (x22, V20) => (F_X5_scaled x22.toInt64 V20).bind (fun (x25, V23) => sx_let (l4 + x25) (fun x26 => B_X11_line_133 N k78 l2 l3 x26 l7 x18 V23))))) else none)
set_option maxRecDepth 20000 in
theorem tB_X11_line_78 {g : sx_G} (hG : sx_Go g) {P : Option Value → sv_V → Prop} {r : Int32} {Vr : sv_V} (hP : P (some (.int r)) Vr) {N : Nat} {k78 : Int32 → Int32 → Int64 → Int32 → Int32 → sv_V → Option (Int32 × sv_V)} (hk78 : ∀ (l2 : Int32) (l3 : Int32) (l4 : Int64) (l6 : Int32) (l7 : Int32) (V : sv_V), k78 l2 l3 l4 l6 l7 V = some (r, Vr) → sv_N g qX11_line 48 78 [(0, .ref 0), (2, .int l2), (3, .int l3), (4, .long l4), (6, .int l6), (7, .int l7)] [] V P) {l2 : Int32} {l3 : Int32} {l4 : Int64} {l6 : Int32} {l7 : Int32} {V : sv_V} (h : B_X11_line_78 N k78 l2 l3 l4 l6 l7 V = some (r, Vr)) : sv_N g qX11_line 48 78 [(0, .ref 0), (2, .int l2), (3, .int l3), (4, .long l4), (6, .int l6), (7, .int l7)] [] V P := by
  unfold B_X11_line_78 at h
  refine sx_iload (pc := 78) dX11_line_78 sx_m5 ?_
  refine sx_iload_n (pc := 80) dX11_line_80 sx_m2 ?_
  refine sx_icmp_ge (pc := 81) (tgt := 213) dX11_line_81 (by decide) (fun c14 => ?_) (fun c14 => ?_)
  · have h := sx_pos c14 h
    refine sx_lload (pc := 213) dX11_line_213 sx_m3 ?_
    refine sx_l2i (pc := 215) dX11_line_215 ?_
    exact sv_iret (pc := 216) dX11_line_216 rfl h hP
  · have h := sx_neg c14 h
    refine sx_aload_n (pc := 84) dX11_line_84 sx_m0 ?_
    refine sv_getO (pc := 85) hG dX11_line_85 f_11_16 lay_0 rfl cr_0_2 ?_
    refine sx_aload_n (pc := 88) dX11_line_88 sx_m0 ?_
    refine sv_getA (pc := 89) hG dX11_line_89 f_11_48 lay_0 rfl cr_0_6 ?_
    refine sx_iload (pc := 92) dX11_line_92 sx_m5 ?_
    obtain ⟨g15, h⟩ := sx_grd h
    refine sv_iald (pc := 94) hG dX11_line_94 lay_145 g15 ?_
    obtain ⟨⟨x18, V16⟩, g17, h⟩ := sx_bnd h
    refine sv_cV (pc := 95) (y := qX2_findGlyph) (o := (some (.int x18))) (as := [.int (V.1 145 l7.toNatClampNeg)]) (V1 := V16) hG dX11_line_95 l_X11_112 y0X2_findGlyph yvX2_findGlyph rfl (Nat.le_of_ble_eq_true rfl) lay_2 kr_2 (by decide) (Nat.le_of_ble_eq_true rfl) rfl rfl rfl (t_X2_findGlyph hG ⟨rfl, rfl⟩ g17) ?_
    refine sx_istore (pc := 98) (lo' := [(8, .int x18), (0, .ref 0), (2, .int l2), (3, .int l3), (4, .long l4), (6, .int l6), (7, .int l7)]) dX11_line_98 (by decide) rfl ?_
    refine sx_iload (pc := 100) dX11_line_100 sx_m5 ?_
    refine sx_iconst (pc := 102) (v := (-1)) dX11_line_102 (by decide) ?_
    refine sx_icmp_eq (pc := 103) (tgt := 133) dX11_line_103 (by decide) (fun c19 => ?_) (fun c19 => ?_)
    · have h := sx_pos c19 h
      refine sx_wk (sx_s1 sx_m1 (sx_s1 sx_m2 (sx_s1 sx_m3 (sx_s1 sx_m4 (sx_s1 sx_m6 (sx_s1 sx_m0 sx_s0)))))) ?_
      exact tB_X11_line_133 hG hP hk78 h
    · have h := sx_neg c19 h
      refine sx_lload (pc := 106) dX11_line_106 sx_m4 ?_
      refine sx_aload_n (pc := 108) dX11_line_108 sx_m1 ?_
      refine sv_getO (pc := 109) hG dX11_line_109 f_11_37 lay_0 rfl cr_0_4 ?_
      refine sv_getO (pc := 112) hG dX11_line_112 f_11_167 lay_30 rfl cr_30_2 ?_
      refine sx_aload_n (pc := 115) dX11_line_115 sx_m1 ?_
      refine sv_getO (pc := 116) hG dX11_line_116 f_11_16 lay_0 rfl cr_0_2 ?_
      refine sx_iload (pc := 119) dX11_line_119 sx_m5 ?_
      refine sx_iload (pc := 121) dX11_line_121 sx_m0 ?_
      obtain ⟨⟨x22, V20⟩, g21, h⟩ := sx_bnd h
      refine sv_cV (pc := 123) (y := qX2_kernOf) (o := (some (.int x22))) (as := [.int l6, .int x18]) (V1 := V20) hG dX11_line_123 l_X11_130 y0X2_kernOf yvX2_kernOf rfl (Nat.le_of_ble_eq_true rfl) lay_2 kr_2 (by decide) (Nat.le_of_ble_eq_true rfl) rfl rfl rfl (t_X2_kernOf hG ⟨rfl, rfl⟩ g21) ?_
      refine sx_i2l (pc := 126) dX11_line_126 ?_
      obtain ⟨⟨x25, V23⟩, g24, h⟩ := sx_bnd h
      refine sv_cV (pc := 127) (y := qX5_scaled) (o := (some (.long x25))) (as := [.long x22.toInt64]) (V1 := V23) hG dX11_line_127 l_X11_263 y0X5_scaled yvX5_scaled rfl (Nat.le_of_ble_eq_true rfl) lay_69 kr_5 (by decide) (Nat.le_of_ble_eq_true rfl) rfl rfl rfl (t_X5_scaled hG ⟨rfl, rfl⟩ g24) ?_
      refine sx_ladd (pc := 130) dX11_line_130 ?_
      refine sv_tJ (fun x26 hx26 => ?_)
      have h := sx_letE hx26 h
      refine sx_lstore (pc := 131) (lo' := [(4, .long x26), (8, .int x18), (0, .ref 0), (2, .int l2), (3, .int l3), (6, .int l6), (7, .int l7)]) dX11_line_131 (by decide) rfl ?_
      refine sx_wk (sx_s1 sx_m2 (sx_s1 sx_m3 (sx_s1 sx_m4 (sx_s1 sx_m0 (sx_s1 sx_m6 (sx_s1 sx_m1 sx_s0)))))) ?_
      exact tB_X11_line_133 hG hP hk78 h
theorem tL_X11_line_78 {g : sx_G} (hG : sx_Go g) {P : Option Value → sv_V → Prop} {r : Int32} {Vr : sv_V} (hP : P (some (.int r)) Vr) {N : Nat}   : ∀ (n : Nat) (l2 : Int32) (l3 : Int32) (l4 : Int64) (l6 : Int32) (l7 : Int32) (V : sv_V), sx_lp6 (B_X11_line_78 N ) n l2 l3 l4 l6 l7 V = some (r, Vr) → sv_N g qX11_line 48 78 [(0, .ref 0), (2, .int l2), (3, .int l3), (4, .long l4), (6, .int l6), (7, .int l7)] [] V P :=
  sx_lp6_ind (fun k0 ih _ _ _ _ _ V h => tB_X11_line_78 hG hP ih h)
def F_X11_line (N : Nat) (l1 : Int32) (l2 : Int32) (V : sv_V) : Option (Int32 × sv_V) := if (V.1 2 2) = 0 then (some ((-3 : Int32), V)) else (if (V.1 30 7) = 0 then (some ((-3 : Int32), V)) else (if (V.1 143 1) = 0 then (some ((-3 : Int32), V)) else ((F_X11_isBeyond l1.toInt64 (20000 : Int32) V).bind (fun (x32, V30) => if x32 = 0 then ((F_X11_isBeyond l2.toInt64 (20000 : Int32) V30).bind (fun (x36, V34) => if x36 = 0 then (sx_let (V34.1 0 7) (fun x38 => sx_let (sv_I V34 0 7 (0 : Int32)) (fun V39 => sx_let (l1.toInt64) (fun x40 => sx_lp6 (B_X11_line_78 N ) N l2 x38 x40 (-1 : Int32) (0 : Int32) V39)))) else (some ((-2 : Int32), V34)))) else (some ((-2 : Int32), V30))))))
set_option maxRecDepth 20000 in
theorem t_X11_line {g : sx_G} (hG : sx_Go g) {P : Option Value → sv_V → Prop} {r : Int32} {Vr : sv_V} (hP : P (some (.int r)) Vr) {N : Nat} {l1 : Int32} {l2 : Int32} {V : sv_V} (h : F_X11_line N l1 l2 V = some (r, Vr)) : sv_N g qX11_line 48 0 [(0, .ref 0), (1, .int l1), (2, .int l2)] [] V P := by
  unfold F_X11_line at h
  refine sx_aload_n (pc := 0) dX11_line_0 sx_m0 ?_
  refine sv_getO (pc := 1) hG dX11_line_1 f_11_16 lay_0 rfl cr_0_2 ?_
  refine sv_getZ (pc := 4) hG dX11_line_4 f_11_67 lay_2 rfl ?_
  refine sx_if_eq (pc := 7) (tgt := 30) dX11_line_7 (by decide) (fun c27 => ?_) (fun c27 => ?_)
  · have h := sx_pos c27 h
    refine sx_bipush (pc := 30) (v := (-3)) dX11_line_30 (by decide) ?_
    exact sv_iret (pc := 32) dX11_line_32 rfl h hP
  · have h := sx_neg c27 h
    refine sx_aload_n (pc := 10) dX11_line_10 sx_m0 ?_
    refine sv_getO (pc := 11) hG dX11_line_11 f_11_37 lay_0 rfl cr_0_4 ?_
    refine sv_getI (pc := 14) hG dX11_line_14 f_11_137 lay_30 rfl ?_
    refine sx_if_eq (pc := 17) (tgt := 30) dX11_line_17 (by decide) (fun c28 => ?_) (fun c28 => ?_)
    · have h := sx_pos c28 h
      refine sx_bipush (pc := 30) (v := (-3)) dX11_line_30 (by decide) ?_
      exact sv_iret (pc := 32) dX11_line_32 rfl h hP
    · have h := sx_neg c28 h
      refine sx_aload_n (pc := 20) dX11_line_20 sx_m0 ?_
      refine sv_getO (pc := 21) hG dX11_line_21 f_11_44 lay_0 rfl cr_0_5 ?_
      refine sv_getI (pc := 24) hG dX11_line_24 f_11_247 lay_143 rfl ?_
      refine sx_if_ne (pc := 27) (tgt := 33) dX11_line_27 (by decide) (fun c29 => ?_) (fun c29 => ?_)
      · have h := sx_neg c29 h
        refine sx_iload_n (pc := 33) dX11_line_33 sx_m1 ?_
        refine sx_i2l (pc := 34) dX11_line_34 ?_
        refine sx_sipush (pc := 35) (v := 20000) dX11_line_35 (by decide) ?_
        obtain ⟨⟨x32, V30⟩, g31, h⟩ := sx_bnd h
        refine sv_cS (pc := 38) (y := qX11_isBeyond) (o := (some (.int x32))) (as := [.long l1.toInt64, .int (20000 : Int32)]) (V1 := V30) dX11_line_38 l_X11_225 y0X11_isBeyond ysX11_isBeyond rfl (Nat.le_of_ble_eq_true rfl) (by decide) (Nat.le_of_ble_eq_true rfl) rfl rfl rfl (t_X11_isBeyond hG ⟨rfl, rfl⟩ g31) ?_
        refine sx_if_ne (pc := 41) (tgt := 55) dX11_line_41 (by decide) (fun c33 => ?_) (fun c33 => ?_)
        · have h := sx_neg c33 h
          refine sx_bipush (pc := 55) (v := (-2)) dX11_line_55 (by decide) ?_
          exact sv_iret (pc := 57) dX11_line_57 rfl h hP
        · have h := sx_pos c33 h
          refine sx_iload_n (pc := 44) dX11_line_44 sx_m2 ?_
          refine sx_i2l (pc := 45) dX11_line_45 ?_
          refine sx_sipush (pc := 46) (v := 20000) dX11_line_46 (by decide) ?_
          obtain ⟨⟨x36, V34⟩, g35, h⟩ := sx_bnd h
          refine sv_cS (pc := 49) (y := qX11_isBeyond) (o := (some (.int x36))) (as := [.long l2.toInt64, .int (20000 : Int32)]) (V1 := V34) dX11_line_49 l_X11_225 y0X11_isBeyond ysX11_isBeyond rfl (Nat.le_of_ble_eq_true rfl) (by decide) (Nat.le_of_ble_eq_true rfl) rfl rfl rfl (t_X11_isBeyond hG ⟨rfl, rfl⟩ g35) ?_
          refine sx_if_eq (pc := 52) (tgt := 58) dX11_line_52 (by decide) (fun c37 => ?_) (fun c37 => ?_)
          · have h := sx_pos c37 h
            refine sx_aload_n (pc := 58) dX11_line_58 sx_m0 ?_
            refine sv_getI (pc := 59) hG dX11_line_59 f_11_260 lay_0 rfl ?_
            refine sv_tI (fun x38 hx38 => ?_)
            have h := sx_letE hx38 h
            refine sx_istore_n (pc := 62) (lo' := [(3, .int x38), (0, .ref 0), (1, .int l1), (2, .int l2)]) dX11_line_62 (by decide) rfl ?_
            refine sx_aload_n (pc := 63) dX11_line_63 sx_m1 ?_
            refine sx_iconst (pc := 64) (v := 0) dX11_line_64 (by decide) ?_
            obtain ⟨V39, hV39⟩ : ∃ z : sv_V, z = sv_I V34 0 7 (0 : Int32) := ⟨_, rfl⟩
            have h := sx_letE hV39 h
            refine sv_putI (pc := 65) hG dX11_line_65 f_11_260 lay_0 rfl hV39 ?_
            refine sx_iload_n (pc := 68) dX11_line_68 sx_m2 ?_
            refine sx_i2l (pc := 69) dX11_line_69 ?_
            refine sv_tJ (fun x40 hx40 => ?_)
            have h := sx_letE hx40 h
            refine sx_lstore (pc := 70) (lo' := [(4, .long x40), (3, .int x38), (0, .ref 0), (1, .int l1), (2, .int l2)]) dX11_line_70 (by decide) rfl ?_
            refine sx_iconst (pc := 72) (v := (-1)) dX11_line_72 (by decide) ?_
            refine sx_istore (pc := 73) (lo' := [(6, .int (-1 : Int32)), (4, .long x40), (3, .int x38), (0, .ref 0), (1, .int l1), (2, .int l2)]) dX11_line_73 (by decide) rfl ?_
            refine sx_iconst (pc := 75) (v := 0) dX11_line_75 (by decide) ?_
            refine sx_istore (pc := 76) (lo' := [(7, .int (0 : Int32)), (6, .int (-1 : Int32)), (4, .long x40), (3, .int x38), (0, .ref 0), (1, .int l1), (2, .int l2)]) dX11_line_76 (by decide) rfl ?_
            refine sx_wk (sx_s1 sx_m4 (sx_s1 sx_m6 (sx_s1 sx_m3 (sx_s1 sx_m2 (sx_s1 sx_m1 (sx_s1 sx_m0 sx_s0)))))) ?_
            exact tL_X11_line_78 hG hP  N _ _ _ _ _ _ h
          · have h := sx_neg c37 h
            refine sx_bipush (pc := 55) (v := (-2)) dX11_line_55 (by decide) ?_
            exact sv_iret (pc := 57) dX11_line_57 rfl h hP
      · have h := sx_pos c29 h
        refine sx_bipush (pc := 30) (v := (-3)) dX11_line_30 (by decide) ?_
        exact sv_iret (pc := 32) dX11_line_32 rfl h hP
