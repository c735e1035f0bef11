/-! the law, decoded -/
theorem dl_0 : decode code 0 = .ok (.new 8, 3) := by decide +kernel
theorem dl_3 : decode code 3 = .ok (.dup, 1) := by decide +kernel
theorem dl_4 : decode code 4 = .ok (.invokespecial 59, 3) := by decide +kernel
theorem dl_7 : decode code 7 = .ok (.astore_n 1, 1) := by decide +kernel
theorem dl_8 : decode code 8 = .ok (.new 60, 3) := by decide +kernel
theorem dl_11 : decode code 11 = .ok (.dup, 1) := by decide +kernel
theorem dl_12 : decode code 12 = .ok (.invokespecial 62, 3) := by decide +kernel
theorem dl_15 : decode code 15 = .ok (.astore_n 2, 1) := by decide +kernel
theorem dl_16 : decode code 16 = .ok (.iconst 1, 1) := by decide +kernel
theorem dl_17 : decode code 17 = .ok (.newarray .long, 2) := by decide +kernel
theorem dl_19 : decode code 19 = .ok (.astore_n 3, 1) := by decide +kernel
theorem dl_20 : decode code 20 = .ok (.iconst 0, 1) := by decide +kernel
theorem dl_21 : decode code 21 = .ok (.istore 4, 2) := by decide +kernel
theorem dl_23 : decode code 23 = .ok (.iload 4, 2) := by decide +kernel
theorem dl_25 : decode code 25 = .ok (.aload_n 0, 1) := by decide +kernel
theorem dl_26 : decode code 26 = .ok (.arraylength, 1) := by decide +kernel
theorem dl_27 : decode code 27 = .ok (.bipush 6, 2) := by decide +kernel
theorem dl_29 : decode code 29 = .ok (.isub, 1) := by decide +kernel
theorem dl_30 : decode code 30 = .ok (.if_icmp .gt 909, 3) := by decide +kernel
theorem dl_33 : decode code 33 = .ok (.aload_n 0, 1) := by decide +kernel
theorem dl_34 : decode code 34 = .ok (.iload 4, 2) := by decide +kernel
theorem dl_36 : decode code 36 = .ok (.iaload, 1) := by decide +kernel
theorem dl_37 : decode code 37 = .ok (.bipush 15, 2) := by decide +kernel
theorem dl_39 : decode code 39 = .ok (.iand, 1) := by decide +kernel
theorem dl_40 : decode code 40 = .ok (.tableswitch 893 0 13 #[72, 176, 232, 289, 314, 357, 401, 513, 613, 657, 670, 726, 782, 837], 72) := by decide +kernel
theorem dl_112 : decode code 112 = .ok (.aload_n 1, 1) := by decide +kernel
theorem dl_113 : decode code 113 = .ok (.aload_n 0, 1) := by decide +kernel
theorem dl_114 : decode code 114 = .ok (.iload 4, 2) := by decide +kernel
theorem dl_116 : decode code 116 = .ok (.iconst 1, 1) := by decide +kernel
theorem dl_117 : decode code 117 = .ok (.iadd, 1) := by decide +kernel
theorem dl_118 : decode code 118 = .ok (.iaload, 1) := by decide +kernel
theorem dl_119 : decode code 119 = .ok (.aload_n 0, 1) := by decide +kernel
theorem dl_120 : decode code 120 = .ok (.iload 4, 2) := by decide +kernel
theorem dl_122 : decode code 122 = .ok (.iconst 2, 1) := by decide +kernel
theorem dl_123 : decode code 123 = .ok (.iadd, 1) := by decide +kernel
theorem dl_124 : decode code 124 = .ok (.iaload, 1) := by decide +kernel
theorem dl_125 : decode code 125 = .ok (.aload_n 0, 1) := by decide +kernel
theorem dl_126 : decode code 126 = .ok (.iload 4, 2) := by decide +kernel
theorem dl_128 : decode code 128 = .ok (.iconst 3, 1) := by decide +kernel
theorem dl_129 : decode code 129 = .ok (.iadd, 1) := by decide +kernel
theorem dl_130 : decode code 130 = .ok (.iaload, 1) := by decide +kernel
theorem dl_131 : decode code 131 = .ok (.aload_n 0, 1) := by decide +kernel
theorem dl_132 : decode code 132 = .ok (.iload 4, 2) := by decide +kernel
theorem dl_134 : decode code 134 = .ok (.iconst 4, 1) := by decide +kernel
theorem dl_135 : decode code 135 = .ok (.iadd, 1) := by decide +kernel
theorem dl_136 : decode code 136 = .ok (.iaload, 1) := by decide +kernel
theorem dl_137 : decode code 137 = .ok (.aload_n 0, 1) := by decide +kernel
theorem dl_138 : decode code 138 = .ok (.iload 4, 2) := by decide +kernel
theorem dl_140 : decode code 140 = .ok (.iconst 5, 1) := by decide +kernel
theorem dl_141 : decode code 141 = .ok (.iadd, 1) := by decide +kernel
theorem dl_142 : decode code 142 = .ok (.iaload, 1) := by decide +kernel
theorem dl_143 : decode code 143 = .ok (.aload_n 3, 1) := by decide +kernel
theorem dl_144 : decode code 144 = .ok (.invokestatic 63, 3) := by decide +kernel
theorem dl_147 : decode code 147 = .ok (.istore 5, 2) := by decide +kernel
theorem dl_149 : decode code 149 = .ok (.aload_n 2, 1) := by decide +kernel
theorem dl_150 : decode code 150 = .ok (.aload_n 0, 1) := by decide +kernel
theorem dl_151 : decode code 151 = .ok (.iload 4, 2) := by decide +kernel
theorem dl_153 : decode code 153 = .ok (.iconst 1, 1) := by decide +kernel
theorem dl_154 : decode code 154 = .ok (.iadd, 1) := by decide +kernel
theorem dl_155 : decode code 155 = .ok (.iaload, 1) := by decide +kernel
theorem dl_156 : decode code 156 = .ok (.aload_n 0, 1) := by decide +kernel
theorem dl_157 : decode code 157 = .ok (.iload 4, 2) := by decide +kernel
theorem dl_159 : decode code 159 = .ok (.iconst 2, 1) := by decide +kernel
theorem dl_160 : decode code 160 = .ok (.iadd, 1) := by decide +kernel
theorem dl_161 : decode code 161 = .ok (.iaload, 1) := by decide +kernel
theorem dl_162 : decode code 162 = .ok (.aload_n 0, 1) := by decide +kernel
theorem dl_163 : decode code 163 = .ok (.iload 4, 2) := by decide +kernel
theorem dl_165 : decode code 165 = .ok (.iconst 3, 1) := by decide +kernel
theorem dl_166 : decode code 166 = .ok (.iadd, 1) := by decide +kernel
theorem dl_167 : decode code 167 = .ok (.iaload, 1) := by decide +kernel
theorem dl_168 : decode code 168 = .ok (.aload_n 0, 1) := by decide +kernel
theorem dl_169 : decode code 169 = .ok (.iload 4, 2) := by decide +kernel
theorem dl_171 : decode code 171 = .ok (.iconst 4, 1) := by decide +kernel
theorem dl_172 : decode code 172 = .ok (.iadd, 1) := by decide +kernel
theorem dl_173 : decode code 173 = .ok (.iaload, 1) := by decide +kernel
theorem dl_174 : decode code 174 = .ok (.aload_n 0, 1) := by decide +kernel
theorem dl_175 : decode code 175 = .ok (.iload 4, 2) := by decide +kernel
theorem dl_177 : decode code 177 = .ok (.iconst 5, 1) := by decide +kernel
theorem dl_178 : decode code 178 = .ok (.iadd, 1) := by decide +kernel
theorem dl_179 : decode code 179 = .ok (.iaload, 1) := by decide +kernel
theorem dl_180 : decode code 180 = .ok (.invokevirtual 68, 3) := by decide +kernel
theorem dl_183 : decode code 183 = .ok (.istore 6, 2) := by decide +kernel
theorem dl_185 : decode code 185 = .ok (.aload_n 2, 1) := by decide +kernel
theorem dl_186 : decode code 186 = .ok (.invokevirtual 69, 3) := by decide +kernel
theorem dl_189 : decode code 189 = .ok (.iload 5, 2) := by decide +kernel
theorem dl_191 : decode code 191 = .ok (.if_icmp .eq 5, 3) := by decide +kernel
theorem dl_194 : decode code 194 = .ok (.iconst 0, 1) := by decide +kernel
theorem dl_195 : decode code 195 = .ok (.ireturn, 1) := by decide +kernel
theorem dl_196 : decode code 196 = .ok (.iload 5, 2) := by decide +kernel
theorem dl_198 : decode code 198 = .ok (.ifCond .ne 15, 3) := by decide +kernel
theorem dl_201 : decode code 201 = .ok (.aload_n 3, 1) := by decide +kernel
theorem dl_202 : decode code 202 = .ok (.iconst 0, 1) := by decide +kernel
theorem dl_203 : decode code 203 = .ok (.laload, 1) := by decide +kernel
theorem dl_204 : decode code 204 = .ok (.iload 6, 2) := by decide +kernel
theorem dl_206 : decode code 206 = .ok (.i2l, 1) := by decide +kernel
theorem dl_207 : decode code 207 = .ok (.lcmp, 1) := by decide +kernel
theorem dl_208 : decode code 208 = .ok (.ifCond .eq 5, 3) := by decide +kernel
theorem dl_211 : decode code 211 = .ok (.iconst 0, 1) := by decide +kernel
theorem dl_212 : decode code 212 = .ok (.ireturn, 1) := by decide +kernel
theorem dl_213 : decode code 213 = .ok (.goto 720, 3) := by decide +kernel
theorem dl_216 : decode code 216 = .ok (.aload_n 1, 1) := by decide +kernel
theorem dl_217 : decode code 217 = .ok (.aload_n 0, 1) := by decide +kernel
theorem dl_218 : decode code 218 = .ok (.iload 4, 2) := by decide +kernel
theorem dl_220 : decode code 220 = .ok (.iconst 1, 1) := by decide +kernel
theorem dl_221 : decode code 221 = .ok (.iadd, 1) := by decide +kernel
theorem dl_222 : decode code 222 = .ok (.iaload, 1) := by decide +kernel
theorem dl_223 : decode code 223 = .ok (.aload_n 3, 1) := by decide +kernel
theorem dl_224 : decode code 224 = .ok (.invokestatic 72, 3) := by decide +kernel
theorem dl_227 : decode code 227 = .ok (.istore 5, 2) := by decide +kernel
theorem dl_229 : decode code 229 = .ok (.aload_n 2, 1) := by decide +kernel
theorem dl_230 : decode code 230 = .ok (.aload_n 0, 1) := by decide +kernel
theorem dl_231 : decode code 231 = .ok (.iload 4, 2) := by decide +kernel
theorem dl_233 : decode code 233 = .ok (.iconst 1, 1) := by decide +kernel
theorem dl_234 : decode code 234 = .ok (.iadd, 1) := by decide +kernel
theorem dl_235 : decode code 235 = .ok (.iaload, 1) := by decide +kernel
theorem dl_236 : decode code 236 = .ok (.invokevirtual 75, 3) := by decide +kernel
theorem dl_239 : decode code 239 = .ok (.istore 6, 2) := by decide +kernel
theorem dl_241 : decode code 241 = .ok (.aload_n 2, 1) := by decide +kernel
theorem dl_242 : decode code 242 = .ok (.invokevirtual 69, 3) := by decide +kernel
theorem dl_245 : decode code 245 = .ok (.iload 5, 2) := by decide +kernel
theorem dl_247 : decode code 247 = .ok (.if_icmp .eq 5, 3) := by decide +kernel
theorem dl_250 : decode code 250 = .ok (.iconst 0, 1) := by decide +kernel
theorem dl_251 : decode code 251 = .ok (.ireturn, 1) := by decide +kernel
theorem dl_252 : decode code 252 = .ok (.iload 5, 2) := by decide +kernel
theorem dl_254 : decode code 254 = .ok (.ifCond .ne 15, 3) := by decide +kernel
theorem dl_257 : decode code 257 = .ok (.aload_n 3, 1) := by decide +kernel
theorem dl_258 : decode code 258 = .ok (.iconst 0, 1) := by decide +kernel
theorem dl_259 : decode code 259 = .ok (.laload, 1) := by decide +kernel
theorem dl_260 : decode code 260 = .ok (.iload 6, 2) := by decide +kernel
theorem dl_262 : decode code 262 = .ok (.i2l, 1) := by decide +kernel
theorem dl_263 : decode code 263 = .ok (.lcmp, 1) := by decide +kernel
theorem dl_264 : decode code 264 = .ok (.ifCond .eq 5, 3) := by decide +kernel
theorem dl_267 : decode code 267 = .ok (.iconst 0, 1) := by decide +kernel
theorem dl_268 : decode code 268 = .ok (.ireturn, 1) := by decide +kernel
theorem dl_269 : decode code 269 = .ok (.goto 664, 3) := by decide +kernel
theorem dl_272 : decode code 272 = .ok (.aload_n 1, 1) := by decide +kernel
theorem dl_273 : decode code 273 = .ok (.aload_n 0, 1) := by decide +kernel
theorem dl_274 : decode code 274 = .ok (.iload 4, 2) := by decide +kernel
theorem dl_276 : decode code 276 = .ok (.iconst 1, 1) := by decide +kernel
theorem dl_277 : decode code 277 = .ok (.iadd, 1) := by decide +kernel
theorem dl_278 : decode code 278 = .ok (.iaload, 1) := by decide +kernel
theorem dl_279 : decode code 279 = .ok (.i2l, 1) := by decide +kernel
theorem dl_280 : decode code 280 = .ok (.bipush 32, 2) := by decide +kernel
theorem dl_282 : decode code 282 = .ok (.lshl, 1) := by decide +kernel
theorem dl_283 : decode code 283 = .ok (.aload_n 0, 1) := by decide +kernel
theorem dl_284 : decode code 284 = .ok (.iload 4, 2) := by decide +kernel
theorem dl_286 : decode code 286 = .ok (.iconst 2, 1) := by decide +kernel
theorem dl_287 : decode code 287 = .ok (.iadd, 1) := by decide +kernel
theorem dl_288 : decode code 288 = .ok (.iaload, 1) := by decide +kernel
theorem dl_289 : decode code 289 = .ok (.i2l, 1) := by decide +kernel
theorem dl_290 : decode code 290 = .ok (.ldc2_w 76, 3) := by decide +kernel
theorem dl_293 : decode code 293 = .ok (.land, 1) := by decide +kernel
theorem dl_294 : decode code 294 = .ok (.lor, 1) := by decide +kernel
theorem dl_295 : decode code 295 = .ok (.invokevirtual 78, 3) := by decide +kernel
theorem dl_298 : decode code 298 = .ok (.aload_n 2, 1) := by decide +kernel
theorem dl_299 : decode code 299 = .ok (.aload_n 0, 1) := by decide +kernel
theorem dl_300 : decode code 300 = .ok (.iload 4, 2) := by decide +kernel
theorem dl_302 : decode code 302 = .ok (.iconst 1, 1) := by decide +kernel
theorem dl_303 : decode code 303 = .ok (.iadd, 1) := by decide +kernel
theorem dl_304 : decode code 304 = .ok (.iaload, 1) := by decide +kernel
theorem dl_305 : decode code 305 = .ok (.i2l, 1) := by decide +kernel
theorem dl_306 : decode code 306 = .ok (.bipush 32, 2) := by decide +kernel
theorem dl_308 : decode code 308 = .ok (.lshl, 1) := by decide +kernel
theorem dl_309 : decode code 309 = .ok (.aload_n 0, 1) := by decide +kernel
theorem dl_310 : decode code 310 = .ok (.iload 4, 2) := by decide +kernel
theorem dl_312 : decode code 312 = .ok (.iconst 2, 1) := by decide +kernel
theorem dl_313 : decode code 313 = .ok (.iadd, 1) := by decide +kernel
theorem dl_314 : decode code 314 = .ok (.iaload, 1) := by decide +kernel
theorem dl_315 : decode code 315 = .ok (.i2l, 1) := by decide +kernel
theorem dl_316 : decode code 316 = .ok (.ldc2_w 76, 3) := by decide +kernel
theorem dl_319 : decode code 319 = .ok (.land, 1) := by decide +kernel
theorem dl_320 : decode code 320 = .ok (.lor, 1) := by decide +kernel
theorem dl_321 : decode code 321 = .ok (.invokevirtual 82, 3) := by decide +kernel
theorem dl_324 : decode code 324 = .ok (.if_icmp .eq 609, 3) := by decide +kernel
theorem dl_327 : decode code 327 = .ok (.iconst 0, 1) := by decide +kernel
theorem dl_328 : decode code 328 = .ok (.ireturn, 1) := by decide +kernel
theorem dl_329 : decode code 329 = .ok (.aload_n 1, 1) := by decide +kernel
theorem dl_330 : decode code 330 = .ok (.aload_n 0, 1) := by decide +kernel
theorem dl_331 : decode code 331 = .ok (.iload 4, 2) := by decide +kernel
theorem dl_333 : decode code 333 = .ok (.iconst 1, 1) := by decide +kernel
theorem dl_334 : decode code 334 = .ok (.iadd, 1) := by decide +kernel
theorem dl_335 : decode code 335 = .ok (.iaload, 1) := by decide +kernel
theorem dl_336 : decode code 336 = .ok (.invokevirtual 83, 3) := by decide +kernel
theorem dl_339 : decode code 339 = .ok (.aload_n 2, 1) := by decide +kernel
theorem dl_340 : decode code 340 = .ok (.aload_n 0, 1) := by decide +kernel
theorem dl_341 : decode code 341 = .ok (.iload 4, 2) := by decide +kernel
theorem dl_343 : decode code 343 = .ok (.iconst 1, 1) := by decide +kernel
theorem dl_344 : decode code 344 = .ok (.iadd, 1) := by decide +kernel
theorem dl_345 : decode code 345 = .ok (.iaload, 1) := by decide +kernel
theorem dl_346 : decode code 346 = .ok (.invokevirtual 86, 3) := by decide +kernel
theorem dl_349 : decode code 349 = .ok (.if_icmp .eq 584, 3) := by decide +kernel
theorem dl_352 : decode code 352 = .ok (.iconst 0, 1) := by decide +kernel
theorem dl_353 : decode code 353 = .ok (.ireturn, 1) := by decide +kernel
theorem dl_354 : decode code 354 = .ok (.aload_n 1, 1) := by decide +kernel
theorem dl_355 : decode code 355 = .ok (.aload_n 3, 1) := by decide +kernel
theorem dl_356 : decode code 356 = .ok (.invokestatic 87, 3) := by decide +kernel
theorem dl_359 : decode code 359 = .ok (.istore 5, 2) := by decide +kernel
theorem dl_361 : decode code 361 = .ok (.aload_n 2, 1) := by decide +kernel
theorem dl_362 : decode code 362 = .ok (.invokevirtual 90, 3) := by decide +kernel
theorem dl_365 : decode code 365 = .ok (.lstore 6, 2) := by decide +kernel
theorem dl_367 : decode code 367 = .ok (.aload_n 2, 1) := by decide +kernel
theorem dl_368 : decode code 368 = .ok (.invokevirtual 69, 3) := by decide +kernel
theorem dl_371 : decode code 371 = .ok (.iload 5, 2) := by decide +kernel
theorem dl_373 : decode code 373 = .ok (.if_icmp .eq 5, 3) := by decide +kernel
theorem dl_376 : decode code 376 = .ok (.iconst 0, 1) := by decide +kernel
theorem dl_377 : decode code 377 = .ok (.ireturn, 1) := by decide +kernel
theorem dl_378 : decode code 378 = .ok (.iload 5, 2) := by decide +kernel
theorem dl_380 : decode code 380 = .ok (.ifCond .ne 14, 3) := by decide +kernel
theorem dl_383 : decode code 383 = .ok (.aload_n 3, 1) := by decide +kernel
theorem dl_384 : decode code 384 = .ok (.iconst 0, 1) := by decide +kernel
theorem dl_385 : decode code 385 = .ok (.laload, 1) := by decide +kernel
theorem dl_386 : decode code 386 = .ok (.lload 6, 2) := by decide +kernel
theorem dl_388 : decode code 388 = .ok (.lcmp, 1) := by decide +kernel
theorem dl_389 : decode code 389 = .ok (.ifCond .eq 5, 3) := by decide +kernel
theorem dl_392 : decode code 392 = .ok (.iconst 0, 1) := by decide +kernel
theorem dl_393 : decode code 393 = .ok (.ireturn, 1) := by decide +kernel
theorem dl_394 : decode code 394 = .ok (.goto 539, 3) := by decide +kernel
theorem dl_397 : decode code 397 = .ok (.aload_n 1, 1) := by decide +kernel
theorem dl_398 : decode code 398 = .ok (.aload_n 3, 1) := by decide +kernel
theorem dl_399 : decode code 399 = .ok (.invokestatic 91, 3) := by decide +kernel
theorem dl_402 : decode code 402 = .ok (.istore 5, 2) := by decide +kernel
theorem dl_404 : decode code 404 = .ok (.aload_n 2, 1) := by decide +kernel
theorem dl_405 : decode code 405 = .ok (.invokevirtual 93, 3) := by decide +kernel
theorem dl_408 : decode code 408 = .ok (.istore 6, 2) := by decide +kernel
theorem dl_410 : decode code 410 = .ok (.aload_n 2, 1) := by decide +kernel
theorem dl_411 : decode code 411 = .ok (.invokevirtual 69, 3) := by decide +kernel
theorem dl_414 : decode code 414 = .ok (.iload 5, 2) := by decide +kernel
theorem dl_416 : decode code 416 = .ok (.if_icmp .eq 5, 3) := by decide +kernel
theorem dl_419 : decode code 419 = .ok (.iconst 0, 1) := by decide +kernel
theorem dl_420 : decode code 420 = .ok (.ireturn, 1) := by decide +kernel
theorem dl_421 : decode code 421 = .ok (.iload 5, 2) := by decide +kernel
theorem dl_423 : decode code 423 = .ok (.ifCond .ne 15, 3) := by decide +kernel
theorem dl_426 : decode code 426 = .ok (.aload_n 3, 1) := by decide +kernel
theorem dl_427 : decode code 427 = .ok (.iconst 0, 1) := by decide +kernel
theorem dl_428 : decode code 428 = .ok (.laload, 1) := by decide +kernel
theorem dl_429 : decode code 429 = .ok (.iload 6, 2) := by decide +kernel
theorem dl_431 : decode code 431 = .ok (.i2l, 1) := by decide +kernel
theorem dl_432 : decode code 432 = .ok (.lcmp, 1) := by decide +kernel
theorem dl_433 : decode code 433 = .ok (.ifCond .eq 5, 3) := by decide +kernel
theorem dl_436 : decode code 436 = .ok (.iconst 0, 1) := by decide +kernel
theorem dl_437 : decode code 437 = .ok (.ireturn, 1) := by decide +kernel
theorem dl_438 : decode code 438 = .ok (.goto 495, 3) := by decide +kernel
theorem dl_441 : decode code 441 = .ok (.aload_n 1, 1) := by decide +kernel
theorem dl_442 : decode code 442 = .ok (.aload_n 0, 1) := by decide +kernel
theorem dl_443 : decode code 443 = .ok (.iload 4, 2) := by decide +kernel
theorem dl_445 : decode code 445 = .ok (.iconst 1, 1) := by decide +kernel
theorem dl_446 : decode code 446 = .ok (.iadd, 1) := by decide +kernel
theorem dl_447 : decode code 447 = .ok (.iaload, 1) := by decide +kernel
theorem dl_448 : decode code 448 = .ok (.aload_n 0, 1) := by decide +kernel
theorem dl_449 : decode code 449 = .ok (.iload 4, 2) := by decide +kernel
theorem dl_451 : decode code 451 = .ok (.iconst 2, 1) := by decide +kernel
theorem dl_452 : decode code 452 = .ok (.iadd, 1) := by decide +kernel
theorem dl_453 : decode code 453 = .ok (.iaload, 1) := by decide +kernel
theorem dl_454 : decode code 454 = .ok (.aload_n 0, 1) := by decide +kernel
theorem dl_455 : decode code 455 = .ok (.iload 4, 2) := by decide +kernel
theorem dl_457 : decode code 457 = .ok (.iconst 3, 1) := by decide +kernel
theorem dl_458 : decode code 458 = .ok (.iadd, 1) := by decide +kernel
theorem dl_459 : decode code 459 = .ok (.iaload, 1) := by decide +kernel
theorem dl_460 : decode code 460 = .ok (.i2l, 1) := by decide +kernel
theorem dl_461 : decode code 461 = .ok (.bipush 32, 2) := by decide +kernel
theorem dl_463 : decode code 463 = .ok (.lshl, 1) := by decide +kernel
theorem dl_464 : decode code 464 = .ok (.aload_n 0, 1) := by decide +kernel
theorem dl_465 : decode code 465 = .ok (.iload 4, 2) := by decide +kernel
theorem dl_467 : decode code 467 = .ok (.iconst 4, 1) := by decide +kernel
theorem dl_468 : decode code 468 = .ok (.iadd, 1) := by decide +kernel
theorem dl_469 : decode code 469 = .ok (.iaload, 1) := by decide +kernel
theorem dl_470 : decode code 470 = .ok (.i2l, 1) := by decide +kernel
theorem dl_471 : decode code 471 = .ok (.ldc2_w 76, 3) := by decide +kernel
theorem dl_474 : decode code 474 = .ok (.land, 1) := by decide +kernel
theorem dl_475 : decode code 475 = .ok (.lor, 1) := by decide +kernel
theorem dl_476 : decode code 476 = .ok (.aload_n 3, 1) := by decide +kernel
theorem dl_477 : decode code 477 = .ok (.invokestatic 94, 3) := by decide +kernel
theorem dl_480 : decode code 480 = .ok (.istore 5, 2) := by decide +kernel
theorem dl_482 : decode code 482 = .ok (.aload_n 2, 1) := by decide +kernel
theorem dl_483 : decode code 483 = .ok (.aload_n 0, 1) := by decide +kernel
theorem dl_484 : decode code 484 = .ok (.iload 4, 2) := by decide +kernel
theorem dl_486 : decode code 486 = .ok (.iconst 1, 1) := by decide +kernel
theorem dl_487 : decode code 487 = .ok (.iadd, 1) := by decide +kernel
theorem dl_488 : decode code 488 = .ok (.iaload, 1) := by decide +kernel
theorem dl_489 : decode code 489 = .ok (.aload_n 0, 1) := by decide +kernel
theorem dl_490 : decode code 490 = .ok (.iload 4, 2) := by decide +kernel
theorem dl_492 : decode code 492 = .ok (.iconst 2, 1) := by decide +kernel
theorem dl_493 : decode code 493 = .ok (.iadd, 1) := by decide +kernel
theorem dl_494 : decode code 494 = .ok (.iaload, 1) := by decide +kernel
theorem dl_495 : decode code 495 = .ok (.aload_n 0, 1) := by decide +kernel
theorem dl_496 : decode code 496 = .ok (.iload 4, 2) := by decide +kernel
theorem dl_498 : decode code 498 = .ok (.iconst 3, 1) := by decide +kernel
theorem dl_499 : decode code 499 = .ok (.iadd, 1) := by decide +kernel
theorem dl_500 : decode code 500 = .ok (.iaload, 1) := by decide +kernel
theorem dl_501 : decode code 501 = .ok (.i2l, 1) := by decide +kernel
theorem dl_502 : decode code 502 = .ok (.bipush 32, 2) := by decide +kernel
theorem dl_504 : decode code 504 = .ok (.lshl, 1) := by decide +kernel
theorem dl_505 : decode code 505 = .ok (.aload_n 0, 1) := by decide +kernel
theorem dl_506 : decode code 506 = .ok (.iload 4, 2) := by decide +kernel
theorem dl_508 : decode code 508 = .ok (.iconst 4, 1) := by decide +kernel
theorem dl_509 : decode code 509 = .ok (.iadd, 1) := by decide +kernel
theorem dl_510 : decode code 510 = .ok (.iaload, 1) := by decide +kernel
theorem dl_511 : decode code 511 = .ok (.i2l, 1) := by decide +kernel
theorem dl_512 : decode code 512 = .ok (.ldc2_w 76, 3) := by decide +kernel
theorem dl_515 : decode code 515 = .ok (.land, 1) := by decide +kernel
theorem dl_516 : decode code 516 = .ok (.lor, 1) := by decide +kernel
theorem dl_517 : decode code 517 = .ok (.invokevirtual 97, 3) := by decide +kernel
theorem dl_520 : decode code 520 = .ok (.istore 6, 2) := by decide +kernel
theorem dl_522 : decode code 522 = .ok (.aload_n 2, 1) := by decide +kernel
theorem dl_523 : decode code 523 = .ok (.invokevirtual 69, 3) := by decide +kernel
theorem dl_526 : decode code 526 = .ok (.iload 5, 2) := by decide +kernel
theorem dl_528 : decode code 528 = .ok (.if_icmp .eq 5, 3) := by decide +kernel
theorem dl_531 : decode code 531 = .ok (.iconst 0, 1) := by decide +kernel
theorem dl_532 : decode code 532 = .ok (.ireturn, 1) := by decide +kernel
theorem dl_533 : decode code 533 = .ok (.iload 5, 2) := by decide +kernel
theorem dl_535 : decode code 535 = .ok (.ifCond .ne 15, 3) := by decide +kernel
theorem dl_538 : decode code 538 = .ok (.aload_n 3, 1) := by decide +kernel
theorem dl_539 : decode code 539 = .ok (.iconst 0, 1) := by decide +kernel
theorem dl_540 : decode code 540 = .ok (.laload, 1) := by decide +kernel
theorem dl_541 : decode code 541 = .ok (.iload 6, 2) := by decide +kernel
theorem dl_543 : decode code 543 = .ok (.i2l, 1) := by decide +kernel
theorem dl_544 : decode code 544 = .ok (.lcmp, 1) := by decide +kernel
theorem dl_545 : decode code 545 = .ok (.ifCond .eq 5, 3) := by decide +kernel
theorem dl_548 : decode code 548 = .ok (.iconst 0, 1) := by decide +kernel
theorem dl_549 : decode code 549 = .ok (.ireturn, 1) := by decide +kernel
theorem dl_550 : decode code 550 = .ok (.goto 383, 3) := by decide +kernel
theorem dl_553 : decode code 553 = .ok (.aload_n 1, 1) := by decide +kernel
theorem dl_554 : decode code 554 = .ok (.aload_n 0, 1) := by decide +kernel
theorem dl_555 : decode code 555 = .ok (.iload 4, 2) := by decide +kernel
theorem dl_557 : decode code 557 = .ok (.iconst 1, 1) := by decide +kernel
theorem dl_558 : decode code 558 = .ok (.iadd, 1) := by decide +kernel
theorem dl_559 : decode code 559 = .ok (.iaload, 1) := by decide +kernel
theorem dl_560 : decode code 560 = .ok (.aload_n 0, 1) := by decide +kernel
theorem dl_561 : decode code 561 = .ok (.iload 4, 2) := by decide +kernel
theorem dl_563 : decode code 563 = .ok (.iconst 2, 1) := by decide +kernel
theorem dl_564 : decode code 564 = .ok (.iadd, 1) := by decide +kernel
theorem dl_565 : decode code 565 = .ok (.iaload, 1) := by decide +kernel
theorem dl_566 : decode code 566 = .ok (.i2l, 1) := by decide +kernel
theorem dl_567 : decode code 567 = .ok (.bipush 32, 2) := by decide +kernel
theorem dl_569 : decode code 569 = .ok (.lshl, 1) := by decide +kernel
theorem dl_570 : decode code 570 = .ok (.aload_n 0, 1) := by decide +kernel
theorem dl_571 : decode code 571 = .ok (.iload 4, 2) := by decide +kernel
theorem dl_573 : decode code 573 = .ok (.iconst 3, 1) := by decide +kernel
theorem dl_574 : decode code 574 = .ok (.iadd, 1) := by decide +kernel
theorem dl_575 : decode code 575 = .ok (.iaload, 1) := by decide +kernel
theorem dl_576 : decode code 576 = .ok (.i2l, 1) := by decide +kernel
theorem dl_577 : decode code 577 = .ok (.ldc2_w 76, 3) := by decide +kernel
theorem dl_580 : decode code 580 = .ok (.land, 1) := by decide +kernel
theorem dl_581 : decode code 581 = .ok (.lor, 1) := by decide +kernel
theorem dl_582 : decode code 582 = .ok (.aload_n 3, 1) := by decide +kernel
theorem dl_583 : decode code 583 = .ok (.invokestatic 98, 3) := by decide +kernel
theorem dl_586 : decode code 586 = .ok (.istore 5, 2) := by decide +kernel
theorem dl_588 : decode code 588 = .ok (.aload_n 2, 1) := by decide +kernel
theorem dl_589 : decode code 589 = .ok (.aload_n 0, 1) := by decide +kernel
theorem dl_590 : decode code 590 = .ok (.iload 4, 2) := by decide +kernel
theorem dl_592 : decode code 592 = .ok (.iconst 1, 1) := by decide +kernel
theorem dl_593 : decode code 593 = .ok (.iadd, 1) := by decide +kernel
theorem dl_594 : decode code 594 = .ok (.iaload, 1) := by decide +kernel
theorem dl_595 : decode code 595 = .ok (.aload_n 0, 1) := by decide +kernel
theorem dl_596 : decode code 596 = .ok (.iload 4, 2) := by decide +kernel
theorem dl_598 : decode code 598 = .ok (.iconst 2, 1) := by decide +kernel
theorem dl_599 : decode code 599 = .ok (.iadd, 1) := by decide +kernel
theorem dl_600 : decode code 600 = .ok (.iaload, 1) := by decide +kernel
theorem dl_601 : decode code 601 = .ok (.i2l, 1) := by decide +kernel
theorem dl_602 : decode code 602 = .ok (.bipush 32, 2) := by decide +kernel
theorem dl_604 : decode code 604 = .ok (.lshl, 1) := by decide +kernel
theorem dl_605 : decode code 605 = .ok (.aload_n 0, 1) := by decide +kernel
theorem dl_606 : decode code 606 = .ok (.iload 4, 2) := by decide +kernel
theorem dl_608 : decode code 608 = .ok (.iconst 3, 1) := by decide +kernel
theorem dl_609 : decode code 609 = .ok (.iadd, 1) := by decide +kernel
theorem dl_610 : decode code 610 = .ok (.iaload, 1) := by decide +kernel
theorem dl_611 : decode code 611 = .ok (.i2l, 1) := by decide +kernel
theorem dl_612 : decode code 612 = .ok (.ldc2_w 76, 3) := by decide +kernel
theorem dl_615 : decode code 615 = .ok (.land, 1) := by decide +kernel
theorem dl_616 : decode code 616 = .ok (.lor, 1) := by decide +kernel
theorem dl_617 : decode code 617 = .ok (.invokevirtual 101, 3) := by decide +kernel
theorem dl_620 : decode code 620 = .ok (.istore 6, 2) := by decide +kernel
theorem dl_622 : decode code 622 = .ok (.aload_n 2, 1) := by decide +kernel
theorem dl_623 : decode code 623 = .ok (.invokevirtual 69, 3) := by decide +kernel
theorem dl_626 : decode code 626 = .ok (.iload 5, 2) := by decide +kernel
theorem dl_628 : decode code 628 = .ok (.if_icmp .eq 5, 3) := by decide +kernel
theorem dl_631 : decode code 631 = .ok (.iconst 0, 1) := by decide +kernel
theorem dl_632 : decode code 632 = .ok (.ireturn, 1) := by decide +kernel
theorem dl_633 : decode code 633 = .ok (.iload 5, 2) := by decide +kernel
theorem dl_635 : decode code 635 = .ok (.ifCond .ne 15, 3) := by decide +kernel
theorem dl_638 : decode code 638 = .ok (.aload_n 3, 1) := by decide +kernel
theorem dl_639 : decode code 639 = .ok (.iconst 0, 1) := by decide +kernel
theorem dl_640 : decode code 640 = .ok (.laload, 1) := by decide +kernel
theorem dl_641 : decode code 641 = .ok (.iload 6, 2) := by decide +kernel
theorem dl_643 : decode code 643 = .ok (.i2l, 1) := by decide +kernel
theorem dl_644 : decode code 644 = .ok (.lcmp, 1) := by decide +kernel
theorem dl_645 : decode code 645 = .ok (.ifCond .eq 5, 3) := by decide +kernel
theorem dl_648 : decode code 648 = .ok (.iconst 0, 1) := by decide +kernel
theorem dl_649 : decode code 649 = .ok (.ireturn, 1) := by decide +kernel
theorem dl_650 : decode code 650 = .ok (.goto 283, 3) := by decide +kernel
theorem dl_653 : decode code 653 = .ok (.aload_n 1, 1) := by decide +kernel
theorem dl_654 : decode code 654 = .ok (.aload_n 3, 1) := by decide +kernel
theorem dl_655 : decode code 655 = .ok (.invokestatic 102, 3) := by decide +kernel
theorem dl_658 : decode code 658 = .ok (.istore 5, 2) := by decide +kernel
theorem dl_660 : decode code 660 = .ok (.aload_n 2, 1) := by decide +kernel
theorem dl_661 : decode code 661 = .ok (.invokevirtual 104, 3) := by decide +kernel
theorem dl_664 : decode code 664 = .ok (.istore 6, 2) := by decide +kernel
theorem dl_666 : decode code 666 = .ok (.aload_n 2, 1) := by decide +kernel
theorem dl_667 : decode code 667 = .ok (.invokevirtual 69, 3) := by decide +kernel
theorem dl_670 : decode code 670 = .ok (.iload 5, 2) := by decide +kernel
theorem dl_672 : decode code 672 = .ok (.if_icmp .eq 5, 3) := by decide +kernel
theorem dl_675 : decode code 675 = .ok (.iconst 0, 1) := by decide +kernel
theorem dl_676 : decode code 676 = .ok (.ireturn, 1) := by decide +kernel
theorem dl_677 : decode code 677 = .ok (.iload 5, 2) := by decide +kernel
theorem dl_679 : decode code 679 = .ok (.ifCond .ne 15, 3) := by decide +kernel
theorem dl_682 : decode code 682 = .ok (.aload_n 3, 1) := by decide +kernel
theorem dl_683 : decode code 683 = .ok (.iconst 0, 1) := by decide +kernel
theorem dl_684 : decode code 684 = .ok (.laload, 1) := by decide +kernel
theorem dl_685 : decode code 685 = .ok (.iload 6, 2) := by decide +kernel
theorem dl_687 : decode code 687 = .ok (.i2l, 1) := by decide +kernel
theorem dl_688 : decode code 688 = .ok (.lcmp, 1) := by decide +kernel
theorem dl_689 : decode code 689 = .ok (.ifCond .eq 5, 3) := by decide +kernel
theorem dl_692 : decode code 692 = .ok (.iconst 0, 1) := by decide +kernel
theorem dl_693 : decode code 693 = .ok (.ireturn, 1) := by decide +kernel
theorem dl_694 : decode code 694 = .ok (.goto 239, 3) := by decide +kernel
theorem dl_697 : decode code 697 = .ok (.aload_n 1, 1) := by decide +kernel
theorem dl_698 : decode code 698 = .ok (.invokevirtual 105, 3) := by decide +kernel
theorem dl_701 : decode code 701 = .ok (.aload_n 2, 1) := by decide +kernel
theorem dl_702 : decode code 702 = .ok (.invokevirtual 108, 3) := by decide +kernel
theorem dl_705 : decode code 705 = .ok (.if_icmp .eq 228, 3) := by decide +kernel
theorem dl_708 : decode code 708 = .ok (.iconst 0, 1) := by decide +kernel
theorem dl_709 : decode code 709 = .ok (.ireturn, 1) := by decide +kernel
theorem dl_710 : decode code 710 = .ok (.aload_n 1, 1) := by decide +kernel
theorem dl_711 : decode code 711 = .ok (.aload_n 0, 1) := by decide +kernel
theorem dl_712 : decode code 712 = .ok (.iload 4, 2) := by decide +kernel
theorem dl_714 : decode code 714 = .ok (.iconst 1, 1) := by decide +kernel
theorem dl_715 : decode code 715 = .ok (.iadd, 1) := by decide +kernel
theorem dl_716 : decode code 716 = .ok (.iaload, 1) := by decide +kernel
theorem dl_717 : decode code 717 = .ok (.aload_n 3, 1) := by decide +kernel
theorem dl_718 : decode code 718 = .ok (.invokestatic 109, 3) := by decide +kernel
theorem dl_721 : decode code 721 = .ok (.istore 5, 2) := by decide +kernel
theorem dl_723 : decode code 723 = .ok (.aload_n 2, 1) := by decide +kernel
theorem dl_724 : decode code 724 = .ok (.aload_n 0, 1) := by decide +kernel
theorem dl_725 : decode code 725 = .ok (.iload 4, 2) := by decide +kernel
theorem dl_727 : decode code 727 = .ok (.iconst 1, 1) := by decide +kernel
theorem dl_728 : decode code 728 = .ok (.iadd, 1) := by decide +kernel
theorem dl_729 : decode code 729 = .ok (.iaload, 1) := by decide +kernel
theorem dl_730 : decode code 730 = .ok (.invokevirtual 111, 3) := by decide +kernel
theorem dl_733 : decode code 733 = .ok (.istore 6, 2) := by decide +kernel
theorem dl_735 : decode code 735 = .ok (.aload_n 2, 1) := by decide +kernel
theorem dl_736 : decode code 736 = .ok (.invokevirtual 69, 3) := by decide +kernel
theorem dl_739 : decode code 739 = .ok (.iload 5, 2) := by decide +kernel
theorem dl_741 : decode code 741 = .ok (.if_icmp .eq 5, 3) := by decide +kernel
theorem dl_744 : decode code 744 = .ok (.iconst 0, 1) := by decide +kernel
theorem dl_745 : decode code 745 = .ok (.ireturn, 1) := by decide +kernel
theorem dl_746 : decode code 746 = .ok (.iload 5, 2) := by decide +kernel
theorem dl_748 : decode code 748 = .ok (.ifCond .ne 15, 3) := by decide +kernel
theorem dl_751 : decode code 751 = .ok (.aload_n 3, 1) := by decide +kernel
theorem dl_752 : decode code 752 = .ok (.iconst 0, 1) := by decide +kernel
theorem dl_753 : decode code 753 = .ok (.laload, 1) := by decide +kernel
theorem dl_754 : decode code 754 = .ok (.iload 6, 2) := by decide +kernel
theorem dl_756 : decode code 756 = .ok (.i2l, 1) := by decide +kernel
theorem dl_757 : decode code 757 = .ok (.lcmp, 1) := by decide +kernel
theorem dl_758 : decode code 758 = .ok (.ifCond .eq 5, 3) := by decide +kernel
theorem dl_761 : decode code 761 = .ok (.iconst 0, 1) := by decide +kernel
theorem dl_762 : decode code 762 = .ok (.ireturn, 1) := by decide +kernel
theorem dl_763 : decode code 763 = .ok (.goto 170, 3) := by decide +kernel
theorem dl_766 : decode code 766 = .ok (.aload_n 1, 1) := by decide +kernel
theorem dl_767 : decode code 767 = .ok (.aload_n 0, 1) := by decide +kernel
theorem dl_768 : decode code 768 = .ok (.iload 4, 2) := by decide +kernel
theorem dl_770 : decode code 770 = .ok (.iconst 1, 1) := by decide +kernel
theorem dl_771 : decode code 771 = .ok (.iadd, 1) := by decide +kernel
theorem dl_772 : decode code 772 = .ok (.iaload, 1) := by decide +kernel
theorem dl_773 : decode code 773 = .ok (.aload_n 3, 1) := by decide +kernel
theorem dl_774 : decode code 774 = .ok (.invokestatic 112, 3) := by decide +kernel
theorem dl_777 : decode code 777 = .ok (.istore 5, 2) := by decide +kernel
theorem dl_779 : decode code 779 = .ok (.aload_n 2, 1) := by decide +kernel
theorem dl_780 : decode code 780 = .ok (.aload_n 0, 1) := by decide +kernel
theorem dl_781 : decode code 781 = .ok (.iload 4, 2) := by decide +kernel
theorem dl_783 : decode code 783 = .ok (.iconst 1, 1) := by decide +kernel
theorem dl_784 : decode code 784 = .ok (.iadd, 1) := by decide +kernel
theorem dl_785 : decode code 785 = .ok (.iaload, 1) := by decide +kernel
theorem dl_786 : decode code 786 = .ok (.invokevirtual 114, 3) := by decide +kernel
theorem dl_789 : decode code 789 = .ok (.istore 6, 2) := by decide +kernel
theorem dl_791 : decode code 791 = .ok (.aload_n 2, 1) := by decide +kernel
theorem dl_792 : decode code 792 = .ok (.invokevirtual 69, 3) := by decide +kernel
theorem dl_795 : decode code 795 = .ok (.iload 5, 2) := by decide +kernel
theorem dl_797 : decode code 797 = .ok (.if_icmp .eq 5, 3) := by decide +kernel
theorem dl_800 : decode code 800 = .ok (.iconst 0, 1) := by decide +kernel
theorem dl_801 : decode code 801 = .ok (.ireturn, 1) := by decide +kernel
theorem dl_802 : decode code 802 = .ok (.iload 5, 2) := by decide +kernel
theorem dl_804 : decode code 804 = .ok (.ifCond .ne 15, 3) := by decide +kernel
theorem dl_807 : decode code 807 = .ok (.aload_n 3, 1) := by decide +kernel
theorem dl_808 : decode code 808 = .ok (.iconst 0, 1) := by decide +kernel
theorem dl_809 : decode code 809 = .ok (.laload, 1) := by decide +kernel
theorem dl_810 : decode code 810 = .ok (.iload 6, 2) := by decide +kernel
theorem dl_812 : decode code 812 = .ok (.i2l, 1) := by decide +kernel
theorem dl_813 : decode code 813 = .ok (.lcmp, 1) := by decide +kernel
theorem dl_814 : decode code 814 = .ok (.ifCond .eq 5, 3) := by decide +kernel
theorem dl_817 : decode code 817 = .ok (.iconst 0, 1) := by decide +kernel
theorem dl_818 : decode code 818 = .ok (.ireturn, 1) := by decide +kernel
theorem dl_819 : decode code 819 = .ok (.goto 114, 3) := by decide +kernel
theorem dl_822 : decode code 822 = .ok (.aload_n 1, 1) := by decide +kernel
theorem dl_823 : decode code 823 = .ok (.aload_n 0, 1) := by decide +kernel
theorem dl_824 : decode code 824 = .ok (.iload 4, 2) := by decide +kernel
theorem dl_826 : decode code 826 = .ok (.iconst 1, 1) := by decide +kernel
theorem dl_827 : decode code 827 = .ok (.iadd, 1) := by decide +kernel
theorem dl_828 : decode code 828 = .ok (.iaload, 1) := by decide +kernel
theorem dl_829 : decode code 829 = .ok (.aload_n 3, 1) := by decide +kernel
theorem dl_830 : decode code 830 = .ok (.invokestatic 115, 3) := by decide +kernel
theorem dl_833 : decode code 833 = .ok (.istore 5, 2) := by decide +kernel
theorem dl_835 : decode code 835 = .ok (.aload_n 2, 1) := by decide +kernel
theorem dl_836 : decode code 836 = .ok (.aload_n 0, 1) := by decide +kernel
theorem dl_837 : decode code 837 = .ok (.iload 4, 2) := by decide +kernel
theorem dl_839 : decode code 839 = .ok (.iconst 1, 1) := by decide +kernel
theorem dl_840 : decode code 840 = .ok (.iadd, 1) := by decide +kernel
theorem dl_841 : decode code 841 = .ok (.iaload, 1) := by decide +kernel
theorem dl_842 : decode code 842 = .ok (.invokevirtual 117, 3) := by decide +kernel
theorem dl_845 : decode code 845 = .ok (.lstore 6, 2) := by decide +kernel
theorem dl_847 : decode code 847 = .ok (.aload_n 2, 1) := by decide +kernel
theorem dl_848 : decode code 848 = .ok (.invokevirtual 69, 3) := by decide +kernel
theorem dl_851 : decode code 851 = .ok (.iload 5, 2) := by decide +kernel
theorem dl_853 : decode code 853 = .ok (.if_icmp .eq 5, 3) := by decide +kernel
theorem dl_856 : decode code 856 = .ok (.iconst 0, 1) := by decide +kernel
theorem dl_857 : decode code 857 = .ok (.ireturn, 1) := by decide +kernel
theorem dl_858 : decode code 858 = .ok (.iload 5, 2) := by decide +kernel
theorem dl_860 : decode code 860 = .ok (.ifCond .ne 14, 3) := by decide +kernel
theorem dl_863 : decode code 863 = .ok (.aload_n 3, 1) := by decide +kernel
theorem dl_864 : decode code 864 = .ok (.iconst 0, 1) := by decide +kernel
theorem dl_865 : decode code 865 = .ok (.laload, 1) := by decide +kernel
theorem dl_866 : decode code 866 = .ok (.lload 6, 2) := by decide +kernel
theorem dl_868 : decode code 868 = .ok (.lcmp, 1) := by decide +kernel
theorem dl_869 : decode code 869 = .ok (.ifCond .eq 5, 3) := by decide +kernel
theorem dl_872 : decode code 872 = .ok (.iconst 0, 1) := by decide +kernel
theorem dl_873 : decode code 873 = .ok (.ireturn, 1) := by decide +kernel
theorem dl_874 : decode code 874 = .ok (.goto 59, 3) := by decide +kernel
theorem dl_877 : decode code 877 = .ok (.aload_n 1, 1) := by decide +kernel
theorem dl_878 : decode code 878 = .ok (.aload_n 0, 1) := by decide +kernel
theorem dl_879 : decode code 879 = .ok (.iload 4, 2) := by decide +kernel
theorem dl_881 : decode code 881 = .ok (.iconst 1, 1) := by decide +kernel
theorem dl_882 : decode code 882 = .ok (.iadd, 1) := by decide +kernel
theorem dl_883 : decode code 883 = .ok (.iaload, 1) := by decide +kernel
theorem dl_884 : decode code 884 = .ok (.aload_n 3, 1) := by decide +kernel
theorem dl_885 : decode code 885 = .ok (.invokestatic 118, 3) := by decide +kernel
theorem dl_888 : decode code 888 = .ok (.istore 5, 2) := by decide +kernel
theorem dl_890 : decode code 890 = .ok (.aload_n 2, 1) := by decide +kernel
theorem dl_891 : decode code 891 = .ok (.aload_n 0, 1) := by decide +kernel
theorem dl_892 : decode code 892 = .ok (.iload 4, 2) := by decide +kernel
theorem dl_894 : decode code 894 = .ok (.iconst 1, 1) := by decide +kernel
theorem dl_895 : decode code 895 = .ok (.iadd, 1) := by decide +kernel
theorem dl_896 : decode code 896 = .ok (.iaload, 1) := by decide +kernel
theorem dl_897 : decode code 897 = .ok (.invokevirtual 120, 3) := by decide +kernel
theorem dl_900 : decode code 900 = .ok (.istore 6, 2) := by decide +kernel
theorem dl_902 : decode code 902 = .ok (.aload_n 2, 1) := by decide +kernel
theorem dl_903 : decode code 903 = .ok (.invokevirtual 69, 3) := by decide +kernel
theorem dl_906 : decode code 906 = .ok (.iload 5, 2) := by decide +kernel
theorem dl_908 : decode code 908 = .ok (.if_icmp .eq 5, 3) := by decide +kernel
theorem dl_911 : decode code 911 = .ok (.iconst 0, 1) := by decide +kernel
theorem dl_912 : decode code 912 = .ok (.ireturn, 1) := by decide +kernel
theorem dl_913 : decode code 913 = .ok (.iload 5, 2) := by decide +kernel
theorem dl_915 : decode code 915 = .ok (.ifCond .ne 15, 3) := by decide +kernel
theorem dl_918 : decode code 918 = .ok (.aload_n 3, 1) := by decide +kernel
theorem dl_919 : decode code 919 = .ok (.iconst 0, 1) := by decide +kernel
theorem dl_920 : decode code 920 = .ok (.laload, 1) := by decide +kernel
theorem dl_921 : decode code 921 = .ok (.iload 6, 2) := by decide +kernel
theorem dl_923 : decode code 923 = .ok (.i2l, 1) := by decide +kernel
theorem dl_924 : decode code 924 = .ok (.lcmp, 1) := by decide +kernel
theorem dl_925 : decode code 925 = .ok (.ifCond .eq 5, 3) := by decide +kernel
theorem dl_928 : decode code 928 = .ok (.iconst 0, 1) := by decide +kernel
theorem dl_929 : decode code 929 = .ok (.ireturn, 1) := by decide +kernel
theorem dl_930 : decode code 930 = .ok (.goto 3, 3) := by decide +kernel
theorem dl_933 : decode code 933 = .ok (.iinc 4 6, 3) := by decide +kernel
theorem dl_936 : decode code 936 = .ok (.goto (-913), 3) := by decide +kernel
theorem dl_939 : decode code 939 = .ok (.iconst 1, 1) := by decide +kernel
theorem dl_940 : decode code 940 = .ok (.ireturn, 1) := by decide +kernel
