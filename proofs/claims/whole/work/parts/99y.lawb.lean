/-! by program: THE LAW, its blocks -/
theorem dLaw_0 : decode code 0 = .ok (.new 8, 3) := by decide +kernel
theorem dLaw_3 : decode code 3 = .ok (.dup, 1) := by decide +kernel
theorem dLaw_4 : decode code 4 = .ok (.invokespecial 85, 3) := by decide +kernel
theorem dLaw_7 : decode code 7 = .ok (.astore_n 1, 1) := by decide +kernel
theorem dLaw_8 : decode code 8 = .ok (.new 86, 3) := by decide +kernel
theorem dLaw_11 : decode code 11 = .ok (.dup, 1) := by decide +kernel
theorem dLaw_12 : decode code 12 = .ok (.invokespecial 88, 3) := by decide +kernel
theorem dLaw_15 : decode code 15 = .ok (.astore_n 2, 1) := by decide +kernel
theorem dLaw_16 : decode code 16 = .ok (.iconst 1, 1) := by decide +kernel
theorem dLaw_17 : decode code 17 = .ok (.newarray .long, 2) := by decide +kernel
theorem dLaw_19 : decode code 19 = .ok (.astore_n 3, 1) := by decide +kernel
theorem dLaw_20 : decode code 20 = .ok (.iconst 0, 1) := by decide +kernel
theorem dLaw_21 : decode code 21 = .ok (.istore 4, 2) := by decide +kernel
theorem dLaw_23 : decode code 23 = .ok (.iload 4, 2) := by decide +kernel
theorem dLaw_25 : decode code 25 = .ok (.aload_n 0, 1) := by decide +kernel
theorem dLaw_26 : decode code 26 = .ok (.arraylength, 1) := by decide +kernel
theorem dLaw_27 : decode code 27 = .ok (.bipush 6, 2) := by decide +kernel
theorem dLaw_29 : decode code 29 = .ok (.isub, 1) := by decide +kernel
theorem dLaw_30 : decode code 30 = .ok (.if_icmp .gt 1611, 3) := by decide +kernel
theorem dLaw_33 : decode code 33 = .ok (.aload_n 0, 1) := by decide +kernel
theorem dLaw_34 : decode code 34 = .ok (.iload 4, 2) := by decide +kernel
theorem dLaw_36 : decode code 36 = .ok (.iaload, 1) := by decide +kernel
theorem dLaw_37 : decode code 37 = .ok (.bipush 31, 2) := by decide +kernel
theorem dLaw_39 : decode code 39 = .ok (.iand, 1) := by decide +kernel
theorem dLaw_40 : decode code 40 = .ok (.tableswitch 1595 0 24 #[116, 189, 257, 270, 326, 382, 474, 542, 555, 635, 691, 747, 783, 839, 895, 987, 1055, 1123, 1203, 1271, 1338, 1393, 1448, 1503, 1570], 116) := by decide +kernel
theorem dLaw_156 : decode code 156 = .ok (.aload_n 1, 1) := by decide +kernel
theorem dLaw_157 : decode code 157 = .ok (.aload_n 0, 1) := by decide +kernel
theorem dLaw_158 : decode code 158 = .ok (.iload 4, 2) := by decide +kernel
theorem dLaw_160 : decode code 160 = .ok (.iconst 1, 1) := by decide +kernel
theorem dLaw_161 : decode code 161 = .ok (.iadd, 1) := by decide +kernel
theorem dLaw_162 : decode code 162 = .ok (.iaload, 1) := by decide +kernel
theorem dLaw_163 : decode code 163 = .ok (.aload_n 0, 1) := by decide +kernel
theorem dLaw_164 : decode code 164 = .ok (.iload 4, 2) := by decide +kernel
theorem dLaw_166 : decode code 166 = .ok (.iconst 2, 1) := by decide +kernel
theorem dLaw_167 : decode code 167 = .ok (.iadd, 1) := by decide +kernel
theorem dLaw_168 : decode code 168 = .ok (.iaload, 1) := by decide +kernel
theorem dLaw_169 : decode code 169 = .ok (.aload_n 0, 1) := by decide +kernel
theorem dLaw_170 : decode code 170 = .ok (.iload 4, 2) := by decide +kernel
theorem dLaw_172 : decode code 172 = .ok (.iconst 3, 1) := by decide +kernel
theorem dLaw_173 : decode code 173 = .ok (.iadd, 1) := by decide +kernel
theorem dLaw_174 : decode code 174 = .ok (.iaload, 1) := by decide +kernel
theorem dLaw_175 : decode code 175 = .ok (.aload_n 0, 1) := by decide +kernel
theorem dLaw_176 : decode code 176 = .ok (.iload 4, 2) := by decide +kernel
theorem dLaw_178 : decode code 178 = .ok (.iconst 4, 1) := by decide +kernel
theorem dLaw_179 : decode code 179 = .ok (.iadd, 1) := by decide +kernel
theorem dLaw_180 : decode code 180 = .ok (.iaload, 1) := by decide +kernel
theorem dLaw_181 : decode code 181 = .ok (.aload_n 0, 1) := by decide +kernel
theorem dLaw_182 : decode code 182 = .ok (.iload 4, 2) := by decide +kernel
theorem dLaw_184 : decode code 184 = .ok (.iconst 5, 1) := by decide +kernel
theorem dLaw_185 : decode code 185 = .ok (.iadd, 1) := by decide +kernel
theorem dLaw_186 : decode code 186 = .ok (.iaload, 1) := by decide +kernel
theorem dLaw_187 : decode code 187 = .ok (.invokevirtual 89, 3) := by decide +kernel
theorem dLaw_190 : decode code 190 = .ok (.aload_n 2, 1) := by decide +kernel
theorem dLaw_191 : decode code 191 = .ok (.aload_n 0, 1) := by decide +kernel
theorem dLaw_192 : decode code 192 = .ok (.iload 4, 2) := by decide +kernel
theorem dLaw_194 : decode code 194 = .ok (.iconst 1, 1) := by decide +kernel
theorem dLaw_195 : decode code 195 = .ok (.iadd, 1) := by decide +kernel
theorem dLaw_196 : decode code 196 = .ok (.iaload, 1) := by decide +kernel
theorem dLaw_197 : decode code 197 = .ok (.aload_n 0, 1) := by decide +kernel
theorem dLaw_198 : decode code 198 = .ok (.iload 4, 2) := by decide +kernel
theorem dLaw_200 : decode code 200 = .ok (.iconst 2, 1) := by decide +kernel
theorem dLaw_201 : decode code 201 = .ok (.iadd, 1) := by decide +kernel
theorem dLaw_202 : decode code 202 = .ok (.iaload, 1) := by decide +kernel
theorem dLaw_203 : decode code 203 = .ok (.aload_n 0, 1) := by decide +kernel
theorem dLaw_204 : decode code 204 = .ok (.iload 4, 2) := by decide +kernel
theorem dLaw_206 : decode code 206 = .ok (.iconst 3, 1) := by decide +kernel
theorem dLaw_207 : decode code 207 = .ok (.iadd, 1) := by decide +kernel
theorem dLaw_208 : decode code 208 = .ok (.iaload, 1) := by decide +kernel
theorem dLaw_209 : decode code 209 = .ok (.aload_n 0, 1) := by decide +kernel
theorem dLaw_210 : decode code 210 = .ok (.iload 4, 2) := by decide +kernel
theorem dLaw_212 : decode code 212 = .ok (.iconst 4, 1) := by decide +kernel
theorem dLaw_213 : decode code 213 = .ok (.iadd, 1) := by decide +kernel
theorem dLaw_214 : decode code 214 = .ok (.iaload, 1) := by decide +kernel
theorem dLaw_215 : decode code 215 = .ok (.aload_n 0, 1) := by decide +kernel
theorem dLaw_216 : decode code 216 = .ok (.iload 4, 2) := by decide +kernel
theorem dLaw_218 : decode code 218 = .ok (.iconst 5, 1) := by decide +kernel
theorem dLaw_219 : decode code 219 = .ok (.iadd, 1) := by decide +kernel
theorem dLaw_220 : decode code 220 = .ok (.iaload, 1) := by decide +kernel
theorem dLaw_221 : decode code 221 = .ok (.invokevirtual 93, 3) := by decide +kernel
theorem dLaw_224 : decode code 224 = .ok (.if_icmp .eq 1411, 3) := by decide +kernel
theorem dLaw_227 : decode code 227 = .ok (.iconst 0, 1) := by decide +kernel
theorem dLaw_228 : decode code 228 = .ok (.ireturn, 1) := by decide +kernel
theorem dLaw_229 : decode code 229 = .ok (.aload_n 1, 1) := by decide +kernel
theorem dLaw_230 : decode code 230 = .ok (.aload_n 0, 1) := by decide +kernel
theorem dLaw_231 : decode code 231 = .ok (.iload 4, 2) := by decide +kernel
theorem dLaw_233 : decode code 233 = .ok (.iconst 1, 1) := by decide +kernel
theorem dLaw_234 : decode code 234 = .ok (.iadd, 1) := by decide +kernel
theorem dLaw_235 : decode code 235 = .ok (.iaload, 1) := by decide +kernel
theorem dLaw_236 : decode code 236 = .ok (.aload_n 0, 1) := by decide +kernel
theorem dLaw_237 : decode code 237 = .ok (.iload 4, 2) := by decide +kernel
theorem dLaw_239 : decode code 239 = .ok (.iconst 2, 1) := by decide +kernel
theorem dLaw_240 : decode code 240 = .ok (.iadd, 1) := by decide +kernel
theorem dLaw_241 : decode code 241 = .ok (.iaload, 1) := by decide +kernel
theorem dLaw_242 : decode code 242 = .ok (.aload_n 3, 1) := by decide +kernel
theorem dLaw_243 : decode code 243 = .ok (.invokestatic 94, 3) := by decide +kernel
theorem dLaw_246 : decode code 246 = .ok (.istore 5, 2) := by decide +kernel
theorem dLaw_248 : decode code 248 = .ok (.aload_n 2, 1) := by decide +kernel
theorem dLaw_249 : decode code 249 = .ok (.aload_n 0, 1) := by decide +kernel
theorem dLaw_250 : decode code 250 = .ok (.iload 4, 2) := by decide +kernel
theorem dLaw_252 : decode code 252 = .ok (.iconst 1, 1) := by decide +kernel
theorem dLaw_253 : decode code 253 = .ok (.iadd, 1) := by decide +kernel
theorem dLaw_254 : decode code 254 = .ok (.iaload, 1) := by decide +kernel
theorem dLaw_255 : decode code 255 = .ok (.aload_n 0, 1) := by decide +kernel
theorem dLaw_256 : decode code 256 = .ok (.iload 4, 2) := by decide +kernel
theorem dLaw_258 : decode code 258 = .ok (.iconst 2, 1) := by decide +kernel
theorem dLaw_259 : decode code 259 = .ok (.iadd, 1) := by decide +kernel
theorem dLaw_260 : decode code 260 = .ok (.iaload, 1) := by decide +kernel
theorem dLaw_261 : decode code 261 = .ok (.invokevirtual 99, 3) := by decide +kernel
theorem dLaw_264 : decode code 264 = .ok (.istore 6, 2) := by decide +kernel
theorem dLaw_266 : decode code 266 = .ok (.aload_n 2, 1) := by decide +kernel
theorem dLaw_267 : decode code 267 = .ok (.invokevirtual 100, 3) := by decide +kernel
theorem dLaw_270 : decode code 270 = .ok (.iload 5, 2) := by decide +kernel
theorem dLaw_272 : decode code 272 = .ok (.if_icmp .eq 5, 3) := by decide +kernel
theorem dLaw_275 : decode code 275 = .ok (.iconst 0, 1) := by decide +kernel
theorem dLaw_276 : decode code 276 = .ok (.ireturn, 1) := by decide +kernel
theorem dLaw_277 : decode code 277 = .ok (.iload 5, 2) := by decide +kernel
theorem dLaw_279 : decode code 279 = .ok (.ifCond .ne 15, 3) := by decide +kernel
theorem dLaw_282 : decode code 282 = .ok (.aload_n 3, 1) := by decide +kernel
theorem dLaw_283 : decode code 283 = .ok (.iconst 0, 1) := by decide +kernel
theorem dLaw_284 : decode code 284 = .ok (.laload, 1) := by decide +kernel
theorem dLaw_285 : decode code 285 = .ok (.iload 6, 2) := by decide +kernel
theorem dLaw_287 : decode code 287 = .ok (.i2l, 1) := by decide +kernel
theorem dLaw_288 : decode code 288 = .ok (.lcmp, 1) := by decide +kernel
theorem dLaw_289 : decode code 289 = .ok (.ifCond .eq 5, 3) := by decide +kernel
theorem dLaw_292 : decode code 292 = .ok (.iconst 0, 1) := by decide +kernel
theorem dLaw_293 : decode code 293 = .ok (.ireturn, 1) := by decide +kernel
theorem dLaw_294 : decode code 294 = .ok (.goto 1341, 3) := by decide +kernel
theorem dLaw_297 : decode code 297 = .ok (.aload_n 1, 1) := by decide +kernel
theorem dLaw_298 : decode code 298 = .ok (.invokevirtual 104, 3) := by decide +kernel
theorem dLaw_301 : decode code 301 = .ok (.aload_n 2, 1) := by decide +kernel
theorem dLaw_302 : decode code 302 = .ok (.invokevirtual 107, 3) := by decide +kernel
theorem dLaw_305 : decode code 305 = .ok (.if_icmp .eq 1330, 3) := by decide +kernel
theorem dLaw_308 : decode code 308 = .ok (.iconst 0, 1) := by decide +kernel
theorem dLaw_309 : decode code 309 = .ok (.ireturn, 1) := by decide +kernel
theorem dLaw_310 : decode code 310 = .ok (.aload_n 1, 1) := by decide +kernel
theorem dLaw_311 : decode code 311 = .ok (.aload_n 0, 1) := by decide +kernel
theorem dLaw_312 : decode code 312 = .ok (.iload 4, 2) := by decide +kernel
theorem dLaw_314 : decode code 314 = .ok (.iconst 1, 1) := by decide +kernel
theorem dLaw_315 : decode code 315 = .ok (.iadd, 1) := by decide +kernel
theorem dLaw_316 : decode code 316 = .ok (.iaload, 1) := by decide +kernel
theorem dLaw_317 : decode code 317 = .ok (.aload_n 3, 1) := by decide +kernel
theorem dLaw_318 : decode code 318 = .ok (.invokestatic 108, 3) := by decide +kernel
theorem dLaw_321 : decode code 321 = .ok (.istore 5, 2) := by decide +kernel
theorem dLaw_323 : decode code 323 = .ok (.aload_n 2, 1) := by decide +kernel
theorem dLaw_324 : decode code 324 = .ok (.aload_n 0, 1) := by decide +kernel
theorem dLaw_325 : decode code 325 = .ok (.iload 4, 2) := by decide +kernel
theorem dLaw_327 : decode code 327 = .ok (.iconst 1, 1) := by decide +kernel
theorem dLaw_328 : decode code 328 = .ok (.iadd, 1) := by decide +kernel
theorem dLaw_329 : decode code 329 = .ok (.iaload, 1) := by decide +kernel
theorem dLaw_330 : decode code 330 = .ok (.invokevirtual 111, 3) := by decide +kernel
theorem dLaw_333 : decode code 333 = .ok (.istore 6, 2) := by decide +kernel
theorem dLaw_335 : decode code 335 = .ok (.aload_n 2, 1) := by decide +kernel
theorem dLaw_336 : decode code 336 = .ok (.invokevirtual 100, 3) := by decide +kernel
theorem dLaw_339 : decode code 339 = .ok (.iload 5, 2) := by decide +kernel
theorem dLaw_341 : decode code 341 = .ok (.if_icmp .eq 5, 3) := by decide +kernel
theorem dLaw_344 : decode code 344 = .ok (.iconst 0, 1) := by decide +kernel
theorem dLaw_345 : decode code 345 = .ok (.ireturn, 1) := by decide +kernel
theorem dLaw_346 : decode code 346 = .ok (.iload 5, 2) := by decide +kernel
theorem dLaw_348 : decode code 348 = .ok (.ifCond .ne 15, 3) := by decide +kernel
theorem dLaw_351 : decode code 351 = .ok (.aload_n 3, 1) := by decide +kernel
theorem dLaw_352 : decode code 352 = .ok (.iconst 0, 1) := by decide +kernel
theorem dLaw_353 : decode code 353 = .ok (.laload, 1) := by decide +kernel
theorem dLaw_354 : decode code 354 = .ok (.iload 6, 2) := by decide +kernel
theorem dLaw_356 : decode code 356 = .ok (.i2l, 1) := by decide +kernel
theorem dLaw_357 : decode code 357 = .ok (.lcmp, 1) := by decide +kernel
theorem dLaw_358 : decode code 358 = .ok (.ifCond .eq 5, 3) := by decide +kernel
theorem dLaw_361 : decode code 361 = .ok (.iconst 0, 1) := by decide +kernel
theorem dLaw_362 : decode code 362 = .ok (.ireturn, 1) := by decide +kernel
theorem dLaw_363 : decode code 363 = .ok (.goto 1272, 3) := by decide +kernel
theorem dLaw_366 : decode code 366 = .ok (.aload_n 1, 1) := by decide +kernel
theorem dLaw_367 : decode code 367 = .ok (.aload_n 0, 1) := by decide +kernel
theorem dLaw_368 : decode code 368 = .ok (.iload 4, 2) := by decide +kernel
theorem dLaw_370 : decode code 370 = .ok (.iconst 1, 1) := by decide +kernel
theorem dLaw_371 : decode code 371 = .ok (.iadd, 1) := by decide +kernel
theorem dLaw_372 : decode code 372 = .ok (.iaload, 1) := by decide +kernel
theorem dLaw_373 : decode code 373 = .ok (.aload_n 3, 1) := by decide +kernel
theorem dLaw_374 : decode code 374 = .ok (.invokestatic 112, 3) := by decide +kernel
theorem dLaw_377 : decode code 377 = .ok (.istore 5, 2) := by decide +kernel
theorem dLaw_379 : decode code 379 = .ok (.aload_n 2, 1) := by decide +kernel
theorem dLaw_380 : decode code 380 = .ok (.aload_n 0, 1) := by decide +kernel
theorem dLaw_381 : decode code 381 = .ok (.iload 4, 2) := by decide +kernel
theorem dLaw_383 : decode code 383 = .ok (.iconst 1, 1) := by decide +kernel
theorem dLaw_384 : decode code 384 = .ok (.iadd, 1) := by decide +kernel
theorem dLaw_385 : decode code 385 = .ok (.iaload, 1) := by decide +kernel
theorem dLaw_386 : decode code 386 = .ok (.invokevirtual 114, 3) := by decide +kernel
theorem dLaw_389 : decode code 389 = .ok (.istore 6, 2) := by decide +kernel
theorem dLaw_391 : decode code 391 = .ok (.aload_n 2, 1) := by decide +kernel
theorem dLaw_392 : decode code 392 = .ok (.invokevirtual 100, 3) := by decide +kernel
theorem dLaw_395 : decode code 395 = .ok (.iload 5, 2) := by decide +kernel
theorem dLaw_397 : decode code 397 = .ok (.if_icmp .eq 5, 3) := by decide +kernel
theorem dLaw_400 : decode code 400 = .ok (.iconst 0, 1) := by decide +kernel
theorem dLaw_401 : decode code 401 = .ok (.ireturn, 1) := by decide +kernel
theorem dLaw_402 : decode code 402 = .ok (.iload 5, 2) := by decide +kernel
theorem dLaw_404 : decode code 404 = .ok (.ifCond .ne 15, 3) := by decide +kernel
theorem dLaw_407 : decode code 407 = .ok (.aload_n 3, 1) := by decide +kernel
theorem dLaw_408 : decode code 408 = .ok (.iconst 0, 1) := by decide +kernel
theorem dLaw_409 : decode code 409 = .ok (.laload, 1) := by decide +kernel
theorem dLaw_410 : decode code 410 = .ok (.iload 6, 2) := by decide +kernel
theorem dLaw_412 : decode code 412 = .ok (.i2l, 1) := by decide +kernel
theorem dLaw_413 : decode code 413 = .ok (.lcmp, 1) := by decide +kernel
theorem dLaw_414 : decode code 414 = .ok (.ifCond .eq 5, 3) := by decide +kernel
theorem dLaw_417 : decode code 417 = .ok (.iconst 0, 1) := by decide +kernel
theorem dLaw_418 : decode code 418 = .ok (.ireturn, 1) := by decide +kernel
theorem dLaw_419 : decode code 419 = .ok (.goto 1216, 3) := by decide +kernel
theorem dLaw_422 : decode code 422 = .ok (.aload_n 1, 1) := by decide +kernel
theorem dLaw_423 : decode code 423 = .ok (.aload_n 0, 1) := by decide +kernel
theorem dLaw_424 : decode code 424 = .ok (.iload 4, 2) := by decide +kernel
theorem dLaw_426 : decode code 426 = .ok (.iconst 1, 1) := by decide +kernel
theorem dLaw_427 : decode code 427 = .ok (.iadd, 1) := by decide +kernel
theorem dLaw_428 : decode code 428 = .ok (.iaload, 1) := by decide +kernel
theorem dLaw_429 : decode code 429 = .ok (.aload_n 0, 1) := by decide +kernel
theorem dLaw_430 : decode code 430 = .ok (.iload 4, 2) := by decide +kernel
theorem dLaw_432 : decode code 432 = .ok (.iconst 2, 1) := by decide +kernel
theorem dLaw_433 : decode code 433 = .ok (.iadd, 1) := by decide +kernel
theorem dLaw_434 : decode code 434 = .ok (.iaload, 1) := by decide +kernel
theorem dLaw_435 : decode code 435 = .ok (.aload_n 0, 1) := by decide +kernel
theorem dLaw_436 : decode code 436 = .ok (.iload 4, 2) := by decide +kernel
theorem dLaw_438 : decode code 438 = .ok (.iconst 3, 1) := by decide +kernel
theorem dLaw_439 : decode code 439 = .ok (.iadd, 1) := by decide +kernel
theorem dLaw_440 : decode code 440 = .ok (.iaload, 1) := by decide +kernel
theorem dLaw_441 : decode code 441 = .ok (.aload_n 0, 1) := by decide +kernel
theorem dLaw_442 : decode code 442 = .ok (.iload 4, 2) := by decide +kernel
theorem dLaw_444 : decode code 444 = .ok (.iconst 4, 1) := by decide +kernel
theorem dLaw_445 : decode code 445 = .ok (.iadd, 1) := by decide +kernel
theorem dLaw_446 : decode code 446 = .ok (.iaload, 1) := by decide +kernel
theorem dLaw_447 : decode code 447 = .ok (.aload_n 3, 1) := by decide +kernel
theorem dLaw_448 : decode code 448 = .ok (.invokestatic 115, 3) := by decide +kernel
theorem dLaw_451 : decode code 451 = .ok (.istore 5, 2) := by decide +kernel
theorem dLaw_453 : decode code 453 = .ok (.aload_n 2, 1) := by decide +kernel
theorem dLaw_454 : decode code 454 = .ok (.aload_n 0, 1) := by decide +kernel
theorem dLaw_455 : decode code 455 = .ok (.iload 4, 2) := by decide +kernel
theorem dLaw_457 : decode code 457 = .ok (.iconst 1, 1) := by decide +kernel
theorem dLaw_458 : decode code 458 = .ok (.iadd, 1) := by decide +kernel
theorem dLaw_459 : decode code 459 = .ok (.iaload, 1) := by decide +kernel
theorem dLaw_460 : decode code 460 = .ok (.aload_n 0, 1) := by decide +kernel
theorem dLaw_461 : decode code 461 = .ok (.iload 4, 2) := by decide +kernel
theorem dLaw_463 : decode code 463 = .ok (.iconst 2, 1) := by decide +kernel
theorem dLaw_464 : decode code 464 = .ok (.iadd, 1) := by decide +kernel
theorem dLaw_465 : decode code 465 = .ok (.iaload, 1) := by decide +kernel
theorem dLaw_466 : decode code 466 = .ok (.aload_n 0, 1) := by decide +kernel
theorem dLaw_467 : decode code 467 = .ok (.iload 4, 2) := by decide +kernel
theorem dLaw_469 : decode code 469 = .ok (.iconst 3, 1) := by decide +kernel
theorem dLaw_470 : decode code 470 = .ok (.iadd, 1) := by decide +kernel
theorem dLaw_471 : decode code 471 = .ok (.iaload, 1) := by decide +kernel
theorem dLaw_472 : decode code 472 = .ok (.aload_n 0, 1) := by decide +kernel
theorem dLaw_473 : decode code 473 = .ok (.iload 4, 2) := by decide +kernel
theorem dLaw_475 : decode code 475 = .ok (.iconst 4, 1) := by decide +kernel
theorem dLaw_476 : decode code 476 = .ok (.iadd, 1) := by decide +kernel
theorem dLaw_477 : decode code 477 = .ok (.iaload, 1) := by decide +kernel
theorem dLaw_478 : decode code 478 = .ok (.invokevirtual 118, 3) := by decide +kernel
theorem dLaw_481 : decode code 481 = .ok (.istore 6, 2) := by decide +kernel
theorem dLaw_483 : decode code 483 = .ok (.aload_n 2, 1) := by decide +kernel
theorem dLaw_484 : decode code 484 = .ok (.invokevirtual 100, 3) := by decide +kernel
theorem dLaw_487 : decode code 487 = .ok (.iload 5, 2) := by decide +kernel
theorem dLaw_489 : decode code 489 = .ok (.if_icmp .eq 5, 3) := by decide +kernel
theorem dLaw_492 : decode code 492 = .ok (.iconst 0, 1) := by decide +kernel
theorem dLaw_493 : decode code 493 = .ok (.ireturn, 1) := by decide +kernel
theorem dLaw_494 : decode code 494 = .ok (.iload 5, 2) := by decide +kernel
theorem dLaw_496 : decode code 496 = .ok (.ifCond .ne 15, 3) := by decide +kernel
theorem dLaw_499 : decode code 499 = .ok (.aload_n 3, 1) := by decide +kernel
theorem dLaw_500 : decode code 500 = .ok (.iconst 0, 1) := by decide +kernel
theorem dLaw_501 : decode code 501 = .ok (.laload, 1) := by decide +kernel
theorem dLaw_502 : decode code 502 = .ok (.iload 6, 2) := by decide +kernel
theorem dLaw_504 : decode code 504 = .ok (.i2l, 1) := by decide +kernel
theorem dLaw_505 : decode code 505 = .ok (.lcmp, 1) := by decide +kernel
theorem dLaw_506 : decode code 506 = .ok (.ifCond .eq 5, 3) := by decide +kernel
theorem dLaw_509 : decode code 509 = .ok (.iconst 0, 1) := by decide +kernel
theorem dLaw_510 : decode code 510 = .ok (.ireturn, 1) := by decide +kernel
theorem dLaw_511 : decode code 511 = .ok (.goto 1124, 3) := by decide +kernel
theorem dLaw_514 : decode code 514 = .ok (.aload_n 1, 1) := by decide +kernel
theorem dLaw_515 : decode code 515 = .ok (.aload_n 0, 1) := by decide +kernel
theorem dLaw_516 : decode code 516 = .ok (.iload 4, 2) := by decide +kernel
theorem dLaw_518 : decode code 518 = .ok (.iconst 1, 1) := by decide +kernel
theorem dLaw_519 : decode code 519 = .ok (.iadd, 1) := by decide +kernel
theorem dLaw_520 : decode code 520 = .ok (.iaload, 1) := by decide +kernel
theorem dLaw_521 : decode code 521 = .ok (.aload_n 0, 1) := by decide +kernel
theorem dLaw_522 : decode code 522 = .ok (.iload 4, 2) := by decide +kernel
theorem dLaw_524 : decode code 524 = .ok (.iconst 2, 1) := by decide +kernel
theorem dLaw_525 : decode code 525 = .ok (.iadd, 1) := by decide +kernel
theorem dLaw_526 : decode code 526 = .ok (.iaload, 1) := by decide +kernel
theorem dLaw_527 : decode code 527 = .ok (.aload_n 3, 1) := by decide +kernel
theorem dLaw_528 : decode code 528 = .ok (.invokestatic 119, 3) := by decide +kernel
theorem dLaw_531 : decode code 531 = .ok (.istore 5, 2) := by decide +kernel
theorem dLaw_533 : decode code 533 = .ok (.aload_n 2, 1) := by decide +kernel
theorem dLaw_534 : decode code 534 = .ok (.aload_n 0, 1) := by decide +kernel
theorem dLaw_535 : decode code 535 = .ok (.iload 4, 2) := by decide +kernel
theorem dLaw_537 : decode code 537 = .ok (.iconst 1, 1) := by decide +kernel
theorem dLaw_538 : decode code 538 = .ok (.iadd, 1) := by decide +kernel
theorem dLaw_539 : decode code 539 = .ok (.iaload, 1) := by decide +kernel
theorem dLaw_540 : decode code 540 = .ok (.aload_n 0, 1) := by decide +kernel
theorem dLaw_541 : decode code 541 = .ok (.iload 4, 2) := by decide +kernel
theorem dLaw_543 : decode code 543 = .ok (.iconst 2, 1) := by decide +kernel
theorem dLaw_544 : decode code 544 = .ok (.iadd, 1) := by decide +kernel
theorem dLaw_545 : decode code 545 = .ok (.iaload, 1) := by decide +kernel
theorem dLaw_546 : decode code 546 = .ok (.invokevirtual 121, 3) := by decide +kernel
theorem dLaw_549 : decode code 549 = .ok (.istore 6, 2) := by decide +kernel
theorem dLaw_551 : decode code 551 = .ok (.aload_n 2, 1) := by decide +kernel
theorem dLaw_552 : decode code 552 = .ok (.invokevirtual 100, 3) := by decide +kernel
theorem dLaw_555 : decode code 555 = .ok (.iload 5, 2) := by decide +kernel
theorem dLaw_557 : decode code 557 = .ok (.if_icmp .eq 5, 3) := by decide +kernel
theorem dLaw_560 : decode code 560 = .ok (.iconst 0, 1) := by decide +kernel
theorem dLaw_561 : decode code 561 = .ok (.ireturn, 1) := by decide +kernel
theorem dLaw_562 : decode code 562 = .ok (.iload 5, 2) := by decide +kernel
theorem dLaw_564 : decode code 564 = .ok (.ifCond .ne 15, 3) := by decide +kernel
theorem dLaw_567 : decode code 567 = .ok (.aload_n 3, 1) := by decide +kernel
theorem dLaw_568 : decode code 568 = .ok (.iconst 0, 1) := by decide +kernel
theorem dLaw_569 : decode code 569 = .ok (.laload, 1) := by decide +kernel
theorem dLaw_570 : decode code 570 = .ok (.iload 6, 2) := by decide +kernel
theorem dLaw_572 : decode code 572 = .ok (.i2l, 1) := by decide +kernel
theorem dLaw_573 : decode code 573 = .ok (.lcmp, 1) := by decide +kernel
theorem dLaw_574 : decode code 574 = .ok (.ifCond .eq 5, 3) := by decide +kernel
theorem dLaw_577 : decode code 577 = .ok (.iconst 0, 1) := by decide +kernel
theorem dLaw_578 : decode code 578 = .ok (.ireturn, 1) := by decide +kernel
theorem dLaw_579 : decode code 579 = .ok (.goto 1056, 3) := by decide +kernel
theorem dLaw_582 : decode code 582 = .ok (.aload_n 1, 1) := by decide +kernel
theorem dLaw_583 : decode code 583 = .ok (.invokevirtual 122, 3) := by decide +kernel
theorem dLaw_586 : decode code 586 = .ok (.aload_n 2, 1) := by decide +kernel
theorem dLaw_587 : decode code 587 = .ok (.invokevirtual 125, 3) := by decide +kernel
theorem dLaw_590 : decode code 590 = .ok (.if_icmp .eq 1045, 3) := by decide +kernel
theorem dLaw_593 : decode code 593 = .ok (.iconst 0, 1) := by decide +kernel
theorem dLaw_594 : decode code 594 = .ok (.ireturn, 1) := by decide +kernel
theorem dLaw_595 : decode code 595 = .ok (.aload_n 1, 1) := by decide +kernel
theorem dLaw_596 : decode code 596 = .ok (.aload_n 0, 1) := by decide +kernel
theorem dLaw_597 : decode code 597 = .ok (.iload 4, 2) := by decide +kernel
theorem dLaw_599 : decode code 599 = .ok (.iconst 1, 1) := by decide +kernel
theorem dLaw_600 : decode code 600 = .ok (.iadd, 1) := by decide +kernel
theorem dLaw_601 : decode code 601 = .ok (.iaload, 1) := by decide +kernel
theorem dLaw_602 : decode code 602 = .ok (.aload_n 0, 1) := by decide +kernel
theorem dLaw_603 : decode code 603 = .ok (.iload 4, 2) := by decide +kernel
theorem dLaw_605 : decode code 605 = .ok (.iconst 2, 1) := by decide +kernel
theorem dLaw_606 : decode code 606 = .ok (.iadd, 1) := by decide +kernel
theorem dLaw_607 : decode code 607 = .ok (.iaload, 1) := by decide +kernel
theorem dLaw_608 : decode code 608 = .ok (.aload_n 0, 1) := by decide +kernel
theorem dLaw_609 : decode code 609 = .ok (.iload 4, 2) := by decide +kernel
theorem dLaw_611 : decode code 611 = .ok (.iconst 3, 1) := by decide +kernel
theorem dLaw_612 : decode code 612 = .ok (.iadd, 1) := by decide +kernel
theorem dLaw_613 : decode code 613 = .ok (.iaload, 1) := by decide +kernel
theorem dLaw_614 : decode code 614 = .ok (.aload_n 3, 1) := by decide +kernel
theorem dLaw_615 : decode code 615 = .ok (.invokestatic 126, 3) := by decide +kernel
theorem dLaw_618 : decode code 618 = .ok (.istore 5, 2) := by decide +kernel
theorem dLaw_620 : decode code 620 = .ok (.aload_n 2, 1) := by decide +kernel
theorem dLaw_621 : decode code 621 = .ok (.aload_n 0, 1) := by decide +kernel
theorem dLaw_622 : decode code 622 = .ok (.iload 4, 2) := by decide +kernel
theorem dLaw_624 : decode code 624 = .ok (.iconst 1, 1) := by decide +kernel
theorem dLaw_625 : decode code 625 = .ok (.iadd, 1) := by decide +kernel
theorem dLaw_626 : decode code 626 = .ok (.iaload, 1) := by decide +kernel
theorem dLaw_627 : decode code 627 = .ok (.aload_n 0, 1) := by decide +kernel
theorem dLaw_628 : decode code 628 = .ok (.iload 4, 2) := by decide +kernel
theorem dLaw_630 : decode code 630 = .ok (.iconst 2, 1) := by decide +kernel
theorem dLaw_631 : decode code 631 = .ok (.iadd, 1) := by decide +kernel
theorem dLaw_632 : decode code 632 = .ok (.iaload, 1) := by decide +kernel
theorem dLaw_633 : decode code 633 = .ok (.aload_n 0, 1) := by decide +kernel
theorem dLaw_634 : decode code 634 = .ok (.iload 4, 2) := by decide +kernel
theorem dLaw_636 : decode code 636 = .ok (.iconst 3, 1) := by decide +kernel
theorem dLaw_637 : decode code 637 = .ok (.iadd, 1) := by decide +kernel
theorem dLaw_638 : decode code 638 = .ok (.iaload, 1) := by decide +kernel
theorem dLaw_639 : decode code 639 = .ok (.invokevirtual 129, 3) := by decide +kernel
theorem dLaw_642 : decode code 642 = .ok (.istore 6, 2) := by decide +kernel
theorem dLaw_644 : decode code 644 = .ok (.aload_n 2, 1) := by decide +kernel
theorem dLaw_645 : decode code 645 = .ok (.invokevirtual 100, 3) := by decide +kernel
theorem dLaw_648 : decode code 648 = .ok (.iload 5, 2) := by decide +kernel
theorem dLaw_650 : decode code 650 = .ok (.if_icmp .eq 5, 3) := by decide +kernel
theorem dLaw_653 : decode code 653 = .ok (.iconst 0, 1) := by decide +kernel
theorem dLaw_654 : decode code 654 = .ok (.ireturn, 1) := by decide +kernel
theorem dLaw_655 : decode code 655 = .ok (.iload 5, 2) := by decide +kernel
theorem dLaw_657 : decode code 657 = .ok (.ifCond .ne 15, 3) := by decide +kernel
theorem dLaw_660 : decode code 660 = .ok (.aload_n 3, 1) := by decide +kernel
theorem dLaw_661 : decode code 661 = .ok (.iconst 0, 1) := by decide +kernel
theorem dLaw_662 : decode code 662 = .ok (.laload, 1) := by decide +kernel
theorem dLaw_663 : decode code 663 = .ok (.iload 6, 2) := by decide +kernel
theorem dLaw_665 : decode code 665 = .ok (.i2l, 1) := by decide +kernel
theorem dLaw_666 : decode code 666 = .ok (.lcmp, 1) := by decide +kernel
theorem dLaw_667 : decode code 667 = .ok (.ifCond .eq 5, 3) := by decide +kernel
theorem dLaw_670 : decode code 670 = .ok (.iconst 0, 1) := by decide +kernel
theorem dLaw_671 : decode code 671 = .ok (.ireturn, 1) := by decide +kernel
theorem dLaw_672 : decode code 672 = .ok (.goto 963, 3) := by decide +kernel
theorem dLaw_675 : decode code 675 = .ok (.aload_n 1, 1) := by decide +kernel
theorem dLaw_676 : decode code 676 = .ok (.aload_n 0, 1) := by decide +kernel
theorem dLaw_677 : decode code 677 = .ok (.iload 4, 2) := by decide +kernel
theorem dLaw_679 : decode code 679 = .ok (.iconst 1, 1) := by decide +kernel
theorem dLaw_680 : decode code 680 = .ok (.iadd, 1) := by decide +kernel
theorem dLaw_681 : decode code 681 = .ok (.iaload, 1) := by decide +kernel
theorem dLaw_682 : decode code 682 = .ok (.aload_n 3, 1) := by decide +kernel
theorem dLaw_683 : decode code 683 = .ok (.invokestatic 130, 3) := by decide +kernel
theorem dLaw_686 : decode code 686 = .ok (.istore 5, 2) := by decide +kernel
theorem dLaw_688 : decode code 688 = .ok (.aload_n 2, 1) := by decide +kernel
theorem dLaw_689 : decode code 689 = .ok (.aload_n 0, 1) := by decide +kernel
theorem dLaw_690 : decode code 690 = .ok (.iload 4, 2) := by decide +kernel
theorem dLaw_692 : decode code 692 = .ok (.iconst 1, 1) := by decide +kernel
theorem dLaw_693 : decode code 693 = .ok (.iadd, 1) := by decide +kernel
theorem dLaw_694 : decode code 694 = .ok (.iaload, 1) := by decide +kernel
theorem dLaw_695 : decode code 695 = .ok (.invokevirtual 132, 3) := by decide +kernel
theorem dLaw_698 : decode code 698 = .ok (.istore 6, 2) := by decide +kernel
theorem dLaw_700 : decode code 700 = .ok (.aload_n 2, 1) := by decide +kernel
theorem dLaw_701 : decode code 701 = .ok (.invokevirtual 100, 3) := by decide +kernel
theorem dLaw_704 : decode code 704 = .ok (.iload 5, 2) := by decide +kernel
theorem dLaw_706 : decode code 706 = .ok (.if_icmp .eq 5, 3) := by decide +kernel
theorem dLaw_709 : decode code 709 = .ok (.iconst 0, 1) := by decide +kernel
theorem dLaw_710 : decode code 710 = .ok (.ireturn, 1) := by decide +kernel
theorem dLaw_711 : decode code 711 = .ok (.iload 5, 2) := by decide +kernel
theorem dLaw_713 : decode code 713 = .ok (.ifCond .ne 15, 3) := by decide +kernel
theorem dLaw_716 : decode code 716 = .ok (.aload_n 3, 1) := by decide +kernel
theorem dLaw_717 : decode code 717 = .ok (.iconst 0, 1) := by decide +kernel
theorem dLaw_718 : decode code 718 = .ok (.laload, 1) := by decide +kernel
theorem dLaw_719 : decode code 719 = .ok (.iload 6, 2) := by decide +kernel
theorem dLaw_721 : decode code 721 = .ok (.i2l, 1) := by decide +kernel
theorem dLaw_722 : decode code 722 = .ok (.lcmp, 1) := by decide +kernel
theorem dLaw_723 : decode code 723 = .ok (.ifCond .eq 5, 3) := by decide +kernel
theorem dLaw_726 : decode code 726 = .ok (.iconst 0, 1) := by decide +kernel
theorem dLaw_727 : decode code 727 = .ok (.ireturn, 1) := by decide +kernel
theorem dLaw_728 : decode code 728 = .ok (.goto 907, 3) := by decide +kernel
theorem dLaw_731 : decode code 731 = .ok (.aload_n 1, 1) := by decide +kernel
theorem dLaw_732 : decode code 732 = .ok (.aload_n 0, 1) := by decide +kernel
theorem dLaw_733 : decode code 733 = .ok (.iload 4, 2) := by decide +kernel
theorem dLaw_735 : decode code 735 = .ok (.iconst 1, 1) := by decide +kernel
theorem dLaw_736 : decode code 736 = .ok (.iadd, 1) := by decide +kernel
theorem dLaw_737 : decode code 737 = .ok (.iaload, 1) := by decide +kernel
theorem dLaw_738 : decode code 738 = .ok (.aload_n 3, 1) := by decide +kernel
theorem dLaw_739 : decode code 739 = .ok (.invokestatic 133, 3) := by decide +kernel
theorem dLaw_742 : decode code 742 = .ok (.istore 5, 2) := by decide +kernel
theorem dLaw_744 : decode code 744 = .ok (.aload_n 2, 1) := by decide +kernel
theorem dLaw_745 : decode code 745 = .ok (.aload_n 0, 1) := by decide +kernel
theorem dLaw_746 : decode code 746 = .ok (.iload 4, 2) := by decide +kernel
theorem dLaw_748 : decode code 748 = .ok (.iconst 1, 1) := by decide +kernel
theorem dLaw_749 : decode code 749 = .ok (.iadd, 1) := by decide +kernel
theorem dLaw_750 : decode code 750 = .ok (.iaload, 1) := by decide +kernel
theorem dLaw_751 : decode code 751 = .ok (.invokevirtual 135, 3) := by decide +kernel
theorem dLaw_754 : decode code 754 = .ok (.istore 6, 2) := by decide +kernel
theorem dLaw_756 : decode code 756 = .ok (.aload_n 2, 1) := by decide +kernel
theorem dLaw_757 : decode code 757 = .ok (.invokevirtual 100, 3) := by decide +kernel
theorem dLaw_760 : decode code 760 = .ok (.iload 5, 2) := by decide +kernel
theorem dLaw_762 : decode code 762 = .ok (.if_icmp .eq 5, 3) := by decide +kernel
theorem dLaw_765 : decode code 765 = .ok (.iconst 0, 1) := by decide +kernel
theorem dLaw_766 : decode code 766 = .ok (.ireturn, 1) := by decide +kernel
theorem dLaw_767 : decode code 767 = .ok (.iload 5, 2) := by decide +kernel
theorem dLaw_769 : decode code 769 = .ok (.ifCond .ne 15, 3) := by decide +kernel
theorem dLaw_772 : decode code 772 = .ok (.aload_n 3, 1) := by decide +kernel
theorem dLaw_773 : decode code 773 = .ok (.iconst 0, 1) := by decide +kernel
theorem dLaw_774 : decode code 774 = .ok (.laload, 1) := by decide +kernel
theorem dLaw_775 : decode code 775 = .ok (.iload 6, 2) := by decide +kernel
theorem dLaw_777 : decode code 777 = .ok (.i2l, 1) := by decide +kernel
theorem dLaw_778 : decode code 778 = .ok (.lcmp, 1) := by decide +kernel
theorem dLaw_779 : decode code 779 = .ok (.ifCond .eq 5, 3) := by decide +kernel
theorem dLaw_782 : decode code 782 = .ok (.iconst 0, 1) := by decide +kernel
theorem dLaw_783 : decode code 783 = .ok (.ireturn, 1) := by decide +kernel
theorem dLaw_784 : decode code 784 = .ok (.goto 851, 3) := by decide +kernel
theorem dLaw_787 : decode code 787 = .ok (.aload_n 1, 1) := by decide +kernel
theorem dLaw_788 : decode code 788 = .ok (.aload_n 0, 1) := by decide +kernel
theorem dLaw_789 : decode code 789 = .ok (.iload 4, 2) := by decide +kernel
theorem dLaw_791 : decode code 791 = .ok (.iconst 1, 1) := by decide +kernel
theorem dLaw_792 : decode code 792 = .ok (.iadd, 1) := by decide +kernel
theorem dLaw_793 : decode code 793 = .ok (.iaload, 1) := by decide +kernel
theorem dLaw_794 : decode code 794 = .ok (.invokestatic 136, 3) := by decide +kernel
theorem dLaw_797 : decode code 797 = .ok (.istore 5, 2) := by decide +kernel
theorem dLaw_799 : decode code 799 = .ok (.aload_n 2, 1) := by decide +kernel
theorem dLaw_800 : decode code 800 = .ok (.aload_n 0, 1) := by decide +kernel
theorem dLaw_801 : decode code 801 = .ok (.iload 4, 2) := by decide +kernel
theorem dLaw_803 : decode code 803 = .ok (.iconst 1, 1) := by decide +kernel
theorem dLaw_804 : decode code 804 = .ok (.iadd, 1) := by decide +kernel
theorem dLaw_805 : decode code 805 = .ok (.iaload, 1) := by decide +kernel
theorem dLaw_806 : decode code 806 = .ok (.invokevirtual 139, 3) := by decide +kernel
theorem dLaw_809 : decode code 809 = .ok (.aload_n 2, 1) := by decide +kernel
theorem dLaw_810 : decode code 810 = .ok (.invokevirtual 100, 3) := by decide +kernel
theorem dLaw_813 : decode code 813 = .ok (.iload 5, 2) := by decide +kernel
theorem dLaw_815 : decode code 815 = .ok (.if_icmp .eq 5, 3) := by decide +kernel
theorem dLaw_818 : decode code 818 = .ok (.iconst 0, 1) := by decide +kernel
theorem dLaw_819 : decode code 819 = .ok (.ireturn, 1) := by decide +kernel
theorem dLaw_820 : decode code 820 = .ok (.goto 815, 3) := by decide +kernel
theorem dLaw_823 : decode code 823 = .ok (.aload_n 1, 1) := by decide +kernel
theorem dLaw_824 : decode code 824 = .ok (.aload_n 0, 1) := by decide +kernel
theorem dLaw_825 : decode code 825 = .ok (.iload 4, 2) := by decide +kernel
theorem dLaw_827 : decode code 827 = .ok (.iconst 1, 1) := by decide +kernel
theorem dLaw_828 : decode code 828 = .ok (.iadd, 1) := by decide +kernel
theorem dLaw_829 : decode code 829 = .ok (.iaload, 1) := by decide +kernel
theorem dLaw_830 : decode code 830 = .ok (.aload_n 3, 1) := by decide +kernel
theorem dLaw_831 : decode code 831 = .ok (.invokestatic 140, 3) := by decide +kernel
theorem dLaw_834 : decode code 834 = .ok (.istore 5, 2) := by decide +kernel
theorem dLaw_836 : decode code 836 = .ok (.aload_n 2, 1) := by decide +kernel
theorem dLaw_837 : decode code 837 = .ok (.aload_n 0, 1) := by decide +kernel
theorem dLaw_838 : decode code 838 = .ok (.iload 4, 2) := by decide +kernel
theorem dLaw_840 : decode code 840 = .ok (.iconst 1, 1) := by decide +kernel
theorem dLaw_841 : decode code 841 = .ok (.iadd, 1) := by decide +kernel
theorem dLaw_842 : decode code 842 = .ok (.iaload, 1) := by decide +kernel
theorem dLaw_843 : decode code 843 = .ok (.invokevirtual 142, 3) := by decide +kernel
theorem dLaw_846 : decode code 846 = .ok (.istore 6, 2) := by decide +kernel
theorem dLaw_848 : decode code 848 = .ok (.aload_n 2, 1) := by decide +kernel
theorem dLaw_849 : decode code 849 = .ok (.invokevirtual 100, 3) := by decide +kernel
theorem dLaw_852 : decode code 852 = .ok (.iload 5, 2) := by decide +kernel
theorem dLaw_854 : decode code 854 = .ok (.if_icmp .eq 5, 3) := by decide +kernel
theorem dLaw_857 : decode code 857 = .ok (.iconst 0, 1) := by decide +kernel
theorem dLaw_858 : decode code 858 = .ok (.ireturn, 1) := by decide +kernel
theorem dLaw_859 : decode code 859 = .ok (.iload 5, 2) := by decide +kernel
theorem dLaw_861 : decode code 861 = .ok (.ifCond .ne 15, 3) := by decide +kernel
theorem dLaw_864 : decode code 864 = .ok (.aload_n 3, 1) := by decide +kernel
theorem dLaw_865 : decode code 865 = .ok (.iconst 0, 1) := by decide +kernel
theorem dLaw_866 : decode code 866 = .ok (.laload, 1) := by decide +kernel
theorem dLaw_867 : decode code 867 = .ok (.iload 6, 2) := by decide +kernel
theorem dLaw_869 : decode code 869 = .ok (.i2l, 1) := by decide +kernel
theorem dLaw_870 : decode code 870 = .ok (.lcmp, 1) := by decide +kernel
theorem dLaw_871 : decode code 871 = .ok (.ifCond .eq 5, 3) := by decide +kernel
theorem dLaw_874 : decode code 874 = .ok (.iconst 0, 1) := by decide +kernel
theorem dLaw_875 : decode code 875 = .ok (.ireturn, 1) := by decide +kernel
theorem dLaw_876 : decode code 876 = .ok (.goto 759, 3) := by decide +kernel
theorem dLaw_879 : decode code 879 = .ok (.aload_n 1, 1) := by decide +kernel
theorem dLaw_880 : decode code 880 = .ok (.aload_n 0, 1) := by decide +kernel
theorem dLaw_881 : decode code 881 = .ok (.iload 4, 2) := by decide +kernel
theorem dLaw_883 : decode code 883 = .ok (.iconst 1, 1) := by decide +kernel
theorem dLaw_884 : decode code 884 = .ok (.iadd, 1) := by decide +kernel
theorem dLaw_885 : decode code 885 = .ok (.iaload, 1) := by decide +kernel
theorem dLaw_886 : decode code 886 = .ok (.aload_n 3, 1) := by decide +kernel
theorem dLaw_887 : decode code 887 = .ok (.invokestatic 143, 3) := by decide +kernel
theorem dLaw_890 : decode code 890 = .ok (.istore 5, 2) := by decide +kernel
theorem dLaw_892 : decode code 892 = .ok (.aload_n 2, 1) := by decide +kernel
theorem dLaw_893 : decode code 893 = .ok (.aload_n 0, 1) := by decide +kernel
theorem dLaw_894 : decode code 894 = .ok (.iload 4, 2) := by decide +kernel
theorem dLaw_896 : decode code 896 = .ok (.iconst 1, 1) := by decide +kernel
theorem dLaw_897 : decode code 897 = .ok (.iadd, 1) := by decide +kernel
theorem dLaw_898 : decode code 898 = .ok (.iaload, 1) := by decide +kernel
theorem dLaw_899 : decode code 899 = .ok (.invokevirtual 145, 3) := by decide +kernel
theorem dLaw_902 : decode code 902 = .ok (.istore 6, 2) := by decide +kernel
theorem dLaw_904 : decode code 904 = .ok (.aload_n 2, 1) := by decide +kernel
theorem dLaw_905 : decode code 905 = .ok (.invokevirtual 100, 3) := by decide +kernel
theorem dLaw_908 : decode code 908 = .ok (.iload 5, 2) := by decide +kernel
theorem dLaw_910 : decode code 910 = .ok (.if_icmp .eq 5, 3) := by decide +kernel
theorem dLaw_913 : decode code 913 = .ok (.iconst 0, 1) := by decide +kernel
theorem dLaw_914 : decode code 914 = .ok (.ireturn, 1) := by decide +kernel
theorem dLaw_915 : decode code 915 = .ok (.iload 5, 2) := by decide +kernel
theorem dLaw_917 : decode code 917 = .ok (.ifCond .ne 15, 3) := by decide +kernel
theorem dLaw_920 : decode code 920 = .ok (.aload_n 3, 1) := by decide +kernel
theorem dLaw_921 : decode code 921 = .ok (.iconst 0, 1) := by decide +kernel
theorem dLaw_922 : decode code 922 = .ok (.laload, 1) := by decide +kernel
theorem dLaw_923 : decode code 923 = .ok (.iload 6, 2) := by decide +kernel
theorem dLaw_925 : decode code 925 = .ok (.i2l, 1) := by decide +kernel
theorem dLaw_926 : decode code 926 = .ok (.lcmp, 1) := by decide +kernel
theorem dLaw_927 : decode code 927 = .ok (.ifCond .eq 5, 3) := by decide +kernel
theorem dLaw_930 : decode code 930 = .ok (.iconst 0, 1) := by decide +kernel
theorem dLaw_931 : decode code 931 = .ok (.ireturn, 1) := by decide +kernel
theorem dLaw_932 : decode code 932 = .ok (.goto 703, 3) := by decide +kernel
theorem dLaw_935 : decode code 935 = .ok (.aload_n 1, 1) := by decide +kernel
theorem dLaw_936 : decode code 936 = .ok (.aload_n 0, 1) := by decide +kernel
theorem dLaw_937 : decode code 937 = .ok (.iload 4, 2) := by decide +kernel
theorem dLaw_939 : decode code 939 = .ok (.iconst 1, 1) := by decide +kernel
theorem dLaw_940 : decode code 940 = .ok (.iadd, 1) := by decide +kernel
theorem dLaw_941 : decode code 941 = .ok (.iaload, 1) := by decide +kernel
theorem dLaw_942 : decode code 942 = .ok (.aload_n 0, 1) := by decide +kernel
theorem dLaw_943 : decode code 943 = .ok (.iload 4, 2) := by decide +kernel
theorem dLaw_945 : decode code 945 = .ok (.iconst 2, 1) := by decide +kernel
theorem dLaw_946 : decode code 946 = .ok (.iadd, 1) := by decide +kernel
theorem dLaw_947 : decode code 947 = .ok (.iaload, 1) := by decide +kernel
theorem dLaw_948 : decode code 948 = .ok (.aload_n 0, 1) := by decide +kernel
theorem dLaw_949 : decode code 949 = .ok (.iload 4, 2) := by decide +kernel
theorem dLaw_951 : decode code 951 = .ok (.iconst 3, 1) := by decide +kernel
theorem dLaw_952 : decode code 952 = .ok (.iadd, 1) := by decide +kernel
theorem dLaw_953 : decode code 953 = .ok (.iaload, 1) := by decide +kernel
theorem dLaw_954 : decode code 954 = .ok (.aload_n 0, 1) := by decide +kernel
theorem dLaw_955 : decode code 955 = .ok (.iload 4, 2) := by decide +kernel
theorem dLaw_957 : decode code 957 = .ok (.iconst 4, 1) := by decide +kernel
theorem dLaw_958 : decode code 958 = .ok (.iadd, 1) := by decide +kernel
theorem dLaw_959 : decode code 959 = .ok (.iaload, 1) := by decide +kernel
theorem dLaw_960 : decode code 960 = .ok (.aload_n 3, 1) := by decide +kernel
theorem dLaw_961 : decode code 961 = .ok (.invokestatic 146, 3) := by decide +kernel
theorem dLaw_964 : decode code 964 = .ok (.istore 5, 2) := by decide +kernel
theorem dLaw_966 : decode code 966 = .ok (.aload_n 2, 1) := by decide +kernel
theorem dLaw_967 : decode code 967 = .ok (.aload_n 0, 1) := by decide +kernel
theorem dLaw_968 : decode code 968 = .ok (.iload 4, 2) := by decide +kernel
theorem dLaw_970 : decode code 970 = .ok (.iconst 1, 1) := by decide +kernel
theorem dLaw_971 : decode code 971 = .ok (.iadd, 1) := by decide +kernel
theorem dLaw_972 : decode code 972 = .ok (.iaload, 1) := by decide +kernel
theorem dLaw_973 : decode code 973 = .ok (.aload_n 0, 1) := by decide +kernel
theorem dLaw_974 : decode code 974 = .ok (.iload 4, 2) := by decide +kernel
theorem dLaw_976 : decode code 976 = .ok (.iconst 2, 1) := by decide +kernel
theorem dLaw_977 : decode code 977 = .ok (.iadd, 1) := by decide +kernel
theorem dLaw_978 : decode code 978 = .ok (.iaload, 1) := by decide +kernel
theorem dLaw_979 : decode code 979 = .ok (.aload_n 0, 1) := by decide +kernel
theorem dLaw_980 : decode code 980 = .ok (.iload 4, 2) := by decide +kernel
theorem dLaw_982 : decode code 982 = .ok (.iconst 3, 1) := by decide +kernel
theorem dLaw_983 : decode code 983 = .ok (.iadd, 1) := by decide +kernel
theorem dLaw_984 : decode code 984 = .ok (.iaload, 1) := by decide +kernel
theorem dLaw_985 : decode code 985 = .ok (.aload_n 0, 1) := by decide +kernel
theorem dLaw_986 : decode code 986 = .ok (.iload 4, 2) := by decide +kernel
theorem dLaw_988 : decode code 988 = .ok (.iconst 4, 1) := by decide +kernel
theorem dLaw_989 : decode code 989 = .ok (.iadd, 1) := by decide +kernel
theorem dLaw_990 : decode code 990 = .ok (.iaload, 1) := by decide +kernel
theorem dLaw_991 : decode code 991 = .ok (.invokevirtual 148, 3) := by decide +kernel
theorem dLaw_994 : decode code 994 = .ok (.istore 6, 2) := by decide +kernel
theorem dLaw_996 : decode code 996 = .ok (.aload_n 2, 1) := by decide +kernel
theorem dLaw_997 : decode code 997 = .ok (.invokevirtual 100, 3) := by decide +kernel
theorem dLaw_1000 : decode code 1000 = .ok (.iload 5, 2) := by decide +kernel
theorem dLaw_1002 : decode code 1002 = .ok (.if_icmp .eq 5, 3) := by decide +kernel
theorem dLaw_1005 : decode code 1005 = .ok (.iconst 0, 1) := by decide +kernel
theorem dLaw_1006 : decode code 1006 = .ok (.ireturn, 1) := by decide +kernel
theorem dLaw_1007 : decode code 1007 = .ok (.iload 5, 2) := by decide +kernel
theorem dLaw_1009 : decode code 1009 = .ok (.ifCond .ne 15, 3) := by decide +kernel
theorem dLaw_1012 : decode code 1012 = .ok (.aload_n 3, 1) := by decide +kernel
theorem dLaw_1013 : decode code 1013 = .ok (.iconst 0, 1) := by decide +kernel
theorem dLaw_1014 : decode code 1014 = .ok (.laload, 1) := by decide +kernel
theorem dLaw_1015 : decode code 1015 = .ok (.iload 6, 2) := by decide +kernel
theorem dLaw_1017 : decode code 1017 = .ok (.i2l, 1) := by decide +kernel
theorem dLaw_1018 : decode code 1018 = .ok (.lcmp, 1) := by decide +kernel
theorem dLaw_1019 : decode code 1019 = .ok (.ifCond .eq 5, 3) := by decide +kernel
theorem dLaw_1022 : decode code 1022 = .ok (.iconst 0, 1) := by decide +kernel
theorem dLaw_1023 : decode code 1023 = .ok (.ireturn, 1) := by decide +kernel
theorem dLaw_1024 : decode code 1024 = .ok (.goto 611, 3) := by decide +kernel
theorem dLaw_1027 : decode code 1027 = .ok (.aload_n 1, 1) := by decide +kernel
theorem dLaw_1028 : decode code 1028 = .ok (.aload_n 0, 1) := by decide +kernel
theorem dLaw_1029 : decode code 1029 = .ok (.iload 4, 2) := by decide +kernel
theorem dLaw_1031 : decode code 1031 = .ok (.iconst 1, 1) := by decide +kernel
theorem dLaw_1032 : decode code 1032 = .ok (.iadd, 1) := by decide +kernel
theorem dLaw_1033 : decode code 1033 = .ok (.iaload, 1) := by decide +kernel
theorem dLaw_1034 : decode code 1034 = .ok (.aload_n 0, 1) := by decide +kernel
theorem dLaw_1035 : decode code 1035 = .ok (.iload 4, 2) := by decide +kernel
theorem dLaw_1037 : decode code 1037 = .ok (.iconst 2, 1) := by decide +kernel
theorem dLaw_1038 : decode code 1038 = .ok (.iadd, 1) := by decide +kernel
theorem dLaw_1039 : decode code 1039 = .ok (.iaload, 1) := by decide +kernel
theorem dLaw_1040 : decode code 1040 = .ok (.aload_n 3, 1) := by decide +kernel
theorem dLaw_1041 : decode code 1041 = .ok (.invokestatic 149, 3) := by decide +kernel
theorem dLaw_1044 : decode code 1044 = .ok (.istore 5, 2) := by decide +kernel
theorem dLaw_1046 : decode code 1046 = .ok (.aload_n 2, 1) := by decide +kernel
theorem dLaw_1047 : decode code 1047 = .ok (.aload_n 0, 1) := by decide +kernel
theorem dLaw_1048 : decode code 1048 = .ok (.iload 4, 2) := by decide +kernel
theorem dLaw_1050 : decode code 1050 = .ok (.iconst 1, 1) := by decide +kernel
theorem dLaw_1051 : decode code 1051 = .ok (.iadd, 1) := by decide +kernel
theorem dLaw_1052 : decode code 1052 = .ok (.iaload, 1) := by decide +kernel
theorem dLaw_1053 : decode code 1053 = .ok (.aload_n 0, 1) := by decide +kernel
theorem dLaw_1054 : decode code 1054 = .ok (.iload 4, 2) := by decide +kernel
theorem dLaw_1056 : decode code 1056 = .ok (.iconst 2, 1) := by decide +kernel
theorem dLaw_1057 : decode code 1057 = .ok (.iadd, 1) := by decide +kernel
theorem dLaw_1058 : decode code 1058 = .ok (.iaload, 1) := by decide +kernel
theorem dLaw_1059 : decode code 1059 = .ok (.invokevirtual 151, 3) := by decide +kernel
theorem dLaw_1062 : decode code 1062 = .ok (.istore 6, 2) := by decide +kernel
theorem dLaw_1064 : decode code 1064 = .ok (.aload_n 2, 1) := by decide +kernel
theorem dLaw_1065 : decode code 1065 = .ok (.invokevirtual 100, 3) := by decide +kernel
theorem dLaw_1068 : decode code 1068 = .ok (.iload 5, 2) := by decide +kernel
theorem dLaw_1070 : decode code 1070 = .ok (.if_icmp .eq 5, 3) := by decide +kernel
theorem dLaw_1073 : decode code 1073 = .ok (.iconst 0, 1) := by decide +kernel
theorem dLaw_1074 : decode code 1074 = .ok (.ireturn, 1) := by decide +kernel
theorem dLaw_1075 : decode code 1075 = .ok (.iload 5, 2) := by decide +kernel
theorem dLaw_1077 : decode code 1077 = .ok (.ifCond .ne 15, 3) := by decide +kernel
theorem dLaw_1080 : decode code 1080 = .ok (.aload_n 3, 1) := by decide +kernel
theorem dLaw_1081 : decode code 1081 = .ok (.iconst 0, 1) := by decide +kernel
theorem dLaw_1082 : decode code 1082 = .ok (.laload, 1) := by decide +kernel
theorem dLaw_1083 : decode code 1083 = .ok (.iload 6, 2) := by decide +kernel
theorem dLaw_1085 : decode code 1085 = .ok (.i2l, 1) := by decide +kernel
theorem dLaw_1086 : decode code 1086 = .ok (.lcmp, 1) := by decide +kernel
theorem dLaw_1087 : decode code 1087 = .ok (.ifCond .eq 5, 3) := by decide +kernel
theorem dLaw_1090 : decode code 1090 = .ok (.iconst 0, 1) := by decide +kernel
theorem dLaw_1091 : decode code 1091 = .ok (.ireturn, 1) := by decide +kernel
theorem dLaw_1092 : decode code 1092 = .ok (.goto 543, 3) := by decide +kernel
theorem dLaw_1095 : decode code 1095 = .ok (.aload_n 1, 1) := by decide +kernel
theorem dLaw_1096 : decode code 1096 = .ok (.aload_n 0, 1) := by decide +kernel
theorem dLaw_1097 : decode code 1097 = .ok (.iload 4, 2) := by decide +kernel
theorem dLaw_1099 : decode code 1099 = .ok (.iconst 1, 1) := by decide +kernel
theorem dLaw_1100 : decode code 1100 = .ok (.iadd, 1) := by decide +kernel
theorem dLaw_1101 : decode code 1101 = .ok (.iaload, 1) := by decide +kernel
theorem dLaw_1102 : decode code 1102 = .ok (.aload_n 0, 1) := by decide +kernel
theorem dLaw_1103 : decode code 1103 = .ok (.iload 4, 2) := by decide +kernel
theorem dLaw_1105 : decode code 1105 = .ok (.iconst 2, 1) := by decide +kernel
theorem dLaw_1106 : decode code 1106 = .ok (.iadd, 1) := by decide +kernel
theorem dLaw_1107 : decode code 1107 = .ok (.iaload, 1) := by decide +kernel
theorem dLaw_1108 : decode code 1108 = .ok (.aload_n 3, 1) := by decide +kernel
theorem dLaw_1109 : decode code 1109 = .ok (.invokestatic 152, 3) := by decide +kernel
theorem dLaw_1112 : decode code 1112 = .ok (.istore 5, 2) := by decide +kernel
theorem dLaw_1114 : decode code 1114 = .ok (.aload_n 2, 1) := by decide +kernel
theorem dLaw_1115 : decode code 1115 = .ok (.aload_n 0, 1) := by decide +kernel
theorem dLaw_1116 : decode code 1116 = .ok (.iload 4, 2) := by decide +kernel
theorem dLaw_1118 : decode code 1118 = .ok (.iconst 1, 1) := by decide +kernel
theorem dLaw_1119 : decode code 1119 = .ok (.iadd, 1) := by decide +kernel
theorem dLaw_1120 : decode code 1120 = .ok (.iaload, 1) := by decide +kernel
theorem dLaw_1121 : decode code 1121 = .ok (.aload_n 0, 1) := by decide +kernel
theorem dLaw_1122 : decode code 1122 = .ok (.iload 4, 2) := by decide +kernel
theorem dLaw_1124 : decode code 1124 = .ok (.iconst 2, 1) := by decide +kernel
theorem dLaw_1125 : decode code 1125 = .ok (.iadd, 1) := by decide +kernel
theorem dLaw_1126 : decode code 1126 = .ok (.iaload, 1) := by decide +kernel
theorem dLaw_1127 : decode code 1127 = .ok (.invokevirtual 154, 3) := by decide +kernel
theorem dLaw_1130 : decode code 1130 = .ok (.istore 6, 2) := by decide +kernel
theorem dLaw_1132 : decode code 1132 = .ok (.aload_n 2, 1) := by decide +kernel
theorem dLaw_1133 : decode code 1133 = .ok (.invokevirtual 100, 3) := by decide +kernel
theorem dLaw_1136 : decode code 1136 = .ok (.iload 5, 2) := by decide +kernel
theorem dLaw_1138 : decode code 1138 = .ok (.if_icmp .eq 5, 3) := by decide +kernel
theorem dLaw_1141 : decode code 1141 = .ok (.iconst 0, 1) := by decide +kernel
theorem dLaw_1142 : decode code 1142 = .ok (.ireturn, 1) := by decide +kernel
theorem dLaw_1143 : decode code 1143 = .ok (.iload 5, 2) := by decide +kernel
theorem dLaw_1145 : decode code 1145 = .ok (.ifCond .ne 15, 3) := by decide +kernel
theorem dLaw_1148 : decode code 1148 = .ok (.aload_n 3, 1) := by decide +kernel
theorem dLaw_1149 : decode code 1149 = .ok (.iconst 0, 1) := by decide +kernel
theorem dLaw_1150 : decode code 1150 = .ok (.laload, 1) := by decide +kernel
theorem dLaw_1151 : decode code 1151 = .ok (.iload 6, 2) := by decide +kernel
theorem dLaw_1153 : decode code 1153 = .ok (.i2l, 1) := by decide +kernel
theorem dLaw_1154 : decode code 1154 = .ok (.lcmp, 1) := by decide +kernel
theorem dLaw_1155 : decode code 1155 = .ok (.ifCond .eq 5, 3) := by decide +kernel
theorem dLaw_1158 : decode code 1158 = .ok (.iconst 0, 1) := by decide +kernel
theorem dLaw_1159 : decode code 1159 = .ok (.ireturn, 1) := by decide +kernel
theorem dLaw_1160 : decode code 1160 = .ok (.goto 475, 3) := by decide +kernel
theorem dLaw_1163 : decode code 1163 = .ok (.aload_n 1, 1) := by decide +kernel
theorem dLaw_1164 : decode code 1164 = .ok (.aload_n 0, 1) := by decide +kernel
theorem dLaw_1165 : decode code 1165 = .ok (.iload 4, 2) := by decide +kernel
theorem dLaw_1167 : decode code 1167 = .ok (.iconst 1, 1) := by decide +kernel
theorem dLaw_1168 : decode code 1168 = .ok (.iadd, 1) := by decide +kernel
theorem dLaw_1169 : decode code 1169 = .ok (.iaload, 1) := by decide +kernel
theorem dLaw_1170 : decode code 1170 = .ok (.aload_n 0, 1) := by decide +kernel
theorem dLaw_1171 : decode code 1171 = .ok (.iload 4, 2) := by decide +kernel
theorem dLaw_1173 : decode code 1173 = .ok (.iconst 2, 1) := by decide +kernel
theorem dLaw_1174 : decode code 1174 = .ok (.iadd, 1) := by decide +kernel
theorem dLaw_1175 : decode code 1175 = .ok (.iaload, 1) := by decide +kernel
theorem dLaw_1176 : decode code 1176 = .ok (.aload_n 0, 1) := by decide +kernel
theorem dLaw_1177 : decode code 1177 = .ok (.iload 4, 2) := by decide +kernel
theorem dLaw_1179 : decode code 1179 = .ok (.iconst 3, 1) := by decide +kernel
theorem dLaw_1180 : decode code 1180 = .ok (.iadd, 1) := by decide +kernel
theorem dLaw_1181 : decode code 1181 = .ok (.iaload, 1) := by decide +kernel
theorem dLaw_1182 : decode code 1182 = .ok (.aload_n 3, 1) := by decide +kernel
theorem dLaw_1183 : decode code 1183 = .ok (.invokestatic 155, 3) := by decide +kernel
theorem dLaw_1186 : decode code 1186 = .ok (.istore 5, 2) := by decide +kernel
theorem dLaw_1188 : decode code 1188 = .ok (.aload_n 2, 1) := by decide +kernel
theorem dLaw_1189 : decode code 1189 = .ok (.aload_n 0, 1) := by decide +kernel
theorem dLaw_1190 : decode code 1190 = .ok (.iload 4, 2) := by decide +kernel
theorem dLaw_1192 : decode code 1192 = .ok (.iconst 1, 1) := by decide +kernel
theorem dLaw_1193 : decode code 1193 = .ok (.iadd, 1) := by decide +kernel
theorem dLaw_1194 : decode code 1194 = .ok (.iaload, 1) := by decide +kernel
theorem dLaw_1195 : decode code 1195 = .ok (.aload_n 0, 1) := by decide +kernel
theorem dLaw_1196 : decode code 1196 = .ok (.iload 4, 2) := by decide +kernel
theorem dLaw_1198 : decode code 1198 = .ok (.iconst 2, 1) := by decide +kernel
theorem dLaw_1199 : decode code 1199 = .ok (.iadd, 1) := by decide +kernel
theorem dLaw_1200 : decode code 1200 = .ok (.iaload, 1) := by decide +kernel
theorem dLaw_1201 : decode code 1201 = .ok (.aload_n 0, 1) := by decide +kernel
theorem dLaw_1202 : decode code 1202 = .ok (.iload 4, 2) := by decide +kernel
theorem dLaw_1204 : decode code 1204 = .ok (.iconst 3, 1) := by decide +kernel
theorem dLaw_1205 : decode code 1205 = .ok (.iadd, 1) := by decide +kernel
theorem dLaw_1206 : decode code 1206 = .ok (.iaload, 1) := by decide +kernel
theorem dLaw_1207 : decode code 1207 = .ok (.invokevirtual 157, 3) := by decide +kernel
theorem dLaw_1210 : decode code 1210 = .ok (.istore 6, 2) := by decide +kernel
theorem dLaw_1212 : decode code 1212 = .ok (.aload_n 2, 1) := by decide +kernel
theorem dLaw_1213 : decode code 1213 = .ok (.invokevirtual 100, 3) := by decide +kernel
theorem dLaw_1216 : decode code 1216 = .ok (.iload 5, 2) := by decide +kernel
theorem dLaw_1218 : decode code 1218 = .ok (.if_icmp .eq 5, 3) := by decide +kernel
theorem dLaw_1221 : decode code 1221 = .ok (.iconst 0, 1) := by decide +kernel
theorem dLaw_1222 : decode code 1222 = .ok (.ireturn, 1) := by decide +kernel
theorem dLaw_1223 : decode code 1223 = .ok (.iload 5, 2) := by decide +kernel
theorem dLaw_1225 : decode code 1225 = .ok (.ifCond .ne 15, 3) := by decide +kernel
theorem dLaw_1228 : decode code 1228 = .ok (.aload_n 3, 1) := by decide +kernel
theorem dLaw_1229 : decode code 1229 = .ok (.iconst 0, 1) := by decide +kernel
theorem dLaw_1230 : decode code 1230 = .ok (.laload, 1) := by decide +kernel
theorem dLaw_1231 : decode code 1231 = .ok (.iload 6, 2) := by decide +kernel
theorem dLaw_1233 : decode code 1233 = .ok (.i2l, 1) := by decide +kernel
theorem dLaw_1234 : decode code 1234 = .ok (.lcmp, 1) := by decide +kernel
theorem dLaw_1235 : decode code 1235 = .ok (.ifCond .eq 5, 3) := by decide +kernel
theorem dLaw_1238 : decode code 1238 = .ok (.iconst 0, 1) := by decide +kernel
theorem dLaw_1239 : decode code 1239 = .ok (.ireturn, 1) := by decide +kernel
theorem dLaw_1240 : decode code 1240 = .ok (.goto 395, 3) := by decide +kernel
theorem dLaw_1243 : decode code 1243 = .ok (.aload_n 1, 1) := by decide +kernel
theorem dLaw_1244 : decode code 1244 = .ok (.aload_n 0, 1) := by decide +kernel
theorem dLaw_1245 : decode code 1245 = .ok (.iload 4, 2) := by decide +kernel
theorem dLaw_1247 : decode code 1247 = .ok (.iconst 1, 1) := by decide +kernel
theorem dLaw_1248 : decode code 1248 = .ok (.iadd, 1) := by decide +kernel
theorem dLaw_1249 : decode code 1249 = .ok (.iaload, 1) := by decide +kernel
theorem dLaw_1250 : decode code 1250 = .ok (.aload_n 0, 1) := by decide +kernel
theorem dLaw_1251 : decode code 1251 = .ok (.iload 4, 2) := by decide +kernel
theorem dLaw_1253 : decode code 1253 = .ok (.iconst 2, 1) := by decide +kernel
theorem dLaw_1254 : decode code 1254 = .ok (.iadd, 1) := by decide +kernel
theorem dLaw_1255 : decode code 1255 = .ok (.iaload, 1) := by decide +kernel
theorem dLaw_1256 : decode code 1256 = .ok (.aload_n 3, 1) := by decide +kernel
theorem dLaw_1257 : decode code 1257 = .ok (.invokestatic 158, 3) := by decide +kernel
theorem dLaw_1260 : decode code 1260 = .ok (.istore 5, 2) := by decide +kernel
theorem dLaw_1262 : decode code 1262 = .ok (.aload_n 2, 1) := by decide +kernel
theorem dLaw_1263 : decode code 1263 = .ok (.aload_n 0, 1) := by decide +kernel
theorem dLaw_1264 : decode code 1264 = .ok (.iload 4, 2) := by decide +kernel
theorem dLaw_1266 : decode code 1266 = .ok (.iconst 1, 1) := by decide +kernel
theorem dLaw_1267 : decode code 1267 = .ok (.iadd, 1) := by decide +kernel
theorem dLaw_1268 : decode code 1268 = .ok (.iaload, 1) := by decide +kernel
theorem dLaw_1269 : decode code 1269 = .ok (.aload_n 0, 1) := by decide +kernel
theorem dLaw_1270 : decode code 1270 = .ok (.iload 4, 2) := by decide +kernel
theorem dLaw_1272 : decode code 1272 = .ok (.iconst 2, 1) := by decide +kernel
theorem dLaw_1273 : decode code 1273 = .ok (.iadd, 1) := by decide +kernel
theorem dLaw_1274 : decode code 1274 = .ok (.iaload, 1) := by decide +kernel
theorem dLaw_1275 : decode code 1275 = .ok (.invokevirtual 160, 3) := by decide +kernel
theorem dLaw_1278 : decode code 1278 = .ok (.istore 6, 2) := by decide +kernel
theorem dLaw_1280 : decode code 1280 = .ok (.aload_n 2, 1) := by decide +kernel
theorem dLaw_1281 : decode code 1281 = .ok (.invokevirtual 100, 3) := by decide +kernel
theorem dLaw_1284 : decode code 1284 = .ok (.iload 5, 2) := by decide +kernel
theorem dLaw_1286 : decode code 1286 = .ok (.if_icmp .eq 5, 3) := by decide +kernel
theorem dLaw_1289 : decode code 1289 = .ok (.iconst 0, 1) := by decide +kernel
theorem dLaw_1290 : decode code 1290 = .ok (.ireturn, 1) := by decide +kernel
theorem dLaw_1291 : decode code 1291 = .ok (.iload 5, 2) := by decide +kernel
theorem dLaw_1293 : decode code 1293 = .ok (.ifCond .ne 15, 3) := by decide +kernel
theorem dLaw_1296 : decode code 1296 = .ok (.aload_n 3, 1) := by decide +kernel
theorem dLaw_1297 : decode code 1297 = .ok (.iconst 0, 1) := by decide +kernel
theorem dLaw_1298 : decode code 1298 = .ok (.laload, 1) := by decide +kernel
theorem dLaw_1299 : decode code 1299 = .ok (.iload 6, 2) := by decide +kernel
theorem dLaw_1301 : decode code 1301 = .ok (.i2l, 1) := by decide +kernel
theorem dLaw_1302 : decode code 1302 = .ok (.lcmp, 1) := by decide +kernel
theorem dLaw_1303 : decode code 1303 = .ok (.ifCond .eq 5, 3) := by decide +kernel
theorem dLaw_1306 : decode code 1306 = .ok (.iconst 0, 1) := by decide +kernel
theorem dLaw_1307 : decode code 1307 = .ok (.ireturn, 1) := by decide +kernel
theorem dLaw_1308 : decode code 1308 = .ok (.goto 327, 3) := by decide +kernel
theorem dLaw_1311 : decode code 1311 = .ok (.aload_n 1, 1) := by decide +kernel
theorem dLaw_1312 : decode code 1312 = .ok (.aload_n 0, 1) := by decide +kernel
theorem dLaw_1313 : decode code 1313 = .ok (.iload 4, 2) := by decide +kernel
theorem dLaw_1315 : decode code 1315 = .ok (.iconst 1, 1) := by decide +kernel
theorem dLaw_1316 : decode code 1316 = .ok (.iadd, 1) := by decide +kernel
theorem dLaw_1317 : decode code 1317 = .ok (.iaload, 1) := by decide +kernel
theorem dLaw_1318 : decode code 1318 = .ok (.aload_n 0, 1) := by decide +kernel
theorem dLaw_1319 : decode code 1319 = .ok (.iload 4, 2) := by decide +kernel
theorem dLaw_1321 : decode code 1321 = .ok (.iconst 2, 1) := by decide +kernel
theorem dLaw_1322 : decode code 1322 = .ok (.iadd, 1) := by decide +kernel
theorem dLaw_1323 : decode code 1323 = .ok (.iaload, 1) := by decide +kernel
theorem dLaw_1324 : decode code 1324 = .ok (.aload_n 3, 1) := by decide +kernel
theorem dLaw_1325 : decode code 1325 = .ok (.invokestatic 161, 3) := by decide +kernel
theorem dLaw_1328 : decode code 1328 = .ok (.istore 5, 2) := by decide +kernel
theorem dLaw_1330 : decode code 1330 = .ok (.aload_n 2, 1) := by decide +kernel
theorem dLaw_1331 : decode code 1331 = .ok (.aload_n 0, 1) := by decide +kernel
theorem dLaw_1332 : decode code 1332 = .ok (.iload 4, 2) := by decide +kernel
theorem dLaw_1334 : decode code 1334 = .ok (.iconst 1, 1) := by decide +kernel
theorem dLaw_1335 : decode code 1335 = .ok (.iadd, 1) := by decide +kernel
theorem dLaw_1336 : decode code 1336 = .ok (.iaload, 1) := by decide +kernel
theorem dLaw_1337 : decode code 1337 = .ok (.aload_n 0, 1) := by decide +kernel
theorem dLaw_1338 : decode code 1338 = .ok (.iload 4, 2) := by decide +kernel
theorem dLaw_1340 : decode code 1340 = .ok (.iconst 2, 1) := by decide +kernel
theorem dLaw_1341 : decode code 1341 = .ok (.iadd, 1) := by decide +kernel
theorem dLaw_1342 : decode code 1342 = .ok (.iaload, 1) := by decide +kernel
theorem dLaw_1343 : decode code 1343 = .ok (.invokevirtual 163, 3) := by decide +kernel
theorem dLaw_1346 : decode code 1346 = .ok (.lstore 6, 2) := by decide +kernel
theorem dLaw_1348 : decode code 1348 = .ok (.aload_n 2, 1) := by decide +kernel
theorem dLaw_1349 : decode code 1349 = .ok (.invokevirtual 100, 3) := by decide +kernel
theorem dLaw_1352 : decode code 1352 = .ok (.iload 5, 2) := by decide +kernel
theorem dLaw_1354 : decode code 1354 = .ok (.if_icmp .eq 5, 3) := by decide +kernel
theorem dLaw_1357 : decode code 1357 = .ok (.iconst 0, 1) := by decide +kernel
theorem dLaw_1358 : decode code 1358 = .ok (.ireturn, 1) := by decide +kernel
theorem dLaw_1359 : decode code 1359 = .ok (.iload 5, 2) := by decide +kernel
theorem dLaw_1361 : decode code 1361 = .ok (.ifCond .ne 14, 3) := by decide +kernel
theorem dLaw_1364 : decode code 1364 = .ok (.aload_n 3, 1) := by decide +kernel
theorem dLaw_1365 : decode code 1365 = .ok (.iconst 0, 1) := by decide +kernel
theorem dLaw_1366 : decode code 1366 = .ok (.laload, 1) := by decide +kernel
theorem dLaw_1367 : decode code 1367 = .ok (.lload 6, 2) := by decide +kernel
theorem dLaw_1369 : decode code 1369 = .ok (.lcmp, 1) := by decide +kernel
theorem dLaw_1370 : decode code 1370 = .ok (.ifCond .eq 5, 3) := by decide +kernel
theorem dLaw_1373 : decode code 1373 = .ok (.iconst 0, 1) := by decide +kernel
theorem dLaw_1374 : decode code 1374 = .ok (.ireturn, 1) := by decide +kernel
theorem dLaw_1375 : decode code 1375 = .ok (.goto 260, 3) := by decide +kernel
theorem dLaw_1378 : decode code 1378 = .ok (.aload_n 1, 1) := by decide +kernel
theorem dLaw_1379 : decode code 1379 = .ok (.aload_n 0, 1) := by decide +kernel
theorem dLaw_1380 : decode code 1380 = .ok (.iload 4, 2) := by decide +kernel
theorem dLaw_1382 : decode code 1382 = .ok (.iconst 1, 1) := by decide +kernel
theorem dLaw_1383 : decode code 1383 = .ok (.iadd, 1) := by decide +kernel
theorem dLaw_1384 : decode code 1384 = .ok (.iaload, 1) := by decide +kernel
theorem dLaw_1385 : decode code 1385 = .ok (.aload_n 3, 1) := by decide +kernel
theorem dLaw_1386 : decode code 1386 = .ok (.invokestatic 164, 3) := by decide +kernel
theorem dLaw_1389 : decode code 1389 = .ok (.istore 5, 2) := by decide +kernel
theorem dLaw_1391 : decode code 1391 = .ok (.aload_n 2, 1) := by decide +kernel
theorem dLaw_1392 : decode code 1392 = .ok (.aload_n 0, 1) := by decide +kernel
theorem dLaw_1393 : decode code 1393 = .ok (.iload 4, 2) := by decide +kernel
theorem dLaw_1395 : decode code 1395 = .ok (.iconst 1, 1) := by decide +kernel
theorem dLaw_1396 : decode code 1396 = .ok (.iadd, 1) := by decide +kernel
theorem dLaw_1397 : decode code 1397 = .ok (.iaload, 1) := by decide +kernel
theorem dLaw_1398 : decode code 1398 = .ok (.invokevirtual 166, 3) := by decide +kernel
theorem dLaw_1401 : decode code 1401 = .ok (.lstore 6, 2) := by decide +kernel
theorem dLaw_1403 : decode code 1403 = .ok (.aload_n 2, 1) := by decide +kernel
theorem dLaw_1404 : decode code 1404 = .ok (.invokevirtual 100, 3) := by decide +kernel
theorem dLaw_1407 : decode code 1407 = .ok (.iload 5, 2) := by decide +kernel
theorem dLaw_1409 : decode code 1409 = .ok (.if_icmp .eq 5, 3) := by decide +kernel
theorem dLaw_1412 : decode code 1412 = .ok (.iconst 0, 1) := by decide +kernel
theorem dLaw_1413 : decode code 1413 = .ok (.ireturn, 1) := by decide +kernel
theorem dLaw_1414 : decode code 1414 = .ok (.iload 5, 2) := by decide +kernel
theorem dLaw_1416 : decode code 1416 = .ok (.ifCond .ne 14, 3) := by decide +kernel
theorem dLaw_1419 : decode code 1419 = .ok (.aload_n 3, 1) := by decide +kernel
theorem dLaw_1420 : decode code 1420 = .ok (.iconst 0, 1) := by decide +kernel
theorem dLaw_1421 : decode code 1421 = .ok (.laload, 1) := by decide +kernel
theorem dLaw_1422 : decode code 1422 = .ok (.lload 6, 2) := by decide +kernel
theorem dLaw_1424 : decode code 1424 = .ok (.lcmp, 1) := by decide +kernel
theorem dLaw_1425 : decode code 1425 = .ok (.ifCond .eq 5, 3) := by decide +kernel
theorem dLaw_1428 : decode code 1428 = .ok (.iconst 0, 1) := by decide +kernel
theorem dLaw_1429 : decode code 1429 = .ok (.ireturn, 1) := by decide +kernel
theorem dLaw_1430 : decode code 1430 = .ok (.goto 205, 3) := by decide +kernel
theorem dLaw_1433 : decode code 1433 = .ok (.aload_n 1, 1) := by decide +kernel
theorem dLaw_1434 : decode code 1434 = .ok (.aload_n 0, 1) := by decide +kernel
theorem dLaw_1435 : decode code 1435 = .ok (.iload 4, 2) := by decide +kernel
theorem dLaw_1437 : decode code 1437 = .ok (.iconst 1, 1) := by decide +kernel
theorem dLaw_1438 : decode code 1438 = .ok (.iadd, 1) := by decide +kernel
theorem dLaw_1439 : decode code 1439 = .ok (.iaload, 1) := by decide +kernel
theorem dLaw_1440 : decode code 1440 = .ok (.aload_n 3, 1) := by decide +kernel
theorem dLaw_1441 : decode code 1441 = .ok (.invokestatic 167, 3) := by decide +kernel
theorem dLaw_1444 : decode code 1444 = .ok (.istore 5, 2) := by decide +kernel
theorem dLaw_1446 : decode code 1446 = .ok (.aload_n 2, 1) := by decide +kernel
theorem dLaw_1447 : decode code 1447 = .ok (.aload_n 0, 1) := by decide +kernel
theorem dLaw_1448 : decode code 1448 = .ok (.iload 4, 2) := by decide +kernel
theorem dLaw_1450 : decode code 1450 = .ok (.iconst 1, 1) := by decide +kernel
theorem dLaw_1451 : decode code 1451 = .ok (.iadd, 1) := by decide +kernel
theorem dLaw_1452 : decode code 1452 = .ok (.iaload, 1) := by decide +kernel
theorem dLaw_1453 : decode code 1453 = .ok (.invokevirtual 169, 3) := by decide +kernel
theorem dLaw_1456 : decode code 1456 = .ok (.lstore 6, 2) := by decide +kernel
theorem dLaw_1458 : decode code 1458 = .ok (.aload_n 2, 1) := by decide +kernel
theorem dLaw_1459 : decode code 1459 = .ok (.invokevirtual 100, 3) := by decide +kernel
theorem dLaw_1462 : decode code 1462 = .ok (.iload 5, 2) := by decide +kernel
theorem dLaw_1464 : decode code 1464 = .ok (.if_icmp .eq 5, 3) := by decide +kernel
theorem dLaw_1467 : decode code 1467 = .ok (.iconst 0, 1) := by decide +kernel
theorem dLaw_1468 : decode code 1468 = .ok (.ireturn, 1) := by decide +kernel
theorem dLaw_1469 : decode code 1469 = .ok (.iload 5, 2) := by decide +kernel
theorem dLaw_1471 : decode code 1471 = .ok (.ifCond .ne 14, 3) := by decide +kernel
theorem dLaw_1474 : decode code 1474 = .ok (.aload_n 3, 1) := by decide +kernel
theorem dLaw_1475 : decode code 1475 = .ok (.iconst 0, 1) := by decide +kernel
theorem dLaw_1476 : decode code 1476 = .ok (.laload, 1) := by decide +kernel
theorem dLaw_1477 : decode code 1477 = .ok (.lload 6, 2) := by decide +kernel
theorem dLaw_1479 : decode code 1479 = .ok (.lcmp, 1) := by decide +kernel
theorem dLaw_1480 : decode code 1480 = .ok (.ifCond .eq 5, 3) := by decide +kernel
theorem dLaw_1483 : decode code 1483 = .ok (.iconst 0, 1) := by decide +kernel
theorem dLaw_1484 : decode code 1484 = .ok (.ireturn, 1) := by decide +kernel
theorem dLaw_1485 : decode code 1485 = .ok (.goto 150, 3) := by decide +kernel
theorem dLaw_1488 : decode code 1488 = .ok (.aload_n 1, 1) := by decide +kernel
theorem dLaw_1489 : decode code 1489 = .ok (.aload_n 0, 1) := by decide +kernel
theorem dLaw_1490 : decode code 1490 = .ok (.iload 4, 2) := by decide +kernel
theorem dLaw_1492 : decode code 1492 = .ok (.iconst 1, 1) := by decide +kernel
theorem dLaw_1493 : decode code 1493 = .ok (.iadd, 1) := by decide +kernel
theorem dLaw_1494 : decode code 1494 = .ok (.iaload, 1) := by decide +kernel
theorem dLaw_1495 : decode code 1495 = .ok (.aload_n 3, 1) := by decide +kernel
theorem dLaw_1496 : decode code 1496 = .ok (.invokestatic 170, 3) := by decide +kernel
theorem dLaw_1499 : decode code 1499 = .ok (.istore 5, 2) := by decide +kernel
theorem dLaw_1501 : decode code 1501 = .ok (.aload_n 2, 1) := by decide +kernel
theorem dLaw_1502 : decode code 1502 = .ok (.aload_n 0, 1) := by decide +kernel
theorem dLaw_1503 : decode code 1503 = .ok (.iload 4, 2) := by decide +kernel
theorem dLaw_1505 : decode code 1505 = .ok (.iconst 1, 1) := by decide +kernel
theorem dLaw_1506 : decode code 1506 = .ok (.iadd, 1) := by decide +kernel
theorem dLaw_1507 : decode code 1507 = .ok (.iaload, 1) := by decide +kernel
theorem dLaw_1508 : decode code 1508 = .ok (.invokevirtual 172, 3) := by decide +kernel
theorem dLaw_1511 : decode code 1511 = .ok (.lstore 6, 2) := by decide +kernel
theorem dLaw_1513 : decode code 1513 = .ok (.aload_n 2, 1) := by decide +kernel
theorem dLaw_1514 : decode code 1514 = .ok (.invokevirtual 100, 3) := by decide +kernel
theorem dLaw_1517 : decode code 1517 = .ok (.iload 5, 2) := by decide +kernel
theorem dLaw_1519 : decode code 1519 = .ok (.if_icmp .eq 5, 3) := by decide +kernel
theorem dLaw_1522 : decode code 1522 = .ok (.iconst 0, 1) := by decide +kernel
theorem dLaw_1523 : decode code 1523 = .ok (.ireturn, 1) := by decide +kernel
theorem dLaw_1524 : decode code 1524 = .ok (.iload 5, 2) := by decide +kernel
theorem dLaw_1526 : decode code 1526 = .ok (.ifCond .ne 14, 3) := by decide +kernel
theorem dLaw_1529 : decode code 1529 = .ok (.aload_n 3, 1) := by decide +kernel
theorem dLaw_1530 : decode code 1530 = .ok (.iconst 0, 1) := by decide +kernel
theorem dLaw_1531 : decode code 1531 = .ok (.laload, 1) := by decide +kernel
theorem dLaw_1532 : decode code 1532 = .ok (.lload 6, 2) := by decide +kernel
theorem dLaw_1534 : decode code 1534 = .ok (.lcmp, 1) := by decide +kernel
theorem dLaw_1535 : decode code 1535 = .ok (.ifCond .eq 5, 3) := by decide +kernel
theorem dLaw_1538 : decode code 1538 = .ok (.iconst 0, 1) := by decide +kernel
theorem dLaw_1539 : decode code 1539 = .ok (.ireturn, 1) := by decide +kernel
theorem dLaw_1540 : decode code 1540 = .ok (.goto 95, 3) := by decide +kernel
theorem dLaw_1543 : decode code 1543 = .ok (.aload_n 1, 1) := by decide +kernel
theorem dLaw_1544 : decode code 1544 = .ok (.aload_n 0, 1) := by decide +kernel
theorem dLaw_1545 : decode code 1545 = .ok (.iload 4, 2) := by decide +kernel
theorem dLaw_1547 : decode code 1547 = .ok (.iconst 1, 1) := by decide +kernel
theorem dLaw_1548 : decode code 1548 = .ok (.iadd, 1) := by decide +kernel
theorem dLaw_1549 : decode code 1549 = .ok (.iaload, 1) := by decide +kernel
theorem dLaw_1550 : decode code 1550 = .ok (.aload_n 0, 1) := by decide +kernel
theorem dLaw_1551 : decode code 1551 = .ok (.iload 4, 2) := by decide +kernel
theorem dLaw_1553 : decode code 1553 = .ok (.iconst 2, 1) := by decide +kernel
theorem dLaw_1554 : decode code 1554 = .ok (.iadd, 1) := by decide +kernel
theorem dLaw_1555 : decode code 1555 = .ok (.iaload, 1) := by decide +kernel
theorem dLaw_1556 : decode code 1556 = .ok (.aload_n 3, 1) := by decide +kernel
theorem dLaw_1557 : decode code 1557 = .ok (.invokestatic 173, 3) := by decide +kernel
theorem dLaw_1560 : decode code 1560 = .ok (.istore 5, 2) := by decide +kernel
theorem dLaw_1562 : decode code 1562 = .ok (.aload_n 2, 1) := by decide +kernel
theorem dLaw_1563 : decode code 1563 = .ok (.aload_n 0, 1) := by decide +kernel
theorem dLaw_1564 : decode code 1564 = .ok (.iload 4, 2) := by decide +kernel
theorem dLaw_1566 : decode code 1566 = .ok (.iconst 1, 1) := by decide +kernel
theorem dLaw_1567 : decode code 1567 = .ok (.iadd, 1) := by decide +kernel
theorem dLaw_1568 : decode code 1568 = .ok (.iaload, 1) := by decide +kernel
theorem dLaw_1569 : decode code 1569 = .ok (.aload_n 0, 1) := by decide +kernel
theorem dLaw_1570 : decode code 1570 = .ok (.iload 4, 2) := by decide +kernel
theorem dLaw_1572 : decode code 1572 = .ok (.iconst 2, 1) := by decide +kernel
theorem dLaw_1573 : decode code 1573 = .ok (.iadd, 1) := by decide +kernel
theorem dLaw_1574 : decode code 1574 = .ok (.iaload, 1) := by decide +kernel
theorem dLaw_1575 : decode code 1575 = .ok (.invokevirtual 175, 3) := by decide +kernel
theorem dLaw_1578 : decode code 1578 = .ok (.lstore 6, 2) := by decide +kernel
theorem dLaw_1580 : decode code 1580 = .ok (.aload_n 2, 1) := by decide +kernel
theorem dLaw_1581 : decode code 1581 = .ok (.invokevirtual 100, 3) := by decide +kernel
theorem dLaw_1584 : decode code 1584 = .ok (.iload 5, 2) := by decide +kernel
theorem dLaw_1586 : decode code 1586 = .ok (.if_icmp .eq 5, 3) := by decide +kernel
theorem dLaw_1589 : decode code 1589 = .ok (.iconst 0, 1) := by decide +kernel
theorem dLaw_1590 : decode code 1590 = .ok (.ireturn, 1) := by decide +kernel
theorem dLaw_1591 : decode code 1591 = .ok (.iload 5, 2) := by decide +kernel
theorem dLaw_1593 : decode code 1593 = .ok (.ifCond .ne 14, 3) := by decide +kernel
theorem dLaw_1596 : decode code 1596 = .ok (.aload_n 3, 1) := by decide +kernel
theorem dLaw_1597 : decode code 1597 = .ok (.iconst 0, 1) := by decide +kernel
theorem dLaw_1598 : decode code 1598 = .ok (.laload, 1) := by decide +kernel
theorem dLaw_1599 : decode code 1599 = .ok (.lload 6, 2) := by decide +kernel
theorem dLaw_1601 : decode code 1601 = .ok (.lcmp, 1) := by decide +kernel
theorem dLaw_1602 : decode code 1602 = .ok (.ifCond .eq 5, 3) := by decide +kernel
theorem dLaw_1605 : decode code 1605 = .ok (.iconst 0, 1) := by decide +kernel
theorem dLaw_1606 : decode code 1606 = .ok (.ireturn, 1) := by decide +kernel
theorem dLaw_1607 : decode code 1607 = .ok (.goto 28, 3) := by decide +kernel
theorem dLaw_1610 : decode code 1610 = .ok (.aload_n 1, 1) := by decide +kernel
theorem dLaw_1611 : decode code 1611 = .ok (.aload_n 0, 1) := by decide +kernel
theorem dLaw_1612 : decode code 1612 = .ok (.iload 4, 2) := by decide +kernel
theorem dLaw_1614 : decode code 1614 = .ok (.iconst 1, 1) := by decide +kernel
theorem dLaw_1615 : decode code 1615 = .ok (.iadd, 1) := by decide +kernel
theorem dLaw_1616 : decode code 1616 = .ok (.iaload, 1) := by decide +kernel
theorem dLaw_1617 : decode code 1617 = .ok (.invokevirtual 176, 3) := by decide +kernel
theorem dLaw_1620 : decode code 1620 = .ok (.aload_n 2, 1) := by decide +kernel
theorem dLaw_1621 : decode code 1621 = .ok (.aload_n 0, 1) := by decide +kernel
theorem dLaw_1622 : decode code 1622 = .ok (.iload 4, 2) := by decide +kernel
theorem dLaw_1624 : decode code 1624 = .ok (.iconst 1, 1) := by decide +kernel
theorem dLaw_1625 : decode code 1625 = .ok (.iadd, 1) := by decide +kernel
theorem dLaw_1626 : decode code 1626 = .ok (.iaload, 1) := by decide +kernel
theorem dLaw_1627 : decode code 1627 = .ok (.invokevirtual 179, 3) := by decide +kernel
theorem dLaw_1630 : decode code 1630 = .ok (.if_icmp .eq 5, 3) := by decide +kernel
theorem dLaw_1633 : decode code 1633 = .ok (.iconst 0, 1) := by decide +kernel
theorem dLaw_1634 : decode code 1634 = .ok (.ireturn, 1) := by decide +kernel
theorem dLaw_1635 : decode code 1635 = .ok (.iinc 4 6, 3) := by decide +kernel
theorem dLaw_1638 : decode code 1638 = .ok (.goto (-1615), 3) := by decide +kernel
theorem dLaw_1641 : decode code 1641 = .ok (.iconst 1, 1) := by decide +kernel
theorem dLaw_1642 : decode code 1642 = .ok (.ireturn, 1) := by decide +kernel
theorem wl_71 : (Cond.initialized RL) ∈ tk_G := tk_inG 71 (by decide +kernel) (by decide +kernel)
theorem wl_72 : (Cond.initialized RX11) ∈ tk_G := tk_inG 72 (by decide +kernel) (by decide +kernel)
theorem wl_79 : (Cond.initialized RX12) ∈ tk_G := tk_inG 79 (by decide +kernel) (by decide +kernel)
theorem wl_104 : (Cond.classLink RL 8 RX11) ∈ tk_G := tk_inG 104 (by decide +kernel) (by decide +kernel)
theorem wl_105 : (Cond.instantiable RX11 12) ∈ tk_G := tk_inG 105 (by decide +kernel) (by decide +kernel)
theorem wl_106 : (Cond.methodLink RL 85 yX11_init) ∈ tk_G := tk_inG 106 (by decide +kernel) (by decide +kernel)
theorem wl_107 : (Cond.instanceMethod yX11_init) ∈ tk_G := tk_inG 107 (by decide +kernel) (by decide +kernel)
theorem wl_108 : (tk_code mX11_init) ∈ tk_G := tk_inG 108 (by decide +kernel) (by decide +kernel)
theorem wl_217 : (Cond.arrayClass .long) ∈ tk_G := tk_inG 217 (by decide +kernel) (by decide +kernel)
theorem wl_281 : (Cond.methodLink RL 89 yX11_feed) ∈ tk_G := tk_inG 281 (by decide +kernel) (by decide +kernel)
theorem wl_282 : (Cond.instanceMethod yX11_feed) ∈ tk_G := tk_inG 282 (by decide +kernel) (by decide +kernel)
theorem wl_283 : (Cond.selects RX11 yX11_feed yX11_feed) ∈ tk_G := tk_inG 283 (by decide +kernel) (by decide +kernel)
theorem wl_284 : (tk_code mX11_feed) ∈ tk_G := tk_inG 284 (by decide +kernel) (by decide +kernel)
theorem wl_289 : (Cond.methodLink RL 104 yX11_fault) ∈ tk_G := tk_inG 289 (by decide +kernel) (by decide +kernel)
theorem wl_290 : (Cond.instanceMethod yX11_fault) ∈ tk_G := tk_inG 290 (by decide +kernel) (by decide +kernel)
theorem wl_291 : (Cond.selects RX11 yX11_fault yX11_fault) ∈ tk_G := tk_inG 291 (by decide +kernel) (by decide +kernel)
theorem wl_292 : (tk_code mX11_fault) ∈ tk_G := tk_inG 292 (by decide +kernel) (by decide +kernel)
theorem wl_293 : (Cond.methodLink RL 122 yX11_clause) ∈ tk_G := tk_inG 293 (by decide +kernel) (by decide +kernel)
theorem wl_294 : (Cond.instanceMethod yX11_clause) ∈ tk_G := tk_inG 294 (by decide +kernel) (by decide +kernel)
theorem wl_295 : (Cond.selects RX11 yX11_clause yX11_clause) ∈ tk_G := tk_inG 295 (by decide +kernel) (by decide +kernel)
theorem wl_296 : (tk_code mX11_clause) ∈ tk_G := tk_inG 296 (by decide +kernel) (by decide +kernel)
theorem wl_297 : (Cond.methodLink RL 176 yX11_count) ∈ tk_G := tk_inG 297 (by decide +kernel) (by decide +kernel)
theorem wl_298 : (Cond.instanceMethod yX11_count) ∈ tk_G := tk_inG 298 (by decide +kernel) (by decide +kernel)
theorem wl_299 : (Cond.selects RX11 yX11_count yX11_count) ∈ tk_G := tk_inG 299 (by decide +kernel) (by decide +kernel)
theorem wl_300 : (tk_code mX11_count) ∈ tk_G := tk_inG 300 (by decide +kernel) (by decide +kernel)
theorem wl_309 : (Cond.methodLink RL 94 yL_act) ∈ tk_G := tk_inG 309 (by decide +kernel) (by decide +kernel)
theorem wl_310 : (Cond.static yL_act) ∈ tk_G := tk_inG 310 (by decide +kernel) (by decide +kernel)
theorem wl_311 : (tk_codeW mL_act hL_act) ∈ tk_G := tk_inG 311 (by decide +kernel) (by decide +kernel)
theorem wl_727 : (Cond.methodLink RL 108 yL_stretch) ∈ tk_G := tk_inG 727 (by decide +kernel) (by decide +kernel)
theorem wl_728 : (Cond.static yL_stretch) ∈ tk_G := tk_inG 728 (by decide +kernel) (by decide +kernel)
theorem wl_729 : (tk_codeW mL_stretch hL_stretch) ∈ tk_G := tk_inG 729 (by decide +kernel) (by decide +kernel)
theorem wl_755 : (Cond.methodLink RL 112 yL_gate) ∈ tk_G := tk_inG 755 (by decide +kernel) (by decide +kernel)
theorem wl_756 : (Cond.static yL_gate) ∈ tk_G := tk_inG 756 (by decide +kernel) (by decide +kernel)
theorem wl_757 : (tk_codeW mL_gate hL_gate) ∈ tk_G := tk_inG 757 (by decide +kernel) (by decide +kernel)
theorem wl_837 : (Cond.methodLink RL 115 yL_traveller) ∈ tk_G := tk_inG 837 (by decide +kernel) (by decide +kernel)
theorem wl_838 : (Cond.static yL_traveller) ∈ tk_G := tk_inG 838 (by decide +kernel) (by decide +kernel)
theorem wl_839 : (tk_codeW mL_traveller hL_traveller) ∈ tk_G := tk_inG 839 (by decide +kernel) (by decide +kernel)
theorem wl_882 : (Cond.methodLink RL 119 yL_pass) ∈ tk_G := tk_inG 882 (by decide +kernel) (by decide +kernel)
theorem wl_883 : (Cond.static yL_pass) ∈ tk_G := tk_inG 883 (by decide +kernel) (by decide +kernel)
theorem wl_884 : (tk_codeW mL_pass hL_pass) ∈ tk_G := tk_inG 884 (by decide +kernel) (by decide +kernel)
theorem wl_977 : (Cond.methodLink RL 126 yL_asked) ∈ tk_G := tk_inG 977 (by decide +kernel) (by decide +kernel)
theorem wl_978 : (Cond.static yL_asked) ∈ tk_G := tk_inG 978 (by decide +kernel) (by decide +kernel)
theorem wl_979 : (tk_codeW mL_asked hL_asked) ∈ tk_G := tk_inG 979 (by decide +kernel) (by decide +kernel)
theorem wl_985 : (Cond.methodLink RL 130 yL_force) ∈ tk_G := tk_inG 985 (by decide +kernel) (by decide +kernel)
theorem wl_986 : (Cond.static yL_force) ∈ tk_G := tk_inG 986 (by decide +kernel) (by decide +kernel)
theorem wl_987 : (tk_codeW mL_force hL_force) ∈ tk_G := tk_inG 987 (by decide +kernel) (by decide +kernel)
theorem wl_993 : (Cond.methodLink RL 133 yL_wait) ∈ tk_G := tk_inG 993 (by decide +kernel) (by decide +kernel)
theorem wl_994 : (Cond.static yL_wait) ∈ tk_G := tk_inG 994 (by decide +kernel) (by decide +kernel)
theorem wl_995 : (tk_codeW mL_wait hL_wait) ∈ tk_G := tk_inG 995 (by decide +kernel) (by decide +kernel)
theorem wl_1047 : (Cond.methodLink RL 136 yL_rain) ∈ tk_G := tk_inG 1047 (by decide +kernel) (by decide +kernel)
theorem wl_1048 : (Cond.static yL_rain) ∈ tk_G := tk_inG 1048 (by decide +kernel) (by decide +kernel)
theorem wl_1049 : (tk_codeW mL_rain hL_rain) ∈ tk_G := tk_inG 1049 (by decide +kernel) (by decide +kernel)
theorem wl_1055 : (Cond.methodLink RL 140 yL_mend) ∈ tk_G := tk_inG 1055 (by decide +kernel) (by decide +kernel)
theorem wl_1056 : (Cond.static yL_mend) ∈ tk_G := tk_inG 1056 (by decide +kernel) (by decide +kernel)
theorem wl_1057 : (tk_codeW mL_mend hL_mend) ∈ tk_G := tk_inG 1057 (by decide +kernel) (by decide +kernel)
theorem wl_1078 : (Cond.methodLink RL 143 yL_farmer) ∈ tk_G := tk_inG 1078 (by decide +kernel) (by decide +kernel)
theorem wl_1079 : (Cond.static yL_farmer) ∈ tk_G := tk_inG 1079 (by decide +kernel) (by decide +kernel)
theorem wl_1080 : (tk_codeW mL_farmer hL_farmer) ∈ tk_G := tk_inG 1080 (by decide +kernel) (by decide +kernel)
theorem wl_1105 : (Cond.methodLink RL 146 yL_bid) ∈ tk_G := tk_inG 1105 (by decide +kernel) (by decide +kernel)
theorem wl_1106 : (Cond.static yL_bid) ∈ tk_G := tk_inG 1106 (by decide +kernel) (by decide +kernel)
theorem wl_1107 : (tk_codeW mL_bid hL_bid) ∈ tk_G := tk_inG 1107 (by decide +kernel) (by decide +kernel)
theorem wl_1136 : (Cond.methodLink RL 149 yL_let) ∈ tk_G := tk_inG 1136 (by decide +kernel) (by decide +kernel)
theorem wl_1137 : (Cond.static yL_let) ∈ tk_G := tk_inG 1137 (by decide +kernel) (by decide +kernel)
theorem wl_1138 : (tk_codeW mL_let hL_let) ∈ tk_G := tk_inG 1138 (by decide +kernel) (by decide +kernel)
theorem wl_1164 : (Cond.methodLink RL 152 yL_gateTold) ∈ tk_G := tk_inG 1164 (by decide +kernel) (by decide +kernel)
theorem wl_1165 : (Cond.static yL_gateTold) ∈ tk_G := tk_inG 1165 (by decide +kernel) (by decide +kernel)
theorem wl_1166 : (tk_codeW mL_gateTold hL_gateTold) ∈ tk_G := tk_inG 1166 (by decide +kernel) (by decide +kernel)
theorem wl_1172 : (Cond.methodLink RL 155 yL_borrow) ∈ tk_G := tk_inG 1172 (by decide +kernel) (by decide +kernel)
theorem wl_1173 : (Cond.static yL_borrow) ∈ tk_G := tk_inG 1173 (by decide +kernel) (by decide +kernel)
theorem wl_1174 : (tk_codeW mL_borrow hL_borrow) ∈ tk_G := tk_inG 1174 (by decide +kernel) (by decide +kernel)
theorem wl_1211 : (Cond.methodLink RL 158 yL_repay) ∈ tk_G := tk_inG 1211 (by decide +kernel) (by decide +kernel)
theorem wl_1212 : (Cond.static yL_repay) ∈ tk_G := tk_inG 1212 (by decide +kernel) (by decide +kernel)
theorem wl_1213 : (tk_codeW mL_repay hL_repay) ∈ tk_G := tk_inG 1213 (by decide +kernel) (by decide +kernel)
theorem wl_1219 : (Cond.methodLink RL 161 yL_loan) ∈ tk_G := tk_inG 1219 (by decide +kernel) (by decide +kernel)
theorem wl_1220 : (Cond.static yL_loan) ∈ tk_G := tk_inG 1220 (by decide +kernel) (by decide +kernel)
theorem wl_1221 : (tk_codeW mL_loan hL_loan) ∈ tk_G := tk_inG 1221 (by decide +kernel) (by decide +kernel)
theorem wl_1226 : (Cond.methodLink RL 164 yL_money) ∈ tk_G := tk_inG 1226 (by decide +kernel) (by decide +kernel)
theorem wl_1227 : (Cond.static yL_money) ∈ tk_G := tk_inG 1227 (by decide +kernel) (by decide +kernel)
theorem wl_1228 : (tk_codeW mL_money hL_money) ∈ tk_G := tk_inG 1228 (by decide +kernel) (by decide +kernel)
theorem wl_1233 : (Cond.methodLink RL 167 yL_wear) ∈ tk_G := tk_inG 1233 (by decide +kernel) (by decide +kernel)
theorem wl_1234 : (Cond.static yL_wear) ∈ tk_G := tk_inG 1234 (by decide +kernel) (by decide +kernel)
theorem wl_1235 : (tk_codeW mL_wear hL_wear) ∈ tk_G := tk_inG 1235 (by decide +kernel) (by decide +kernel)
theorem wl_1240 : (Cond.methodLink RL 170 yL_box) ∈ tk_G := tk_inG 1240 (by decide +kernel) (by decide +kernel)
theorem wl_1241 : (Cond.static yL_box) ∈ tk_G := tk_inG 1241 (by decide +kernel) (by decide +kernel)
theorem wl_1242 : (tk_codeW mL_box hL_box) ∈ tk_G := tk_inG 1242 (by decide +kernel) (by decide +kernel)
theorem wl_1251 : (Cond.methodLink RL 173 yL_journal) ∈ tk_G := tk_inG 1251 (by decide +kernel) (by decide +kernel)
theorem wl_1252 : (Cond.static yL_journal) ∈ tk_G := tk_inG 1252 (by decide +kernel) (by decide +kernel)
theorem wl_1253 : (tk_codeW mL_journal hL_journal) ∈ tk_G := tk_inG 1253 (by decide +kernel) (by decide +kernel)
theorem wl_1264 : (Cond.classLink RL 86 RX12) ∈ tk_G := tk_inG 1264 (by decide +kernel) (by decide +kernel)
theorem wl_1265 : (Cond.instantiable RX12 62) ∈ tk_G := tk_inG 1265 (by decide +kernel) (by decide +kernel)
theorem wl_1266 : (Cond.methodLink RL 88 yX12_init) ∈ tk_G := tk_inG 1266 (by decide +kernel) (by decide +kernel)
theorem wl_1267 : (Cond.instanceMethod yX12_init) ∈ tk_G := tk_inG 1267 (by decide +kernel) (by decide +kernel)
theorem wl_1268 : (tk_code mX12_init) ∈ tk_G := tk_inG 1268 (by decide +kernel) (by decide +kernel)
theorem wl_1458 : (Cond.methodLink RL 100 yX12_thrown) ∈ tk_G := tk_inG 1458 (by decide +kernel) (by decide +kernel)
theorem wl_1459 : (Cond.instanceMethod yX12_thrown) ∈ tk_G := tk_inG 1459 (by decide +kernel) (by decide +kernel)
theorem wl_1460 : (Cond.selects RX12 yX12_thrown yX12_thrown) ∈ tk_G := tk_inG 1460 (by decide +kernel) (by decide +kernel)
theorem wl_1461 : (tk_code mX12_thrown) ∈ tk_G := tk_inG 1461 (by decide +kernel) (by decide +kernel)
theorem wl_1462 : (Cond.methodLink RL 93 yX12_feed) ∈ tk_G := tk_inG 1462 (by decide +kernel) (by decide +kernel)
theorem wl_1463 : (Cond.instanceMethod yX12_feed) ∈ tk_G := tk_inG 1463 (by decide +kernel) (by decide +kernel)
theorem wl_1464 : (Cond.selects RX12 yX12_feed yX12_feed) ∈ tk_G := tk_inG 1464 (by decide +kernel) (by decide +kernel)
theorem wl_1465 : (tk_code mX12_feed) ∈ tk_G := tk_inG 1465 (by decide +kernel) (by decide +kernel)
theorem wl_1466 : (Cond.methodLink RL 99 yX12_act) ∈ tk_G := tk_inG 1466 (by decide +kernel) (by decide +kernel)
theorem wl_1467 : (Cond.instanceMethod yX12_act) ∈ tk_G := tk_inG 1467 (by decide +kernel) (by decide +kernel)
theorem wl_1468 : (Cond.selects RX12 yX12_act yX12_act) ∈ tk_G := tk_inG 1468 (by decide +kernel) (by decide +kernel)
theorem wl_1469 : (tk_code mX12_act) ∈ tk_G := tk_inG 1469 (by decide +kernel) (by decide +kernel)
theorem wl_1584 : (Cond.methodLink RL 107 yX12_fault) ∈ tk_G := tk_inG 1584 (by decide +kernel) (by decide +kernel)
theorem wl_1585 : (Cond.instanceMethod yX12_fault) ∈ tk_G := tk_inG 1585 (by decide +kernel) (by decide +kernel)
theorem wl_1586 : (Cond.selects RX12 yX12_fault yX12_fault) ∈ tk_G := tk_inG 1586 (by decide +kernel) (by decide +kernel)
theorem wl_1587 : (tk_code mX12_fault) ∈ tk_G := tk_inG 1587 (by decide +kernel) (by decide +kernel)
theorem wl_1588 : (Cond.methodLink RL 132 yX12_force) ∈ tk_G := tk_inG 1588 (by decide +kernel) (by decide +kernel)
theorem wl_1589 : (Cond.instanceMethod yX12_force) ∈ tk_G := tk_inG 1589 (by decide +kernel) (by decide +kernel)
theorem wl_1590 : (Cond.selects RX12 yX12_force yX12_force) ∈ tk_G := tk_inG 1590 (by decide +kernel) (by decide +kernel)
theorem wl_1591 : (tk_code mX12_force) ∈ tk_G := tk_inG 1591 (by decide +kernel) (by decide +kernel)
theorem wl_1596 : (Cond.methodLink RL 111 yX12_stretch) ∈ tk_G := tk_inG 1596 (by decide +kernel) (by decide +kernel)
theorem wl_1597 : (Cond.instanceMethod yX12_stretch) ∈ tk_G := tk_inG 1597 (by decide +kernel) (by decide +kernel)
theorem wl_1598 : (Cond.selects RX12 yX12_stretch yX12_stretch) ∈ tk_G := tk_inG 1598 (by decide +kernel) (by decide +kernel)
theorem wl_1599 : (tk_code mX12_stretch) ∈ tk_G := tk_inG 1599 (by decide +kernel) (by decide +kernel)
theorem wl_1600 : (Cond.methodLink RL 114 yX12_gate) ∈ tk_G := tk_inG 1600 (by decide +kernel) (by decide +kernel)
theorem wl_1601 : (Cond.instanceMethod yX12_gate) ∈ tk_G := tk_inG 1601 (by decide +kernel) (by decide +kernel)
theorem wl_1602 : (Cond.selects RX12 yX12_gate yX12_gate) ∈ tk_G := tk_inG 1602 (by decide +kernel) (by decide +kernel)
theorem wl_1603 : (tk_code mX12_gate) ∈ tk_G := tk_inG 1603 (by decide +kernel) (by decide +kernel)
theorem wl_1604 : (Cond.methodLink RL 118 yX12_traveller) ∈ tk_G := tk_inG 1604 (by decide +kernel) (by decide +kernel)
theorem wl_1605 : (Cond.instanceMethod yX12_traveller) ∈ tk_G := tk_inG 1605 (by decide +kernel) (by decide +kernel)
theorem wl_1606 : (Cond.selects RX12 yX12_traveller yX12_traveller) ∈ tk_G := tk_inG 1606 (by decide +kernel) (by decide +kernel)
theorem wl_1607 : (tk_code mX12_traveller) ∈ tk_G := tk_inG 1607 (by decide +kernel) (by decide +kernel)
theorem wl_1608 : (Cond.methodLink RL 121 yX12_pass) ∈ tk_G := tk_inG 1608 (by decide +kernel) (by decide +kernel)
theorem wl_1609 : (Cond.instanceMethod yX12_pass) ∈ tk_G := tk_inG 1609 (by decide +kernel) (by decide +kernel)
theorem wl_1610 : (Cond.selects RX12 yX12_pass yX12_pass) ∈ tk_G := tk_inG 1610 (by decide +kernel) (by decide +kernel)
theorem wl_1611 : (tk_code mX12_pass) ∈ tk_G := tk_inG 1611 (by decide +kernel) (by decide +kernel)
theorem wl_1646 : (Cond.methodLink RL 125 yX12_clause_) ∈ tk_G := tk_inG 1646 (by decide +kernel) (by decide +kernel)
theorem wl_1647 : (Cond.instanceMethod yX12_clause_) ∈ tk_G := tk_inG 1647 (by decide +kernel) (by decide +kernel)
theorem wl_1648 : (Cond.selects RX12 yX12_clause_ yX12_clause_) ∈ tk_G := tk_inG 1648 (by decide +kernel) (by decide +kernel)
theorem wl_1649 : (tk_code mX12_clause_) ∈ tk_G := tk_inG 1649 (by decide +kernel) (by decide +kernel)
theorem wl_1650 : (Cond.methodLink RL 129 yX12_asked) ∈ tk_G := tk_inG 1650 (by decide +kernel) (by decide +kernel)
theorem wl_1651 : (Cond.instanceMethod yX12_asked) ∈ tk_G := tk_inG 1651 (by decide +kernel) (by decide +kernel)
theorem wl_1652 : (Cond.selects RX12 yX12_asked yX12_asked) ∈ tk_G := tk_inG 1652 (by decide +kernel) (by decide +kernel)
theorem wl_1653 : (tk_code mX12_asked) ∈ tk_G := tk_inG 1653 (by decide +kernel) (by decide +kernel)
theorem wl_1654 : (Cond.methodLink RL 145 yX12_farmer) ∈ tk_G := tk_inG 1654 (by decide +kernel) (by decide +kernel)
theorem wl_1655 : (Cond.instanceMethod yX12_farmer) ∈ tk_G := tk_inG 1655 (by decide +kernel) (by decide +kernel)
theorem wl_1656 : (Cond.selects RX12 yX12_farmer yX12_farmer) ∈ tk_G := tk_inG 1656 (by decide +kernel) (by decide +kernel)
theorem wl_1657 : (tk_code mX12_farmer) ∈ tk_G := tk_inG 1657 (by decide +kernel) (by decide +kernel)
theorem wl_1659 : (Cond.methodLink RL 148 yX12_bid) ∈ tk_G := tk_inG 1659 (by decide +kernel) (by decide +kernel)
theorem wl_1660 : (Cond.instanceMethod yX12_bid) ∈ tk_G := tk_inG 1660 (by decide +kernel) (by decide +kernel)
theorem wl_1661 : (Cond.selects RX12 yX12_bid yX12_bid) ∈ tk_G := tk_inG 1661 (by decide +kernel) (by decide +kernel)
theorem wl_1662 : (tk_code mX12_bid) ∈ tk_G := tk_inG 1662 (by decide +kernel) (by decide +kernel)
theorem wl_1667 : (Cond.methodLink RL 151 yX12_let) ∈ tk_G := tk_inG 1667 (by decide +kernel) (by decide +kernel)
theorem wl_1668 : (Cond.instanceMethod yX12_let) ∈ tk_G := tk_inG 1668 (by decide +kernel) (by decide +kernel)
theorem wl_1669 : (Cond.selects RX12 yX12_let yX12_let) ∈ tk_G := tk_inG 1669 (by decide +kernel) (by decide +kernel)
theorem wl_1670 : (tk_code mX12_let) ∈ tk_G := tk_inG 1670 (by decide +kernel) (by decide +kernel)
theorem wl_1675 : (Cond.methodLink RL 154 yX12_gateTold) ∈ tk_G := tk_inG 1675 (by decide +kernel) (by decide +kernel)
theorem wl_1676 : (Cond.instanceMethod yX12_gateTold) ∈ tk_G := tk_inG 1676 (by decide +kernel) (by decide +kernel)
theorem wl_1677 : (Cond.selects RX12 yX12_gateTold yX12_gateTold) ∈ tk_G := tk_inG 1677 (by decide +kernel) (by decide +kernel)
theorem wl_1678 : (tk_code mX12_gateTold) ∈ tk_G := tk_inG 1678 (by decide +kernel) (by decide +kernel)
theorem wl_1679 : (Cond.methodLink RL 157 yX12_borrow) ∈ tk_G := tk_inG 1679 (by decide +kernel) (by decide +kernel)
theorem wl_1680 : (Cond.instanceMethod yX12_borrow) ∈ tk_G := tk_inG 1680 (by decide +kernel) (by decide +kernel)
theorem wl_1681 : (Cond.selects RX12 yX12_borrow yX12_borrow) ∈ tk_G := tk_inG 1681 (by decide +kernel) (by decide +kernel)
theorem wl_1682 : (tk_code mX12_borrow) ∈ tk_G := tk_inG 1682 (by decide +kernel) (by decide +kernel)
theorem wl_1683 : (Cond.methodLink RL 160 yX12_repay) ∈ tk_G := tk_inG 1683 (by decide +kernel) (by decide +kernel)
theorem wl_1684 : (Cond.instanceMethod yX12_repay) ∈ tk_G := tk_inG 1684 (by decide +kernel) (by decide +kernel)
theorem wl_1685 : (Cond.selects RX12 yX12_repay yX12_repay) ∈ tk_G := tk_inG 1685 (by decide +kernel) (by decide +kernel)
theorem wl_1686 : (tk_code mX12_repay) ∈ tk_G := tk_inG 1686 (by decide +kernel) (by decide +kernel)
theorem wl_1687 : (Cond.methodLink RL 163 yX12_loan) ∈ tk_G := tk_inG 1687 (by decide +kernel) (by decide +kernel)
theorem wl_1688 : (Cond.instanceMethod yX12_loan) ∈ tk_G := tk_inG 1688 (by decide +kernel) (by decide +kernel)
theorem wl_1689 : (Cond.selects RX12 yX12_loan yX12_loan) ∈ tk_G := tk_inG 1689 (by decide +kernel) (by decide +kernel)
theorem wl_1690 : (tk_code mX12_loan) ∈ tk_G := tk_inG 1690 (by decide +kernel) (by decide +kernel)
theorem wl_1691 : (Cond.methodLink RL 135 yX12_wait) ∈ tk_G := tk_inG 1691 (by decide +kernel) (by decide +kernel)
theorem wl_1692 : (Cond.instanceMethod yX12_wait) ∈ tk_G := tk_inG 1692 (by decide +kernel) (by decide +kernel)
theorem wl_1693 : (Cond.selects RX12 yX12_wait yX12_wait) ∈ tk_G := tk_inG 1693 (by decide +kernel) (by decide +kernel)
theorem wl_1694 : (tk_code mX12_wait) ∈ tk_G := tk_inG 1694 (by decide +kernel) (by decide +kernel)
theorem wl_1704 : (Cond.methodLink RL 139 yX12_rain) ∈ tk_G := tk_inG 1704 (by decide +kernel) (by decide +kernel)
theorem wl_1705 : (Cond.instanceMethod yX12_rain) ∈ tk_G := tk_inG 1705 (by decide +kernel) (by decide +kernel)
theorem wl_1706 : (Cond.selects RX12 yX12_rain yX12_rain) ∈ tk_G := tk_inG 1706 (by decide +kernel) (by decide +kernel)
theorem wl_1707 : (tk_code mX12_rain) ∈ tk_G := tk_inG 1707 (by decide +kernel) (by decide +kernel)
theorem wl_1708 : (Cond.methodLink RL 142 yX12_mend) ∈ tk_G := tk_inG 1708 (by decide +kernel) (by decide +kernel)
theorem wl_1709 : (Cond.instanceMethod yX12_mend) ∈ tk_G := tk_inG 1709 (by decide +kernel) (by decide +kernel)
theorem wl_1710 : (Cond.selects RX12 yX12_mend yX12_mend) ∈ tk_G := tk_inG 1710 (by decide +kernel) (by decide +kernel)
theorem wl_1711 : (tk_code mX12_mend) ∈ tk_G := tk_inG 1711 (by decide +kernel) (by decide +kernel)
theorem wl_1717 : (Cond.methodLink RL 166 yX12_money) ∈ tk_G := tk_inG 1717 (by decide +kernel) (by decide +kernel)
theorem wl_1718 : (Cond.instanceMethod yX12_money) ∈ tk_G := tk_inG 1718 (by decide +kernel) (by decide +kernel)
theorem wl_1719 : (Cond.selects RX12 yX12_money yX12_money) ∈ tk_G := tk_inG 1719 (by decide +kernel) (by decide +kernel)
theorem wl_1720 : (tk_code mX12_money) ∈ tk_G := tk_inG 1720 (by decide +kernel) (by decide +kernel)
theorem wl_1725 : (Cond.methodLink RL 169 yX12_wear) ∈ tk_G := tk_inG 1725 (by decide +kernel) (by decide +kernel)
theorem wl_1726 : (Cond.instanceMethod yX12_wear) ∈ tk_G := tk_inG 1726 (by decide +kernel) (by decide +kernel)
theorem wl_1727 : (Cond.selects RX12 yX12_wear yX12_wear) ∈ tk_G := tk_inG 1727 (by decide +kernel) (by decide +kernel)
theorem wl_1728 : (tk_code mX12_wear) ∈ tk_G := tk_inG 1728 (by decide +kernel) (by decide +kernel)
theorem wl_1729 : (Cond.methodLink RL 172 yX12_box) ∈ tk_G := tk_inG 1729 (by decide +kernel) (by decide +kernel)
theorem wl_1730 : (Cond.instanceMethod yX12_box) ∈ tk_G := tk_inG 1730 (by decide +kernel) (by decide +kernel)
theorem wl_1731 : (Cond.selects RX12 yX12_box yX12_box) ∈ tk_G := tk_inG 1731 (by decide +kernel) (by decide +kernel)
theorem wl_1732 : (tk_code mX12_box) ∈ tk_G := tk_inG 1732 (by decide +kernel) (by decide +kernel)
theorem wl_1733 : (Cond.methodLink RL 175 yX12_journal) ∈ tk_G := tk_inG 1733 (by decide +kernel) (by decide +kernel)
theorem wl_1734 : (Cond.instanceMethod yX12_journal) ∈ tk_G := tk_inG 1734 (by decide +kernel) (by decide +kernel)
theorem wl_1735 : (Cond.selects RX12 yX12_journal yX12_journal) ∈ tk_G := tk_inG 1735 (by decide +kernel) (by decide +kernel)
theorem wl_1736 : (tk_code mX12_journal) ∈ tk_G := tk_inG 1736 (by decide +kernel) (by decide +kernel)
theorem wl_1737 : (Cond.methodLink RL 179 yX12_count) ∈ tk_G := tk_inG 1737 (by decide +kernel) (by decide +kernel)
theorem wl_1738 : (Cond.instanceMethod yX12_count) ∈ tk_G := tk_inG 1738 (by decide +kernel) (by decide +kernel)
theorem wl_1739 : (Cond.selects RX12 yX12_count yX12_count) ∈ tk_G := tk_inG 1739 (by decide +kernel) (by decide +kernel)
theorem wl_1740 : (tk_code mX12_count) ∈ tk_G := tk_inG 1740 (by decide +kernel) (by decide +kernel)
def t_Law_0 (Z : tk_Z) (d mc ms b L : Nat) (xs : Nat → Int32) (E : tk_E) : tk_K := (i_new mc ms 12 12 (i_dup (i_callI Z mX11_init 0 d mc ms (i_astore 1 (i_new mc ms 13 62 (i_dup (i_callI Z mX12_init 0 d mc ms (i_astore 2 (i_push (.int (1)) (i_newa mc ms 16 (i_astore 3 (i_push (.int (0)) (i_istore 4 (E 23))))))))))))))
def t_Law_23 (Z : tk_Z) (d mc ms b L : Nat) (xs : Nat → Int32) (E : tk_E) : tk_K := (i_iload 4 (i_aload 0 (i_xlen b L (i_push (.int (6)) (i_isub (i_icmp_gt (i_push (.int (1)) i_lwret) (i_aload 0 (i_iload 4 (i_xld b L xs (i_push (.int (31)) (i_iand (i_tsw [(0, (E 156)), (1, (E 229)), (2, (E 297)), (3, (E 310)), (4, (E 366)), (5, (E 422)), (6, (E 514)), (7, (E 582)), (8, (E 595)), (9, (E 675)), (10, (E 731)), (11, (E 787)), (12, (E 823)), (13, (E 879)), (14, (E 935)), (15, (E 1027)), (16, (E 1095)), (17, (E 1163)), (18, (E 1243)), (19, (E 1311)), (20, (E 1378)), (21, (E 1433)), (22, (E 1488)), (23, (E 1543)), (24, (E 1610))] (E 1635)))))))))))))
def t_Law_156 (Z : tk_Z) (d mc ms b L : Nat) (xs : Nat → Int32) (E : tk_E) : tk_K := (i_aload 1 (i_aload 0 (i_iload 4 (i_push (.int (1)) (i_iadd (i_xld b L xs (i_aload 0 (i_iload 4 (i_push (.int (2)) (i_iadd (i_xld b L xs (i_aload 0 (i_iload 4 (i_push (.int (3)) (i_iadd (i_xld b L xs (i_aload 0 (i_iload 4 (i_push (.int (4)) (i_iadd (i_xld b L xs (i_aload 0 (i_iload 4 (i_push (.int (5)) (i_iadd (i_xld b L xs (i_callV Z mX11_feed 12 5 d mc ms (i_aload 2 (i_aload 0 (i_iload 4 (i_push (.int (1)) (i_iadd (i_xld b L xs (i_aload 0 (i_iload 4 (i_push (.int (2)) (i_iadd (i_xld b L xs (i_aload 0 (i_iload 4 (i_push (.int (3)) (i_iadd (i_xld b L xs (i_aload 0 (i_iload 4 (i_push (.int (4)) (i_iadd (i_xld b L xs (i_aload 0 (i_iload 4 (i_push (.int (5)) (i_iadd (i_xld b L xs (i_callV Z mX12_feed 13 5 d mc ms (i_icmp_eq (E 1635) (i_push (.int (0)) i_lwret))))))))))))))))))))))))))))))))))))))))))))))))))))))))
def t_Law_229 (Z : tk_Z) (d mc ms b L : Nat) (xs : Nat → Int32) (E : tk_E) : tk_K := (i_aload 1 (i_aload 0 (i_iload 4 (i_push (.int (1)) (i_iadd (i_xld b L xs (i_aload 0 (i_iload 4 (i_push (.int (2)) (i_iadd (i_xld b L xs (i_aload 3 (i_callW Z mL_act hL_act 4 d mc ms (i_istore 5 (i_aload 2 (i_aload 0 (i_iload 4 (i_push (.int (1)) (i_iadd (i_xld b L xs (i_aload 0 (i_iload 4 (i_push (.int (2)) (i_iadd (i_xld b L xs (i_callV Z mX12_act 13 2 d mc ms (i_istore 6 (i_aload 2 (i_callV Z mX12_thrown 13 0 d mc ms (i_iload 5 (i_icmp_eq (i_iload 5 (i_if_eq (i_aload 3 (i_push (.int (0)) (i_lald (i_iload 6 (i_i2l (i_lcmp (i_if_eq (i_goto (E 1635)) (i_push (.int (0)) i_lwret)))))))) (i_goto (E 1635)))) (i_push (.int (0)) i_lwret))))))))))))))))))))))))))))))))
def t_Law_297 (Z : tk_Z) (d mc ms b L : Nat) (xs : Nat → Int32) (E : tk_E) : tk_K := (i_aload 1 (i_callV Z mX11_fault 12 0 d mc ms (i_aload 2 (i_callV Z mX12_fault 13 0 d mc ms (i_icmp_eq (E 1635) (i_push (.int (0)) i_lwret))))))
def t_Law_310 (Z : tk_Z) (d mc ms b L : Nat) (xs : Nat → Int32) (E : tk_E) : tk_K := (i_aload 1 (i_aload 0 (i_iload 4 (i_push (.int (1)) (i_iadd (i_xld b L xs (i_aload 3 (i_callW Z mL_stretch hL_stretch 3 d mc ms (i_istore 5 (i_aload 2 (i_aload 0 (i_iload 4 (i_push (.int (1)) (i_iadd (i_xld b L xs (i_callV Z mX12_stretch 13 1 d mc ms (i_istore 6 (i_aload 2 (i_callV Z mX12_thrown 13 0 d mc ms (i_iload 5 (i_icmp_eq (i_iload 5 (i_if_eq (i_aload 3 (i_push (.int (0)) (i_lald (i_iload 6 (i_i2l (i_lcmp (i_if_eq (i_goto (E 1635)) (i_push (.int (0)) i_lwret)))))))) (i_goto (E 1635)))) (i_push (.int (0)) i_lwret))))))))))))))))))))))
def t_Law_366 (Z : tk_Z) (d mc ms b L : Nat) (xs : Nat → Int32) (E : tk_E) : tk_K := (i_aload 1 (i_aload 0 (i_iload 4 (i_push (.int (1)) (i_iadd (i_xld b L xs (i_aload 3 (i_callW Z mL_gate hL_gate 3 d mc ms (i_istore 5 (i_aload 2 (i_aload 0 (i_iload 4 (i_push (.int (1)) (i_iadd (i_xld b L xs (i_callV Z mX12_gate 13 1 d mc ms (i_istore 6 (i_aload 2 (i_callV Z mX12_thrown 13 0 d mc ms (i_iload 5 (i_icmp_eq (i_iload 5 (i_if_eq (i_aload 3 (i_push (.int (0)) (i_lald (i_iload 6 (i_i2l (i_lcmp (i_if_eq (i_goto (E 1635)) (i_push (.int (0)) i_lwret)))))))) (i_goto (E 1635)))) (i_push (.int (0)) i_lwret))))))))))))))))))))))
def t_Law_422 (Z : tk_Z) (d mc ms b L : Nat) (xs : Nat → Int32) (E : tk_E) : tk_K := (i_aload 1 (i_aload 0 (i_iload 4 (i_push (.int (1)) (i_iadd (i_xld b L xs (i_aload 0 (i_iload 4 (i_push (.int (2)) (i_iadd (i_xld b L xs (i_aload 0 (i_iload 4 (i_push (.int (3)) (i_iadd (i_xld b L xs (i_aload 0 (i_iload 4 (i_push (.int (4)) (i_iadd (i_xld b L xs (i_aload 3 (i_callW Z mL_traveller hL_traveller 6 d mc ms (i_istore 5 (i_aload 2 (i_aload 0 (i_iload 4 (i_push (.int (1)) (i_iadd (i_xld b L xs (i_aload 0 (i_iload 4 (i_push (.int (2)) (i_iadd (i_xld b L xs (i_aload 0 (i_iload 4 (i_push (.int (3)) (i_iadd (i_xld b L xs (i_aload 0 (i_iload 4 (i_push (.int (4)) (i_iadd (i_xld b L xs (i_callV Z mX12_traveller 13 4 d mc ms (i_istore 6 (i_aload 2 (i_callV Z mX12_thrown 13 0 d mc ms (i_iload 5 (i_icmp_eq (i_iload 5 (i_if_eq (i_aload 3 (i_push (.int (0)) (i_lald (i_iload 6 (i_i2l (i_lcmp (i_if_eq (i_goto (E 1635)) (i_push (.int (0)) i_lwret)))))))) (i_goto (E 1635)))) (i_push (.int (0)) i_lwret))))))))))))))))))))))))))))))))))))))))))))))))))))
def t_Law_514 (Z : tk_Z) (d mc ms b L : Nat) (xs : Nat → Int32) (E : tk_E) : tk_K := (i_aload 1 (i_aload 0 (i_iload 4 (i_push (.int (1)) (i_iadd (i_xld b L xs (i_aload 0 (i_iload 4 (i_push (.int (2)) (i_iadd (i_xld b L xs (i_aload 3 (i_callW Z mL_pass hL_pass 4 d mc ms (i_istore 5 (i_aload 2 (i_aload 0 (i_iload 4 (i_push (.int (1)) (i_iadd (i_xld b L xs (i_aload 0 (i_iload 4 (i_push (.int (2)) (i_iadd (i_xld b L xs (i_callV Z mX12_pass 13 2 d mc ms (i_istore 6 (i_aload 2 (i_callV Z mX12_thrown 13 0 d mc ms (i_iload 5 (i_icmp_eq (i_iload 5 (i_if_eq (i_aload 3 (i_push (.int (0)) (i_lald (i_iload 6 (i_i2l (i_lcmp (i_if_eq (i_goto (E 1635)) (i_push (.int (0)) i_lwret)))))))) (i_goto (E 1635)))) (i_push (.int (0)) i_lwret))))))))))))))))))))))))))))))))
def t_Law_582 (Z : tk_Z) (d mc ms b L : Nat) (xs : Nat → Int32) (E : tk_E) : tk_K := (i_aload 1 (i_callV Z mX11_clause 12 0 d mc ms (i_aload 2 (i_callV Z mX12_clause_ 13 0 d mc ms (i_icmp_eq (E 1635) (i_push (.int (0)) i_lwret))))))
def t_Law_595 (Z : tk_Z) (d mc ms b L : Nat) (xs : Nat → Int32) (E : tk_E) : tk_K := (i_aload 1 (i_aload 0 (i_iload 4 (i_push (.int (1)) (i_iadd (i_xld b L xs (i_aload 0 (i_iload 4 (i_push (.int (2)) (i_iadd (i_xld b L xs (i_aload 0 (i_iload 4 (i_push (.int (3)) (i_iadd (i_xld b L xs (i_aload 3 (i_callW Z mL_asked hL_asked 5 d mc ms (i_istore 5 (i_aload 2 (i_aload 0 (i_iload 4 (i_push (.int (1)) (i_iadd (i_xld b L xs (i_aload 0 (i_iload 4 (i_push (.int (2)) (i_iadd (i_xld b L xs (i_aload 0 (i_iload 4 (i_push (.int (3)) (i_iadd (i_xld b L xs (i_callV Z mX12_asked 13 3 d mc ms (i_istore 6 (i_aload 2 (i_callV Z mX12_thrown 13 0 d mc ms (i_iload 5 (i_icmp_eq (i_iload 5 (i_if_eq (i_aload 3 (i_push (.int (0)) (i_lald (i_iload 6 (i_i2l (i_lcmp (i_if_eq (i_goto (E 1635)) (i_push (.int (0)) i_lwret)))))))) (i_goto (E 1635)))) (i_push (.int (0)) i_lwret))))))))))))))))))))))))))))))))))))))))))
def t_Law_675 (Z : tk_Z) (d mc ms b L : Nat) (xs : Nat → Int32) (E : tk_E) : tk_K := (i_aload 1 (i_aload 0 (i_iload 4 (i_push (.int (1)) (i_iadd (i_xld b L xs (i_aload 3 (i_callW Z mL_force hL_force 3 d mc ms (i_istore 5 (i_aload 2 (i_aload 0 (i_iload 4 (i_push (.int (1)) (i_iadd (i_xld b L xs (i_callV Z mX12_force 13 1 d mc ms (i_istore 6 (i_aload 2 (i_callV Z mX12_thrown 13 0 d mc ms (i_iload 5 (i_icmp_eq (i_iload 5 (i_if_eq (i_aload 3 (i_push (.int (0)) (i_lald (i_iload 6 (i_i2l (i_lcmp (i_if_eq (i_goto (E 1635)) (i_push (.int (0)) i_lwret)))))))) (i_goto (E 1635)))) (i_push (.int (0)) i_lwret))))))))))))))))))))))
def t_Law_731 (Z : tk_Z) (d mc ms b L : Nat) (xs : Nat → Int32) (E : tk_E) : tk_K := (i_aload 1 (i_aload 0 (i_iload 4 (i_push (.int (1)) (i_iadd (i_xld b L xs (i_aload 3 (i_callW Z mL_wait hL_wait 3 d mc ms (i_istore 5 (i_aload 2 (i_aload 0 (i_iload 4 (i_push (.int (1)) (i_iadd (i_xld b L xs (i_callV Z mX12_wait 13 1 d mc ms (i_istore 6 (i_aload 2 (i_callV Z mX12_thrown 13 0 d mc ms (i_iload 5 (i_icmp_eq (i_iload 5 (i_if_eq (i_aload 3 (i_push (.int (0)) (i_lald (i_iload 6 (i_i2l (i_lcmp (i_if_eq (i_goto (E 1635)) (i_push (.int (0)) i_lwret)))))))) (i_goto (E 1635)))) (i_push (.int (0)) i_lwret))))))))))))))))))))))
def t_Law_787 (Z : tk_Z) (d mc ms b L : Nat) (xs : Nat → Int32) (E : tk_E) : tk_K := (i_aload 1 (i_aload 0 (i_iload 4 (i_push (.int (1)) (i_iadd (i_xld b L xs (i_callW Z mL_rain hL_rain 2 d mc ms (i_istore 5 (i_aload 2 (i_aload 0 (i_iload 4 (i_push (.int (1)) (i_iadd (i_xld b L xs (i_callV Z mX12_rain 13 1 d mc ms (i_aload 2 (i_callV Z mX12_thrown 13 0 d mc ms (i_iload 5 (i_icmp_eq (i_goto (E 1635)) (i_push (.int (0)) i_lwret))))))))))))))))))))
def t_Law_823 (Z : tk_Z) (d mc ms b L : Nat) (xs : Nat → Int32) (E : tk_E) : tk_K := (i_aload 1 (i_aload 0 (i_iload 4 (i_push (.int (1)) (i_iadd (i_xld b L xs (i_aload 3 (i_callW Z mL_mend hL_mend 3 d mc ms (i_istore 5 (i_aload 2 (i_aload 0 (i_iload 4 (i_push (.int (1)) (i_iadd (i_xld b L xs (i_callV Z mX12_mend 13 1 d mc ms (i_istore 6 (i_aload 2 (i_callV Z mX12_thrown 13 0 d mc ms (i_iload 5 (i_icmp_eq (i_iload 5 (i_if_eq (i_aload 3 (i_push (.int (0)) (i_lald (i_iload 6 (i_i2l (i_lcmp (i_if_eq (i_goto (E 1635)) (i_push (.int (0)) i_lwret)))))))) (i_goto (E 1635)))) (i_push (.int (0)) i_lwret))))))))))))))))))))))
def t_Law_879 (Z : tk_Z) (d mc ms b L : Nat) (xs : Nat → Int32) (E : tk_E) : tk_K := (i_aload 1 (i_aload 0 (i_iload 4 (i_push (.int (1)) (i_iadd (i_xld b L xs (i_aload 3 (i_callW Z mL_farmer hL_farmer 3 d mc ms (i_istore 5 (i_aload 2 (i_aload 0 (i_iload 4 (i_push (.int (1)) (i_iadd (i_xld b L xs (i_callV Z mX12_farmer 13 1 d mc ms (i_istore 6 (i_aload 2 (i_callV Z mX12_thrown 13 0 d mc ms (i_iload 5 (i_icmp_eq (i_iload 5 (i_if_eq (i_aload 3 (i_push (.int (0)) (i_lald (i_iload 6 (i_i2l (i_lcmp (i_if_eq (i_goto (E 1635)) (i_push (.int (0)) i_lwret)))))))) (i_goto (E 1635)))) (i_push (.int (0)) i_lwret))))))))))))))))))))))
def t_Law_935 (Z : tk_Z) (d mc ms b L : Nat) (xs : Nat → Int32) (E : tk_E) : tk_K := (i_aload 1 (i_aload 0 (i_iload 4 (i_push (.int (1)) (i_iadd (i_xld b L xs (i_aload 0 (i_iload 4 (i_push (.int (2)) (i_iadd (i_xld b L xs (i_aload 0 (i_iload 4 (i_push (.int (3)) (i_iadd (i_xld b L xs (i_aload 0 (i_iload 4 (i_push (.int (4)) (i_iadd (i_xld b L xs (i_aload 3 (i_callW Z mL_bid hL_bid 6 d mc ms (i_istore 5 (i_aload 2 (i_aload 0 (i_iload 4 (i_push (.int (1)) (i_iadd (i_xld b L xs (i_aload 0 (i_iload 4 (i_push (.int (2)) (i_iadd (i_xld b L xs (i_aload 0 (i_iload 4 (i_push (.int (3)) (i_iadd (i_xld b L xs (i_aload 0 (i_iload 4 (i_push (.int (4)) (i_iadd (i_xld b L xs (i_callV Z mX12_bid 13 4 d mc ms (i_istore 6 (i_aload 2 (i_callV Z mX12_thrown 13 0 d mc ms (i_iload 5 (i_icmp_eq (i_iload 5 (i_if_eq (i_aload 3 (i_push (.int (0)) (i_lald (i_iload 6 (i_i2l (i_lcmp (i_if_eq (i_goto (E 1635)) (i_push (.int (0)) i_lwret)))))))) (i_goto (E 1635)))) (i_push (.int (0)) i_lwret))))))))))))))))))))))))))))))))))))))))))))))))))))
def t_Law_1027 (Z : tk_Z) (d mc ms b L : Nat) (xs : Nat → Int32) (E : tk_E) : tk_K := (i_aload 1 (i_aload 0 (i_iload 4 (i_push (.int (1)) (i_iadd (i_xld b L xs (i_aload 0 (i_iload 4 (i_push (.int (2)) (i_iadd (i_xld b L xs (i_aload 3 (i_callW Z mL_let hL_let 4 d mc ms (i_istore 5 (i_aload 2 (i_aload 0 (i_iload 4 (i_push (.int (1)) (i_iadd (i_xld b L xs (i_aload 0 (i_iload 4 (i_push (.int (2)) (i_iadd (i_xld b L xs (i_callV Z mX12_let 13 2 d mc ms (i_istore 6 (i_aload 2 (i_callV Z mX12_thrown 13 0 d mc ms (i_iload 5 (i_icmp_eq (i_iload 5 (i_if_eq (i_aload 3 (i_push (.int (0)) (i_lald (i_iload 6 (i_i2l (i_lcmp (i_if_eq (i_goto (E 1635)) (i_push (.int (0)) i_lwret)))))))) (i_goto (E 1635)))) (i_push (.int (0)) i_lwret))))))))))))))))))))))))))))))))
def t_Law_1095 (Z : tk_Z) (d mc ms b L : Nat) (xs : Nat → Int32) (E : tk_E) : tk_K := (i_aload 1 (i_aload 0 (i_iload 4 (i_push (.int (1)) (i_iadd (i_xld b L xs (i_aload 0 (i_iload 4 (i_push (.int (2)) (i_iadd (i_xld b L xs (i_aload 3 (i_callW Z mL_gateTold hL_gateTold 4 d mc ms (i_istore 5 (i_aload 2 (i_aload 0 (i_iload 4 (i_push (.int (1)) (i_iadd (i_xld b L xs (i_aload 0 (i_iload 4 (i_push (.int (2)) (i_iadd (i_xld b L xs (i_callV Z mX12_gateTold 13 2 d mc ms (i_istore 6 (i_aload 2 (i_callV Z mX12_thrown 13 0 d mc ms (i_iload 5 (i_icmp_eq (i_iload 5 (i_if_eq (i_aload 3 (i_push (.int (0)) (i_lald (i_iload 6 (i_i2l (i_lcmp (i_if_eq (i_goto (E 1635)) (i_push (.int (0)) i_lwret)))))))) (i_goto (E 1635)))) (i_push (.int (0)) i_lwret))))))))))))))))))))))))))))))))
def t_Law_1163 (Z : tk_Z) (d mc ms b L : Nat) (xs : Nat → Int32) (E : tk_E) : tk_K := (i_aload 1 (i_aload 0 (i_iload 4 (i_push (.int (1)) (i_iadd (i_xld b L xs (i_aload 0 (i_iload 4 (i_push (.int (2)) (i_iadd (i_xld b L xs (i_aload 0 (i_iload 4 (i_push (.int (3)) (i_iadd (i_xld b L xs (i_aload 3 (i_callW Z mL_borrow hL_borrow 5 d mc ms (i_istore 5 (i_aload 2 (i_aload 0 (i_iload 4 (i_push (.int (1)) (i_iadd (i_xld b L xs (i_aload 0 (i_iload 4 (i_push (.int (2)) (i_iadd (i_xld b L xs (i_aload 0 (i_iload 4 (i_push (.int (3)) (i_iadd (i_xld b L xs (i_callV Z mX12_borrow 13 3 d mc ms (i_istore 6 (i_aload 2 (i_callV Z mX12_thrown 13 0 d mc ms (i_iload 5 (i_icmp_eq (i_iload 5 (i_if_eq (i_aload 3 (i_push (.int (0)) (i_lald (i_iload 6 (i_i2l (i_lcmp (i_if_eq (i_goto (E 1635)) (i_push (.int (0)) i_lwret)))))))) (i_goto (E 1635)))) (i_push (.int (0)) i_lwret))))))))))))))))))))))))))))))))))))))))))
def t_Law_1243 (Z : tk_Z) (d mc ms b L : Nat) (xs : Nat → Int32) (E : tk_E) : tk_K := (i_aload 1 (i_aload 0 (i_iload 4 (i_push (.int (1)) (i_iadd (i_xld b L xs (i_aload 0 (i_iload 4 (i_push (.int (2)) (i_iadd (i_xld b L xs (i_aload 3 (i_callW Z mL_repay hL_repay 4 d mc ms (i_istore 5 (i_aload 2 (i_aload 0 (i_iload 4 (i_push (.int (1)) (i_iadd (i_xld b L xs (i_aload 0 (i_iload 4 (i_push (.int (2)) (i_iadd (i_xld b L xs (i_callV Z mX12_repay 13 2 d mc ms (i_istore 6 (i_aload 2 (i_callV Z mX12_thrown 13 0 d mc ms (i_iload 5 (i_icmp_eq (i_iload 5 (i_if_eq (i_aload 3 (i_push (.int (0)) (i_lald (i_iload 6 (i_i2l (i_lcmp (i_if_eq (i_goto (E 1635)) (i_push (.int (0)) i_lwret)))))))) (i_goto (E 1635)))) (i_push (.int (0)) i_lwret))))))))))))))))))))))))))))))))
def t_Law_1311 (Z : tk_Z) (d mc ms b L : Nat) (xs : Nat → Int32) (E : tk_E) : tk_K := (i_aload 1 (i_aload 0 (i_iload 4 (i_push (.int (1)) (i_iadd (i_xld b L xs (i_aload 0 (i_iload 4 (i_push (.int (2)) (i_iadd (i_xld b L xs (i_aload 3 (i_callW Z mL_loan hL_loan 4 d mc ms (i_istore 5 (i_aload 2 (i_aload 0 (i_iload 4 (i_push (.int (1)) (i_iadd (i_xld b L xs (i_aload 0 (i_iload 4 (i_push (.int (2)) (i_iadd (i_xld b L xs (i_callV Z mX12_loan 13 2 d mc ms (i_lstore 6 (i_aload 2 (i_callV Z mX12_thrown 13 0 d mc ms (i_iload 5 (i_icmp_eq (i_iload 5 (i_if_eq (i_aload 3 (i_push (.int (0)) (i_lald (i_lload 6 (i_lcmp (i_if_eq (i_goto (E 1635)) (i_push (.int (0)) i_lwret))))))) (i_goto (E 1635)))) (i_push (.int (0)) i_lwret))))))))))))))))))))))))))))))))
def t_Law_1378 (Z : tk_Z) (d mc ms b L : Nat) (xs : Nat → Int32) (E : tk_E) : tk_K := (i_aload 1 (i_aload 0 (i_iload 4 (i_push (.int (1)) (i_iadd (i_xld b L xs (i_aload 3 (i_callW Z mL_money hL_money 3 d mc ms (i_istore 5 (i_aload 2 (i_aload 0 (i_iload 4 (i_push (.int (1)) (i_iadd (i_xld b L xs (i_callV Z mX12_money 13 1 d mc ms (i_lstore 6 (i_aload 2 (i_callV Z mX12_thrown 13 0 d mc ms (i_iload 5 (i_icmp_eq (i_iload 5 (i_if_eq (i_aload 3 (i_push (.int (0)) (i_lald (i_lload 6 (i_lcmp (i_if_eq (i_goto (E 1635)) (i_push (.int (0)) i_lwret))))))) (i_goto (E 1635)))) (i_push (.int (0)) i_lwret))))))))))))))))))))))
def t_Law_1433 (Z : tk_Z) (d mc ms b L : Nat) (xs : Nat → Int32) (E : tk_E) : tk_K := (i_aload 1 (i_aload 0 (i_iload 4 (i_push (.int (1)) (i_iadd (i_xld b L xs (i_aload 3 (i_callW Z mL_wear hL_wear 3 d mc ms (i_istore 5 (i_aload 2 (i_aload 0 (i_iload 4 (i_push (.int (1)) (i_iadd (i_xld b L xs (i_callV Z mX12_wear 13 1 d mc ms (i_lstore 6 (i_aload 2 (i_callV Z mX12_thrown 13 0 d mc ms (i_iload 5 (i_icmp_eq (i_iload 5 (i_if_eq (i_aload 3 (i_push (.int (0)) (i_lald (i_lload 6 (i_lcmp (i_if_eq (i_goto (E 1635)) (i_push (.int (0)) i_lwret))))))) (i_goto (E 1635)))) (i_push (.int (0)) i_lwret))))))))))))))))))))))
def t_Law_1488 (Z : tk_Z) (d mc ms b L : Nat) (xs : Nat → Int32) (E : tk_E) : tk_K := (i_aload 1 (i_aload 0 (i_iload 4 (i_push (.int (1)) (i_iadd (i_xld b L xs (i_aload 3 (i_callW Z mL_box hL_box 3 d mc ms (i_istore 5 (i_aload 2 (i_aload 0 (i_iload 4 (i_push (.int (1)) (i_iadd (i_xld b L xs (i_callV Z mX12_box 13 1 d mc ms (i_lstore 6 (i_aload 2 (i_callV Z mX12_thrown 13 0 d mc ms (i_iload 5 (i_icmp_eq (i_iload 5 (i_if_eq (i_aload 3 (i_push (.int (0)) (i_lald (i_lload 6 (i_lcmp (i_if_eq (i_goto (E 1635)) (i_push (.int (0)) i_lwret))))))) (i_goto (E 1635)))) (i_push (.int (0)) i_lwret))))))))))))))))))))))
def t_Law_1543 (Z : tk_Z) (d mc ms b L : Nat) (xs : Nat → Int32) (E : tk_E) : tk_K := (i_aload 1 (i_aload 0 (i_iload 4 (i_push (.int (1)) (i_iadd (i_xld b L xs (i_aload 0 (i_iload 4 (i_push (.int (2)) (i_iadd (i_xld b L xs (i_aload 3 (i_callW Z mL_journal hL_journal 4 d mc ms (i_istore 5 (i_aload 2 (i_aload 0 (i_iload 4 (i_push (.int (1)) (i_iadd (i_xld b L xs (i_aload 0 (i_iload 4 (i_push (.int (2)) (i_iadd (i_xld b L xs (i_callV Z mX12_journal 13 2 d mc ms (i_lstore 6 (i_aload 2 (i_callV Z mX12_thrown 13 0 d mc ms (i_iload 5 (i_icmp_eq (i_iload 5 (i_if_eq (i_aload 3 (i_push (.int (0)) (i_lald (i_lload 6 (i_lcmp (i_if_eq (i_goto (E 1635)) (i_push (.int (0)) i_lwret))))))) (i_goto (E 1635)))) (i_push (.int (0)) i_lwret))))))))))))))))))))))))))))))))
def t_Law_1610 (Z : tk_Z) (d mc ms b L : Nat) (xs : Nat → Int32) (E : tk_E) : tk_K := (i_aload 1 (i_aload 0 (i_iload 4 (i_push (.int (1)) (i_iadd (i_xld b L xs (i_callV Z mX11_count 12 1 d mc ms (i_aload 2 (i_aload 0 (i_iload 4 (i_push (.int (1)) (i_iadd (i_xld b L xs (i_callV Z mX12_count 13 1 d mc ms (i_icmp_eq (E 1635) (i_push (.int (0)) i_lwret))))))))))))))))
def t_Law_1635 (Z : tk_Z) (d mc ms b L : Nat) (xs : Nat → Int32) (E : tk_E) : tk_K := (i_iinc 4 (6) (i_goto (E 23)))
def T_Law (Z : tk_Z) (d mc ms b L : Nat) (xs : Nat → Int32) (E : tk_E) : Prop := (∀ pc ls st S cs ss, (Z.2.2.2.2.2.1 ∉ q_L S → E pc ls st S cs ss) → E pc ls st S cs ss) ∧ (∀ ls st S cs ss, t_Law_0 Z d mc ms b L xs E ls st S cs ss → E 0 ls st S cs ss) ∧ (∀ ls st S cs ss, t_Law_23 Z d mc ms b L xs E ls st S cs ss → E 23 ls st S cs ss) ∧ (∀ ls st S cs ss, t_Law_156 Z d mc ms b L xs E ls st S cs ss → E 156 ls st S cs ss) ∧ (∀ ls st S cs ss, t_Law_229 Z d mc ms b L xs E ls st S cs ss → E 229 ls st S cs ss) ∧ (∀ ls st S cs ss, t_Law_297 Z d mc ms b L xs E ls st S cs ss → E 297 ls st S cs ss) ∧ (∀ ls st S cs ss, t_Law_310 Z d mc ms b L xs E ls st S cs ss → E 310 ls st S cs ss) ∧ (∀ ls st S cs ss, t_Law_366 Z d mc ms b L xs E ls st S cs ss → E 366 ls st S cs ss) ∧ (∀ ls st S cs ss, t_Law_422 Z d mc ms b L xs E ls st S cs ss → E 422 ls st S cs ss) ∧ (∀ ls st S cs ss, t_Law_514 Z d mc ms b L xs E ls st S cs ss → E 514 ls st S cs ss) ∧ (∀ ls st S cs ss, t_Law_582 Z d mc ms b L xs E ls st S cs ss → E 582 ls st S cs ss) ∧ (∀ ls st S cs ss, t_Law_595 Z d mc ms b L xs E ls st S cs ss → E 595 ls st S cs ss) ∧ (∀ ls st S cs ss, t_Law_675 Z d mc ms b L xs E ls st S cs ss → E 675 ls st S cs ss) ∧ (∀ ls st S cs ss, t_Law_731 Z d mc ms b L xs E ls st S cs ss → E 731 ls st S cs ss) ∧ (∀ ls st S cs ss, t_Law_787 Z d mc ms b L xs E ls st S cs ss → E 787 ls st S cs ss) ∧ (∀ ls st S cs ss, t_Law_823 Z d mc ms b L xs E ls st S cs ss → E 823 ls st S cs ss) ∧ (∀ ls st S cs ss, t_Law_879 Z d mc ms b L xs E ls st S cs ss → E 879 ls st S cs ss) ∧ (∀ ls st S cs ss, t_Law_935 Z d mc ms b L xs E ls st S cs ss → E 935 ls st S cs ss) ∧ (∀ ls st S cs ss, t_Law_1027 Z d mc ms b L xs E ls st S cs ss → E 1027 ls st S cs ss) ∧ (∀ ls st S cs ss, t_Law_1095 Z d mc ms b L xs E ls st S cs ss → E 1095 ls st S cs ss) ∧ (∀ ls st S cs ss, t_Law_1163 Z d mc ms b L xs E ls st S cs ss → E 1163 ls st S cs ss) ∧ (∀ ls st S cs ss, t_Law_1243 Z d mc ms b L xs E ls st S cs ss → E 1243 ls st S cs ss) ∧ (∀ ls st S cs ss, t_Law_1311 Z d mc ms b L xs E ls st S cs ss → E 1311 ls st S cs ss) ∧ (∀ ls st S cs ss, t_Law_1378 Z d mc ms b L xs E ls st S cs ss → E 1378 ls st S cs ss) ∧ (∀ ls st S cs ss, t_Law_1433 Z d mc ms b L xs E ls st S cs ss → E 1433 ls st S cs ss) ∧ (∀ ls st S cs ss, t_Law_1488 Z d mc ms b L xs E ls st S cs ss → E 1488 ls st S cs ss) ∧ (∀ ls st S cs ss, t_Law_1543 Z d mc ms b L xs E ls st S cs ss → E 1543 ls st S cs ss) ∧ (∀ ls st S cs ss, t_Law_1610 Z d mc ms b L xs E ls st S cs ss → E 1610 ls st S cs ss) ∧ (∀ ls st S cs ss, t_Law_1635 Z d mc ms b L xs E ls st S cs ss → E 1635 ls st S cs ss)
theorem tk_E1_rm {Z : tk_Z} {X : tk_X} {d mc ms : Nat} (h : tk_E1 Z X d mc ms) : tk_rmIs X d mc ms := by
  obtain ⟨p, l, e, R, s, m, args, below, meth, c, D, Y, V, A, Q⟩ := X
  exact h.1
section LAWB
variable {Z : tk_Z} {X : tk_X} {d mc ms b L : Nat} {xs : Nat → Int32}
set_option maxRecDepth 100000 in
theorem b_Law_0 (C0 : tk_C X code 8 R_law (tk_ws mX12_thrown)) (E0 : tk_E1 Z X d mc ms) (L0 : lwX X b L xs) (hTs : ∀ w ∈ tk_G, w ∈ tk_ws mX12_thrown) (E0rm : tk_rmIs X d mc ms) : ∀ ls st S cs ss, t_Law_0 Z d mc ms b L xs (tk_W X 8) ls st S cs ss → tk_W X 8 0 ls st S cs ss :=
  fun ls st S cs ss h => s_new_ C0 E0rm kl_12 (tk_uL in_12) df_12 (tk_u1 wl_104) (tk_u1 wl_105) (tk_u1 wl_72) dLaw_0 h (fun ls st S cs ss h => s_dup C0 dLaw_3 h (fun ls st S cs ss h => s_callI C0 E0 wl_108 (by decide) rfl rfl wl_106 wl_107 wl_72 mh_X11_init dLaw_4 h (fun ls st S cs ss h => s_astore_n C0 dLaw_7 rfl (by decide) h (fun ls st S cs ss h => s_new_ C0 E0rm kl_13 (tk_uL in_13) df_13 (tk_u1 wl_1264) (tk_u1 wl_1265) (tk_u1 wl_79) dLaw_8 h (fun ls st S cs ss h => s_dup C0 dLaw_11 h (fun ls st S cs ss h => s_callI C0 E0 wl_1268 (by decide) rfl rfl wl_1266 wl_1267 wl_79 mh_X12_init dLaw_12 h (fun ls st S cs ss h => s_astore_n C0 dLaw_15 rfl (by decide) h (fun ls st S cs ss h => s_iconst (v := (1)) C0 dLaw_16 (by decide) h (fun ls st S cs ss h => s_newa (atype := .long) (ty := .long) C0 E0rm rfl (Or.inr (Or.inr (Or.inl rfl))) (tk_u1 wl_217) dLaw_17 h (fun ls st S cs ss h => s_astore_n C0 dLaw_19 rfl (by decide) h (fun ls st S cs ss h => s_iconst (v := (0)) C0 dLaw_20 (by decide) h (fun ls st S cs ss h => s_istore C0 dLaw_21 (by decide) h (fun ls st S cs ss h => h)))))))))))))
set_option maxRecDepth 100000 in
theorem b_Law_23 (C0 : tk_C X code 8 R_law (tk_ws mX12_thrown)) (E0 : tk_E1 Z X d mc ms) (L0 : lwX X b L xs) (hTs : ∀ w ∈ tk_G, w ∈ tk_ws mX12_thrown) (E0rm : tk_rmIs X d mc ms) : ∀ ls st S cs ss, t_Law_23 Z d mc ms b L xs (tk_W X 8) ls st S cs ss → tk_W X 8 23 ls st S cs ss :=
  fun ls st S cs ss h => s_iload C0 dLaw_23 h (fun ls st S cs ss h => s_aload_n C0 dLaw_25 rfl h (fun ls st S cs ss h => s_xlen C0 L0 dLaw_26 h (fun ls st S cs ss h => s_bipush (v := (6)) C0 dLaw_27 (by decide) h (fun ls st S cs ss h => s_isub C0 dLaw_29 h (fun ls st S cs ss h => s_icmp_gt C0 dLaw_30 (by decide) h (fun ls st S cs ss h => s_iconst (v := (1)) C0 dLaw_1641 (by decide) h (fun ls st S cs ss h => s_lwret C0 L0 dLaw_1642 h)) (fun ls st S cs ss h => s_aload_n C0 dLaw_33 rfl h (fun ls st S cs ss h => s_iload C0 dLaw_34 h (fun ls st S cs ss h => s_xld C0 L0 dLaw_36 h (fun ls st S cs ss h => s_bipush (v := (31)) C0 dLaw_37 (by decide) h (fun ls st S cs ss h => s_iand C0 dLaw_39 h (fun ls st S cs ss h => s_tsw2 C0 dLaw_40 (by decide) h (by decide) rfl (by decide) ⟨⟨156, by decide, by decide, fun ls st S cs ss h => h⟩, ⟨⟨229, by decide, by decide, fun ls st S cs ss h => h⟩, ⟨⟨297, by decide, by decide, fun ls st S cs ss h => h⟩, ⟨⟨310, by decide, by decide, fun ls st S cs ss h => h⟩, ⟨⟨366, by decide, by decide, fun ls st S cs ss h => h⟩, ⟨⟨422, by decide, by decide, fun ls st S cs ss h => h⟩, ⟨⟨514, by decide, by decide, fun ls st S cs ss h => h⟩, ⟨⟨582, by decide, by decide, fun ls st S cs ss h => h⟩, ⟨⟨595, by decide, by decide, fun ls st S cs ss h => h⟩, ⟨⟨675, by decide, by decide, fun ls st S cs ss h => h⟩, ⟨⟨731, by decide, by decide, fun ls st S cs ss h => h⟩, ⟨⟨787, by decide, by decide, fun ls st S cs ss h => h⟩, ⟨⟨823, by decide, by decide, fun ls st S cs ss h => h⟩, ⟨⟨879, by decide, by decide, fun ls st S cs ss h => h⟩, ⟨⟨935, by decide, by decide, fun ls st S cs ss h => h⟩, ⟨⟨1027, by decide, by decide, fun ls st S cs ss h => h⟩, ⟨⟨1095, by decide, by decide, fun ls st S cs ss h => h⟩, ⟨⟨1163, by decide, by decide, fun ls st S cs ss h => h⟩, ⟨⟨1243, by decide, by decide, fun ls st S cs ss h => h⟩, ⟨⟨1311, by decide, by decide, fun ls st S cs ss h => h⟩, ⟨⟨1378, by decide, by decide, fun ls st S cs ss h => h⟩, ⟨⟨1433, by decide, by decide, fun ls st S cs ss h => h⟩, ⟨⟨1488, by decide, by decide, fun ls st S cs ss h => h⟩, ⟨⟨1543, by decide, by decide, fun ls st S cs ss h => h⟩, ⟨⟨1610, by decide, by decide, fun ls st S cs ss h => h⟩, trivial⟩⟩⟩⟩⟩⟩⟩⟩⟩⟩⟩⟩⟩⟩⟩⟩⟩⟩⟩⟩⟩⟩⟩⟩⟩ (fun ls st S cs ss h => h))))))))))))
set_option maxRecDepth 100000 in
theorem b_Law_156 (C0 : tk_C X code 8 R_law (tk_ws mX12_thrown)) (E0 : tk_E1 Z X d mc ms) (L0 : lwX X b L xs) (hTs : ∀ w ∈ tk_G, w ∈ tk_ws mX12_thrown) (E0rm : tk_rmIs X d mc ms) : ∀ ls st S cs ss, t_Law_156 Z d mc ms b L xs (tk_W X 8) ls st S cs ss → tk_W X 8 156 ls st S cs ss :=
  fun ls st S cs ss h => s_aload_n C0 dLaw_156 rfl h (fun ls st S cs ss h => s_aload_n C0 dLaw_157 rfl h (fun ls st S cs ss h => s_iload C0 dLaw_158 h (fun ls st S cs ss h => s_iconst (v := (1)) C0 dLaw_160 (by decide) h (fun ls st S cs ss h => s_iadd C0 dLaw_161 h (fun ls st S cs ss h => s_xld C0 L0 dLaw_162 h (fun ls st S cs ss h => s_aload_n C0 dLaw_163 rfl h (fun ls st S cs ss h => s_iload C0 dLaw_164 h (fun ls st S cs ss h => s_iconst (v := (2)) C0 dLaw_166 (by decide) h (fun ls st S cs ss h => s_iadd C0 dLaw_167 h (fun ls st S cs ss h => s_xld C0 L0 dLaw_168 h (fun ls st S cs ss h => s_aload_n C0 dLaw_169 rfl h (fun ls st S cs ss h => s_iload C0 dLaw_170 h (fun ls st S cs ss h => s_iconst (v := (3)) C0 dLaw_172 (by decide) h (fun ls st S cs ss h => s_iadd C0 dLaw_173 h (fun ls st S cs ss h => s_xld C0 L0 dLaw_174 h (fun ls st S cs ss h => s_aload_n C0 dLaw_175 rfl h (fun ls st S cs ss h => s_iload C0 dLaw_176 h (fun ls st S cs ss h => s_iconst (v := (4)) C0 dLaw_178 (by decide) h (fun ls st S cs ss h => s_iadd C0 dLaw_179 h (fun ls st S cs ss h => s_xld C0 L0 dLaw_180 h (fun ls st S cs ss h => s_aload_n C0 dLaw_181 rfl h (fun ls st S cs ss h => s_iload C0 dLaw_182 h (fun ls st S cs ss h => s_iconst (v := (5)) C0 dLaw_184 (by decide) h (fun ls st S cs ss h => s_iadd C0 dLaw_185 h (fun ls st S cs ss h => s_xld C0 L0 dLaw_186 h (fun ls st S cs ss h => s_callV C0 E0 wl_284 (by decide) kl_12.1 kl_12.2.1 wl_281 wl_282 wl_72 wl_283 mh_X11_feed dLaw_187 h (fun ls st S cs ss h => s_aload_n C0 dLaw_190 rfl h (fun ls st S cs ss h => s_aload_n C0 dLaw_191 rfl h (fun ls st S cs ss h => s_iload C0 dLaw_192 h (fun ls st S cs ss h => s_iconst (v := (1)) C0 dLaw_194 (by decide) h (fun ls st S cs ss h => s_iadd C0 dLaw_195 h (fun ls st S cs ss h => s_xld C0 L0 dLaw_196 h (fun ls st S cs ss h => s_aload_n C0 dLaw_197 rfl h (fun ls st S cs ss h => s_iload C0 dLaw_198 h (fun ls st S cs ss h => s_iconst (v := (2)) C0 dLaw_200 (by decide) h (fun ls st S cs ss h => s_iadd C0 dLaw_201 h (fun ls st S cs ss h => s_xld C0 L0 dLaw_202 h (fun ls st S cs ss h => s_aload_n C0 dLaw_203 rfl h (fun ls st S cs ss h => s_iload C0 dLaw_204 h (fun ls st S cs ss h => s_iconst (v := (3)) C0 dLaw_206 (by decide) h (fun ls st S cs ss h => s_iadd C0 dLaw_207 h (fun ls st S cs ss h => s_xld C0 L0 dLaw_208 h (fun ls st S cs ss h => s_aload_n C0 dLaw_209 rfl h (fun ls st S cs ss h => s_iload C0 dLaw_210 h (fun ls st S cs ss h => s_iconst (v := (4)) C0 dLaw_212 (by decide) h (fun ls st S cs ss h => s_iadd C0 dLaw_213 h (fun ls st S cs ss h => s_xld C0 L0 dLaw_214 h (fun ls st S cs ss h => s_aload_n C0 dLaw_215 rfl h (fun ls st S cs ss h => s_iload C0 dLaw_216 h (fun ls st S cs ss h => s_iconst (v := (5)) C0 dLaw_218 (by decide) h (fun ls st S cs ss h => s_iadd C0 dLaw_219 h (fun ls st S cs ss h => s_xld C0 L0 dLaw_220 h (fun ls st S cs ss h => s_callV C0 E0 wl_1465 (by decide) kl_13.1 kl_13.2.1 wl_1462 wl_1463 wl_79 wl_1464 mh_X12_feed dLaw_221 h (fun ls st S cs ss h => s_icmp_eq C0 dLaw_224 (by decide) h (fun ls st S cs ss h => h) (fun ls st S cs ss h => s_iconst (v := (0)) C0 dLaw_227 (by decide) h (fun ls st S cs ss h => s_lwret C0 L0 dLaw_228 h))))))))))))))))))))))))))))))))))))))))))))))))))))))))
set_option maxRecDepth 100000 in
theorem b_Law_229 (C0 : tk_C X code 8 R_law (tk_ws mX12_thrown)) (E0 : tk_E1 Z X d mc ms) (L0 : lwX X b L xs) (hTs : ∀ w ∈ tk_G, w ∈ tk_ws mX12_thrown) (E0rm : tk_rmIs X d mc ms) : ∀ ls st S cs ss, t_Law_229 Z d mc ms b L xs (tk_W X 8) ls st S cs ss → tk_W X 8 229 ls st S cs ss :=
  fun ls st S cs ss h => s_aload_n C0 dLaw_229 rfl h (fun ls st S cs ss h => s_aload_n C0 dLaw_230 rfl h (fun ls st S cs ss h => s_iload C0 dLaw_231 h (fun ls st S cs ss h => s_iconst (v := (1)) C0 dLaw_233 (by decide) h (fun ls st S cs ss h => s_iadd C0 dLaw_234 h (fun ls st S cs ss h => s_xld C0 L0 dLaw_235 h (fun ls st S cs ss h => s_aload_n C0 dLaw_236 rfl h (fun ls st S cs ss h => s_iload C0 dLaw_237 h (fun ls st S cs ss h => s_iconst (v := (2)) C0 dLaw_239 (by decide) h (fun ls st S cs ss h => s_iadd C0 dLaw_240 h (fun ls st S cs ss h => s_xld C0 L0 dLaw_241 h (fun ls st S cs ss h => s_aload_n C0 dLaw_242 rfl h (fun ls st S cs ss h => s_callW C0 hTs E0 wl_311 (by decide) wl_309 wl_310 wl_71 mh_L_act dLaw_243 h (fun ls st S cs ss h => s_istore C0 dLaw_246 (by decide) h (fun ls st S cs ss h => s_aload_n C0 dLaw_248 rfl h (fun ls st S cs ss h => s_aload_n C0 dLaw_249 rfl h (fun ls st S cs ss h => s_iload C0 dLaw_250 h (fun ls st S cs ss h => s_iconst (v := (1)) C0 dLaw_252 (by decide) h (fun ls st S cs ss h => s_iadd C0 dLaw_253 h (fun ls st S cs ss h => s_xld C0 L0 dLaw_254 h (fun ls st S cs ss h => s_aload_n C0 dLaw_255 rfl h (fun ls st S cs ss h => s_iload C0 dLaw_256 h (fun ls st S cs ss h => s_iconst (v := (2)) C0 dLaw_258 (by decide) h (fun ls st S cs ss h => s_iadd C0 dLaw_259 h (fun ls st S cs ss h => s_xld C0 L0 dLaw_260 h (fun ls st S cs ss h => s_callV C0 E0 wl_1469 (by decide) kl_13.1 kl_13.2.1 wl_1466 wl_1467 wl_79 wl_1468 mh_X12_act dLaw_261 h (fun ls st S cs ss h => s_istore C0 dLaw_264 (by decide) h (fun ls st S cs ss h => s_aload_n C0 dLaw_266 rfl h (fun ls st S cs ss h => s_callV C0 E0 wl_1461 (by decide) kl_13.1 kl_13.2.1 wl_1458 wl_1459 wl_79 wl_1460 mh_X12_thrown dLaw_267 h (fun ls st S cs ss h => s_iload C0 dLaw_270 h (fun ls st S cs ss h => s_icmp_eq C0 dLaw_272 (by decide) h (fun ls st S cs ss h => s_iload C0 dLaw_277 h (fun ls st S cs ss h => s_if_ne C0 dLaw_279 (by decide) h (fun ls st S cs ss h => s_goto C0 dLaw_294 (by decide) h (fun ls st S cs ss h => h)) (fun ls st S cs ss h => s_aload_n C0 dLaw_282 rfl h (fun ls st S cs ss h => s_iconst (v := (0)) C0 dLaw_283 (by decide) h (fun ls st S cs ss h => s_lald C0 dLaw_284 h (fun ls st S cs ss h => s_iload C0 dLaw_285 h (fun ls st S cs ss h => s_i2l C0 dLaw_287 h (fun ls st S cs ss h => s_lcmp C0 dLaw_288 h (fun ls st S cs ss h => s_if_eq C0 dLaw_289 (by decide) h (fun ls st S cs ss h => s_goto C0 dLaw_294 (by decide) h (fun ls st S cs ss h => h)) (fun ls st S cs ss h => s_iconst (v := (0)) C0 dLaw_292 (by decide) h (fun ls st S cs ss h => s_lwret C0 L0 dLaw_293 h))))))))))) (fun ls st S cs ss h => s_iconst (v := (0)) C0 dLaw_275 (by decide) h (fun ls st S cs ss h => s_lwret C0 L0 dLaw_276 h))))))))))))))))))))))))))))))))
set_option maxRecDepth 100000 in
theorem b_Law_297 (C0 : tk_C X code 8 R_law (tk_ws mX12_thrown)) (E0 : tk_E1 Z X d mc ms) (L0 : lwX X b L xs) (hTs : ∀ w ∈ tk_G, w ∈ tk_ws mX12_thrown) (E0rm : tk_rmIs X d mc ms) : ∀ ls st S cs ss, t_Law_297 Z d mc ms b L xs (tk_W X 8) ls st S cs ss → tk_W X 8 297 ls st S cs ss :=
  fun ls st S cs ss h => s_aload_n C0 dLaw_297 rfl h (fun ls st S cs ss h => s_callV C0 E0 wl_292 (by decide) kl_12.1 kl_12.2.1 wl_289 wl_290 wl_72 wl_291 mh_X11_fault dLaw_298 h (fun ls st S cs ss h => s_aload_n C0 dLaw_301 rfl h (fun ls st S cs ss h => s_callV C0 E0 wl_1587 (by decide) kl_13.1 kl_13.2.1 wl_1584 wl_1585 wl_79 wl_1586 mh_X12_fault dLaw_302 h (fun ls st S cs ss h => s_icmp_eq C0 dLaw_305 (by decide) h (fun ls st S cs ss h => h) (fun ls st S cs ss h => s_iconst (v := (0)) C0 dLaw_308 (by decide) h (fun ls st S cs ss h => s_lwret C0 L0 dLaw_309 h))))))
set_option maxRecDepth 100000 in
theorem b_Law_310 (C0 : tk_C X code 8 R_law (tk_ws mX12_thrown)) (E0 : tk_E1 Z X d mc ms) (L0 : lwX X b L xs) (hTs : ∀ w ∈ tk_G, w ∈ tk_ws mX12_thrown) (E0rm : tk_rmIs X d mc ms) : ∀ ls st S cs ss, t_Law_310 Z d mc ms b L xs (tk_W X 8) ls st S cs ss → tk_W X 8 310 ls st S cs ss :=
  fun ls st S cs ss h => s_aload_n C0 dLaw_310 rfl h (fun ls st S cs ss h => s_aload_n C0 dLaw_311 rfl h (fun ls st S cs ss h => s_iload C0 dLaw_312 h (fun ls st S cs ss h => s_iconst (v := (1)) C0 dLaw_314 (by decide) h (fun ls st S cs ss h => s_iadd C0 dLaw_315 h (fun ls st S cs ss h => s_xld C0 L0 dLaw_316 h (fun ls st S cs ss h => s_aload_n C0 dLaw_317 rfl h (fun ls st S cs ss h => s_callW C0 hTs E0 wl_729 (by decide) wl_727 wl_728 wl_71 mh_L_stretch dLaw_318 h (fun ls st S cs ss h => s_istore C0 dLaw_321 (by decide) h (fun ls st S cs ss h => s_aload_n C0 dLaw_323 rfl h (fun ls st S cs ss h => s_aload_n C0 dLaw_324 rfl h (fun ls st S cs ss h => s_iload C0 dLaw_325 h (fun ls st S cs ss h => s_iconst (v := (1)) C0 dLaw_327 (by decide) h (fun ls st S cs ss h => s_iadd C0 dLaw_328 h (fun ls st S cs ss h => s_xld C0 L0 dLaw_329 h (fun ls st S cs ss h => s_callV C0 E0 wl_1599 (by decide) kl_13.1 kl_13.2.1 wl_1596 wl_1597 wl_79 wl_1598 mh_X12_stretch dLaw_330 h (fun ls st S cs ss h => s_istore C0 dLaw_333 (by decide) h (fun ls st S cs ss h => s_aload_n C0 dLaw_335 rfl h (fun ls st S cs ss h => s_callV C0 E0 wl_1461 (by decide) kl_13.1 kl_13.2.1 wl_1458 wl_1459 wl_79 wl_1460 mh_X12_thrown dLaw_336 h (fun ls st S cs ss h => s_iload C0 dLaw_339 h (fun ls st S cs ss h => s_icmp_eq C0 dLaw_341 (by decide) h (fun ls st S cs ss h => s_iload C0 dLaw_346 h (fun ls st S cs ss h => s_if_ne C0 dLaw_348 (by decide) h (fun ls st S cs ss h => s_goto C0 dLaw_363 (by decide) h (fun ls st S cs ss h => h)) (fun ls st S cs ss h => s_aload_n C0 dLaw_351 rfl h (fun ls st S cs ss h => s_iconst (v := (0)) C0 dLaw_352 (by decide) h (fun ls st S cs ss h => s_lald C0 dLaw_353 h (fun ls st S cs ss h => s_iload C0 dLaw_354 h (fun ls st S cs ss h => s_i2l C0 dLaw_356 h (fun ls st S cs ss h => s_lcmp C0 dLaw_357 h (fun ls st S cs ss h => s_if_eq C0 dLaw_358 (by decide) h (fun ls st S cs ss h => s_goto C0 dLaw_363 (by decide) h (fun ls st S cs ss h => h)) (fun ls st S cs ss h => s_iconst (v := (0)) C0 dLaw_361 (by decide) h (fun ls st S cs ss h => s_lwret C0 L0 dLaw_362 h))))))))))) (fun ls st S cs ss h => s_iconst (v := (0)) C0 dLaw_344 (by decide) h (fun ls st S cs ss h => s_lwret C0 L0 dLaw_345 h))))))))))))))))))))))
set_option maxRecDepth 100000 in
theorem b_Law_366 (C0 : tk_C X code 8 R_law (tk_ws mX12_thrown)) (E0 : tk_E1 Z X d mc ms) (L0 : lwX X b L xs) (hTs : ∀ w ∈ tk_G, w ∈ tk_ws mX12_thrown) (E0rm : tk_rmIs X d mc ms) : ∀ ls st S cs ss, t_Law_366 Z d mc ms b L xs (tk_W X 8) ls st S cs ss → tk_W X 8 366 ls st S cs ss :=
  fun ls st S cs ss h => s_aload_n C0 dLaw_366 rfl h (fun ls st S cs ss h => s_aload_n C0 dLaw_367 rfl h (fun ls st S cs ss h => s_iload C0 dLaw_368 h (fun ls st S cs ss h => s_iconst (v := (1)) C0 dLaw_370 (by decide) h (fun ls st S cs ss h => s_iadd C0 dLaw_371 h (fun ls st S cs ss h => s_xld C0 L0 dLaw_372 h (fun ls st S cs ss h => s_aload_n C0 dLaw_373 rfl h (fun ls st S cs ss h => s_callW C0 hTs E0 wl_757 (by decide) wl_755 wl_756 wl_71 mh_L_gate dLaw_374 h (fun ls st S cs ss h => s_istore C0 dLaw_377 (by decide) h (fun ls st S cs ss h => s_aload_n C0 dLaw_379 rfl h (fun ls st S cs ss h => s_aload_n C0 dLaw_380 rfl h (fun ls st S cs ss h => s_iload C0 dLaw_381 h (fun ls st S cs ss h => s_iconst (v := (1)) C0 dLaw_383 (by decide) h (fun ls st S cs ss h => s_iadd C0 dLaw_384 h (fun ls st S cs ss h => s_xld C0 L0 dLaw_385 h (fun ls st S cs ss h => s_callV C0 E0 wl_1603 (by decide) kl_13.1 kl_13.2.1 wl_1600 wl_1601 wl_79 wl_1602 mh_X12_gate dLaw_386 h (fun ls st S cs ss h => s_istore C0 dLaw_389 (by decide) h (fun ls st S cs ss h => s_aload_n C0 dLaw_391 rfl h (fun ls st S cs ss h => s_callV C0 E0 wl_1461 (by decide) kl_13.1 kl_13.2.1 wl_1458 wl_1459 wl_79 wl_1460 mh_X12_thrown dLaw_392 h (fun ls st S cs ss h => s_iload C0 dLaw_395 h (fun ls st S cs ss h => s_icmp_eq C0 dLaw_397 (by decide) h (fun ls st S cs ss h => s_iload C0 dLaw_402 h (fun ls st S cs ss h => s_if_ne C0 dLaw_404 (by decide) h (fun ls st S cs ss h => s_goto C0 dLaw_419 (by decide) h (fun ls st S cs ss h => h)) (fun ls st S cs ss h => s_aload_n C0 dLaw_407 rfl h (fun ls st S cs ss h => s_iconst (v := (0)) C0 dLaw_408 (by decide) h (fun ls st S cs ss h => s_lald C0 dLaw_409 h (fun ls st S cs ss h => s_iload C0 dLaw_410 h (fun ls st S cs ss h => s_i2l C0 dLaw_412 h (fun ls st S cs ss h => s_lcmp C0 dLaw_413 h (fun ls st S cs ss h => s_if_eq C0 dLaw_414 (by decide) h (fun ls st S cs ss h => s_goto C0 dLaw_419 (by decide) h (fun ls st S cs ss h => h)) (fun ls st S cs ss h => s_iconst (v := (0)) C0 dLaw_417 (by decide) h (fun ls st S cs ss h => s_lwret C0 L0 dLaw_418 h))))))))))) (fun ls st S cs ss h => s_iconst (v := (0)) C0 dLaw_400 (by decide) h (fun ls st S cs ss h => s_lwret C0 L0 dLaw_401 h))))))))))))))))))))))
set_option maxRecDepth 100000 in
theorem b_Law_422 (C0 : tk_C X code 8 R_law (tk_ws mX12_thrown)) (E0 : tk_E1 Z X d mc ms) (L0 : lwX X b L xs) (hTs : ∀ w ∈ tk_G, w ∈ tk_ws mX12_thrown) (E0rm : tk_rmIs X d mc ms) : ∀ ls st S cs ss, t_Law_422 Z d mc ms b L xs (tk_W X 8) ls st S cs ss → tk_W X 8 422 ls st S cs ss :=
  fun ls st S cs ss h => s_aload_n C0 dLaw_422 rfl h (fun ls st S cs ss h => s_aload_n C0 dLaw_423 rfl h (fun ls st S cs ss h => s_iload C0 dLaw_424 h (fun ls st S cs ss h => s_iconst (v := (1)) C0 dLaw_426 (by decide) h (fun ls st S cs ss h => s_iadd C0 dLaw_427 h (fun ls st S cs ss h => s_xld C0 L0 dLaw_428 h (fun ls st S cs ss h => s_aload_n C0 dLaw_429 rfl h (fun ls st S cs ss h => s_iload C0 dLaw_430 h (fun ls st S cs ss h => s_iconst (v := (2)) C0 dLaw_432 (by decide) h (fun ls st S cs ss h => s_iadd C0 dLaw_433 h (fun ls st S cs ss h => s_xld C0 L0 dLaw_434 h (fun ls st S cs ss h => s_aload_n C0 dLaw_435 rfl h (fun ls st S cs ss h => s_iload C0 dLaw_436 h (fun ls st S cs ss h => s_iconst (v := (3)) C0 dLaw_438 (by decide) h (fun ls st S cs ss h => s_iadd C0 dLaw_439 h (fun ls st S cs ss h => s_xld C0 L0 dLaw_440 h (fun ls st S cs ss h => s_aload_n C0 dLaw_441 rfl h (fun ls st S cs ss h => s_iload C0 dLaw_442 h (fun ls st S cs ss h => s_iconst (v := (4)) C0 dLaw_444 (by decide) h (fun ls st S cs ss h => s_iadd C0 dLaw_445 h (fun ls st S cs ss h => s_xld C0 L0 dLaw_446 h (fun ls st S cs ss h => s_aload_n C0 dLaw_447 rfl h (fun ls st S cs ss h => s_callW C0 hTs E0 wl_839 (by decide) wl_837 wl_838 wl_71 mh_L_traveller dLaw_448 h (fun ls st S cs ss h => s_istore C0 dLaw_451 (by decide) h (fun ls st S cs ss h => s_aload_n C0 dLaw_453 rfl h (fun ls st S cs ss h => s_aload_n C0 dLaw_454 rfl h (fun ls st S cs ss h => s_iload C0 dLaw_455 h (fun ls st S cs ss h => s_iconst (v := (1)) C0 dLaw_457 (by decide) h (fun ls st S cs ss h => s_iadd C0 dLaw_458 h (fun ls st S cs ss h => s_xld C0 L0 dLaw_459 h (fun ls st S cs ss h => s_aload_n C0 dLaw_460 rfl h (fun ls st S cs ss h => s_iload C0 dLaw_461 h (fun ls st S cs ss h => s_iconst (v := (2)) C0 dLaw_463 (by decide) h (fun ls st S cs ss h => s_iadd C0 dLaw_464 h (fun ls st S cs ss h => s_xld C0 L0 dLaw_465 h (fun ls st S cs ss h => s_aload_n C0 dLaw_466 rfl h (fun ls st S cs ss h => s_iload C0 dLaw_467 h (fun ls st S cs ss h => s_iconst (v := (3)) C0 dLaw_469 (by decide) h (fun ls st S cs ss h => s_iadd C0 dLaw_470 h (fun ls st S cs ss h => s_xld C0 L0 dLaw_471 h (fun ls st S cs ss h => s_aload_n C0 dLaw_472 rfl h (fun ls st S cs ss h => s_iload C0 dLaw_473 h (fun ls st S cs ss h => s_iconst (v := (4)) C0 dLaw_475 (by decide) h (fun ls st S cs ss h => s_iadd C0 dLaw_476 h (fun ls st S cs ss h => s_xld C0 L0 dLaw_477 h (fun ls st S cs ss h => s_callV C0 E0 wl_1607 (by decide) kl_13.1 kl_13.2.1 wl_1604 wl_1605 wl_79 wl_1606 mh_X12_traveller dLaw_478 h (fun ls st S cs ss h => s_istore C0 dLaw_481 (by decide) h (fun ls st S cs ss h => s_aload_n C0 dLaw_483 rfl h (fun ls st S cs ss h => s_callV C0 E0 wl_1461 (by decide) kl_13.1 kl_13.2.1 wl_1458 wl_1459 wl_79 wl_1460 mh_X12_thrown dLaw_484 h (fun ls st S cs ss h => s_iload C0 dLaw_487 h (fun ls st S cs ss h => s_icmp_eq C0 dLaw_489 (by decide) h (fun ls st S cs ss h => s_iload C0 dLaw_494 h (fun ls st S cs ss h => s_if_ne C0 dLaw_496 (by decide) h (fun ls st S cs ss h => s_goto C0 dLaw_511 (by decide) h (fun ls st S cs ss h => h)) (fun ls st S cs ss h => s_aload_n C0 dLaw_499 rfl h (fun ls st S cs ss h => s_iconst (v := (0)) C0 dLaw_500 (by decide) h (fun ls st S cs ss h => s_lald C0 dLaw_501 h (fun ls st S cs ss h => s_iload C0 dLaw_502 h (fun ls st S cs ss h => s_i2l C0 dLaw_504 h (fun ls st S cs ss h => s_lcmp C0 dLaw_505 h (fun ls st S cs ss h => s_if_eq C0 dLaw_506 (by decide) h (fun ls st S cs ss h => s_goto C0 dLaw_511 (by decide) h (fun ls st S cs ss h => h)) (fun ls st S cs ss h => s_iconst (v := (0)) C0 dLaw_509 (by decide) h (fun ls st S cs ss h => s_lwret C0 L0 dLaw_510 h))))))))))) (fun ls st S cs ss h => s_iconst (v := (0)) C0 dLaw_492 (by decide) h (fun ls st S cs ss h => s_lwret C0 L0 dLaw_493 h))))))))))))))))))))))))))))))))))))))))))))))))))))
set_option maxRecDepth 100000 in
theorem b_Law_514 (C0 : tk_C X code 8 R_law (tk_ws mX12_thrown)) (E0 : tk_E1 Z X d mc ms) (L0 : lwX X b L xs) (hTs : ∀ w ∈ tk_G, w ∈ tk_ws mX12_thrown) (E0rm : tk_rmIs X d mc ms) : ∀ ls st S cs ss, t_Law_514 Z d mc ms b L xs (tk_W X 8) ls st S cs ss → tk_W X 8 514 ls st S cs ss :=
  fun ls st S cs ss h => s_aload_n C0 dLaw_514 rfl h (fun ls st S cs ss h => s_aload_n C0 dLaw_515 rfl h (fun ls st S cs ss h => s_iload C0 dLaw_516 h (fun ls st S cs ss h => s_iconst (v := (1)) C0 dLaw_518 (by decide) h (fun ls st S cs ss h => s_iadd C0 dLaw_519 h (fun ls st S cs ss h => s_xld C0 L0 dLaw_520 h (fun ls st S cs ss h => s_aload_n C0 dLaw_521 rfl h (fun ls st S cs ss h => s_iload C0 dLaw_522 h (fun ls st S cs ss h => s_iconst (v := (2)) C0 dLaw_524 (by decide) h (fun ls st S cs ss h => s_iadd C0 dLaw_525 h (fun ls st S cs ss h => s_xld C0 L0 dLaw_526 h (fun ls st S cs ss h => s_aload_n C0 dLaw_527 rfl h (fun ls st S cs ss h => s_callW C0 hTs E0 wl_884 (by decide) wl_882 wl_883 wl_71 mh_L_pass dLaw_528 h (fun ls st S cs ss h => s_istore C0 dLaw_531 (by decide) h (fun ls st S cs ss h => s_aload_n C0 dLaw_533 rfl h (fun ls st S cs ss h => s_aload_n C0 dLaw_534 rfl h (fun ls st S cs ss h => s_iload C0 dLaw_535 h (fun ls st S cs ss h => s_iconst (v := (1)) C0 dLaw_537 (by decide) h (fun ls st S cs ss h => s_iadd C0 dLaw_538 h (fun ls st S cs ss h => s_xld C0 L0 dLaw_539 h (fun ls st S cs ss h => s_aload_n C0 dLaw_540 rfl h (fun ls st S cs ss h => s_iload C0 dLaw_541 h (fun ls st S cs ss h => s_iconst (v := (2)) C0 dLaw_543 (by decide) h (fun ls st S cs ss h => s_iadd C0 dLaw_544 h (fun ls st S cs ss h => s_xld C0 L0 dLaw_545 h (fun ls st S cs ss h => s_callV C0 E0 wl_1611 (by decide) kl_13.1 kl_13.2.1 wl_1608 wl_1609 wl_79 wl_1610 mh_X12_pass dLaw_546 h (fun ls st S cs ss h => s_istore C0 dLaw_549 (by decide) h (fun ls st S cs ss h => s_aload_n C0 dLaw_551 rfl h (fun ls st S cs ss h => s_callV C0 E0 wl_1461 (by decide) kl_13.1 kl_13.2.1 wl_1458 wl_1459 wl_79 wl_1460 mh_X12_thrown dLaw_552 h (fun ls st S cs ss h => s_iload C0 dLaw_555 h (fun ls st S cs ss h => s_icmp_eq C0 dLaw_557 (by decide) h (fun ls st S cs ss h => s_iload C0 dLaw_562 h (fun ls st S cs ss h => s_if_ne C0 dLaw_564 (by decide) h (fun ls st S cs ss h => s_goto C0 dLaw_579 (by decide) h (fun ls st S cs ss h => h)) (fun ls st S cs ss h => s_aload_n C0 dLaw_567 rfl h (fun ls st S cs ss h => s_iconst (v := (0)) C0 dLaw_568 (by decide) h (fun ls st S cs ss h => s_lald C0 dLaw_569 h (fun ls st S cs ss h => s_iload C0 dLaw_570 h (fun ls st S cs ss h => s_i2l C0 dLaw_572 h (fun ls st S cs ss h => s_lcmp C0 dLaw_573 h (fun ls st S cs ss h => s_if_eq C0 dLaw_574 (by decide) h (fun ls st S cs ss h => s_goto C0 dLaw_579 (by decide) h (fun ls st S cs ss h => h)) (fun ls st S cs ss h => s_iconst (v := (0)) C0 dLaw_577 (by decide) h (fun ls st S cs ss h => s_lwret C0 L0 dLaw_578 h))))))))))) (fun ls st S cs ss h => s_iconst (v := (0)) C0 dLaw_560 (by decide) h (fun ls st S cs ss h => s_lwret C0 L0 dLaw_561 h))))))))))))))))))))))))))))))))
set_option maxRecDepth 100000 in
theorem b_Law_582 (C0 : tk_C X code 8 R_law (tk_ws mX12_thrown)) (E0 : tk_E1 Z X d mc ms) (L0 : lwX X b L xs) (hTs : ∀ w ∈ tk_G, w ∈ tk_ws mX12_thrown) (E0rm : tk_rmIs X d mc ms) : ∀ ls st S cs ss, t_Law_582 Z d mc ms b L xs (tk_W X 8) ls st S cs ss → tk_W X 8 582 ls st S cs ss :=
  fun ls st S cs ss h => s_aload_n C0 dLaw_582 rfl h (fun ls st S cs ss h => s_callV C0 E0 wl_296 (by decide) kl_12.1 kl_12.2.1 wl_293 wl_294 wl_72 wl_295 mh_X11_clause dLaw_583 h (fun ls st S cs ss h => s_aload_n C0 dLaw_586 rfl h (fun ls st S cs ss h => s_callV C0 E0 wl_1649 (by decide) kl_13.1 kl_13.2.1 wl_1646 wl_1647 wl_79 wl_1648 mh_X12_clause_ dLaw_587 h (fun ls st S cs ss h => s_icmp_eq C0 dLaw_590 (by decide) h (fun ls st S cs ss h => h) (fun ls st S cs ss h => s_iconst (v := (0)) C0 dLaw_593 (by decide) h (fun ls st S cs ss h => s_lwret C0 L0 dLaw_594 h))))))
set_option maxRecDepth 100000 in
theorem b_Law_595 (C0 : tk_C X code 8 R_law (tk_ws mX12_thrown)) (E0 : tk_E1 Z X d mc ms) (L0 : lwX X b L xs) (hTs : ∀ w ∈ tk_G, w ∈ tk_ws mX12_thrown) (E0rm : tk_rmIs X d mc ms) : ∀ ls st S cs ss, t_Law_595 Z d mc ms b L xs (tk_W X 8) ls st S cs ss → tk_W X 8 595 ls st S cs ss :=
  fun ls st S cs ss h => s_aload_n C0 dLaw_595 rfl h (fun ls st S cs ss h => s_aload_n C0 dLaw_596 rfl h (fun ls st S cs ss h => s_iload C0 dLaw_597 h (fun ls st S cs ss h => s_iconst (v := (1)) C0 dLaw_599 (by decide) h (fun ls st S cs ss h => s_iadd C0 dLaw_600 h (fun ls st S cs ss h => s_xld C0 L0 dLaw_601 h (fun ls st S cs ss h => s_aload_n C0 dLaw_602 rfl h (fun ls st S cs ss h => s_iload C0 dLaw_603 h (fun ls st S cs ss h => s_iconst (v := (2)) C0 dLaw_605 (by decide) h (fun ls st S cs ss h => s_iadd C0 dLaw_606 h (fun ls st S cs ss h => s_xld C0 L0 dLaw_607 h (fun ls st S cs ss h => s_aload_n C0 dLaw_608 rfl h (fun ls st S cs ss h => s_iload C0 dLaw_609 h (fun ls st S cs ss h => s_iconst (v := (3)) C0 dLaw_611 (by decide) h (fun ls st S cs ss h => s_iadd C0 dLaw_612 h (fun ls st S cs ss h => s_xld C0 L0 dLaw_613 h (fun ls st S cs ss h => s_aload_n C0 dLaw_614 rfl h (fun ls st S cs ss h => s_callW C0 hTs E0 wl_979 (by decide) wl_977 wl_978 wl_71 mh_L_asked dLaw_615 h (fun ls st S cs ss h => s_istore C0 dLaw_618 (by decide) h (fun ls st S cs ss h => s_aload_n C0 dLaw_620 rfl h (fun ls st S cs ss h => s_aload_n C0 dLaw_621 rfl h (fun ls st S cs ss h => s_iload C0 dLaw_622 h (fun ls st S cs ss h => s_iconst (v := (1)) C0 dLaw_624 (by decide) h (fun ls st S cs ss h => s_iadd C0 dLaw_625 h (fun ls st S cs ss h => s_xld C0 L0 dLaw_626 h (fun ls st S cs ss h => s_aload_n C0 dLaw_627 rfl h (fun ls st S cs ss h => s_iload C0 dLaw_628 h (fun ls st S cs ss h => s_iconst (v := (2)) C0 dLaw_630 (by decide) h (fun ls st S cs ss h => s_iadd C0 dLaw_631 h (fun ls st S cs ss h => s_xld C0 L0 dLaw_632 h (fun ls st S cs ss h => s_aload_n C0 dLaw_633 rfl h (fun ls st S cs ss h => s_iload C0 dLaw_634 h (fun ls st S cs ss h => s_iconst (v := (3)) C0 dLaw_636 (by decide) h (fun ls st S cs ss h => s_iadd C0 dLaw_637 h (fun ls st S cs ss h => s_xld C0 L0 dLaw_638 h (fun ls st S cs ss h => s_callV C0 E0 wl_1653 (by decide) kl_13.1 kl_13.2.1 wl_1650 wl_1651 wl_79 wl_1652 mh_X12_asked dLaw_639 h (fun ls st S cs ss h => s_istore C0 dLaw_642 (by decide) h (fun ls st S cs ss h => s_aload_n C0 dLaw_644 rfl h (fun ls st S cs ss h => s_callV C0 E0 wl_1461 (by decide) kl_13.1 kl_13.2.1 wl_1458 wl_1459 wl_79 wl_1460 mh_X12_thrown dLaw_645 h (fun ls st S cs ss h => s_iload C0 dLaw_648 h (fun ls st S cs ss h => s_icmp_eq C0 dLaw_650 (by decide) h (fun ls st S cs ss h => s_iload C0 dLaw_655 h (fun ls st S cs ss h => s_if_ne C0 dLaw_657 (by decide) h (fun ls st S cs ss h => s_goto C0 dLaw_672 (by decide) h (fun ls st S cs ss h => h)) (fun ls st S cs ss h => s_aload_n C0 dLaw_660 rfl h (fun ls st S cs ss h => s_iconst (v := (0)) C0 dLaw_661 (by decide) h (fun ls st S cs ss h => s_lald C0 dLaw_662 h (fun ls st S cs ss h => s_iload C0 dLaw_663 h (fun ls st S cs ss h => s_i2l C0 dLaw_665 h (fun ls st S cs ss h => s_lcmp C0 dLaw_666 h (fun ls st S cs ss h => s_if_eq C0 dLaw_667 (by decide) h (fun ls st S cs ss h => s_goto C0 dLaw_672 (by decide) h (fun ls st S cs ss h => h)) (fun ls st S cs ss h => s_iconst (v := (0)) C0 dLaw_670 (by decide) h (fun ls st S cs ss h => s_lwret C0 L0 dLaw_671 h))))))))))) (fun ls st S cs ss h => s_iconst (v := (0)) C0 dLaw_653 (by decide) h (fun ls st S cs ss h => s_lwret C0 L0 dLaw_654 h))))))))))))))))))))))))))))))))))))))))))
set_option maxRecDepth 100000 in
theorem b_Law_675 (C0 : tk_C X code 8 R_law (tk_ws mX12_thrown)) (E0 : tk_E1 Z X d mc ms) (L0 : lwX X b L xs) (hTs : ∀ w ∈ tk_G, w ∈ tk_ws mX12_thrown) (E0rm : tk_rmIs X d mc ms) : ∀ ls st S cs ss, t_Law_675 Z d mc ms b L xs (tk_W X 8) ls st S cs ss → tk_W X 8 675 ls st S cs ss :=
  fun ls st S cs ss h => s_aload_n C0 dLaw_675 rfl h (fun ls st S cs ss h => s_aload_n C0 dLaw_676 rfl h (fun ls st S cs ss h => s_iload C0 dLaw_677 h (fun ls st S cs ss h => s_iconst (v := (1)) C0 dLaw_679 (by decide) h (fun ls st S cs ss h => s_iadd C0 dLaw_680 h (fun ls st S cs ss h => s_xld C0 L0 dLaw_681 h (fun ls st S cs ss h => s_aload_n C0 dLaw_682 rfl h (fun ls st S cs ss h => s_callW C0 hTs E0 wl_987 (by decide) wl_985 wl_986 wl_71 mh_L_force dLaw_683 h (fun ls st S cs ss h => s_istore C0 dLaw_686 (by decide) h (fun ls st S cs ss h => s_aload_n C0 dLaw_688 rfl h (fun ls st S cs ss h => s_aload_n C0 dLaw_689 rfl h (fun ls st S cs ss h => s_iload C0 dLaw_690 h (fun ls st S cs ss h => s_iconst (v := (1)) C0 dLaw_692 (by decide) h (fun ls st S cs ss h => s_iadd C0 dLaw_693 h (fun ls st S cs ss h => s_xld C0 L0 dLaw_694 h (fun ls st S cs ss h => s_callV C0 E0 wl_1591 (by decide) kl_13.1 kl_13.2.1 wl_1588 wl_1589 wl_79 wl_1590 mh_X12_force dLaw_695 h (fun ls st S cs ss h => s_istore C0 dLaw_698 (by decide) h (fun ls st S cs ss h => s_aload_n C0 dLaw_700 rfl h (fun ls st S cs ss h => s_callV C0 E0 wl_1461 (by decide) kl_13.1 kl_13.2.1 wl_1458 wl_1459 wl_79 wl_1460 mh_X12_thrown dLaw_701 h (fun ls st S cs ss h => s_iload C0 dLaw_704 h (fun ls st S cs ss h => s_icmp_eq C0 dLaw_706 (by decide) h (fun ls st S cs ss h => s_iload C0 dLaw_711 h (fun ls st S cs ss h => s_if_ne C0 dLaw_713 (by decide) h (fun ls st S cs ss h => s_goto C0 dLaw_728 (by decide) h (fun ls st S cs ss h => h)) (fun ls st S cs ss h => s_aload_n C0 dLaw_716 rfl h (fun ls st S cs ss h => s_iconst (v := (0)) C0 dLaw_717 (by decide) h (fun ls st S cs ss h => s_lald C0 dLaw_718 h (fun ls st S cs ss h => s_iload C0 dLaw_719 h (fun ls st S cs ss h => s_i2l C0 dLaw_721 h (fun ls st S cs ss h => s_lcmp C0 dLaw_722 h (fun ls st S cs ss h => s_if_eq C0 dLaw_723 (by decide) h (fun ls st S cs ss h => s_goto C0 dLaw_728 (by decide) h (fun ls st S cs ss h => h)) (fun ls st S cs ss h => s_iconst (v := (0)) C0 dLaw_726 (by decide) h (fun ls st S cs ss h => s_lwret C0 L0 dLaw_727 h))))))))))) (fun ls st S cs ss h => s_iconst (v := (0)) C0 dLaw_709 (by decide) h (fun ls st S cs ss h => s_lwret C0 L0 dLaw_710 h))))))))))))))))))))))
set_option maxRecDepth 100000 in
theorem b_Law_731 (C0 : tk_C X code 8 R_law (tk_ws mX12_thrown)) (E0 : tk_E1 Z X d mc ms) (L0 : lwX X b L xs) (hTs : ∀ w ∈ tk_G, w ∈ tk_ws mX12_thrown) (E0rm : tk_rmIs X d mc ms) : ∀ ls st S cs ss, t_Law_731 Z d mc ms b L xs (tk_W X 8) ls st S cs ss → tk_W X 8 731 ls st S cs ss :=
  fun ls st S cs ss h => s_aload_n C0 dLaw_731 rfl h (fun ls st S cs ss h => s_aload_n C0 dLaw_732 rfl h (fun ls st S cs ss h => s_iload C0 dLaw_733 h (fun ls st S cs ss h => s_iconst (v := (1)) C0 dLaw_735 (by decide) h (fun ls st S cs ss h => s_iadd C0 dLaw_736 h (fun ls st S cs ss h => s_xld C0 L0 dLaw_737 h (fun ls st S cs ss h => s_aload_n C0 dLaw_738 rfl h (fun ls st S cs ss h => s_callW C0 hTs E0 wl_995 (by decide) wl_993 wl_994 wl_71 mh_L_wait dLaw_739 h (fun ls st S cs ss h => s_istore C0 dLaw_742 (by decide) h (fun ls st S cs ss h => s_aload_n C0 dLaw_744 rfl h (fun ls st S cs ss h => s_aload_n C0 dLaw_745 rfl h (fun ls st S cs ss h => s_iload C0 dLaw_746 h (fun ls st S cs ss h => s_iconst (v := (1)) C0 dLaw_748 (by decide) h (fun ls st S cs ss h => s_iadd C0 dLaw_749 h (fun ls st S cs ss h => s_xld C0 L0 dLaw_750 h (fun ls st S cs ss h => s_callV C0 E0 wl_1694 (by decide) kl_13.1 kl_13.2.1 wl_1691 wl_1692 wl_79 wl_1693 mh_X12_wait dLaw_751 h (fun ls st S cs ss h => s_istore C0 dLaw_754 (by decide) h (fun ls st S cs ss h => s_aload_n C0 dLaw_756 rfl h (fun ls st S cs ss h => s_callV C0 E0 wl_1461 (by decide) kl_13.1 kl_13.2.1 wl_1458 wl_1459 wl_79 wl_1460 mh_X12_thrown dLaw_757 h (fun ls st S cs ss h => s_iload C0 dLaw_760 h (fun ls st S cs ss h => s_icmp_eq C0 dLaw_762 (by decide) h (fun ls st S cs ss h => s_iload C0 dLaw_767 h (fun ls st S cs ss h => s_if_ne C0 dLaw_769 (by decide) h (fun ls st S cs ss h => s_goto C0 dLaw_784 (by decide) h (fun ls st S cs ss h => h)) (fun ls st S cs ss h => s_aload_n C0 dLaw_772 rfl h (fun ls st S cs ss h => s_iconst (v := (0)) C0 dLaw_773 (by decide) h (fun ls st S cs ss h => s_lald C0 dLaw_774 h (fun ls st S cs ss h => s_iload C0 dLaw_775 h (fun ls st S cs ss h => s_i2l C0 dLaw_777 h (fun ls st S cs ss h => s_lcmp C0 dLaw_778 h (fun ls st S cs ss h => s_if_eq C0 dLaw_779 (by decide) h (fun ls st S cs ss h => s_goto C0 dLaw_784 (by decide) h (fun ls st S cs ss h => h)) (fun ls st S cs ss h => s_iconst (v := (0)) C0 dLaw_782 (by decide) h (fun ls st S cs ss h => s_lwret C0 L0 dLaw_783 h))))))))))) (fun ls st S cs ss h => s_iconst (v := (0)) C0 dLaw_765 (by decide) h (fun ls st S cs ss h => s_lwret C0 L0 dLaw_766 h))))))))))))))))))))))
set_option maxRecDepth 100000 in
theorem b_Law_787 (C0 : tk_C X code 8 R_law (tk_ws mX12_thrown)) (E0 : tk_E1 Z X d mc ms) (L0 : lwX X b L xs) (hTs : ∀ w ∈ tk_G, w ∈ tk_ws mX12_thrown) (E0rm : tk_rmIs X d mc ms) : ∀ ls st S cs ss, t_Law_787 Z d mc ms b L xs (tk_W X 8) ls st S cs ss → tk_W X 8 787 ls st S cs ss :=
  fun ls st S cs ss h => s_aload_n C0 dLaw_787 rfl h (fun ls st S cs ss h => s_aload_n C0 dLaw_788 rfl h (fun ls st S cs ss h => s_iload C0 dLaw_789 h (fun ls st S cs ss h => s_iconst (v := (1)) C0 dLaw_791 (by decide) h (fun ls st S cs ss h => s_iadd C0 dLaw_792 h (fun ls st S cs ss h => s_xld C0 L0 dLaw_793 h (fun ls st S cs ss h => s_callW C0 hTs E0 wl_1049 (by decide) wl_1047 wl_1048 wl_71 mh_L_rain dLaw_794 h (fun ls st S cs ss h => s_istore C0 dLaw_797 (by decide) h (fun ls st S cs ss h => s_aload_n C0 dLaw_799 rfl h (fun ls st S cs ss h => s_aload_n C0 dLaw_800 rfl h (fun ls st S cs ss h => s_iload C0 dLaw_801 h (fun ls st S cs ss h => s_iconst (v := (1)) C0 dLaw_803 (by decide) h (fun ls st S cs ss h => s_iadd C0 dLaw_804 h (fun ls st S cs ss h => s_xld C0 L0 dLaw_805 h (fun ls st S cs ss h => s_callV C0 E0 wl_1707 (by decide) kl_13.1 kl_13.2.1 wl_1704 wl_1705 wl_79 wl_1706 mh_X12_rain dLaw_806 h (fun ls st S cs ss h => s_aload_n C0 dLaw_809 rfl h (fun ls st S cs ss h => s_callV C0 E0 wl_1461 (by decide) kl_13.1 kl_13.2.1 wl_1458 wl_1459 wl_79 wl_1460 mh_X12_thrown dLaw_810 h (fun ls st S cs ss h => s_iload C0 dLaw_813 h (fun ls st S cs ss h => s_icmp_eq C0 dLaw_815 (by decide) h (fun ls st S cs ss h => s_goto C0 dLaw_820 (by decide) h (fun ls st S cs ss h => h)) (fun ls st S cs ss h => s_iconst (v := (0)) C0 dLaw_818 (by decide) h (fun ls st S cs ss h => s_lwret C0 L0 dLaw_819 h))))))))))))))))))))
set_option maxRecDepth 100000 in
theorem b_Law_823 (C0 : tk_C X code 8 R_law (tk_ws mX12_thrown)) (E0 : tk_E1 Z X d mc ms) (L0 : lwX X b L xs) (hTs : ∀ w ∈ tk_G, w ∈ tk_ws mX12_thrown) (E0rm : tk_rmIs X d mc ms) : ∀ ls st S cs ss, t_Law_823 Z d mc ms b L xs (tk_W X 8) ls st S cs ss → tk_W X 8 823 ls st S cs ss :=
  fun ls st S cs ss h => s_aload_n C0 dLaw_823 rfl h (fun ls st S cs ss h => s_aload_n C0 dLaw_824 rfl h (fun ls st S cs ss h => s_iload C0 dLaw_825 h (fun ls st S cs ss h => s_iconst (v := (1)) C0 dLaw_827 (by decide) h (fun ls st S cs ss h => s_iadd C0 dLaw_828 h (fun ls st S cs ss h => s_xld C0 L0 dLaw_829 h (fun ls st S cs ss h => s_aload_n C0 dLaw_830 rfl h (fun ls st S cs ss h => s_callW C0 hTs E0 wl_1057 (by decide) wl_1055 wl_1056 wl_71 mh_L_mend dLaw_831 h (fun ls st S cs ss h => s_istore C0 dLaw_834 (by decide) h (fun ls st S cs ss h => s_aload_n C0 dLaw_836 rfl h (fun ls st S cs ss h => s_aload_n C0 dLaw_837 rfl h (fun ls st S cs ss h => s_iload C0 dLaw_838 h (fun ls st S cs ss h => s_iconst (v := (1)) C0 dLaw_840 (by decide) h (fun ls st S cs ss h => s_iadd C0 dLaw_841 h (fun ls st S cs ss h => s_xld C0 L0 dLaw_842 h (fun ls st S cs ss h => s_callV C0 E0 wl_1711 (by decide) kl_13.1 kl_13.2.1 wl_1708 wl_1709 wl_79 wl_1710 mh_X12_mend dLaw_843 h (fun ls st S cs ss h => s_istore C0 dLaw_846 (by decide) h (fun ls st S cs ss h => s_aload_n C0 dLaw_848 rfl h (fun ls st S cs ss h => s_callV C0 E0 wl_1461 (by decide) kl_13.1 kl_13.2.1 wl_1458 wl_1459 wl_79 wl_1460 mh_X12_thrown dLaw_849 h (fun ls st S cs ss h => s_iload C0 dLaw_852 h (fun ls st S cs ss h => s_icmp_eq C0 dLaw_854 (by decide) h (fun ls st S cs ss h => s_iload C0 dLaw_859 h (fun ls st S cs ss h => s_if_ne C0 dLaw_861 (by decide) h (fun ls st S cs ss h => s_goto C0 dLaw_876 (by decide) h (fun ls st S cs ss h => h)) (fun ls st S cs ss h => s_aload_n C0 dLaw_864 rfl h (fun ls st S cs ss h => s_iconst (v := (0)) C0 dLaw_865 (by decide) h (fun ls st S cs ss h => s_lald C0 dLaw_866 h (fun ls st S cs ss h => s_iload C0 dLaw_867 h (fun ls st S cs ss h => s_i2l C0 dLaw_869 h (fun ls st S cs ss h => s_lcmp C0 dLaw_870 h (fun ls st S cs ss h => s_if_eq C0 dLaw_871 (by decide) h (fun ls st S cs ss h => s_goto C0 dLaw_876 (by decide) h (fun ls st S cs ss h => h)) (fun ls st S cs ss h => s_iconst (v := (0)) C0 dLaw_874 (by decide) h (fun ls st S cs ss h => s_lwret C0 L0 dLaw_875 h))))))))))) (fun ls st S cs ss h => s_iconst (v := (0)) C0 dLaw_857 (by decide) h (fun ls st S cs ss h => s_lwret C0 L0 dLaw_858 h))))))))))))))))))))))
set_option maxRecDepth 100000 in
theorem b_Law_879 (C0 : tk_C X code 8 R_law (tk_ws mX12_thrown)) (E0 : tk_E1 Z X d mc ms) (L0 : lwX X b L xs) (hTs : ∀ w ∈ tk_G, w ∈ tk_ws mX12_thrown) (E0rm : tk_rmIs X d mc ms) : ∀ ls st S cs ss, t_Law_879 Z d mc ms b L xs (tk_W X 8) ls st S cs ss → tk_W X 8 879 ls st S cs ss :=
  fun ls st S cs ss h => s_aload_n C0 dLaw_879 rfl h (fun ls st S cs ss h => s_aload_n C0 dLaw_880 rfl h (fun ls st S cs ss h => s_iload C0 dLaw_881 h (fun ls st S cs ss h => s_iconst (v := (1)) C0 dLaw_883 (by decide) h (fun ls st S cs ss h => s_iadd C0 dLaw_884 h (fun ls st S cs ss h => s_xld C0 L0 dLaw_885 h (fun ls st S cs ss h => s_aload_n C0 dLaw_886 rfl h (fun ls st S cs ss h => s_callW C0 hTs E0 wl_1080 (by decide) wl_1078 wl_1079 wl_71 mh_L_farmer dLaw_887 h (fun ls st S cs ss h => s_istore C0 dLaw_890 (by decide) h (fun ls st S cs ss h => s_aload_n C0 dLaw_892 rfl h (fun ls st S cs ss h => s_aload_n C0 dLaw_893 rfl h (fun ls st S cs ss h => s_iload C0 dLaw_894 h (fun ls st S cs ss h => s_iconst (v := (1)) C0 dLaw_896 (by decide) h (fun ls st S cs ss h => s_iadd C0 dLaw_897 h (fun ls st S cs ss h => s_xld C0 L0 dLaw_898 h (fun ls st S cs ss h => s_callV C0 E0 wl_1657 (by decide) kl_13.1 kl_13.2.1 wl_1654 wl_1655 wl_79 wl_1656 mh_X12_farmer dLaw_899 h (fun ls st S cs ss h => s_istore C0 dLaw_902 (by decide) h (fun ls st S cs ss h => s_aload_n C0 dLaw_904 rfl h (fun ls st S cs ss h => s_callV C0 E0 wl_1461 (by decide) kl_13.1 kl_13.2.1 wl_1458 wl_1459 wl_79 wl_1460 mh_X12_thrown dLaw_905 h (fun ls st S cs ss h => s_iload C0 dLaw_908 h (fun ls st S cs ss h => s_icmp_eq C0 dLaw_910 (by decide) h (fun ls st S cs ss h => s_iload C0 dLaw_915 h (fun ls st S cs ss h => s_if_ne C0 dLaw_917 (by decide) h (fun ls st S cs ss h => s_goto C0 dLaw_932 (by decide) h (fun ls st S cs ss h => h)) (fun ls st S cs ss h => s_aload_n C0 dLaw_920 rfl h (fun ls st S cs ss h => s_iconst (v := (0)) C0 dLaw_921 (by decide) h (fun ls st S cs ss h => s_lald C0 dLaw_922 h (fun ls st S cs ss h => s_iload C0 dLaw_923 h (fun ls st S cs ss h => s_i2l C0 dLaw_925 h (fun ls st S cs ss h => s_lcmp C0 dLaw_926 h (fun ls st S cs ss h => s_if_eq C0 dLaw_927 (by decide) h (fun ls st S cs ss h => s_goto C0 dLaw_932 (by decide) h (fun ls st S cs ss h => h)) (fun ls st S cs ss h => s_iconst (v := (0)) C0 dLaw_930 (by decide) h (fun ls st S cs ss h => s_lwret C0 L0 dLaw_931 h))))))))))) (fun ls st S cs ss h => s_iconst (v := (0)) C0 dLaw_913 (by decide) h (fun ls st S cs ss h => s_lwret C0 L0 dLaw_914 h))))))))))))))))))))))
set_option maxRecDepth 100000 in
theorem b_Law_935 (C0 : tk_C X code 8 R_law (tk_ws mX12_thrown)) (E0 : tk_E1 Z X d mc ms) (L0 : lwX X b L xs) (hTs : ∀ w ∈ tk_G, w ∈ tk_ws mX12_thrown) (E0rm : tk_rmIs X d mc ms) : ∀ ls st S cs ss, t_Law_935 Z d mc ms b L xs (tk_W X 8) ls st S cs ss → tk_W X 8 935 ls st S cs ss :=
  fun ls st S cs ss h => s_aload_n C0 dLaw_935 rfl h (fun ls st S cs ss h => s_aload_n C0 dLaw_936 rfl h (fun ls st S cs ss h => s_iload C0 dLaw_937 h (fun ls st S cs ss h => s_iconst (v := (1)) C0 dLaw_939 (by decide) h (fun ls st S cs ss h => s_iadd C0 dLaw_940 h (fun ls st S cs ss h => s_xld C0 L0 dLaw_941 h (fun ls st S cs ss h => s_aload_n C0 dLaw_942 rfl h (fun ls st S cs ss h => s_iload C0 dLaw_943 h (fun ls st S cs ss h => s_iconst (v := (2)) C0 dLaw_945 (by decide) h (fun ls st S cs ss h => s_iadd C0 dLaw_946 h (fun ls st S cs ss h => s_xld C0 L0 dLaw_947 h (fun ls st S cs ss h => s_aload_n C0 dLaw_948 rfl h (fun ls st S cs ss h => s_iload C0 dLaw_949 h (fun ls st S cs ss h => s_iconst (v := (3)) C0 dLaw_951 (by decide) h (fun ls st S cs ss h => s_iadd C0 dLaw_952 h (fun ls st S cs ss h => s_xld C0 L0 dLaw_953 h (fun ls st S cs ss h => s_aload_n C0 dLaw_954 rfl h (fun ls st S cs ss h => s_iload C0 dLaw_955 h (fun ls st S cs ss h => s_iconst (v := (4)) C0 dLaw_957 (by decide) h (fun ls st S cs ss h => s_iadd C0 dLaw_958 h (fun ls st S cs ss h => s_xld C0 L0 dLaw_959 h (fun ls st S cs ss h => s_aload_n C0 dLaw_960 rfl h (fun ls st S cs ss h => s_callW C0 hTs E0 wl_1107 (by decide) wl_1105 wl_1106 wl_71 mh_L_bid dLaw_961 h (fun ls st S cs ss h => s_istore C0 dLaw_964 (by decide) h (fun ls st S cs ss h => s_aload_n C0 dLaw_966 rfl h (fun ls st S cs ss h => s_aload_n C0 dLaw_967 rfl h (fun ls st S cs ss h => s_iload C0 dLaw_968 h (fun ls st S cs ss h => s_iconst (v := (1)) C0 dLaw_970 (by decide) h (fun ls st S cs ss h => s_iadd C0 dLaw_971 h (fun ls st S cs ss h => s_xld C0 L0 dLaw_972 h (fun ls st S cs ss h => s_aload_n C0 dLaw_973 rfl h (fun ls st S cs ss h => s_iload C0 dLaw_974 h (fun ls st S cs ss h => s_iconst (v := (2)) C0 dLaw_976 (by decide) h (fun ls st S cs ss h => s_iadd C0 dLaw_977 h (fun ls st S cs ss h => s_xld C0 L0 dLaw_978 h (fun ls st S cs ss h => s_aload_n C0 dLaw_979 rfl h (fun ls st S cs ss h => s_iload C0 dLaw_980 h (fun ls st S cs ss h => s_iconst (v := (3)) C0 dLaw_982 (by decide) h (fun ls st S cs ss h => s_iadd C0 dLaw_983 h (fun ls st S cs ss h => s_xld C0 L0 dLaw_984 h (fun ls st S cs ss h => s_aload_n C0 dLaw_985 rfl h (fun ls st S cs ss h => s_iload C0 dLaw_986 h (fun ls st S cs ss h => s_iconst (v := (4)) C0 dLaw_988 (by decide) h (fun ls st S cs ss h => s_iadd C0 dLaw_989 h (fun ls st S cs ss h => s_xld C0 L0 dLaw_990 h (fun ls st S cs ss h => s_callV C0 E0 wl_1662 (by decide) kl_13.1 kl_13.2.1 wl_1659 wl_1660 wl_79 wl_1661 mh_X12_bid dLaw_991 h (fun ls st S cs ss h => s_istore C0 dLaw_994 (by decide) h (fun ls st S cs ss h => s_aload_n C0 dLaw_996 rfl h (fun ls st S cs ss h => s_callV C0 E0 wl_1461 (by decide) kl_13.1 kl_13.2.1 wl_1458 wl_1459 wl_79 wl_1460 mh_X12_thrown dLaw_997 h (fun ls st S cs ss h => s_iload C0 dLaw_1000 h (fun ls st S cs ss h => s_icmp_eq C0 dLaw_1002 (by decide) h (fun ls st S cs ss h => s_iload C0 dLaw_1007 h (fun ls st S cs ss h => s_if_ne C0 dLaw_1009 (by decide) h (fun ls st S cs ss h => s_goto C0 dLaw_1024 (by decide) h (fun ls st S cs ss h => h)) (fun ls st S cs ss h => s_aload_n C0 dLaw_1012 rfl h (fun ls st S cs ss h => s_iconst (v := (0)) C0 dLaw_1013 (by decide) h (fun ls st S cs ss h => s_lald C0 dLaw_1014 h (fun ls st S cs ss h => s_iload C0 dLaw_1015 h (fun ls st S cs ss h => s_i2l C0 dLaw_1017 h (fun ls st S cs ss h => s_lcmp C0 dLaw_1018 h (fun ls st S cs ss h => s_if_eq C0 dLaw_1019 (by decide) h (fun ls st S cs ss h => s_goto C0 dLaw_1024 (by decide) h (fun ls st S cs ss h => h)) (fun ls st S cs ss h => s_iconst (v := (0)) C0 dLaw_1022 (by decide) h (fun ls st S cs ss h => s_lwret C0 L0 dLaw_1023 h))))))))))) (fun ls st S cs ss h => s_iconst (v := (0)) C0 dLaw_1005 (by decide) h (fun ls st S cs ss h => s_lwret C0 L0 dLaw_1006 h))))))))))))))))))))))))))))))))))))))))))))))))))))
set_option maxRecDepth 100000 in
theorem b_Law_1027 (C0 : tk_C X code 8 R_law (tk_ws mX12_thrown)) (E0 : tk_E1 Z X d mc ms) (L0 : lwX X b L xs) (hTs : ∀ w ∈ tk_G, w ∈ tk_ws mX12_thrown) (E0rm : tk_rmIs X d mc ms) : ∀ ls st S cs ss, t_Law_1027 Z d mc ms b L xs (tk_W X 8) ls st S cs ss → tk_W X 8 1027 ls st S cs ss :=
  fun ls st S cs ss h => s_aload_n C0 dLaw_1027 rfl h (fun ls st S cs ss h => s_aload_n C0 dLaw_1028 rfl h (fun ls st S cs ss h => s_iload C0 dLaw_1029 h (fun ls st S cs ss h => s_iconst (v := (1)) C0 dLaw_1031 (by decide) h (fun ls st S cs ss h => s_iadd C0 dLaw_1032 h (fun ls st S cs ss h => s_xld C0 L0 dLaw_1033 h (fun ls st S cs ss h => s_aload_n C0 dLaw_1034 rfl h (fun ls st S cs ss h => s_iload C0 dLaw_1035 h (fun ls st S cs ss h => s_iconst (v := (2)) C0 dLaw_1037 (by decide) h (fun ls st S cs ss h => s_iadd C0 dLaw_1038 h (fun ls st S cs ss h => s_xld C0 L0 dLaw_1039 h (fun ls st S cs ss h => s_aload_n C0 dLaw_1040 rfl h (fun ls st S cs ss h => s_callW C0 hTs E0 wl_1138 (by decide) wl_1136 wl_1137 wl_71 mh_L_let dLaw_1041 h (fun ls st S cs ss h => s_istore C0 dLaw_1044 (by decide) h (fun ls st S cs ss h => s_aload_n C0 dLaw_1046 rfl h (fun ls st S cs ss h => s_aload_n C0 dLaw_1047 rfl h (fun ls st S cs ss h => s_iload C0 dLaw_1048 h (fun ls st S cs ss h => s_iconst (v := (1)) C0 dLaw_1050 (by decide) h (fun ls st S cs ss h => s_iadd C0 dLaw_1051 h (fun ls st S cs ss h => s_xld C0 L0 dLaw_1052 h (fun ls st S cs ss h => s_aload_n C0 dLaw_1053 rfl h (fun ls st S cs ss h => s_iload C0 dLaw_1054 h (fun ls st S cs ss h => s_iconst (v := (2)) C0 dLaw_1056 (by decide) h (fun ls st S cs ss h => s_iadd C0 dLaw_1057 h (fun ls st S cs ss h => s_xld C0 L0 dLaw_1058 h (fun ls st S cs ss h => s_callV C0 E0 wl_1670 (by decide) kl_13.1 kl_13.2.1 wl_1667 wl_1668 wl_79 wl_1669 mh_X12_let dLaw_1059 h (fun ls st S cs ss h => s_istore C0 dLaw_1062 (by decide) h (fun ls st S cs ss h => s_aload_n C0 dLaw_1064 rfl h (fun ls st S cs ss h => s_callV C0 E0 wl_1461 (by decide) kl_13.1 kl_13.2.1 wl_1458 wl_1459 wl_79 wl_1460 mh_X12_thrown dLaw_1065 h (fun ls st S cs ss h => s_iload C0 dLaw_1068 h (fun ls st S cs ss h => s_icmp_eq C0 dLaw_1070 (by decide) h (fun ls st S cs ss h => s_iload C0 dLaw_1075 h (fun ls st S cs ss h => s_if_ne C0 dLaw_1077 (by decide) h (fun ls st S cs ss h => s_goto C0 dLaw_1092 (by decide) h (fun ls st S cs ss h => h)) (fun ls st S cs ss h => s_aload_n C0 dLaw_1080 rfl h (fun ls st S cs ss h => s_iconst (v := (0)) C0 dLaw_1081 (by decide) h (fun ls st S cs ss h => s_lald C0 dLaw_1082 h (fun ls st S cs ss h => s_iload C0 dLaw_1083 h (fun ls st S cs ss h => s_i2l C0 dLaw_1085 h (fun ls st S cs ss h => s_lcmp C0 dLaw_1086 h (fun ls st S cs ss h => s_if_eq C0 dLaw_1087 (by decide) h (fun ls st S cs ss h => s_goto C0 dLaw_1092 (by decide) h (fun ls st S cs ss h => h)) (fun ls st S cs ss h => s_iconst (v := (0)) C0 dLaw_1090 (by decide) h (fun ls st S cs ss h => s_lwret C0 L0 dLaw_1091 h))))))))))) (fun ls st S cs ss h => s_iconst (v := (0)) C0 dLaw_1073 (by decide) h (fun ls st S cs ss h => s_lwret C0 L0 dLaw_1074 h))))))))))))))))))))))))))))))))
set_option maxRecDepth 100000 in
theorem b_Law_1095 (C0 : tk_C X code 8 R_law (tk_ws mX12_thrown)) (E0 : tk_E1 Z X d mc ms) (L0 : lwX X b L xs) (hTs : ∀ w ∈ tk_G, w ∈ tk_ws mX12_thrown) (E0rm : tk_rmIs X d mc ms) : ∀ ls st S cs ss, t_Law_1095 Z d mc ms b L xs (tk_W X 8) ls st S cs ss → tk_W X 8 1095 ls st S cs ss :=
  fun ls st S cs ss h => s_aload_n C0 dLaw_1095 rfl h (fun ls st S cs ss h => s_aload_n C0 dLaw_1096 rfl h (fun ls st S cs ss h => s_iload C0 dLaw_1097 h (fun ls st S cs ss h => s_iconst (v := (1)) C0 dLaw_1099 (by decide) h (fun ls st S cs ss h => s_iadd C0 dLaw_1100 h (fun ls st S cs ss h => s_xld C0 L0 dLaw_1101 h (fun ls st S cs ss h => s_aload_n C0 dLaw_1102 rfl h (fun ls st S cs ss h => s_iload C0 dLaw_1103 h (fun ls st S cs ss h => s_iconst (v := (2)) C0 dLaw_1105 (by decide) h (fun ls st S cs ss h => s_iadd C0 dLaw_1106 h (fun ls st S cs ss h => s_xld C0 L0 dLaw_1107 h (fun ls st S cs ss h => s_aload_n C0 dLaw_1108 rfl h (fun ls st S cs ss h => s_callW C0 hTs E0 wl_1166 (by decide) wl_1164 wl_1165 wl_71 mh_L_gateTold dLaw_1109 h (fun ls st S cs ss h => s_istore C0 dLaw_1112 (by decide) h (fun ls st S cs ss h => s_aload_n C0 dLaw_1114 rfl h (fun ls st S cs ss h => s_aload_n C0 dLaw_1115 rfl h (fun ls st S cs ss h => s_iload C0 dLaw_1116 h (fun ls st S cs ss h => s_iconst (v := (1)) C0 dLaw_1118 (by decide) h (fun ls st S cs ss h => s_iadd C0 dLaw_1119 h (fun ls st S cs ss h => s_xld C0 L0 dLaw_1120 h (fun ls st S cs ss h => s_aload_n C0 dLaw_1121 rfl h (fun ls st S cs ss h => s_iload C0 dLaw_1122 h (fun ls st S cs ss h => s_iconst (v := (2)) C0 dLaw_1124 (by decide) h (fun ls st S cs ss h => s_iadd C0 dLaw_1125 h (fun ls st S cs ss h => s_xld C0 L0 dLaw_1126 h (fun ls st S cs ss h => s_callV C0 E0 wl_1678 (by decide) kl_13.1 kl_13.2.1 wl_1675 wl_1676 wl_79 wl_1677 mh_X12_gateTold dLaw_1127 h (fun ls st S cs ss h => s_istore C0 dLaw_1130 (by decide) h (fun ls st S cs ss h => s_aload_n C0 dLaw_1132 rfl h (fun ls st S cs ss h => s_callV C0 E0 wl_1461 (by decide) kl_13.1 kl_13.2.1 wl_1458 wl_1459 wl_79 wl_1460 mh_X12_thrown dLaw_1133 h (fun ls st S cs ss h => s_iload C0 dLaw_1136 h (fun ls st S cs ss h => s_icmp_eq C0 dLaw_1138 (by decide) h (fun ls st S cs ss h => s_iload C0 dLaw_1143 h (fun ls st S cs ss h => s_if_ne C0 dLaw_1145 (by decide) h (fun ls st S cs ss h => s_goto C0 dLaw_1160 (by decide) h (fun ls st S cs ss h => h)) (fun ls st S cs ss h => s_aload_n C0 dLaw_1148 rfl h (fun ls st S cs ss h => s_iconst (v := (0)) C0 dLaw_1149 (by decide) h (fun ls st S cs ss h => s_lald C0 dLaw_1150 h (fun ls st S cs ss h => s_iload C0 dLaw_1151 h (fun ls st S cs ss h => s_i2l C0 dLaw_1153 h (fun ls st S cs ss h => s_lcmp C0 dLaw_1154 h (fun ls st S cs ss h => s_if_eq C0 dLaw_1155 (by decide) h (fun ls st S cs ss h => s_goto C0 dLaw_1160 (by decide) h (fun ls st S cs ss h => h)) (fun ls st S cs ss h => s_iconst (v := (0)) C0 dLaw_1158 (by decide) h (fun ls st S cs ss h => s_lwret C0 L0 dLaw_1159 h))))))))))) (fun ls st S cs ss h => s_iconst (v := (0)) C0 dLaw_1141 (by decide) h (fun ls st S cs ss h => s_lwret C0 L0 dLaw_1142 h))))))))))))))))))))))))))))))))
set_option maxRecDepth 100000 in
theorem b_Law_1163 (C0 : tk_C X code 8 R_law (tk_ws mX12_thrown)) (E0 : tk_E1 Z X d mc ms) (L0 : lwX X b L xs) (hTs : ∀ w ∈ tk_G, w ∈ tk_ws mX12_thrown) (E0rm : tk_rmIs X d mc ms) : ∀ ls st S cs ss, t_Law_1163 Z d mc ms b L xs (tk_W X 8) ls st S cs ss → tk_W X 8 1163 ls st S cs ss :=
  fun ls st S cs ss h => s_aload_n C0 dLaw_1163 rfl h (fun ls st S cs ss h => s_aload_n C0 dLaw_1164 rfl h (fun ls st S cs ss h => s_iload C0 dLaw_1165 h (fun ls st S cs ss h => s_iconst (v := (1)) C0 dLaw_1167 (by decide) h (fun ls st S cs ss h => s_iadd C0 dLaw_1168 h (fun ls st S cs ss h => s_xld C0 L0 dLaw_1169 h (fun ls st S cs ss h => s_aload_n C0 dLaw_1170 rfl h (fun ls st S cs ss h => s_iload C0 dLaw_1171 h (fun ls st S cs ss h => s_iconst (v := (2)) C0 dLaw_1173 (by decide) h (fun ls st S cs ss h => s_iadd C0 dLaw_1174 h (fun ls st S cs ss h => s_xld C0 L0 dLaw_1175 h (fun ls st S cs ss h => s_aload_n C0 dLaw_1176 rfl h (fun ls st S cs ss h => s_iload C0 dLaw_1177 h (fun ls st S cs ss h => s_iconst (v := (3)) C0 dLaw_1179 (by decide) h (fun ls st S cs ss h => s_iadd C0 dLaw_1180 h (fun ls st S cs ss h => s_xld C0 L0 dLaw_1181 h (fun ls st S cs ss h => s_aload_n C0 dLaw_1182 rfl h (fun ls st S cs ss h => s_callW C0 hTs E0 wl_1174 (by decide) wl_1172 wl_1173 wl_71 mh_L_borrow dLaw_1183 h (fun ls st S cs ss h => s_istore C0 dLaw_1186 (by decide) h (fun ls st S cs ss h => s_aload_n C0 dLaw_1188 rfl h (fun ls st S cs ss h => s_aload_n C0 dLaw_1189 rfl h (fun ls st S cs ss h => s_iload C0 dLaw_1190 h (fun ls st S cs ss h => s_iconst (v := (1)) C0 dLaw_1192 (by decide) h (fun ls st S cs ss h => s_iadd C0 dLaw_1193 h (fun ls st S cs ss h => s_xld C0 L0 dLaw_1194 h (fun ls st S cs ss h => s_aload_n C0 dLaw_1195 rfl h (fun ls st S cs ss h => s_iload C0 dLaw_1196 h (fun ls st S cs ss h => s_iconst (v := (2)) C0 dLaw_1198 (by decide) h (fun ls st S cs ss h => s_iadd C0 dLaw_1199 h (fun ls st S cs ss h => s_xld C0 L0 dLaw_1200 h (fun ls st S cs ss h => s_aload_n C0 dLaw_1201 rfl h (fun ls st S cs ss h => s_iload C0 dLaw_1202 h (fun ls st S cs ss h => s_iconst (v := (3)) C0 dLaw_1204 (by decide) h (fun ls st S cs ss h => s_iadd C0 dLaw_1205 h (fun ls st S cs ss h => s_xld C0 L0 dLaw_1206 h (fun ls st S cs ss h => s_callV C0 E0 wl_1682 (by decide) kl_13.1 kl_13.2.1 wl_1679 wl_1680 wl_79 wl_1681 mh_X12_borrow dLaw_1207 h (fun ls st S cs ss h => s_istore C0 dLaw_1210 (by decide) h (fun ls st S cs ss h => s_aload_n C0 dLaw_1212 rfl h (fun ls st S cs ss h => s_callV C0 E0 wl_1461 (by decide) kl_13.1 kl_13.2.1 wl_1458 wl_1459 wl_79 wl_1460 mh_X12_thrown dLaw_1213 h (fun ls st S cs ss h => s_iload C0 dLaw_1216 h (fun ls st S cs ss h => s_icmp_eq C0 dLaw_1218 (by decide) h (fun ls st S cs ss h => s_iload C0 dLaw_1223 h (fun ls st S cs ss h => s_if_ne C0 dLaw_1225 (by decide) h (fun ls st S cs ss h => s_goto C0 dLaw_1240 (by decide) h (fun ls st S cs ss h => h)) (fun ls st S cs ss h => s_aload_n C0 dLaw_1228 rfl h (fun ls st S cs ss h => s_iconst (v := (0)) C0 dLaw_1229 (by decide) h (fun ls st S cs ss h => s_lald C0 dLaw_1230 h (fun ls st S cs ss h => s_iload C0 dLaw_1231 h (fun ls st S cs ss h => s_i2l C0 dLaw_1233 h (fun ls st S cs ss h => s_lcmp C0 dLaw_1234 h (fun ls st S cs ss h => s_if_eq C0 dLaw_1235 (by decide) h (fun ls st S cs ss h => s_goto C0 dLaw_1240 (by decide) h (fun ls st S cs ss h => h)) (fun ls st S cs ss h => s_iconst (v := (0)) C0 dLaw_1238 (by decide) h (fun ls st S cs ss h => s_lwret C0 L0 dLaw_1239 h))))))))))) (fun ls st S cs ss h => s_iconst (v := (0)) C0 dLaw_1221 (by decide) h (fun ls st S cs ss h => s_lwret C0 L0 dLaw_1222 h))))))))))))))))))))))))))))))))))))))))))
set_option maxRecDepth 100000 in
theorem b_Law_1243 (C0 : tk_C X code 8 R_law (tk_ws mX12_thrown)) (E0 : tk_E1 Z X d mc ms) (L0 : lwX X b L xs) (hTs : ∀ w ∈ tk_G, w ∈ tk_ws mX12_thrown) (E0rm : tk_rmIs X d mc ms) : ∀ ls st S cs ss, t_Law_1243 Z d mc ms b L xs (tk_W X 8) ls st S cs ss → tk_W X 8 1243 ls st S cs ss :=
  fun ls st S cs ss h => s_aload_n C0 dLaw_1243 rfl h (fun ls st S cs ss h => s_aload_n C0 dLaw_1244 rfl h (fun ls st S cs ss h => s_iload C0 dLaw_1245 h (fun ls st S cs ss h => s_iconst (v := (1)) C0 dLaw_1247 (by decide) h (fun ls st S cs ss h => s_iadd C0 dLaw_1248 h (fun ls st S cs ss h => s_xld C0 L0 dLaw_1249 h (fun ls st S cs ss h => s_aload_n C0 dLaw_1250 rfl h (fun ls st S cs ss h => s_iload C0 dLaw_1251 h (fun ls st S cs ss h => s_iconst (v := (2)) C0 dLaw_1253 (by decide) h (fun ls st S cs ss h => s_iadd C0 dLaw_1254 h (fun ls st S cs ss h => s_xld C0 L0 dLaw_1255 h (fun ls st S cs ss h => s_aload_n C0 dLaw_1256 rfl h (fun ls st S cs ss h => s_callW C0 hTs E0 wl_1213 (by decide) wl_1211 wl_1212 wl_71 mh_L_repay dLaw_1257 h (fun ls st S cs ss h => s_istore C0 dLaw_1260 (by decide) h (fun ls st S cs ss h => s_aload_n C0 dLaw_1262 rfl h (fun ls st S cs ss h => s_aload_n C0 dLaw_1263 rfl h (fun ls st S cs ss h => s_iload C0 dLaw_1264 h (fun ls st S cs ss h => s_iconst (v := (1)) C0 dLaw_1266 (by decide) h (fun ls st S cs ss h => s_iadd C0 dLaw_1267 h (fun ls st S cs ss h => s_xld C0 L0 dLaw_1268 h (fun ls st S cs ss h => s_aload_n C0 dLaw_1269 rfl h (fun ls st S cs ss h => s_iload C0 dLaw_1270 h (fun ls st S cs ss h => s_iconst (v := (2)) C0 dLaw_1272 (by decide) h (fun ls st S cs ss h => s_iadd C0 dLaw_1273 h (fun ls st S cs ss h => s_xld C0 L0 dLaw_1274 h (fun ls st S cs ss h => s_callV C0 E0 wl_1686 (by decide) kl_13.1 kl_13.2.1 wl_1683 wl_1684 wl_79 wl_1685 mh_X12_repay dLaw_1275 h (fun ls st S cs ss h => s_istore C0 dLaw_1278 (by decide) h (fun ls st S cs ss h => s_aload_n C0 dLaw_1280 rfl h (fun ls st S cs ss h => s_callV C0 E0 wl_1461 (by decide) kl_13.1 kl_13.2.1 wl_1458 wl_1459 wl_79 wl_1460 mh_X12_thrown dLaw_1281 h (fun ls st S cs ss h => s_iload C0 dLaw_1284 h (fun ls st S cs ss h => s_icmp_eq C0 dLaw_1286 (by decide) h (fun ls st S cs ss h => s_iload C0 dLaw_1291 h (fun ls st S cs ss h => s_if_ne C0 dLaw_1293 (by decide) h (fun ls st S cs ss h => s_goto C0 dLaw_1308 (by decide) h (fun ls st S cs ss h => h)) (fun ls st S cs ss h => s_aload_n C0 dLaw_1296 rfl h (fun ls st S cs ss h => s_iconst (v := (0)) C0 dLaw_1297 (by decide) h (fun ls st S cs ss h => s_lald C0 dLaw_1298 h (fun ls st S cs ss h => s_iload C0 dLaw_1299 h (fun ls st S cs ss h => s_i2l C0 dLaw_1301 h (fun ls st S cs ss h => s_lcmp C0 dLaw_1302 h (fun ls st S cs ss h => s_if_eq C0 dLaw_1303 (by decide) h (fun ls st S cs ss h => s_goto C0 dLaw_1308 (by decide) h (fun ls st S cs ss h => h)) (fun ls st S cs ss h => s_iconst (v := (0)) C0 dLaw_1306 (by decide) h (fun ls st S cs ss h => s_lwret C0 L0 dLaw_1307 h))))))))))) (fun ls st S cs ss h => s_iconst (v := (0)) C0 dLaw_1289 (by decide) h (fun ls st S cs ss h => s_lwret C0 L0 dLaw_1290 h))))))))))))))))))))))))))))))))
set_option maxRecDepth 100000 in
theorem b_Law_1311 (C0 : tk_C X code 8 R_law (tk_ws mX12_thrown)) (E0 : tk_E1 Z X d mc ms) (L0 : lwX X b L xs) (hTs : ∀ w ∈ tk_G, w ∈ tk_ws mX12_thrown) (E0rm : tk_rmIs X d mc ms) : ∀ ls st S cs ss, t_Law_1311 Z d mc ms b L xs (tk_W X 8) ls st S cs ss → tk_W X 8 1311 ls st S cs ss :=
  fun ls st S cs ss h => s_aload_n C0 dLaw_1311 rfl h (fun ls st S cs ss h => s_aload_n C0 dLaw_1312 rfl h (fun ls st S cs ss h => s_iload C0 dLaw_1313 h (fun ls st S cs ss h => s_iconst (v := (1)) C0 dLaw_1315 (by decide) h (fun ls st S cs ss h => s_iadd C0 dLaw_1316 h (fun ls st S cs ss h => s_xld C0 L0 dLaw_1317 h (fun ls st S cs ss h => s_aload_n C0 dLaw_1318 rfl h (fun ls st S cs ss h => s_iload C0 dLaw_1319 h (fun ls st S cs ss h => s_iconst (v := (2)) C0 dLaw_1321 (by decide) h (fun ls st S cs ss h => s_iadd C0 dLaw_1322 h (fun ls st S cs ss h => s_xld C0 L0 dLaw_1323 h (fun ls st S cs ss h => s_aload_n C0 dLaw_1324 rfl h (fun ls st S cs ss h => s_callW C0 hTs E0 wl_1221 (by decide) wl_1219 wl_1220 wl_71 mh_L_loan dLaw_1325 h (fun ls st S cs ss h => s_istore C0 dLaw_1328 (by decide) h (fun ls st S cs ss h => s_aload_n C0 dLaw_1330 rfl h (fun ls st S cs ss h => s_aload_n C0 dLaw_1331 rfl h (fun ls st S cs ss h => s_iload C0 dLaw_1332 h (fun ls st S cs ss h => s_iconst (v := (1)) C0 dLaw_1334 (by decide) h (fun ls st S cs ss h => s_iadd C0 dLaw_1335 h (fun ls st S cs ss h => s_xld C0 L0 dLaw_1336 h (fun ls st S cs ss h => s_aload_n C0 dLaw_1337 rfl h (fun ls st S cs ss h => s_iload C0 dLaw_1338 h (fun ls st S cs ss h => s_iconst (v := (2)) C0 dLaw_1340 (by decide) h (fun ls st S cs ss h => s_iadd C0 dLaw_1341 h (fun ls st S cs ss h => s_xld C0 L0 dLaw_1342 h (fun ls st S cs ss h => s_callV C0 E0 wl_1690 (by decide) kl_13.1 kl_13.2.1 wl_1687 wl_1688 wl_79 wl_1689 mh_X12_loan dLaw_1343 h (fun ls st S cs ss h => s_lstore C0 dLaw_1346 (by decide) h (fun ls st S cs ss h => s_aload_n C0 dLaw_1348 rfl h (fun ls st S cs ss h => s_callV C0 E0 wl_1461 (by decide) kl_13.1 kl_13.2.1 wl_1458 wl_1459 wl_79 wl_1460 mh_X12_thrown dLaw_1349 h (fun ls st S cs ss h => s_iload C0 dLaw_1352 h (fun ls st S cs ss h => s_icmp_eq C0 dLaw_1354 (by decide) h (fun ls st S cs ss h => s_iload C0 dLaw_1359 h (fun ls st S cs ss h => s_if_ne C0 dLaw_1361 (by decide) h (fun ls st S cs ss h => s_goto C0 dLaw_1375 (by decide) h (fun ls st S cs ss h => h)) (fun ls st S cs ss h => s_aload_n C0 dLaw_1364 rfl h (fun ls st S cs ss h => s_iconst (v := (0)) C0 dLaw_1365 (by decide) h (fun ls st S cs ss h => s_lald C0 dLaw_1366 h (fun ls st S cs ss h => s_lload C0 dLaw_1367 h (fun ls st S cs ss h => s_lcmp C0 dLaw_1369 h (fun ls st S cs ss h => s_if_eq C0 dLaw_1370 (by decide) h (fun ls st S cs ss h => s_goto C0 dLaw_1375 (by decide) h (fun ls st S cs ss h => h)) (fun ls st S cs ss h => s_iconst (v := (0)) C0 dLaw_1373 (by decide) h (fun ls st S cs ss h => s_lwret C0 L0 dLaw_1374 h)))))))))) (fun ls st S cs ss h => s_iconst (v := (0)) C0 dLaw_1357 (by decide) h (fun ls st S cs ss h => s_lwret C0 L0 dLaw_1358 h))))))))))))))))))))))))))))))))
set_option maxRecDepth 100000 in
theorem b_Law_1378 (C0 : tk_C X code 8 R_law (tk_ws mX12_thrown)) (E0 : tk_E1 Z X d mc ms) (L0 : lwX X b L xs) (hTs : ∀ w ∈ tk_G, w ∈ tk_ws mX12_thrown) (E0rm : tk_rmIs X d mc ms) : ∀ ls st S cs ss, t_Law_1378 Z d mc ms b L xs (tk_W X 8) ls st S cs ss → tk_W X 8 1378 ls st S cs ss :=
  fun ls st S cs ss h => s_aload_n C0 dLaw_1378 rfl h (fun ls st S cs ss h => s_aload_n C0 dLaw_1379 rfl h (fun ls st S cs ss h => s_iload C0 dLaw_1380 h (fun ls st S cs ss h => s_iconst (v := (1)) C0 dLaw_1382 (by decide) h (fun ls st S cs ss h => s_iadd C0 dLaw_1383 h (fun ls st S cs ss h => s_xld C0 L0 dLaw_1384 h (fun ls st S cs ss h => s_aload_n C0 dLaw_1385 rfl h (fun ls st S cs ss h => s_callW C0 hTs E0 wl_1228 (by decide) wl_1226 wl_1227 wl_71 mh_L_money dLaw_1386 h (fun ls st S cs ss h => s_istore C0 dLaw_1389 (by decide) h (fun ls st S cs ss h => s_aload_n C0 dLaw_1391 rfl h (fun ls st S cs ss h => s_aload_n C0 dLaw_1392 rfl h (fun ls st S cs ss h => s_iload C0 dLaw_1393 h (fun ls st S cs ss h => s_iconst (v := (1)) C0 dLaw_1395 (by decide) h (fun ls st S cs ss h => s_iadd C0 dLaw_1396 h (fun ls st S cs ss h => s_xld C0 L0 dLaw_1397 h (fun ls st S cs ss h => s_callV C0 E0 wl_1720 (by decide) kl_13.1 kl_13.2.1 wl_1717 wl_1718 wl_79 wl_1719 mh_X12_money dLaw_1398 h (fun ls st S cs ss h => s_lstore C0 dLaw_1401 (by decide) h (fun ls st S cs ss h => s_aload_n C0 dLaw_1403 rfl h (fun ls st S cs ss h => s_callV C0 E0 wl_1461 (by decide) kl_13.1 kl_13.2.1 wl_1458 wl_1459 wl_79 wl_1460 mh_X12_thrown dLaw_1404 h (fun ls st S cs ss h => s_iload C0 dLaw_1407 h (fun ls st S cs ss h => s_icmp_eq C0 dLaw_1409 (by decide) h (fun ls st S cs ss h => s_iload C0 dLaw_1414 h (fun ls st S cs ss h => s_if_ne C0 dLaw_1416 (by decide) h (fun ls st S cs ss h => s_goto C0 dLaw_1430 (by decide) h (fun ls st S cs ss h => h)) (fun ls st S cs ss h => s_aload_n C0 dLaw_1419 rfl h (fun ls st S cs ss h => s_iconst (v := (0)) C0 dLaw_1420 (by decide) h (fun ls st S cs ss h => s_lald C0 dLaw_1421 h (fun ls st S cs ss h => s_lload C0 dLaw_1422 h (fun ls st S cs ss h => s_lcmp C0 dLaw_1424 h (fun ls st S cs ss h => s_if_eq C0 dLaw_1425 (by decide) h (fun ls st S cs ss h => s_goto C0 dLaw_1430 (by decide) h (fun ls st S cs ss h => h)) (fun ls st S cs ss h => s_iconst (v := (0)) C0 dLaw_1428 (by decide) h (fun ls st S cs ss h => s_lwret C0 L0 dLaw_1429 h)))))))))) (fun ls st S cs ss h => s_iconst (v := (0)) C0 dLaw_1412 (by decide) h (fun ls st S cs ss h => s_lwret C0 L0 dLaw_1413 h))))))))))))))))))))))
set_option maxRecDepth 100000 in
theorem b_Law_1433 (C0 : tk_C X code 8 R_law (tk_ws mX12_thrown)) (E0 : tk_E1 Z X d mc ms) (L0 : lwX X b L xs) (hTs : ∀ w ∈ tk_G, w ∈ tk_ws mX12_thrown) (E0rm : tk_rmIs X d mc ms) : ∀ ls st S cs ss, t_Law_1433 Z d mc ms b L xs (tk_W X 8) ls st S cs ss → tk_W X 8 1433 ls st S cs ss :=
  fun ls st S cs ss h => s_aload_n C0 dLaw_1433 rfl h (fun ls st S cs ss h => s_aload_n C0 dLaw_1434 rfl h (fun ls st S cs ss h => s_iload C0 dLaw_1435 h (fun ls st S cs ss h => s_iconst (v := (1)) C0 dLaw_1437 (by decide) h (fun ls st S cs ss h => s_iadd C0 dLaw_1438 h (fun ls st S cs ss h => s_xld C0 L0 dLaw_1439 h (fun ls st S cs ss h => s_aload_n C0 dLaw_1440 rfl h (fun ls st S cs ss h => s_callW C0 hTs E0 wl_1235 (by decide) wl_1233 wl_1234 wl_71 mh_L_wear dLaw_1441 h (fun ls st S cs ss h => s_istore C0 dLaw_1444 (by decide) h (fun ls st S cs ss h => s_aload_n C0 dLaw_1446 rfl h (fun ls st S cs ss h => s_aload_n C0 dLaw_1447 rfl h (fun ls st S cs ss h => s_iload C0 dLaw_1448 h (fun ls st S cs ss h => s_iconst (v := (1)) C0 dLaw_1450 (by decide) h (fun ls st S cs ss h => s_iadd C0 dLaw_1451 h (fun ls st S cs ss h => s_xld C0 L0 dLaw_1452 h (fun ls st S cs ss h => s_callV C0 E0 wl_1728 (by decide) kl_13.1 kl_13.2.1 wl_1725 wl_1726 wl_79 wl_1727 mh_X12_wear dLaw_1453 h (fun ls st S cs ss h => s_lstore C0 dLaw_1456 (by decide) h (fun ls st S cs ss h => s_aload_n C0 dLaw_1458 rfl h (fun ls st S cs ss h => s_callV C0 E0 wl_1461 (by decide) kl_13.1 kl_13.2.1 wl_1458 wl_1459 wl_79 wl_1460 mh_X12_thrown dLaw_1459 h (fun ls st S cs ss h => s_iload C0 dLaw_1462 h (fun ls st S cs ss h => s_icmp_eq C0 dLaw_1464 (by decide) h (fun ls st S cs ss h => s_iload C0 dLaw_1469 h (fun ls st S cs ss h => s_if_ne C0 dLaw_1471 (by decide) h (fun ls st S cs ss h => s_goto C0 dLaw_1485 (by decide) h (fun ls st S cs ss h => h)) (fun ls st S cs ss h => s_aload_n C0 dLaw_1474 rfl h (fun ls st S cs ss h => s_iconst (v := (0)) C0 dLaw_1475 (by decide) h (fun ls st S cs ss h => s_lald C0 dLaw_1476 h (fun ls st S cs ss h => s_lload C0 dLaw_1477 h (fun ls st S cs ss h => s_lcmp C0 dLaw_1479 h (fun ls st S cs ss h => s_if_eq C0 dLaw_1480 (by decide) h (fun ls st S cs ss h => s_goto C0 dLaw_1485 (by decide) h (fun ls st S cs ss h => h)) (fun ls st S cs ss h => s_iconst (v := (0)) C0 dLaw_1483 (by decide) h (fun ls st S cs ss h => s_lwret C0 L0 dLaw_1484 h)))))))))) (fun ls st S cs ss h => s_iconst (v := (0)) C0 dLaw_1467 (by decide) h (fun ls st S cs ss h => s_lwret C0 L0 dLaw_1468 h))))))))))))))))))))))
set_option maxRecDepth 100000 in
theorem b_Law_1488 (C0 : tk_C X code 8 R_law (tk_ws mX12_thrown)) (E0 : tk_E1 Z X d mc ms) (L0 : lwX X b L xs) (hTs : ∀ w ∈ tk_G, w ∈ tk_ws mX12_thrown) (E0rm : tk_rmIs X d mc ms) : ∀ ls st S cs ss, t_Law_1488 Z d mc ms b L xs (tk_W X 8) ls st S cs ss → tk_W X 8 1488 ls st S cs ss :=
  fun ls st S cs ss h => s_aload_n C0 dLaw_1488 rfl h (fun ls st S cs ss h => s_aload_n C0 dLaw_1489 rfl h (fun ls st S cs ss h => s_iload C0 dLaw_1490 h (fun ls st S cs ss h => s_iconst (v := (1)) C0 dLaw_1492 (by decide) h (fun ls st S cs ss h => s_iadd C0 dLaw_1493 h (fun ls st S cs ss h => s_xld C0 L0 dLaw_1494 h (fun ls st S cs ss h => s_aload_n C0 dLaw_1495 rfl h (fun ls st S cs ss h => s_callW C0 hTs E0 wl_1242 (by decide) wl_1240 wl_1241 wl_71 mh_L_box dLaw_1496 h (fun ls st S cs ss h => s_istore C0 dLaw_1499 (by decide) h (fun ls st S cs ss h => s_aload_n C0 dLaw_1501 rfl h (fun ls st S cs ss h => s_aload_n C0 dLaw_1502 rfl h (fun ls st S cs ss h => s_iload C0 dLaw_1503 h (fun ls st S cs ss h => s_iconst (v := (1)) C0 dLaw_1505 (by decide) h (fun ls st S cs ss h => s_iadd C0 dLaw_1506 h (fun ls st S cs ss h => s_xld C0 L0 dLaw_1507 h (fun ls st S cs ss h => s_callV C0 E0 wl_1732 (by decide) kl_13.1 kl_13.2.1 wl_1729 wl_1730 wl_79 wl_1731 mh_X12_box dLaw_1508 h (fun ls st S cs ss h => s_lstore C0 dLaw_1511 (by decide) h (fun ls st S cs ss h => s_aload_n C0 dLaw_1513 rfl h (fun ls st S cs ss h => s_callV C0 E0 wl_1461 (by decide) kl_13.1 kl_13.2.1 wl_1458 wl_1459 wl_79 wl_1460 mh_X12_thrown dLaw_1514 h (fun ls st S cs ss h => s_iload C0 dLaw_1517 h (fun ls st S cs ss h => s_icmp_eq C0 dLaw_1519 (by decide) h (fun ls st S cs ss h => s_iload C0 dLaw_1524 h (fun ls st S cs ss h => s_if_ne C0 dLaw_1526 (by decide) h (fun ls st S cs ss h => s_goto C0 dLaw_1540 (by decide) h (fun ls st S cs ss h => h)) (fun ls st S cs ss h => s_aload_n C0 dLaw_1529 rfl h (fun ls st S cs ss h => s_iconst (v := (0)) C0 dLaw_1530 (by decide) h (fun ls st S cs ss h => s_lald C0 dLaw_1531 h (fun ls st S cs ss h => s_lload C0 dLaw_1532 h (fun ls st S cs ss h => s_lcmp C0 dLaw_1534 h (fun ls st S cs ss h => s_if_eq C0 dLaw_1535 (by decide) h (fun ls st S cs ss h => s_goto C0 dLaw_1540 (by decide) h (fun ls st S cs ss h => h)) (fun ls st S cs ss h => s_iconst (v := (0)) C0 dLaw_1538 (by decide) h (fun ls st S cs ss h => s_lwret C0 L0 dLaw_1539 h)))))))))) (fun ls st S cs ss h => s_iconst (v := (0)) C0 dLaw_1522 (by decide) h (fun ls st S cs ss h => s_lwret C0 L0 dLaw_1523 h))))))))))))))))))))))
set_option maxRecDepth 100000 in
theorem b_Law_1543 (C0 : tk_C X code 8 R_law (tk_ws mX12_thrown)) (E0 : tk_E1 Z X d mc ms) (L0 : lwX X b L xs) (hTs : ∀ w ∈ tk_G, w ∈ tk_ws mX12_thrown) (E0rm : tk_rmIs X d mc ms) : ∀ ls st S cs ss, t_Law_1543 Z d mc ms b L xs (tk_W X 8) ls st S cs ss → tk_W X 8 1543 ls st S cs ss :=
  fun ls st S cs ss h => s_aload_n C0 dLaw_1543 rfl h (fun ls st S cs ss h => s_aload_n C0 dLaw_1544 rfl h (fun ls st S cs ss h => s_iload C0 dLaw_1545 h (fun ls st S cs ss h => s_iconst (v := (1)) C0 dLaw_1547 (by decide) h (fun ls st S cs ss h => s_iadd C0 dLaw_1548 h (fun ls st S cs ss h => s_xld C0 L0 dLaw_1549 h (fun ls st S cs ss h => s_aload_n C0 dLaw_1550 rfl h (fun ls st S cs ss h => s_iload C0 dLaw_1551 h (fun ls st S cs ss h => s_iconst (v := (2)) C0 dLaw_1553 (by decide) h (fun ls st S cs ss h => s_iadd C0 dLaw_1554 h (fun ls st S cs ss h => s_xld C0 L0 dLaw_1555 h (fun ls st S cs ss h => s_aload_n C0 dLaw_1556 rfl h (fun ls st S cs ss h => s_callW C0 hTs E0 wl_1253 (by decide) wl_1251 wl_1252 wl_71 mh_L_journal dLaw_1557 h (fun ls st S cs ss h => s_istore C0 dLaw_1560 (by decide) h (fun ls st S cs ss h => s_aload_n C0 dLaw_1562 rfl h (fun ls st S cs ss h => s_aload_n C0 dLaw_1563 rfl h (fun ls st S cs ss h => s_iload C0 dLaw_1564 h (fun ls st S cs ss h => s_iconst (v := (1)) C0 dLaw_1566 (by decide) h (fun ls st S cs ss h => s_iadd C0 dLaw_1567 h (fun ls st S cs ss h => s_xld C0 L0 dLaw_1568 h (fun ls st S cs ss h => s_aload_n C0 dLaw_1569 rfl h (fun ls st S cs ss h => s_iload C0 dLaw_1570 h (fun ls st S cs ss h => s_iconst (v := (2)) C0 dLaw_1572 (by decide) h (fun ls st S cs ss h => s_iadd C0 dLaw_1573 h (fun ls st S cs ss h => s_xld C0 L0 dLaw_1574 h (fun ls st S cs ss h => s_callV C0 E0 wl_1736 (by decide) kl_13.1 kl_13.2.1 wl_1733 wl_1734 wl_79 wl_1735 mh_X12_journal dLaw_1575 h (fun ls st S cs ss h => s_lstore C0 dLaw_1578 (by decide) h (fun ls st S cs ss h => s_aload_n C0 dLaw_1580 rfl h (fun ls st S cs ss h => s_callV C0 E0 wl_1461 (by decide) kl_13.1 kl_13.2.1 wl_1458 wl_1459 wl_79 wl_1460 mh_X12_thrown dLaw_1581 h (fun ls st S cs ss h => s_iload C0 dLaw_1584 h (fun ls st S cs ss h => s_icmp_eq C0 dLaw_1586 (by decide) h (fun ls st S cs ss h => s_iload C0 dLaw_1591 h (fun ls st S cs ss h => s_if_ne C0 dLaw_1593 (by decide) h (fun ls st S cs ss h => s_goto C0 dLaw_1607 (by decide) h (fun ls st S cs ss h => h)) (fun ls st S cs ss h => s_aload_n C0 dLaw_1596 rfl h (fun ls st S cs ss h => s_iconst (v := (0)) C0 dLaw_1597 (by decide) h (fun ls st S cs ss h => s_lald C0 dLaw_1598 h (fun ls st S cs ss h => s_lload C0 dLaw_1599 h (fun ls st S cs ss h => s_lcmp C0 dLaw_1601 h (fun ls st S cs ss h => s_if_eq C0 dLaw_1602 (by decide) h (fun ls st S cs ss h => s_goto C0 dLaw_1607 (by decide) h (fun ls st S cs ss h => h)) (fun ls st S cs ss h => s_iconst (v := (0)) C0 dLaw_1605 (by decide) h (fun ls st S cs ss h => s_lwret C0 L0 dLaw_1606 h)))))))))) (fun ls st S cs ss h => s_iconst (v := (0)) C0 dLaw_1589 (by decide) h (fun ls st S cs ss h => s_lwret C0 L0 dLaw_1590 h))))))))))))))))))))))))))))))))
set_option maxRecDepth 100000 in
theorem b_Law_1610 (C0 : tk_C X code 8 R_law (tk_ws mX12_thrown)) (E0 : tk_E1 Z X d mc ms) (L0 : lwX X b L xs) (hTs : ∀ w ∈ tk_G, w ∈ tk_ws mX12_thrown) (E0rm : tk_rmIs X d mc ms) : ∀ ls st S cs ss, t_Law_1610 Z d mc ms b L xs (tk_W X 8) ls st S cs ss → tk_W X 8 1610 ls st S cs ss :=
  fun ls st S cs ss h => s_aload_n C0 dLaw_1610 rfl h (fun ls st S cs ss h => s_aload_n C0 dLaw_1611 rfl h (fun ls st S cs ss h => s_iload C0 dLaw_1612 h (fun ls st S cs ss h => s_iconst (v := (1)) C0 dLaw_1614 (by decide) h (fun ls st S cs ss h => s_iadd C0 dLaw_1615 h (fun ls st S cs ss h => s_xld C0 L0 dLaw_1616 h (fun ls st S cs ss h => s_callV C0 E0 wl_300 (by decide) kl_12.1 kl_12.2.1 wl_297 wl_298 wl_72 wl_299 mh_X11_count dLaw_1617 h (fun ls st S cs ss h => s_aload_n C0 dLaw_1620 rfl h (fun ls st S cs ss h => s_aload_n C0 dLaw_1621 rfl h (fun ls st S cs ss h => s_iload C0 dLaw_1622 h (fun ls st S cs ss h => s_iconst (v := (1)) C0 dLaw_1624 (by decide) h (fun ls st S cs ss h => s_iadd C0 dLaw_1625 h (fun ls st S cs ss h => s_xld C0 L0 dLaw_1626 h (fun ls st S cs ss h => s_callV C0 E0 wl_1740 (by decide) kl_13.1 kl_13.2.1 wl_1737 wl_1738 wl_79 wl_1739 mh_X12_count dLaw_1627 h (fun ls st S cs ss h => s_icmp_eq C0 dLaw_1630 (by decide) h (fun ls st S cs ss h => h) (fun ls st S cs ss h => s_iconst (v := (0)) C0 dLaw_1633 (by decide) h (fun ls st S cs ss h => s_lwret C0 L0 dLaw_1634 h))))))))))))))))
set_option maxRecDepth 100000 in
theorem b_Law_1635 (C0 : tk_C X code 8 R_law (tk_ws mX12_thrown)) (E0 : tk_E1 Z X d mc ms) (L0 : lwX X b L xs) (hTs : ∀ w ∈ tk_G, w ∈ tk_ws mX12_thrown) (E0rm : tk_rmIs X d mc ms) : ∀ ls st S cs ss, t_Law_1635 Z d mc ms b L xs (tk_W X 8) ls st S cs ss → tk_W X 8 1635 ls st S cs ss :=
  fun ls st S cs ss h => s_iinc (v := (6)) C0 dLaw_1635 rfl (by decide) h (fun ls st S cs ss h => s_goto C0 dLaw_1638 (by decide) h (fun ls st S cs ss h => h))
theorem c_Law (C0 : tk_C X code 8 R_law (tk_ws mX12_thrown)) (E0 : tk_E1 Z X d mc ms) (L0 : lwX X b L xs) : T_Law Z d mc ms b L xs (tk_W X 8) :=
  ⟨fun pc ls st S cs ss h => s_out C0 E0 h, b_Law_0 C0 E0 L0 (fun w h => List.mem_cons_of_mem _ h) (tk_E1_rm E0), b_Law_23 C0 E0 L0 (fun w h => List.mem_cons_of_mem _ h) (tk_E1_rm E0), b_Law_156 C0 E0 L0 (fun w h => List.mem_cons_of_mem _ h) (tk_E1_rm E0), b_Law_229 C0 E0 L0 (fun w h => List.mem_cons_of_mem _ h) (tk_E1_rm E0), b_Law_297 C0 E0 L0 (fun w h => List.mem_cons_of_mem _ h) (tk_E1_rm E0), b_Law_310 C0 E0 L0 (fun w h => List.mem_cons_of_mem _ h) (tk_E1_rm E0), b_Law_366 C0 E0 L0 (fun w h => List.mem_cons_of_mem _ h) (tk_E1_rm E0), b_Law_422 C0 E0 L0 (fun w h => List.mem_cons_of_mem _ h) (tk_E1_rm E0), b_Law_514 C0 E0 L0 (fun w h => List.mem_cons_of_mem _ h) (tk_E1_rm E0), b_Law_582 C0 E0 L0 (fun w h => List.mem_cons_of_mem _ h) (tk_E1_rm E0), b_Law_595 C0 E0 L0 (fun w h => List.mem_cons_of_mem _ h) (tk_E1_rm E0), b_Law_675 C0 E0 L0 (fun w h => List.mem_cons_of_mem _ h) (tk_E1_rm E0), b_Law_731 C0 E0 L0 (fun w h => List.mem_cons_of_mem _ h) (tk_E1_rm E0), b_Law_787 C0 E0 L0 (fun w h => List.mem_cons_of_mem _ h) (tk_E1_rm E0), b_Law_823 C0 E0 L0 (fun w h => List.mem_cons_of_mem _ h) (tk_E1_rm E0), b_Law_879 C0 E0 L0 (fun w h => List.mem_cons_of_mem _ h) (tk_E1_rm E0), b_Law_935 C0 E0 L0 (fun w h => List.mem_cons_of_mem _ h) (tk_E1_rm E0), b_Law_1027 C0 E0 L0 (fun w h => List.mem_cons_of_mem _ h) (tk_E1_rm E0), b_Law_1095 C0 E0 L0 (fun w h => List.mem_cons_of_mem _ h) (tk_E1_rm E0), b_Law_1163 C0 E0 L0 (fun w h => List.mem_cons_of_mem _ h) (tk_E1_rm E0), b_Law_1243 C0 E0 L0 (fun w h => List.mem_cons_of_mem _ h) (tk_E1_rm E0), b_Law_1311 C0 E0 L0 (fun w h => List.mem_cons_of_mem _ h) (tk_E1_rm E0), b_Law_1378 C0 E0 L0 (fun w h => List.mem_cons_of_mem _ h) (tk_E1_rm E0), b_Law_1433 C0 E0 L0 (fun w h => List.mem_cons_of_mem _ h) (tk_E1_rm E0), b_Law_1488 C0 E0 L0 (fun w h => List.mem_cons_of_mem _ h) (tk_E1_rm E0), b_Law_1543 C0 E0 L0 (fun w h => List.mem_cons_of_mem _ h) (tk_E1_rm E0), b_Law_1610 C0 E0 L0 (fun w h => List.mem_cons_of_mem _ h) (tk_E1_rm E0), b_Law_1635 C0 E0 L0 (fun w h => List.mem_cons_of_mem _ h) (tk_E1_rm E0)⟩
end LAWB
