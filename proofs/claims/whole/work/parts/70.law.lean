theorem dL_law_0 : decode code 0 = .ok (.new 7, 3) := by decide +kernel
theorem dL_law_3 : decode code 3 = .ok (.dup, 1) := by decide +kernel
theorem dL_law_4 : decode code 4 = .ok (.invokespecial 9, 3) := by decide +kernel
theorem dL_law_7 : decode code 7 = .ok (.astore_n 1, 1) := by decide +kernel
theorem dL_law_8 : decode code 8 = .ok (.new 10, 3) := by decide +kernel
theorem dL_law_11 : decode code 11 = .ok (.dup, 1) := by decide +kernel
theorem dL_law_12 : decode code 12 = .ok (.invokespecial 12, 3) := by decide +kernel
theorem dL_law_15 : decode code 15 = .ok (.astore_n 2, 1) := by decide +kernel
theorem dL_law_16 : decode code 16 = .ok (.iconst 0, 1) := by decide +kernel
theorem dL_law_17 : decode code 17 = .ok (.istore_n 3, 1) := by decide +kernel
theorem dL_law_18 : decode code 18 = .ok (.iload_n 3, 1) := by decide +kernel
theorem dL_law_19 : decode code 19 = .ok (.aload_n 0, 1) := by decide +kernel
theorem dL_law_20 : decode code 20 = .ok (.arraylength, 1) := by decide +kernel
theorem dL_law_21 : decode code 21 = .ok (.bipush 6, 2) := by decide +kernel
theorem dL_law_23 : decode code 23 = .ok (.isub, 1) := by decide +kernel
theorem dL_law_24 : decode code 24 = .ok (.if_icmp .gt 1186, 3) := by decide +kernel
theorem dL_law_27 : decode code 27 = .ok (.aload_n 0, 1) := by decide +kernel
theorem dL_law_28 : decode code 28 = .ok (.iload_n 3, 1) := by decide +kernel
theorem dL_law_29 : decode code 29 = .ok (.iaload, 1) := by decide +kernel
theorem dL_law_30 : decode code 30 = .ok (.bipush 63, 2) := by decide +kernel
theorem dL_law_32 : decode code 32 = .ok (.iand, 1) := by decide +kernel
theorem dL_law_33 : decode code 33 = .ok (.tableswitch 1171 0 34 #[155, 188, 211, 244, 277, 320, 353, 386, 419, 452, 485, 508, 541, 564, 597, 630, 653, 686, 709, 722, 745, 758, 781, 814, 827, 840, 883, 957, 1020, 1053, 1086, 1099, 1112, 1125, 1148], 155) := by decide +kernel
theorem dL_law_188 : decode code 188 = .ok (.aload_n 1, 1) := by decide +kernel
theorem dL_law_189 : decode code 189 = .ok (.aload_n 0, 1) := by decide +kernel
theorem dL_law_190 : decode code 190 = .ok (.iload_n 3, 1) := by decide +kernel
theorem dL_law_191 : decode code 191 = .ok (.iconst 1, 1) := by decide +kernel
theorem dL_law_192 : decode code 192 = .ok (.iadd, 1) := by decide +kernel
theorem dL_law_193 : decode code 193 = .ok (.iaload, 1) := by decide +kernel
theorem dL_law_194 : decode code 194 = .ok (.aload_n 0, 1) := by decide +kernel
theorem dL_law_195 : decode code 195 = .ok (.iload_n 3, 1) := by decide +kernel
theorem dL_law_196 : decode code 196 = .ok (.iconst 2, 1) := by decide +kernel
theorem dL_law_197 : decode code 197 = .ok (.iadd, 1) := by decide +kernel
theorem dL_law_198 : decode code 198 = .ok (.iaload, 1) := by decide +kernel
theorem dL_law_199 : decode code 199 = .ok (.invokevirtual 13, 3) := by decide +kernel
theorem dL_law_202 : decode code 202 = .ok (.aload_n 2, 1) := by decide +kernel
theorem dL_law_203 : decode code 203 = .ok (.aload_n 0, 1) := by decide +kernel
theorem dL_law_204 : decode code 204 = .ok (.iload_n 3, 1) := by decide +kernel
theorem dL_law_205 : decode code 205 = .ok (.iconst 1, 1) := by decide +kernel
theorem dL_law_206 : decode code 206 = .ok (.iadd, 1) := by decide +kernel
theorem dL_law_207 : decode code 207 = .ok (.iaload, 1) := by decide +kernel
theorem dL_law_208 : decode code 208 = .ok (.aload_n 0, 1) := by decide +kernel
theorem dL_law_209 : decode code 209 = .ok (.iload_n 3, 1) := by decide +kernel
theorem dL_law_210 : decode code 210 = .ok (.iconst 2, 1) := by decide +kernel
theorem dL_law_211 : decode code 211 = .ok (.iadd, 1) := by decide +kernel
theorem dL_law_212 : decode code 212 = .ok (.iaload, 1) := by decide +kernel
theorem dL_law_213 : decode code 213 = .ok (.invokevirtual 17, 3) := by decide +kernel
theorem dL_law_216 : decode code 216 = .ok (.if_icmp .eq 988, 3) := by decide +kernel
theorem dL_law_219 : decode code 219 = .ok (.iconst 0, 1) := by decide +kernel
theorem dL_law_220 : decode code 220 = .ok (.ireturn, 1) := by decide +kernel
theorem dL_law_221 : decode code 221 = .ok (.aload_n 1, 1) := by decide +kernel
theorem dL_law_222 : decode code 222 = .ok (.aload_n 0, 1) := by decide +kernel
theorem dL_law_223 : decode code 223 = .ok (.iload_n 3, 1) := by decide +kernel
theorem dL_law_224 : decode code 224 = .ok (.iconst 1, 1) := by decide +kernel
theorem dL_law_225 : decode code 225 = .ok (.iadd, 1) := by decide +kernel
theorem dL_law_226 : decode code 226 = .ok (.iaload, 1) := by decide +kernel
theorem dL_law_227 : decode code 227 = .ok (.invokevirtual 18, 3) := by decide +kernel
theorem dL_law_230 : decode code 230 = .ok (.aload_n 2, 1) := by decide +kernel
theorem dL_law_231 : decode code 231 = .ok (.aload_n 0, 1) := by decide +kernel
theorem dL_law_232 : decode code 232 = .ok (.iload_n 3, 1) := by decide +kernel
theorem dL_law_233 : decode code 233 = .ok (.iconst 1, 1) := by decide +kernel
theorem dL_law_234 : decode code 234 = .ok (.iadd, 1) := by decide +kernel
theorem dL_law_235 : decode code 235 = .ok (.iaload, 1) := by decide +kernel
theorem dL_law_236 : decode code 236 = .ok (.invokevirtual 22, 3) := by decide +kernel
theorem dL_law_239 : decode code 239 = .ok (.if_icmp .eq 965, 3) := by decide +kernel
theorem dL_law_242 : decode code 242 = .ok (.iconst 0, 1) := by decide +kernel
theorem dL_law_243 : decode code 243 = .ok (.ireturn, 1) := by decide +kernel
theorem dL_law_244 : decode code 244 = .ok (.aload_n 1, 1) := by decide +kernel
theorem dL_law_245 : decode code 245 = .ok (.aload_n 0, 1) := by decide +kernel
theorem dL_law_246 : decode code 246 = .ok (.iload_n 3, 1) := by decide +kernel
theorem dL_law_247 : decode code 247 = .ok (.iconst 1, 1) := by decide +kernel
theorem dL_law_248 : decode code 248 = .ok (.iadd, 1) := by decide +kernel
theorem dL_law_249 : decode code 249 = .ok (.iaload, 1) := by decide +kernel
theorem dL_law_250 : decode code 250 = .ok (.aload_n 0, 1) := by decide +kernel
theorem dL_law_251 : decode code 251 = .ok (.iload_n 3, 1) := by decide +kernel
theorem dL_law_252 : decode code 252 = .ok (.iconst 2, 1) := by decide +kernel
theorem dL_law_253 : decode code 253 = .ok (.iadd, 1) := by decide +kernel
theorem dL_law_254 : decode code 254 = .ok (.iaload, 1) := by decide +kernel
theorem dL_law_255 : decode code 255 = .ok (.invokevirtual 23, 3) := by decide +kernel
theorem dL_law_258 : decode code 258 = .ok (.aload_n 2, 1) := by decide +kernel
theorem dL_law_259 : decode code 259 = .ok (.aload_n 0, 1) := by decide +kernel
theorem dL_law_260 : decode code 260 = .ok (.iload_n 3, 1) := by decide +kernel
theorem dL_law_261 : decode code 261 = .ok (.iconst 1, 1) := by decide +kernel
theorem dL_law_262 : decode code 262 = .ok (.iadd, 1) := by decide +kernel
theorem dL_law_263 : decode code 263 = .ok (.iaload, 1) := by decide +kernel
theorem dL_law_264 : decode code 264 = .ok (.aload_n 0, 1) := by decide +kernel
theorem dL_law_265 : decode code 265 = .ok (.iload_n 3, 1) := by decide +kernel
theorem dL_law_266 : decode code 266 = .ok (.iconst 2, 1) := by decide +kernel
theorem dL_law_267 : decode code 267 = .ok (.iadd, 1) := by decide +kernel
theorem dL_law_268 : decode code 268 = .ok (.iaload, 1) := by decide +kernel
theorem dL_law_269 : decode code 269 = .ok (.invokevirtual 26, 3) := by decide +kernel
theorem dL_law_272 : decode code 272 = .ok (.if_icmp .eq 932, 3) := by decide +kernel
theorem dL_law_275 : decode code 275 = .ok (.iconst 0, 1) := by decide +kernel
theorem dL_law_276 : decode code 276 = .ok (.ireturn, 1) := by decide +kernel
theorem dL_law_277 : decode code 277 = .ok (.aload_n 1, 1) := by decide +kernel
theorem dL_law_278 : decode code 278 = .ok (.aload_n 0, 1) := by decide +kernel
theorem dL_law_279 : decode code 279 = .ok (.iload_n 3, 1) := by decide +kernel
theorem dL_law_280 : decode code 280 = .ok (.iconst 1, 1) := by decide +kernel
theorem dL_law_281 : decode code 281 = .ok (.iadd, 1) := by decide +kernel
theorem dL_law_282 : decode code 282 = .ok (.iaload, 1) := by decide +kernel
theorem dL_law_283 : decode code 283 = .ok (.aload_n 0, 1) := by decide +kernel
theorem dL_law_284 : decode code 284 = .ok (.iload_n 3, 1) := by decide +kernel
theorem dL_law_285 : decode code 285 = .ok (.iconst 2, 1) := by decide +kernel
theorem dL_law_286 : decode code 286 = .ok (.iadd, 1) := by decide +kernel
theorem dL_law_287 : decode code 287 = .ok (.iaload, 1) := by decide +kernel
theorem dL_law_288 : decode code 288 = .ok (.invokevirtual 27, 3) := by decide +kernel
theorem dL_law_291 : decode code 291 = .ok (.aload_n 2, 1) := by decide +kernel
theorem dL_law_292 : decode code 292 = .ok (.aload_n 0, 1) := by decide +kernel
theorem dL_law_293 : decode code 293 = .ok (.iload_n 3, 1) := by decide +kernel
theorem dL_law_294 : decode code 294 = .ok (.iconst 1, 1) := by decide +kernel
theorem dL_law_295 : decode code 295 = .ok (.iadd, 1) := by decide +kernel
theorem dL_law_296 : decode code 296 = .ok (.iaload, 1) := by decide +kernel
theorem dL_law_297 : decode code 297 = .ok (.aload_n 0, 1) := by decide +kernel
theorem dL_law_298 : decode code 298 = .ok (.iload_n 3, 1) := by decide +kernel
theorem dL_law_299 : decode code 299 = .ok (.iconst 2, 1) := by decide +kernel
theorem dL_law_300 : decode code 300 = .ok (.iadd, 1) := by decide +kernel
theorem dL_law_301 : decode code 301 = .ok (.iaload, 1) := by decide +kernel
theorem dL_law_302 : decode code 302 = .ok (.invokevirtual 30, 3) := by decide +kernel
theorem dL_law_305 : decode code 305 = .ok (.if_icmp .eq 899, 3) := by decide +kernel
theorem dL_law_308 : decode code 308 = .ok (.iconst 0, 1) := by decide +kernel
theorem dL_law_309 : decode code 309 = .ok (.ireturn, 1) := by decide +kernel
theorem dL_law_310 : decode code 310 = .ok (.aload_n 1, 1) := by decide +kernel
theorem dL_law_311 : decode code 311 = .ok (.aload_n 0, 1) := by decide +kernel
theorem dL_law_312 : decode code 312 = .ok (.iload_n 3, 1) := by decide +kernel
theorem dL_law_313 : decode code 313 = .ok (.iconst 1, 1) := by decide +kernel
theorem dL_law_314 : decode code 314 = .ok (.iadd, 1) := by decide +kernel
theorem dL_law_315 : decode code 315 = .ok (.iaload, 1) := by decide +kernel
theorem dL_law_316 : decode code 316 = .ok (.aload_n 0, 1) := by decide +kernel
theorem dL_law_317 : decode code 317 = .ok (.iload_n 3, 1) := by decide +kernel
theorem dL_law_318 : decode code 318 = .ok (.iconst 2, 1) := by decide +kernel
theorem dL_law_319 : decode code 319 = .ok (.iadd, 1) := by decide +kernel
theorem dL_law_320 : decode code 320 = .ok (.iaload, 1) := by decide +kernel
theorem dL_law_321 : decode code 321 = .ok (.aload_n 0, 1) := by decide +kernel
theorem dL_law_322 : decode code 322 = .ok (.iload_n 3, 1) := by decide +kernel
theorem dL_law_323 : decode code 323 = .ok (.iconst 3, 1) := by decide +kernel
theorem dL_law_324 : decode code 324 = .ok (.iadd, 1) := by decide +kernel
theorem dL_law_325 : decode code 325 = .ok (.iaload, 1) := by decide +kernel
theorem dL_law_326 : decode code 326 = .ok (.invokevirtual 31, 3) := by decide +kernel
theorem dL_law_329 : decode code 329 = .ok (.aload_n 2, 1) := by decide +kernel
theorem dL_law_330 : decode code 330 = .ok (.aload_n 0, 1) := by decide +kernel
theorem dL_law_331 : decode code 331 = .ok (.iload_n 3, 1) := by decide +kernel
theorem dL_law_332 : decode code 332 = .ok (.iconst 1, 1) := by decide +kernel
theorem dL_law_333 : decode code 333 = .ok (.iadd, 1) := by decide +kernel
theorem dL_law_334 : decode code 334 = .ok (.iaload, 1) := by decide +kernel
theorem dL_law_335 : decode code 335 = .ok (.aload_n 0, 1) := by decide +kernel
theorem dL_law_336 : decode code 336 = .ok (.iload_n 3, 1) := by decide +kernel
theorem dL_law_337 : decode code 337 = .ok (.iconst 2, 1) := by decide +kernel
theorem dL_law_338 : decode code 338 = .ok (.iadd, 1) := by decide +kernel
theorem dL_law_339 : decode code 339 = .ok (.iaload, 1) := by decide +kernel
theorem dL_law_340 : decode code 340 = .ok (.aload_n 0, 1) := by decide +kernel
theorem dL_law_341 : decode code 341 = .ok (.iload_n 3, 1) := by decide +kernel
theorem dL_law_342 : decode code 342 = .ok (.iconst 3, 1) := by decide +kernel
theorem dL_law_343 : decode code 343 = .ok (.iadd, 1) := by decide +kernel
theorem dL_law_344 : decode code 344 = .ok (.iaload, 1) := by decide +kernel
theorem dL_law_345 : decode code 345 = .ok (.invokevirtual 35, 3) := by decide +kernel
theorem dL_law_348 : decode code 348 = .ok (.if_icmp .eq 856, 3) := by decide +kernel
theorem dL_law_351 : decode code 351 = .ok (.iconst 0, 1) := by decide +kernel
theorem dL_law_352 : decode code 352 = .ok (.ireturn, 1) := by decide +kernel
theorem dL_law_353 : decode code 353 = .ok (.aload_n 1, 1) := by decide +kernel
theorem dL_law_354 : decode code 354 = .ok (.aload_n 0, 1) := by decide +kernel
theorem dL_law_355 : decode code 355 = .ok (.iload_n 3, 1) := by decide +kernel
theorem dL_law_356 : decode code 356 = .ok (.iconst 1, 1) := by decide +kernel
theorem dL_law_357 : decode code 357 = .ok (.iadd, 1) := by decide +kernel
theorem dL_law_358 : decode code 358 = .ok (.iaload, 1) := by decide +kernel
theorem dL_law_359 : decode code 359 = .ok (.aload_n 0, 1) := by decide +kernel
theorem dL_law_360 : decode code 360 = .ok (.iload_n 3, 1) := by decide +kernel
theorem dL_law_361 : decode code 361 = .ok (.iconst 2, 1) := by decide +kernel
theorem dL_law_362 : decode code 362 = .ok (.iadd, 1) := by decide +kernel
theorem dL_law_363 : decode code 363 = .ok (.iaload, 1) := by decide +kernel
theorem dL_law_364 : decode code 364 = .ok (.invokevirtual 36, 3) := by decide +kernel
theorem dL_law_367 : decode code 367 = .ok (.aload_n 2, 1) := by decide +kernel
theorem dL_law_368 : decode code 368 = .ok (.aload_n 0, 1) := by decide +kernel
theorem dL_law_369 : decode code 369 = .ok (.iload_n 3, 1) := by decide +kernel
theorem dL_law_370 : decode code 370 = .ok (.iconst 1, 1) := by decide +kernel
theorem dL_law_371 : decode code 371 = .ok (.iadd, 1) := by decide +kernel
theorem dL_law_372 : decode code 372 = .ok (.iaload, 1) := by decide +kernel
theorem dL_law_373 : decode code 373 = .ok (.aload_n 0, 1) := by decide +kernel
theorem dL_law_374 : decode code 374 = .ok (.iload_n 3, 1) := by decide +kernel
theorem dL_law_375 : decode code 375 = .ok (.iconst 2, 1) := by decide +kernel
theorem dL_law_376 : decode code 376 = .ok (.iadd, 1) := by decide +kernel
theorem dL_law_377 : decode code 377 = .ok (.iaload, 1) := by decide +kernel
theorem dL_law_378 : decode code 378 = .ok (.invokevirtual 39, 3) := by decide +kernel
theorem dL_law_381 : decode code 381 = .ok (.if_icmp .eq 823, 3) := by decide +kernel
theorem dL_law_384 : decode code 384 = .ok (.iconst 0, 1) := by decide +kernel
theorem dL_law_385 : decode code 385 = .ok (.ireturn, 1) := by decide +kernel
theorem dL_law_386 : decode code 386 = .ok (.aload_n 1, 1) := by decide +kernel
theorem dL_law_387 : decode code 387 = .ok (.aload_n 0, 1) := by decide +kernel
theorem dL_law_388 : decode code 388 = .ok (.iload_n 3, 1) := by decide +kernel
theorem dL_law_389 : decode code 389 = .ok (.iconst 1, 1) := by decide +kernel
theorem dL_law_390 : decode code 390 = .ok (.iadd, 1) := by decide +kernel
theorem dL_law_391 : decode code 391 = .ok (.iaload, 1) := by decide +kernel
theorem dL_law_392 : decode code 392 = .ok (.aload_n 0, 1) := by decide +kernel
theorem dL_law_393 : decode code 393 = .ok (.iload_n 3, 1) := by decide +kernel
theorem dL_law_394 : decode code 394 = .ok (.iconst 2, 1) := by decide +kernel
theorem dL_law_395 : decode code 395 = .ok (.iadd, 1) := by decide +kernel
theorem dL_law_396 : decode code 396 = .ok (.iaload, 1) := by decide +kernel
theorem dL_law_397 : decode code 397 = .ok (.invokevirtual 40, 3) := by decide +kernel
theorem dL_law_400 : decode code 400 = .ok (.aload_n 2, 1) := by decide +kernel
theorem dL_law_401 : decode code 401 = .ok (.aload_n 0, 1) := by decide +kernel
theorem dL_law_402 : decode code 402 = .ok (.iload_n 3, 1) := by decide +kernel
theorem dL_law_403 : decode code 403 = .ok (.iconst 1, 1) := by decide +kernel
theorem dL_law_404 : decode code 404 = .ok (.iadd, 1) := by decide +kernel
theorem dL_law_405 : decode code 405 = .ok (.iaload, 1) := by decide +kernel
theorem dL_law_406 : decode code 406 = .ok (.aload_n 0, 1) := by decide +kernel
theorem dL_law_407 : decode code 407 = .ok (.iload_n 3, 1) := by decide +kernel
theorem dL_law_408 : decode code 408 = .ok (.iconst 2, 1) := by decide +kernel
theorem dL_law_409 : decode code 409 = .ok (.iadd, 1) := by decide +kernel
theorem dL_law_410 : decode code 410 = .ok (.iaload, 1) := by decide +kernel
theorem dL_law_411 : decode code 411 = .ok (.invokevirtual 43, 3) := by decide +kernel
theorem dL_law_414 : decode code 414 = .ok (.if_icmp .eq 790, 3) := by decide +kernel
theorem dL_law_417 : decode code 417 = .ok (.iconst 0, 1) := by decide +kernel
theorem dL_law_418 : decode code 418 = .ok (.ireturn, 1) := by decide +kernel
theorem dL_law_419 : decode code 419 = .ok (.aload_n 1, 1) := by decide +kernel
theorem dL_law_420 : decode code 420 = .ok (.aload_n 0, 1) := by decide +kernel
theorem dL_law_421 : decode code 421 = .ok (.iload_n 3, 1) := by decide +kernel
theorem dL_law_422 : decode code 422 = .ok (.iconst 1, 1) := by decide +kernel
theorem dL_law_423 : decode code 423 = .ok (.iadd, 1) := by decide +kernel
theorem dL_law_424 : decode code 424 = .ok (.iaload, 1) := by decide +kernel
theorem dL_law_425 : decode code 425 = .ok (.aload_n 0, 1) := by decide +kernel
theorem dL_law_426 : decode code 426 = .ok (.iload_n 3, 1) := by decide +kernel
theorem dL_law_427 : decode code 427 = .ok (.iconst 2, 1) := by decide +kernel
theorem dL_law_428 : decode code 428 = .ok (.iadd, 1) := by decide +kernel
theorem dL_law_429 : decode code 429 = .ok (.iaload, 1) := by decide +kernel
theorem dL_law_430 : decode code 430 = .ok (.invokevirtual 44, 3) := by decide +kernel
theorem dL_law_433 : decode code 433 = .ok (.aload_n 2, 1) := by decide +kernel
theorem dL_law_434 : decode code 434 = .ok (.aload_n 0, 1) := by decide +kernel
theorem dL_law_435 : decode code 435 = .ok (.iload_n 3, 1) := by decide +kernel
theorem dL_law_436 : decode code 436 = .ok (.iconst 1, 1) := by decide +kernel
theorem dL_law_437 : decode code 437 = .ok (.iadd, 1) := by decide +kernel
theorem dL_law_438 : decode code 438 = .ok (.iaload, 1) := by decide +kernel
theorem dL_law_439 : decode code 439 = .ok (.aload_n 0, 1) := by decide +kernel
theorem dL_law_440 : decode code 440 = .ok (.iload_n 3, 1) := by decide +kernel
theorem dL_law_441 : decode code 441 = .ok (.iconst 2, 1) := by decide +kernel
theorem dL_law_442 : decode code 442 = .ok (.iadd, 1) := by decide +kernel
theorem dL_law_443 : decode code 443 = .ok (.iaload, 1) := by decide +kernel
theorem dL_law_444 : decode code 444 = .ok (.invokevirtual 47, 3) := by decide +kernel
theorem dL_law_447 : decode code 447 = .ok (.if_icmp .eq 757, 3) := by decide +kernel
theorem dL_law_450 : decode code 450 = .ok (.iconst 0, 1) := by decide +kernel
theorem dL_law_451 : decode code 451 = .ok (.ireturn, 1) := by decide +kernel
theorem dL_law_452 : decode code 452 = .ok (.aload_n 1, 1) := by decide +kernel
theorem dL_law_453 : decode code 453 = .ok (.aload_n 0, 1) := by decide +kernel
theorem dL_law_454 : decode code 454 = .ok (.iload_n 3, 1) := by decide +kernel
theorem dL_law_455 : decode code 455 = .ok (.iconst 1, 1) := by decide +kernel
theorem dL_law_456 : decode code 456 = .ok (.iadd, 1) := by decide +kernel
theorem dL_law_457 : decode code 457 = .ok (.iaload, 1) := by decide +kernel
theorem dL_law_458 : decode code 458 = .ok (.aload_n 0, 1) := by decide +kernel
theorem dL_law_459 : decode code 459 = .ok (.iload_n 3, 1) := by decide +kernel
theorem dL_law_460 : decode code 460 = .ok (.iconst 2, 1) := by decide +kernel
theorem dL_law_461 : decode code 461 = .ok (.iadd, 1) := by decide +kernel
theorem dL_law_462 : decode code 462 = .ok (.iaload, 1) := by decide +kernel
theorem dL_law_463 : decode code 463 = .ok (.invokevirtual 48, 3) := by decide +kernel
theorem dL_law_466 : decode code 466 = .ok (.aload_n 2, 1) := by decide +kernel
theorem dL_law_467 : decode code 467 = .ok (.aload_n 0, 1) := by decide +kernel
theorem dL_law_468 : decode code 468 = .ok (.iload_n 3, 1) := by decide +kernel
theorem dL_law_469 : decode code 469 = .ok (.iconst 1, 1) := by decide +kernel
theorem dL_law_470 : decode code 470 = .ok (.iadd, 1) := by decide +kernel
theorem dL_law_471 : decode code 471 = .ok (.iaload, 1) := by decide +kernel
theorem dL_law_472 : decode code 472 = .ok (.aload_n 0, 1) := by decide +kernel
theorem dL_law_473 : decode code 473 = .ok (.iload_n 3, 1) := by decide +kernel
theorem dL_law_474 : decode code 474 = .ok (.iconst 2, 1) := by decide +kernel
theorem dL_law_475 : decode code 475 = .ok (.iadd, 1) := by decide +kernel
theorem dL_law_476 : decode code 476 = .ok (.iaload, 1) := by decide +kernel
theorem dL_law_477 : decode code 477 = .ok (.invokevirtual 51, 3) := by decide +kernel
theorem dL_law_480 : decode code 480 = .ok (.if_icmp .eq 724, 3) := by decide +kernel
theorem dL_law_483 : decode code 483 = .ok (.iconst 0, 1) := by decide +kernel
theorem dL_law_484 : decode code 484 = .ok (.ireturn, 1) := by decide +kernel
theorem dL_law_485 : decode code 485 = .ok (.aload_n 1, 1) := by decide +kernel
theorem dL_law_486 : decode code 486 = .ok (.aload_n 0, 1) := by decide +kernel
theorem dL_law_487 : decode code 487 = .ok (.iload_n 3, 1) := by decide +kernel
theorem dL_law_488 : decode code 488 = .ok (.iconst 1, 1) := by decide +kernel
theorem dL_law_489 : decode code 489 = .ok (.iadd, 1) := by decide +kernel
theorem dL_law_490 : decode code 490 = .ok (.iaload, 1) := by decide +kernel
theorem dL_law_491 : decode code 491 = .ok (.aload_n 0, 1) := by decide +kernel
theorem dL_law_492 : decode code 492 = .ok (.iload_n 3, 1) := by decide +kernel
theorem dL_law_493 : decode code 493 = .ok (.iconst 2, 1) := by decide +kernel
theorem dL_law_494 : decode code 494 = .ok (.iadd, 1) := by decide +kernel
theorem dL_law_495 : decode code 495 = .ok (.iaload, 1) := by decide +kernel
theorem dL_law_496 : decode code 496 = .ok (.invokevirtual 52, 3) := by decide +kernel
theorem dL_law_499 : decode code 499 = .ok (.aload_n 2, 1) := by decide +kernel
theorem dL_law_500 : decode code 500 = .ok (.aload_n 0, 1) := by decide +kernel
theorem dL_law_501 : decode code 501 = .ok (.iload_n 3, 1) := by decide +kernel
theorem dL_law_502 : decode code 502 = .ok (.iconst 1, 1) := by decide +kernel
theorem dL_law_503 : decode code 503 = .ok (.iadd, 1) := by decide +kernel
theorem dL_law_504 : decode code 504 = .ok (.iaload, 1) := by decide +kernel
theorem dL_law_505 : decode code 505 = .ok (.aload_n 0, 1) := by decide +kernel
theorem dL_law_506 : decode code 506 = .ok (.iload_n 3, 1) := by decide +kernel
theorem dL_law_507 : decode code 507 = .ok (.iconst 2, 1) := by decide +kernel
theorem dL_law_508 : decode code 508 = .ok (.iadd, 1) := by decide +kernel
theorem dL_law_509 : decode code 509 = .ok (.iaload, 1) := by decide +kernel
theorem dL_law_510 : decode code 510 = .ok (.invokevirtual 55, 3) := by decide +kernel
theorem dL_law_513 : decode code 513 = .ok (.if_icmp .eq 691, 3) := by decide +kernel
theorem dL_law_516 : decode code 516 = .ok (.iconst 0, 1) := by decide +kernel
theorem dL_law_517 : decode code 517 = .ok (.ireturn, 1) := by decide +kernel
theorem dL_law_518 : decode code 518 = .ok (.aload_n 1, 1) := by decide +kernel
theorem dL_law_519 : decode code 519 = .ok (.aload_n 0, 1) := by decide +kernel
theorem dL_law_520 : decode code 520 = .ok (.iload_n 3, 1) := by decide +kernel
theorem dL_law_521 : decode code 521 = .ok (.iconst 1, 1) := by decide +kernel
theorem dL_law_522 : decode code 522 = .ok (.iadd, 1) := by decide +kernel
theorem dL_law_523 : decode code 523 = .ok (.iaload, 1) := by decide +kernel
theorem dL_law_524 : decode code 524 = .ok (.invokevirtual 56, 3) := by decide +kernel
theorem dL_law_527 : decode code 527 = .ok (.aload_n 2, 1) := by decide +kernel
theorem dL_law_528 : decode code 528 = .ok (.aload_n 0, 1) := by decide +kernel
theorem dL_law_529 : decode code 529 = .ok (.iload_n 3, 1) := by decide +kernel
theorem dL_law_530 : decode code 530 = .ok (.iconst 1, 1) := by decide +kernel
theorem dL_law_531 : decode code 531 = .ok (.iadd, 1) := by decide +kernel
theorem dL_law_532 : decode code 532 = .ok (.iaload, 1) := by decide +kernel
theorem dL_law_533 : decode code 533 = .ok (.invokevirtual 59, 3) := by decide +kernel
theorem dL_law_536 : decode code 536 = .ok (.if_icmp .eq 668, 3) := by decide +kernel
theorem dL_law_539 : decode code 539 = .ok (.iconst 0, 1) := by decide +kernel
theorem dL_law_540 : decode code 540 = .ok (.ireturn, 1) := by decide +kernel
theorem dL_law_541 : decode code 541 = .ok (.aload_n 1, 1) := by decide +kernel
theorem dL_law_542 : decode code 542 = .ok (.aload_n 0, 1) := by decide +kernel
theorem dL_law_543 : decode code 543 = .ok (.iload_n 3, 1) := by decide +kernel
theorem dL_law_544 : decode code 544 = .ok (.iconst 1, 1) := by decide +kernel
theorem dL_law_545 : decode code 545 = .ok (.iadd, 1) := by decide +kernel
theorem dL_law_546 : decode code 546 = .ok (.iaload, 1) := by decide +kernel
theorem dL_law_547 : decode code 547 = .ok (.aload_n 0, 1) := by decide +kernel
theorem dL_law_548 : decode code 548 = .ok (.iload_n 3, 1) := by decide +kernel
theorem dL_law_549 : decode code 549 = .ok (.iconst 2, 1) := by decide +kernel
theorem dL_law_550 : decode code 550 = .ok (.iadd, 1) := by decide +kernel
theorem dL_law_551 : decode code 551 = .ok (.iaload, 1) := by decide +kernel
theorem dL_law_552 : decode code 552 = .ok (.invokevirtual 60, 3) := by decide +kernel
theorem dL_law_555 : decode code 555 = .ok (.aload_n 2, 1) := by decide +kernel
theorem dL_law_556 : decode code 556 = .ok (.aload_n 0, 1) := by decide +kernel
theorem dL_law_557 : decode code 557 = .ok (.iload_n 3, 1) := by decide +kernel
theorem dL_law_558 : decode code 558 = .ok (.iconst 1, 1) := by decide +kernel
theorem dL_law_559 : decode code 559 = .ok (.iadd, 1) := by decide +kernel
theorem dL_law_560 : decode code 560 = .ok (.iaload, 1) := by decide +kernel
theorem dL_law_561 : decode code 561 = .ok (.aload_n 0, 1) := by decide +kernel
theorem dL_law_562 : decode code 562 = .ok (.iload_n 3, 1) := by decide +kernel
theorem dL_law_563 : decode code 563 = .ok (.iconst 2, 1) := by decide +kernel
theorem dL_law_564 : decode code 564 = .ok (.iadd, 1) := by decide +kernel
theorem dL_law_565 : decode code 565 = .ok (.iaload, 1) := by decide +kernel
theorem dL_law_566 : decode code 566 = .ok (.invokevirtual 63, 3) := by decide +kernel
theorem dL_law_569 : decode code 569 = .ok (.if_icmp .eq 635, 3) := by decide +kernel
theorem dL_law_572 : decode code 572 = .ok (.iconst 0, 1) := by decide +kernel
theorem dL_law_573 : decode code 573 = .ok (.ireturn, 1) := by decide +kernel
theorem dL_law_574 : decode code 574 = .ok (.aload_n 1, 1) := by decide +kernel
theorem dL_law_575 : decode code 575 = .ok (.aload_n 0, 1) := by decide +kernel
theorem dL_law_576 : decode code 576 = .ok (.iload_n 3, 1) := by decide +kernel
theorem dL_law_577 : decode code 577 = .ok (.iconst 1, 1) := by decide +kernel
theorem dL_law_578 : decode code 578 = .ok (.iadd, 1) := by decide +kernel
theorem dL_law_579 : decode code 579 = .ok (.iaload, 1) := by decide +kernel
theorem dL_law_580 : decode code 580 = .ok (.invokevirtual 64, 3) := by decide +kernel
theorem dL_law_583 : decode code 583 = .ok (.aload_n 2, 1) := by decide +kernel
theorem dL_law_584 : decode code 584 = .ok (.aload_n 0, 1) := by decide +kernel
theorem dL_law_585 : decode code 585 = .ok (.iload_n 3, 1) := by decide +kernel
theorem dL_law_586 : decode code 586 = .ok (.iconst 1, 1) := by decide +kernel
theorem dL_law_587 : decode code 587 = .ok (.iadd, 1) := by decide +kernel
theorem dL_law_588 : decode code 588 = .ok (.iaload, 1) := by decide +kernel
theorem dL_law_589 : decode code 589 = .ok (.invokevirtual 67, 3) := by decide +kernel
theorem dL_law_592 : decode code 592 = .ok (.if_icmp .eq 612, 3) := by decide +kernel
theorem dL_law_595 : decode code 595 = .ok (.iconst 0, 1) := by decide +kernel
theorem dL_law_596 : decode code 596 = .ok (.ireturn, 1) := by decide +kernel
theorem dL_law_597 : decode code 597 = .ok (.aload_n 1, 1) := by decide +kernel
theorem dL_law_598 : decode code 598 = .ok (.aload_n 0, 1) := by decide +kernel
theorem dL_law_599 : decode code 599 = .ok (.iload_n 3, 1) := by decide +kernel
theorem dL_law_600 : decode code 600 = .ok (.iconst 1, 1) := by decide +kernel
theorem dL_law_601 : decode code 601 = .ok (.iadd, 1) := by decide +kernel
theorem dL_law_602 : decode code 602 = .ok (.iaload, 1) := by decide +kernel
theorem dL_law_603 : decode code 603 = .ok (.aload_n 0, 1) := by decide +kernel
theorem dL_law_604 : decode code 604 = .ok (.iload_n 3, 1) := by decide +kernel
theorem dL_law_605 : decode code 605 = .ok (.iconst 2, 1) := by decide +kernel
theorem dL_law_606 : decode code 606 = .ok (.iadd, 1) := by decide +kernel
theorem dL_law_607 : decode code 607 = .ok (.iaload, 1) := by decide +kernel
theorem dL_law_608 : decode code 608 = .ok (.invokevirtual 68, 3) := by decide +kernel
theorem dL_law_611 : decode code 611 = .ok (.aload_n 2, 1) := by decide +kernel
theorem dL_law_612 : decode code 612 = .ok (.aload_n 0, 1) := by decide +kernel
theorem dL_law_613 : decode code 613 = .ok (.iload_n 3, 1) := by decide +kernel
theorem dL_law_614 : decode code 614 = .ok (.iconst 1, 1) := by decide +kernel
theorem dL_law_615 : decode code 615 = .ok (.iadd, 1) := by decide +kernel
theorem dL_law_616 : decode code 616 = .ok (.iaload, 1) := by decide +kernel
theorem dL_law_617 : decode code 617 = .ok (.aload_n 0, 1) := by decide +kernel
theorem dL_law_618 : decode code 618 = .ok (.iload_n 3, 1) := by decide +kernel
theorem dL_law_619 : decode code 619 = .ok (.iconst 2, 1) := by decide +kernel
theorem dL_law_620 : decode code 620 = .ok (.iadd, 1) := by decide +kernel
theorem dL_law_621 : decode code 621 = .ok (.iaload, 1) := by decide +kernel
theorem dL_law_622 : decode code 622 = .ok (.invokevirtual 71, 3) := by decide +kernel
theorem dL_law_625 : decode code 625 = .ok (.if_icmp .eq 579, 3) := by decide +kernel
theorem dL_law_628 : decode code 628 = .ok (.iconst 0, 1) := by decide +kernel
theorem dL_law_629 : decode code 629 = .ok (.ireturn, 1) := by decide +kernel
theorem dL_law_630 : decode code 630 = .ok (.aload_n 1, 1) := by decide +kernel
theorem dL_law_631 : decode code 631 = .ok (.aload_n 0, 1) := by decide +kernel
theorem dL_law_632 : decode code 632 = .ok (.iload_n 3, 1) := by decide +kernel
theorem dL_law_633 : decode code 633 = .ok (.iconst 1, 1) := by decide +kernel
theorem dL_law_634 : decode code 634 = .ok (.iadd, 1) := by decide +kernel
theorem dL_law_635 : decode code 635 = .ok (.iaload, 1) := by decide +kernel
theorem dL_law_636 : decode code 636 = .ok (.aload_n 0, 1) := by decide +kernel
theorem dL_law_637 : decode code 637 = .ok (.iload_n 3, 1) := by decide +kernel
theorem dL_law_638 : decode code 638 = .ok (.iconst 2, 1) := by decide +kernel
theorem dL_law_639 : decode code 639 = .ok (.iadd, 1) := by decide +kernel
theorem dL_law_640 : decode code 640 = .ok (.iaload, 1) := by decide +kernel
theorem dL_law_641 : decode code 641 = .ok (.invokevirtual 72, 3) := by decide +kernel
theorem dL_law_644 : decode code 644 = .ok (.aload_n 2, 1) := by decide +kernel
theorem dL_law_645 : decode code 645 = .ok (.aload_n 0, 1) := by decide +kernel
theorem dL_law_646 : decode code 646 = .ok (.iload_n 3, 1) := by decide +kernel
theorem dL_law_647 : decode code 647 = .ok (.iconst 1, 1) := by decide +kernel
theorem dL_law_648 : decode code 648 = .ok (.iadd, 1) := by decide +kernel
theorem dL_law_649 : decode code 649 = .ok (.iaload, 1) := by decide +kernel
theorem dL_law_650 : decode code 650 = .ok (.aload_n 0, 1) := by decide +kernel
theorem dL_law_651 : decode code 651 = .ok (.iload_n 3, 1) := by decide +kernel
theorem dL_law_652 : decode code 652 = .ok (.iconst 2, 1) := by decide +kernel
theorem dL_law_653 : decode code 653 = .ok (.iadd, 1) := by decide +kernel
theorem dL_law_654 : decode code 654 = .ok (.iaload, 1) := by decide +kernel
theorem dL_law_655 : decode code 655 = .ok (.invokevirtual 75, 3) := by decide +kernel
theorem dL_law_658 : decode code 658 = .ok (.if_icmp .eq 546, 3) := by decide +kernel
theorem dL_law_661 : decode code 661 = .ok (.iconst 0, 1) := by decide +kernel
theorem dL_law_662 : decode code 662 = .ok (.ireturn, 1) := by decide +kernel
theorem dL_law_663 : decode code 663 = .ok (.aload_n 1, 1) := by decide +kernel
theorem dL_law_664 : decode code 664 = .ok (.aload_n 0, 1) := by decide +kernel
theorem dL_law_665 : decode code 665 = .ok (.iload_n 3, 1) := by decide +kernel
theorem dL_law_666 : decode code 666 = .ok (.iconst 1, 1) := by decide +kernel
theorem dL_law_667 : decode code 667 = .ok (.iadd, 1) := by decide +kernel
theorem dL_law_668 : decode code 668 = .ok (.iaload, 1) := by decide +kernel
theorem dL_law_669 : decode code 669 = .ok (.invokevirtual 76, 3) := by decide +kernel
theorem dL_law_672 : decode code 672 = .ok (.aload_n 2, 1) := by decide +kernel
theorem dL_law_673 : decode code 673 = .ok (.aload_n 0, 1) := by decide +kernel
theorem dL_law_674 : decode code 674 = .ok (.iload_n 3, 1) := by decide +kernel
theorem dL_law_675 : decode code 675 = .ok (.iconst 1, 1) := by decide +kernel
theorem dL_law_676 : decode code 676 = .ok (.iadd, 1) := by decide +kernel
theorem dL_law_677 : decode code 677 = .ok (.iaload, 1) := by decide +kernel
theorem dL_law_678 : decode code 678 = .ok (.invokevirtual 79, 3) := by decide +kernel
theorem dL_law_681 : decode code 681 = .ok (.if_icmp .eq 523, 3) := by decide +kernel
theorem dL_law_684 : decode code 684 = .ok (.iconst 0, 1) := by decide +kernel
theorem dL_law_685 : decode code 685 = .ok (.ireturn, 1) := by decide +kernel
theorem dL_law_686 : decode code 686 = .ok (.aload_n 1, 1) := by decide +kernel
theorem dL_law_687 : decode code 687 = .ok (.aload_n 0, 1) := by decide +kernel
theorem dL_law_688 : decode code 688 = .ok (.iload_n 3, 1) := by decide +kernel
theorem dL_law_689 : decode code 689 = .ok (.iconst 1, 1) := by decide +kernel
theorem dL_law_690 : decode code 690 = .ok (.iadd, 1) := by decide +kernel
theorem dL_law_691 : decode code 691 = .ok (.iaload, 1) := by decide +kernel
theorem dL_law_692 : decode code 692 = .ok (.aload_n 0, 1) := by decide +kernel
theorem dL_law_693 : decode code 693 = .ok (.iload_n 3, 1) := by decide +kernel
theorem dL_law_694 : decode code 694 = .ok (.iconst 2, 1) := by decide +kernel
theorem dL_law_695 : decode code 695 = .ok (.iadd, 1) := by decide +kernel
theorem dL_law_696 : decode code 696 = .ok (.iaload, 1) := by decide +kernel
theorem dL_law_697 : decode code 697 = .ok (.invokevirtual 80, 3) := by decide +kernel
theorem dL_law_700 : decode code 700 = .ok (.aload_n 2, 1) := by decide +kernel
theorem dL_law_701 : decode code 701 = .ok (.aload_n 0, 1) := by decide +kernel
theorem dL_law_702 : decode code 702 = .ok (.iload_n 3, 1) := by decide +kernel
theorem dL_law_703 : decode code 703 = .ok (.iconst 1, 1) := by decide +kernel
theorem dL_law_704 : decode code 704 = .ok (.iadd, 1) := by decide +kernel
theorem dL_law_705 : decode code 705 = .ok (.iaload, 1) := by decide +kernel
theorem dL_law_706 : decode code 706 = .ok (.aload_n 0, 1) := by decide +kernel
theorem dL_law_707 : decode code 707 = .ok (.iload_n 3, 1) := by decide +kernel
theorem dL_law_708 : decode code 708 = .ok (.iconst 2, 1) := by decide +kernel
theorem dL_law_709 : decode code 709 = .ok (.iadd, 1) := by decide +kernel
theorem dL_law_710 : decode code 710 = .ok (.iaload, 1) := by decide +kernel
theorem dL_law_711 : decode code 711 = .ok (.invokevirtual 83, 3) := by decide +kernel
theorem dL_law_714 : decode code 714 = .ok (.if_icmp .eq 490, 3) := by decide +kernel
theorem dL_law_717 : decode code 717 = .ok (.iconst 0, 1) := by decide +kernel
theorem dL_law_718 : decode code 718 = .ok (.ireturn, 1) := by decide +kernel
theorem dL_law_719 : decode code 719 = .ok (.aload_n 1, 1) := by decide +kernel
theorem dL_law_720 : decode code 720 = .ok (.aload_n 0, 1) := by decide +kernel
theorem dL_law_721 : decode code 721 = .ok (.iload_n 3, 1) := by decide +kernel
theorem dL_law_722 : decode code 722 = .ok (.iconst 1, 1) := by decide +kernel
theorem dL_law_723 : decode code 723 = .ok (.iadd, 1) := by decide +kernel
theorem dL_law_724 : decode code 724 = .ok (.iaload, 1) := by decide +kernel
theorem dL_law_725 : decode code 725 = .ok (.invokevirtual 84, 3) := by decide +kernel
theorem dL_law_728 : decode code 728 = .ok (.aload_n 2, 1) := by decide +kernel
theorem dL_law_729 : decode code 729 = .ok (.aload_n 0, 1) := by decide +kernel
theorem dL_law_730 : decode code 730 = .ok (.iload_n 3, 1) := by decide +kernel
theorem dL_law_731 : decode code 731 = .ok (.iconst 1, 1) := by decide +kernel
theorem dL_law_732 : decode code 732 = .ok (.iadd, 1) := by decide +kernel
theorem dL_law_733 : decode code 733 = .ok (.iaload, 1) := by decide +kernel
theorem dL_law_734 : decode code 734 = .ok (.invokevirtual 87, 3) := by decide +kernel
theorem dL_law_737 : decode code 737 = .ok (.if_icmp .eq 467, 3) := by decide +kernel
theorem dL_law_740 : decode code 740 = .ok (.iconst 0, 1) := by decide +kernel
theorem dL_law_741 : decode code 741 = .ok (.ireturn, 1) := by decide +kernel
theorem dL_law_742 : decode code 742 = .ok (.aload_n 1, 1) := by decide +kernel
theorem dL_law_743 : decode code 743 = .ok (.invokevirtual 88, 3) := by decide +kernel
theorem dL_law_746 : decode code 746 = .ok (.aload_n 2, 1) := by decide +kernel
theorem dL_law_747 : decode code 747 = .ok (.invokevirtual 92, 3) := by decide +kernel
theorem dL_law_750 : decode code 750 = .ok (.if_icmp .eq 454, 3) := by decide +kernel
theorem dL_law_753 : decode code 753 = .ok (.iconst 0, 1) := by decide +kernel
theorem dL_law_754 : decode code 754 = .ok (.ireturn, 1) := by decide +kernel
theorem dL_law_755 : decode code 755 = .ok (.aload_n 1, 1) := by decide +kernel
theorem dL_law_756 : decode code 756 = .ok (.aload_n 0, 1) := by decide +kernel
theorem dL_law_757 : decode code 757 = .ok (.iload_n 3, 1) := by decide +kernel
theorem dL_law_758 : decode code 758 = .ok (.iconst 1, 1) := by decide +kernel
theorem dL_law_759 : decode code 759 = .ok (.iadd, 1) := by decide +kernel
theorem dL_law_760 : decode code 760 = .ok (.iaload, 1) := by decide +kernel
theorem dL_law_761 : decode code 761 = .ok (.invokevirtual 93, 3) := by decide +kernel
theorem dL_law_764 : decode code 764 = .ok (.aload_n 2, 1) := by decide +kernel
theorem dL_law_765 : decode code 765 = .ok (.aload_n 0, 1) := by decide +kernel
theorem dL_law_766 : decode code 766 = .ok (.iload_n 3, 1) := by decide +kernel
theorem dL_law_767 : decode code 767 = .ok (.iconst 1, 1) := by decide +kernel
theorem dL_law_768 : decode code 768 = .ok (.iadd, 1) := by decide +kernel
theorem dL_law_769 : decode code 769 = .ok (.iaload, 1) := by decide +kernel
theorem dL_law_770 : decode code 770 = .ok (.invokevirtual 96, 3) := by decide +kernel
theorem dL_law_773 : decode code 773 = .ok (.if_icmp .eq 431, 3) := by decide +kernel
theorem dL_law_776 : decode code 776 = .ok (.iconst 0, 1) := by decide +kernel
theorem dL_law_777 : decode code 777 = .ok (.ireturn, 1) := by decide +kernel
theorem dL_law_778 : decode code 778 = .ok (.aload_n 1, 1) := by decide +kernel
theorem dL_law_779 : decode code 779 = .ok (.invokevirtual 97, 3) := by decide +kernel
theorem dL_law_782 : decode code 782 = .ok (.aload_n 2, 1) := by decide +kernel
theorem dL_law_783 : decode code 783 = .ok (.invokevirtual 100, 3) := by decide +kernel
theorem dL_law_786 : decode code 786 = .ok (.if_icmp .eq 418, 3) := by decide +kernel
theorem dL_law_789 : decode code 789 = .ok (.iconst 0, 1) := by decide +kernel
theorem dL_law_790 : decode code 790 = .ok (.ireturn, 1) := by decide +kernel
theorem dL_law_791 : decode code 791 = .ok (.aload_n 1, 1) := by decide +kernel
theorem dL_law_792 : decode code 792 = .ok (.aload_n 0, 1) := by decide +kernel
theorem dL_law_793 : decode code 793 = .ok (.iload_n 3, 1) := by decide +kernel
theorem dL_law_794 : decode code 794 = .ok (.iconst 1, 1) := by decide +kernel
theorem dL_law_795 : decode code 795 = .ok (.iadd, 1) := by decide +kernel
theorem dL_law_796 : decode code 796 = .ok (.iaload, 1) := by decide +kernel
theorem dL_law_797 : decode code 797 = .ok (.invokevirtual 101, 3) := by decide +kernel
theorem dL_law_800 : decode code 800 = .ok (.aload_n 2, 1) := by decide +kernel
theorem dL_law_801 : decode code 801 = .ok (.aload_n 0, 1) := by decide +kernel
theorem dL_law_802 : decode code 802 = .ok (.iload_n 3, 1) := by decide +kernel
theorem dL_law_803 : decode code 803 = .ok (.iconst 1, 1) := by decide +kernel
theorem dL_law_804 : decode code 804 = .ok (.iadd, 1) := by decide +kernel
theorem dL_law_805 : decode code 805 = .ok (.iaload, 1) := by decide +kernel
theorem dL_law_806 : decode code 806 = .ok (.invokevirtual 104, 3) := by decide +kernel
theorem dL_law_809 : decode code 809 = .ok (.if_icmp .eq 395, 3) := by decide +kernel
theorem dL_law_812 : decode code 812 = .ok (.iconst 0, 1) := by decide +kernel
theorem dL_law_813 : decode code 813 = .ok (.ireturn, 1) := by decide +kernel
theorem dL_law_814 : decode code 814 = .ok (.aload_n 1, 1) := by decide +kernel
theorem dL_law_815 : decode code 815 = .ok (.aload_n 0, 1) := by decide +kernel
theorem dL_law_816 : decode code 816 = .ok (.iload_n 3, 1) := by decide +kernel
theorem dL_law_817 : decode code 817 = .ok (.iconst 1, 1) := by decide +kernel
theorem dL_law_818 : decode code 818 = .ok (.iadd, 1) := by decide +kernel
theorem dL_law_819 : decode code 819 = .ok (.iaload, 1) := by decide +kernel
theorem dL_law_820 : decode code 820 = .ok (.aload_n 0, 1) := by decide +kernel
theorem dL_law_821 : decode code 821 = .ok (.iload_n 3, 1) := by decide +kernel
theorem dL_law_822 : decode code 822 = .ok (.iconst 2, 1) := by decide +kernel
theorem dL_law_823 : decode code 823 = .ok (.iadd, 1) := by decide +kernel
theorem dL_law_824 : decode code 824 = .ok (.iaload, 1) := by decide +kernel
theorem dL_law_825 : decode code 825 = .ok (.invokevirtual 105, 3) := by decide +kernel
theorem dL_law_828 : decode code 828 = .ok (.aload_n 2, 1) := by decide +kernel
theorem dL_law_829 : decode code 829 = .ok (.aload_n 0, 1) := by decide +kernel
theorem dL_law_830 : decode code 830 = .ok (.iload_n 3, 1) := by decide +kernel
theorem dL_law_831 : decode code 831 = .ok (.iconst 1, 1) := by decide +kernel
theorem dL_law_832 : decode code 832 = .ok (.iadd, 1) := by decide +kernel
theorem dL_law_833 : decode code 833 = .ok (.iaload, 1) := by decide +kernel
theorem dL_law_834 : decode code 834 = .ok (.aload_n 0, 1) := by decide +kernel
theorem dL_law_835 : decode code 835 = .ok (.iload_n 3, 1) := by decide +kernel
theorem dL_law_836 : decode code 836 = .ok (.iconst 2, 1) := by decide +kernel
theorem dL_law_837 : decode code 837 = .ok (.iadd, 1) := by decide +kernel
theorem dL_law_838 : decode code 838 = .ok (.iaload, 1) := by decide +kernel
theorem dL_law_839 : decode code 839 = .ok (.invokevirtual 108, 3) := by decide +kernel
theorem dL_law_842 : decode code 842 = .ok (.if_icmp .eq 362, 3) := by decide +kernel
theorem dL_law_845 : decode code 845 = .ok (.iconst 0, 1) := by decide +kernel
theorem dL_law_846 : decode code 846 = .ok (.ireturn, 1) := by decide +kernel
theorem dL_law_847 : decode code 847 = .ok (.aload_n 1, 1) := by decide +kernel
theorem dL_law_848 : decode code 848 = .ok (.invokevirtual 109, 3) := by decide +kernel
theorem dL_law_851 : decode code 851 = .ok (.aload_n 2, 1) := by decide +kernel
theorem dL_law_852 : decode code 852 = .ok (.invokevirtual 112, 3) := by decide +kernel
theorem dL_law_855 : decode code 855 = .ok (.if_icmp .eq 349, 3) := by decide +kernel
theorem dL_law_858 : decode code 858 = .ok (.iconst 0, 1) := by decide +kernel
theorem dL_law_859 : decode code 859 = .ok (.ireturn, 1) := by decide +kernel
theorem dL_law_860 : decode code 860 = .ok (.aload_n 1, 1) := by decide +kernel
theorem dL_law_861 : decode code 861 = .ok (.invokevirtual 113, 3) := by decide +kernel
theorem dL_law_864 : decode code 864 = .ok (.aload_n 2, 1) := by decide +kernel
theorem dL_law_865 : decode code 865 = .ok (.invokevirtual 116, 3) := by decide +kernel
theorem dL_law_868 : decode code 868 = .ok (.if_icmp .eq 336, 3) := by decide +kernel
theorem dL_law_871 : decode code 871 = .ok (.iconst 0, 1) := by decide +kernel
theorem dL_law_872 : decode code 872 = .ok (.ireturn, 1) := by decide +kernel
theorem dL_law_873 : decode code 873 = .ok (.aload_n 1, 1) := by decide +kernel
theorem dL_law_874 : decode code 874 = .ok (.aload_n 0, 1) := by decide +kernel
theorem dL_law_875 : decode code 875 = .ok (.iload_n 3, 1) := by decide +kernel
theorem dL_law_876 : decode code 876 = .ok (.iconst 1, 1) := by decide +kernel
theorem dL_law_877 : decode code 877 = .ok (.iadd, 1) := by decide +kernel
theorem dL_law_878 : decode code 878 = .ok (.iaload, 1) := by decide +kernel
theorem dL_law_879 : decode code 879 = .ok (.aload_n 0, 1) := by decide +kernel
theorem dL_law_880 : decode code 880 = .ok (.iload_n 3, 1) := by decide +kernel
theorem dL_law_881 : decode code 881 = .ok (.iconst 2, 1) := by decide +kernel
theorem dL_law_882 : decode code 882 = .ok (.iadd, 1) := by decide +kernel
theorem dL_law_883 : decode code 883 = .ok (.iaload, 1) := by decide +kernel
theorem dL_law_884 : decode code 884 = .ok (.aload_n 0, 1) := by decide +kernel
theorem dL_law_885 : decode code 885 = .ok (.iload_n 3, 1) := by decide +kernel
theorem dL_law_886 : decode code 886 = .ok (.iconst 3, 1) := by decide +kernel
theorem dL_law_887 : decode code 887 = .ok (.iadd, 1) := by decide +kernel
theorem dL_law_888 : decode code 888 = .ok (.iaload, 1) := by decide +kernel
theorem dL_law_889 : decode code 889 = .ok (.invokevirtual 117, 3) := by decide +kernel
theorem dL_law_892 : decode code 892 = .ok (.aload_n 2, 1) := by decide +kernel
theorem dL_law_893 : decode code 893 = .ok (.aload_n 0, 1) := by decide +kernel
theorem dL_law_894 : decode code 894 = .ok (.iload_n 3, 1) := by decide +kernel
theorem dL_law_895 : decode code 895 = .ok (.iconst 1, 1) := by decide +kernel
theorem dL_law_896 : decode code 896 = .ok (.iadd, 1) := by decide +kernel
theorem dL_law_897 : decode code 897 = .ok (.iaload, 1) := by decide +kernel
theorem dL_law_898 : decode code 898 = .ok (.aload_n 0, 1) := by decide +kernel
theorem dL_law_899 : decode code 899 = .ok (.iload_n 3, 1) := by decide +kernel
theorem dL_law_900 : decode code 900 = .ok (.iconst 2, 1) := by decide +kernel
theorem dL_law_901 : decode code 901 = .ok (.iadd, 1) := by decide +kernel
theorem dL_law_902 : decode code 902 = .ok (.iaload, 1) := by decide +kernel
theorem dL_law_903 : decode code 903 = .ok (.aload_n 0, 1) := by decide +kernel
theorem dL_law_904 : decode code 904 = .ok (.iload_n 3, 1) := by decide +kernel
theorem dL_law_905 : decode code 905 = .ok (.iconst 3, 1) := by decide +kernel
theorem dL_law_906 : decode code 906 = .ok (.iadd, 1) := by decide +kernel
theorem dL_law_907 : decode code 907 = .ok (.iaload, 1) := by decide +kernel
theorem dL_law_908 : decode code 908 = .ok (.invokevirtual 120, 3) := by decide +kernel
theorem dL_law_911 : decode code 911 = .ok (.if_icmp .eq 293, 3) := by decide +kernel
theorem dL_law_914 : decode code 914 = .ok (.iconst 0, 1) := by decide +kernel
theorem dL_law_915 : decode code 915 = .ok (.ireturn, 1) := by decide +kernel
theorem dL_law_916 : decode code 916 = .ok (.aload_n 1, 1) := by decide +kernel
theorem dL_law_917 : decode code 917 = .ok (.aload_n 0, 1) := by decide +kernel
theorem dL_law_918 : decode code 918 = .ok (.iload_n 3, 1) := by decide +kernel
theorem dL_law_919 : decode code 919 = .ok (.iconst 1, 1) := by decide +kernel
theorem dL_law_920 : decode code 920 = .ok (.iadd, 1) := by decide +kernel
theorem dL_law_921 : decode code 921 = .ok (.iaload, 1) := by decide +kernel
theorem dL_law_922 : decode code 922 = .ok (.aload_n 0, 1) := by decide +kernel
theorem dL_law_923 : decode code 923 = .ok (.iload_n 3, 1) := by decide +kernel
theorem dL_law_924 : decode code 924 = .ok (.iconst 2, 1) := by decide +kernel
theorem dL_law_925 : decode code 925 = .ok (.iadd, 1) := by decide +kernel
theorem dL_law_926 : decode code 926 = .ok (.iaload, 1) := by decide +kernel
theorem dL_law_927 : decode code 927 = .ok (.aload_n 0, 1) := by decide +kernel
theorem dL_law_928 : decode code 928 = .ok (.iload_n 3, 1) := by decide +kernel
theorem dL_law_929 : decode code 929 = .ok (.iconst 3, 1) := by decide +kernel
theorem dL_law_930 : decode code 930 = .ok (.iadd, 1) := by decide +kernel
theorem dL_law_931 : decode code 931 = .ok (.iaload, 1) := by decide +kernel
theorem dL_law_932 : decode code 932 = .ok (.i2l, 1) := by decide +kernel
theorem dL_law_933 : decode code 933 = .ok (.bipush 32, 2) := by decide +kernel
theorem dL_law_935 : decode code 935 = .ok (.lshl, 1) := by decide +kernel
theorem dL_law_936 : decode code 936 = .ok (.aload_n 0, 1) := by decide +kernel
theorem dL_law_937 : decode code 937 = .ok (.iload_n 3, 1) := by decide +kernel
theorem dL_law_938 : decode code 938 = .ok (.iconst 4, 1) := by decide +kernel
theorem dL_law_939 : decode code 939 = .ok (.iadd, 1) := by decide +kernel
theorem dL_law_940 : decode code 940 = .ok (.iaload, 1) := by decide +kernel
theorem dL_law_941 : decode code 941 = .ok (.i2l, 1) := by decide +kernel
theorem dL_law_942 : decode code 942 = .ok (.ldc2_w 121, 3) := by decide +kernel
theorem dL_law_945 : decode code 945 = .ok (.land, 1) := by decide +kernel
theorem dL_law_946 : decode code 946 = .ok (.lor, 1) := by decide +kernel
theorem dL_law_947 : decode code 947 = .ok (.invokevirtual 123, 3) := by decide +kernel
theorem dL_law_950 : decode code 950 = .ok (.aload_n 2, 1) := by decide +kernel
theorem dL_law_951 : decode code 951 = .ok (.aload_n 0, 1) := by decide +kernel
theorem dL_law_952 : decode code 952 = .ok (.iload_n 3, 1) := by decide +kernel
theorem dL_law_953 : decode code 953 = .ok (.iconst 1, 1) := by decide +kernel
theorem dL_law_954 : decode code 954 = .ok (.iadd, 1) := by decide +kernel
theorem dL_law_955 : decode code 955 = .ok (.iaload, 1) := by decide +kernel
theorem dL_law_956 : decode code 956 = .ok (.aload_n 0, 1) := by decide +kernel
theorem dL_law_957 : decode code 957 = .ok (.iload_n 3, 1) := by decide +kernel
theorem dL_law_958 : decode code 958 = .ok (.iconst 2, 1) := by decide +kernel
theorem dL_law_959 : decode code 959 = .ok (.iadd, 1) := by decide +kernel
theorem dL_law_960 : decode code 960 = .ok (.iaload, 1) := by decide +kernel
theorem dL_law_961 : decode code 961 = .ok (.aload_n 0, 1) := by decide +kernel
theorem dL_law_962 : decode code 962 = .ok (.iload_n 3, 1) := by decide +kernel
theorem dL_law_963 : decode code 963 = .ok (.iconst 3, 1) := by decide +kernel
theorem dL_law_964 : decode code 964 = .ok (.iadd, 1) := by decide +kernel
theorem dL_law_965 : decode code 965 = .ok (.iaload, 1) := by decide +kernel
theorem dL_law_966 : decode code 966 = .ok (.i2l, 1) := by decide +kernel
theorem dL_law_967 : decode code 967 = .ok (.bipush 32, 2) := by decide +kernel
theorem dL_law_969 : decode code 969 = .ok (.lshl, 1) := by decide +kernel
theorem dL_law_970 : decode code 970 = .ok (.aload_n 0, 1) := by decide +kernel
theorem dL_law_971 : decode code 971 = .ok (.iload_n 3, 1) := by decide +kernel
theorem dL_law_972 : decode code 972 = .ok (.iconst 4, 1) := by decide +kernel
theorem dL_law_973 : decode code 973 = .ok (.iadd, 1) := by decide +kernel
theorem dL_law_974 : decode code 974 = .ok (.iaload, 1) := by decide +kernel
theorem dL_law_975 : decode code 975 = .ok (.i2l, 1) := by decide +kernel
theorem dL_law_976 : decode code 976 = .ok (.ldc2_w 121, 3) := by decide +kernel
theorem dL_law_979 : decode code 979 = .ok (.land, 1) := by decide +kernel
theorem dL_law_980 : decode code 980 = .ok (.lor, 1) := by decide +kernel
theorem dL_law_981 : decode code 981 = .ok (.invokevirtual 127, 3) := by decide +kernel
theorem dL_law_984 : decode code 984 = .ok (.lcmp, 1) := by decide +kernel
theorem dL_law_985 : decode code 985 = .ok (.ifCond .eq 219, 3) := by decide +kernel
theorem dL_law_988 : decode code 988 = .ok (.iconst 0, 1) := by decide +kernel
theorem dL_law_989 : decode code 989 = .ok (.ireturn, 1) := by decide +kernel
theorem dL_law_990 : decode code 990 = .ok (.aload_n 1, 1) := by decide +kernel
theorem dL_law_991 : decode code 991 = .ok (.aload_n 0, 1) := by decide +kernel
theorem dL_law_992 : decode code 992 = .ok (.iload_n 3, 1) := by decide +kernel
theorem dL_law_993 : decode code 993 = .ok (.iconst 1, 1) := by decide +kernel
theorem dL_law_994 : decode code 994 = .ok (.iadd, 1) := by decide +kernel
theorem dL_law_995 : decode code 995 = .ok (.iaload, 1) := by decide +kernel
theorem dL_law_996 : decode code 996 = .ok (.aload_n 0, 1) := by decide +kernel
theorem dL_law_997 : decode code 997 = .ok (.iload_n 3, 1) := by decide +kernel
theorem dL_law_998 : decode code 998 = .ok (.iconst 2, 1) := by decide +kernel
theorem dL_law_999 : decode code 999 = .ok (.iadd, 1) := by decide +kernel
theorem dL_law_1000 : decode code 1000 = .ok (.iaload, 1) := by decide +kernel
theorem dL_law_1001 : decode code 1001 = .ok (.aload_n 0, 1) := by decide +kernel
theorem dL_law_1002 : decode code 1002 = .ok (.iload_n 3, 1) := by decide +kernel
theorem dL_law_1003 : decode code 1003 = .ok (.iconst 3, 1) := by decide +kernel
theorem dL_law_1004 : decode code 1004 = .ok (.iadd, 1) := by decide +kernel
theorem dL_law_1005 : decode code 1005 = .ok (.iaload, 1) := by decide +kernel
theorem dL_law_1006 : decode code 1006 = .ok (.aload_n 0, 1) := by decide +kernel
theorem dL_law_1007 : decode code 1007 = .ok (.iload_n 3, 1) := by decide +kernel
theorem dL_law_1008 : decode code 1008 = .ok (.iconst 4, 1) := by decide +kernel
theorem dL_law_1009 : decode code 1009 = .ok (.iadd, 1) := by decide +kernel
theorem dL_law_1010 : decode code 1010 = .ok (.iaload, 1) := by decide +kernel
theorem dL_law_1011 : decode code 1011 = .ok (.aload_n 0, 1) := by decide +kernel
theorem dL_law_1012 : decode code 1012 = .ok (.iload_n 3, 1) := by decide +kernel
theorem dL_law_1013 : decode code 1013 = .ok (.iconst 5, 1) := by decide +kernel
theorem dL_law_1014 : decode code 1014 = .ok (.iadd, 1) := by decide +kernel
theorem dL_law_1015 : decode code 1015 = .ok (.iaload, 1) := by decide +kernel
theorem dL_law_1016 : decode code 1016 = .ok (.invokevirtual 128, 3) := by decide +kernel
theorem dL_law_1019 : decode code 1019 = .ok (.aload_n 2, 1) := by decide +kernel
theorem dL_law_1020 : decode code 1020 = .ok (.aload_n 0, 1) := by decide +kernel
theorem dL_law_1021 : decode code 1021 = .ok (.iload_n 3, 1) := by decide +kernel
theorem dL_law_1022 : decode code 1022 = .ok (.iconst 1, 1) := by decide +kernel
theorem dL_law_1023 : decode code 1023 = .ok (.iadd, 1) := by decide +kernel
theorem dL_law_1024 : decode code 1024 = .ok (.iaload, 1) := by decide +kernel
theorem dL_law_1025 : decode code 1025 = .ok (.aload_n 0, 1) := by decide +kernel
theorem dL_law_1026 : decode code 1026 = .ok (.iload_n 3, 1) := by decide +kernel
theorem dL_law_1027 : decode code 1027 = .ok (.iconst 2, 1) := by decide +kernel
theorem dL_law_1028 : decode code 1028 = .ok (.iadd, 1) := by decide +kernel
theorem dL_law_1029 : decode code 1029 = .ok (.iaload, 1) := by decide +kernel
theorem dL_law_1030 : decode code 1030 = .ok (.aload_n 0, 1) := by decide +kernel
theorem dL_law_1031 : decode code 1031 = .ok (.iload_n 3, 1) := by decide +kernel
theorem dL_law_1032 : decode code 1032 = .ok (.iconst 3, 1) := by decide +kernel
theorem dL_law_1033 : decode code 1033 = .ok (.iadd, 1) := by decide +kernel
theorem dL_law_1034 : decode code 1034 = .ok (.iaload, 1) := by decide +kernel
theorem dL_law_1035 : decode code 1035 = .ok (.aload_n 0, 1) := by decide +kernel
theorem dL_law_1036 : decode code 1036 = .ok (.iload_n 3, 1) := by decide +kernel
theorem dL_law_1037 : decode code 1037 = .ok (.iconst 4, 1) := by decide +kernel
theorem dL_law_1038 : decode code 1038 = .ok (.iadd, 1) := by decide +kernel
theorem dL_law_1039 : decode code 1039 = .ok (.iaload, 1) := by decide +kernel
theorem dL_law_1040 : decode code 1040 = .ok (.aload_n 0, 1) := by decide +kernel
theorem dL_law_1041 : decode code 1041 = .ok (.iload_n 3, 1) := by decide +kernel
theorem dL_law_1042 : decode code 1042 = .ok (.iconst 5, 1) := by decide +kernel
theorem dL_law_1043 : decode code 1043 = .ok (.iadd, 1) := by decide +kernel
theorem dL_law_1044 : decode code 1044 = .ok (.iaload, 1) := by decide +kernel
theorem dL_law_1045 : decode code 1045 = .ok (.invokevirtual 132, 3) := by decide +kernel
theorem dL_law_1048 : decode code 1048 = .ok (.if_icmp .eq 156, 3) := by decide +kernel
theorem dL_law_1051 : decode code 1051 = .ok (.iconst 0, 1) := by decide +kernel
theorem dL_law_1052 : decode code 1052 = .ok (.ireturn, 1) := by decide +kernel
theorem dL_law_1053 : decode code 1053 = .ok (.aload_n 1, 1) := by decide +kernel
theorem dL_law_1054 : decode code 1054 = .ok (.aload_n 0, 1) := by decide +kernel
theorem dL_law_1055 : decode code 1055 = .ok (.iload_n 3, 1) := by decide +kernel
theorem dL_law_1056 : decode code 1056 = .ok (.iconst 1, 1) := by decide +kernel
theorem dL_law_1057 : decode code 1057 = .ok (.iadd, 1) := by decide +kernel
theorem dL_law_1058 : decode code 1058 = .ok (.iaload, 1) := by decide +kernel
theorem dL_law_1059 : decode code 1059 = .ok (.aload_n 0, 1) := by decide +kernel
theorem dL_law_1060 : decode code 1060 = .ok (.iload_n 3, 1) := by decide +kernel
theorem dL_law_1061 : decode code 1061 = .ok (.iconst 2, 1) := by decide +kernel
theorem dL_law_1062 : decode code 1062 = .ok (.iadd, 1) := by decide +kernel
theorem dL_law_1063 : decode code 1063 = .ok (.iaload, 1) := by decide +kernel
theorem dL_law_1064 : decode code 1064 = .ok (.invokevirtual 133, 3) := by decide +kernel
theorem dL_law_1067 : decode code 1067 = .ok (.aload_n 2, 1) := by decide +kernel
theorem dL_law_1068 : decode code 1068 = .ok (.aload_n 0, 1) := by decide +kernel
theorem dL_law_1069 : decode code 1069 = .ok (.iload_n 3, 1) := by decide +kernel
theorem dL_law_1070 : decode code 1070 = .ok (.iconst 1, 1) := by decide +kernel
theorem dL_law_1071 : decode code 1071 = .ok (.iadd, 1) := by decide +kernel
theorem dL_law_1072 : decode code 1072 = .ok (.iaload, 1) := by decide +kernel
theorem dL_law_1073 : decode code 1073 = .ok (.aload_n 0, 1) := by decide +kernel
theorem dL_law_1074 : decode code 1074 = .ok (.iload_n 3, 1) := by decide +kernel
theorem dL_law_1075 : decode code 1075 = .ok (.iconst 2, 1) := by decide +kernel
theorem dL_law_1076 : decode code 1076 = .ok (.iadd, 1) := by decide +kernel
theorem dL_law_1077 : decode code 1077 = .ok (.iaload, 1) := by decide +kernel
theorem dL_law_1078 : decode code 1078 = .ok (.invokevirtual 136, 3) := by decide +kernel
theorem dL_law_1081 : decode code 1081 = .ok (.if_icmp .eq 123, 3) := by decide +kernel
theorem dL_law_1084 : decode code 1084 = .ok (.iconst 0, 1) := by decide +kernel
theorem dL_law_1085 : decode code 1085 = .ok (.ireturn, 1) := by decide +kernel
theorem dL_law_1086 : decode code 1086 = .ok (.aload_n 1, 1) := by decide +kernel
theorem dL_law_1087 : decode code 1087 = .ok (.aload_n 0, 1) := by decide +kernel
theorem dL_law_1088 : decode code 1088 = .ok (.iload_n 3, 1) := by decide +kernel
theorem dL_law_1089 : decode code 1089 = .ok (.iconst 1, 1) := by decide +kernel
theorem dL_law_1090 : decode code 1090 = .ok (.iadd, 1) := by decide +kernel
theorem dL_law_1091 : decode code 1091 = .ok (.iaload, 1) := by decide +kernel
theorem dL_law_1092 : decode code 1092 = .ok (.aload_n 0, 1) := by decide +kernel
theorem dL_law_1093 : decode code 1093 = .ok (.iload_n 3, 1) := by decide +kernel
theorem dL_law_1094 : decode code 1094 = .ok (.iconst 2, 1) := by decide +kernel
theorem dL_law_1095 : decode code 1095 = .ok (.iadd, 1) := by decide +kernel
theorem dL_law_1096 : decode code 1096 = .ok (.iaload, 1) := by decide +kernel
theorem dL_law_1097 : decode code 1097 = .ok (.invokevirtual 137, 3) := by decide +kernel
theorem dL_law_1100 : decode code 1100 = .ok (.aload_n 2, 1) := by decide +kernel
theorem dL_law_1101 : decode code 1101 = .ok (.aload_n 0, 1) := by decide +kernel
theorem dL_law_1102 : decode code 1102 = .ok (.iload_n 3, 1) := by decide +kernel
theorem dL_law_1103 : decode code 1103 = .ok (.iconst 1, 1) := by decide +kernel
theorem dL_law_1104 : decode code 1104 = .ok (.iadd, 1) := by decide +kernel
theorem dL_law_1105 : decode code 1105 = .ok (.iaload, 1) := by decide +kernel
theorem dL_law_1106 : decode code 1106 = .ok (.aload_n 0, 1) := by decide +kernel
theorem dL_law_1107 : decode code 1107 = .ok (.iload_n 3, 1) := by decide +kernel
theorem dL_law_1108 : decode code 1108 = .ok (.iconst 2, 1) := by decide +kernel
theorem dL_law_1109 : decode code 1109 = .ok (.iadd, 1) := by decide +kernel
theorem dL_law_1110 : decode code 1110 = .ok (.iaload, 1) := by decide +kernel
theorem dL_law_1111 : decode code 1111 = .ok (.invokevirtual 140, 3) := by decide +kernel
theorem dL_law_1114 : decode code 1114 = .ok (.if_icmp .eq 90, 3) := by decide +kernel
theorem dL_law_1117 : decode code 1117 = .ok (.iconst 0, 1) := by decide +kernel
theorem dL_law_1118 : decode code 1118 = .ok (.ireturn, 1) := by decide +kernel
theorem dL_law_1119 : decode code 1119 = .ok (.aload_n 1, 1) := by decide +kernel
theorem dL_law_1120 : decode code 1120 = .ok (.invokevirtual 141, 3) := by decide +kernel
theorem dL_law_1123 : decode code 1123 = .ok (.aload_n 2, 1) := by decide +kernel
theorem dL_law_1124 : decode code 1124 = .ok (.invokevirtual 144, 3) := by decide +kernel
theorem dL_law_1127 : decode code 1127 = .ok (.if_icmp .eq 77, 3) := by decide +kernel
theorem dL_law_1130 : decode code 1130 = .ok (.iconst 0, 1) := by decide +kernel
theorem dL_law_1131 : decode code 1131 = .ok (.ireturn, 1) := by decide +kernel
theorem dL_law_1132 : decode code 1132 = .ok (.aload_n 1, 1) := by decide +kernel
theorem dL_law_1133 : decode code 1133 = .ok (.invokevirtual 145, 3) := by decide +kernel
theorem dL_law_1136 : decode code 1136 = .ok (.aload_n 2, 1) := by decide +kernel
theorem dL_law_1137 : decode code 1137 = .ok (.invokevirtual 148, 3) := by decide +kernel
theorem dL_law_1140 : decode code 1140 = .ok (.if_icmp .eq 64, 3) := by decide +kernel
theorem dL_law_1143 : decode code 1143 = .ok (.iconst 0, 1) := by decide +kernel
theorem dL_law_1144 : decode code 1144 = .ok (.ireturn, 1) := by decide +kernel
theorem dL_law_1145 : decode code 1145 = .ok (.aload_n 1, 1) := by decide +kernel
theorem dL_law_1146 : decode code 1146 = .ok (.invokevirtual 149, 3) := by decide +kernel
theorem dL_law_1149 : decode code 1149 = .ok (.aload_n 2, 1) := by decide +kernel
theorem dL_law_1150 : decode code 1150 = .ok (.invokevirtual 152, 3) := by decide +kernel
theorem dL_law_1153 : decode code 1153 = .ok (.if_icmp .eq 51, 3) := by decide +kernel
theorem dL_law_1156 : decode code 1156 = .ok (.iconst 0, 1) := by decide +kernel
theorem dL_law_1157 : decode code 1157 = .ok (.ireturn, 1) := by decide +kernel
theorem dL_law_1158 : decode code 1158 = .ok (.aload_n 1, 1) := by decide +kernel
theorem dL_law_1159 : decode code 1159 = .ok (.aload_n 0, 1) := by decide +kernel
theorem dL_law_1160 : decode code 1160 = .ok (.iload_n 3, 1) := by decide +kernel
theorem dL_law_1161 : decode code 1161 = .ok (.iconst 1, 1) := by decide +kernel
theorem dL_law_1162 : decode code 1162 = .ok (.iadd, 1) := by decide +kernel
theorem dL_law_1163 : decode code 1163 = .ok (.iaload, 1) := by decide +kernel
theorem dL_law_1164 : decode code 1164 = .ok (.invokevirtual 153, 3) := by decide +kernel
theorem dL_law_1167 : decode code 1167 = .ok (.aload_n 2, 1) := by decide +kernel
theorem dL_law_1168 : decode code 1168 = .ok (.aload_n 0, 1) := by decide +kernel
theorem dL_law_1169 : decode code 1169 = .ok (.iload_n 3, 1) := by decide +kernel
theorem dL_law_1170 : decode code 1170 = .ok (.iconst 1, 1) := by decide +kernel
theorem dL_law_1171 : decode code 1171 = .ok (.iadd, 1) := by decide +kernel
theorem dL_law_1172 : decode code 1172 = .ok (.iaload, 1) := by decide +kernel
theorem dL_law_1173 : decode code 1173 = .ok (.invokevirtual 156, 3) := by decide +kernel
theorem dL_law_1176 : decode code 1176 = .ok (.if_icmp .eq 28, 3) := by decide +kernel
theorem dL_law_1179 : decode code 1179 = .ok (.iconst 0, 1) := by decide +kernel
theorem dL_law_1180 : decode code 1180 = .ok (.ireturn, 1) := by decide +kernel
theorem dL_law_1181 : decode code 1181 = .ok (.aload_n 1, 1) := by decide +kernel
theorem dL_law_1182 : decode code 1182 = .ok (.aload_n 0, 1) := by decide +kernel
theorem dL_law_1183 : decode code 1183 = .ok (.iload_n 3, 1) := by decide +kernel
theorem dL_law_1184 : decode code 1184 = .ok (.iconst 1, 1) := by decide +kernel
theorem dL_law_1185 : decode code 1185 = .ok (.iadd, 1) := by decide +kernel
theorem dL_law_1186 : decode code 1186 = .ok (.iaload, 1) := by decide +kernel
theorem dL_law_1187 : decode code 1187 = .ok (.invokevirtual 157, 3) := by decide +kernel
theorem dL_law_1190 : decode code 1190 = .ok (.aload_n 2, 1) := by decide +kernel
theorem dL_law_1191 : decode code 1191 = .ok (.aload_n 0, 1) := by decide +kernel
theorem dL_law_1192 : decode code 1192 = .ok (.iload_n 3, 1) := by decide +kernel
theorem dL_law_1193 : decode code 1193 = .ok (.iconst 1, 1) := by decide +kernel
theorem dL_law_1194 : decode code 1194 = .ok (.iadd, 1) := by decide +kernel
theorem dL_law_1195 : decode code 1195 = .ok (.iaload, 1) := by decide +kernel
theorem dL_law_1196 : decode code 1196 = .ok (.invokevirtual 160, 3) := by decide +kernel
theorem dL_law_1199 : decode code 1199 = .ok (.if_icmp .eq 5, 3) := by decide +kernel
theorem dL_law_1202 : decode code 1202 = .ok (.iconst 0, 1) := by decide +kernel
theorem dL_law_1203 : decode code 1203 = .ok (.ireturn, 1) := by decide +kernel
theorem dL_law_1204 : decode code 1204 = .ok (.iinc 3 6, 3) := by decide +kernel
theorem dL_law_1207 : decode code 1207 = .ok (.goto (-1189), 3) := by decide +kernel
theorem dL_law_1210 : decode code 1210 = .ok (.iconst 1, 1) := by decide +kernel
theorem dL_law_1211 : decode code 1211 = .ok (.ireturn, 1) := by decide +kernel
def k_L_law_0 (F : FT) (Q : QT) (ne : Nat) (LS : Nat) (xs : Nat → Int32) : KT := o_new ne 11 (o_dup (o_cI ne m_X11_init 73 1 (o_astore 1 (o_new ne 12 (o_dup (o_cI ne m_X12_init 15 1 (o_astore 2 (o_ic (nI 0) (o_istore 3 (F 18))))))))))
def k_L_law_18 (F : FT) (Q : QT) (ne : Nat) (LS : Nat) (xs : Nat → Int32) : KT := o_iload 3 (o_aload 0 (o_slen LS (o_ic (nI 6) (o_isub (o_icgt (F 1210) (o_aload 0 (o_iload 3 (o_sld LS xs (o_ic (nI 63) (o_iand (o_tsw (nI 0) [F 188, F 221, F 244, F 277, F 310, F 353, F 386, F 419, F 452, F 485, F 518, F 541, F 574, F 597, F 630, F 663, F 686, F 719, F 742, F 755, F 778, F 791, F 814, F 847, F 860, F 873, F 916, F 990, F 1053, F 1086, F 1119, F 1132, F 1145, F 1158, F 1181] (F 1204))))))))))))
def k_L_law_188 (F : FT) (Q : QT) (ne : Nat) (LS : Nat) (xs : Nat → Int32) : KT := o_aload 1 (o_aload 0 (o_iload 3 (o_ic (nI 1) (o_iadd (o_sld LS xs (o_aload 0 (o_iload 3 (o_ic (nI 2) (o_iadd (o_sld LS xs (o_cV 11 m_X11_square 3 (o_aload 2 (o_aload 0 (o_iload 3 (o_ic (nI 1) (o_iadd (o_sld LS xs (o_aload 0 (o_iload 3 (o_ic (nI 2) (o_iadd (o_sld LS xs (o_cV 12 m_X12_square 3 (o_iceq (F 1204) (o_ic (nI 0) (o_iret Q))))))))))))))))))))))))))
def k_L_law_221 (F : FT) (Q : QT) (ne : Nat) (LS : Nat) (xs : Nat → Int32) : KT := o_aload 1 (o_aload 0 (o_iload 3 (o_ic (nI 1) (o_iadd (o_sld LS xs (o_cV 11 m_X11_at 2 (o_aload 2 (o_aload 0 (o_iload 3 (o_ic (nI 1) (o_iadd (o_sld LS xs (o_cV 12 m_X12_at 2 (o_iceq (F 1204) (o_ic (nI 0) (o_iret Q))))))))))))))))
def k_L_law_244 (F : FT) (Q : QT) (ne : Nat) (LS : Nat) (xs : Nat → Int32) : KT := o_aload 1 (o_aload 0 (o_iload 3 (o_ic (nI 1) (o_iadd (o_sld LS xs (o_aload 0 (o_iload 3 (o_ic (nI 2) (o_iadd (o_sld LS xs (o_cV 11 m_X11_house 3 (o_aload 2 (o_aload 0 (o_iload 3 (o_ic (nI 1) (o_iadd (o_sld LS xs (o_aload 0 (o_iload 3 (o_ic (nI 2) (o_iadd (o_sld LS xs (o_cV 12 m_X12_house 3 (o_iceq (F 1204) (o_ic (nI 0) (o_iret Q))))))))))))))))))))))))))
def k_L_law_277 (F : FT) (Q : QT) (ne : Nat) (LS : Nat) (xs : Nat → Int32) : KT := o_aload 1 (o_aload 0 (o_iload 3 (o_ic (nI 1) (o_iadd (o_sld LS xs (o_aload 0 (o_iload 3 (o_ic (nI 2) (o_iadd (o_sld LS xs (o_cV 11 m_X11_of 3 (o_aload 2 (o_aload 0 (o_iload 3 (o_ic (nI 1) (o_iadd (o_sld LS xs (o_aload 0 (o_iload 3 (o_ic (nI 2) (o_iadd (o_sld LS xs (o_cV 12 m_X12_of 3 (o_iceq (F 1204) (o_ic (nI 0) (o_iret Q))))))))))))))))))))))))))
def k_L_law_310 (F : FT) (Q : QT) (ne : Nat) (LS : Nat) (xs : Nat → Int32) : KT := o_aload 1 (o_aload 0 (o_iload 3 (o_ic (nI 1) (o_iadd (o_sld LS xs (o_aload 0 (o_iload 3 (o_ic (nI 2) (o_iadd (o_sld LS xs (o_aload 0 (o_iload 3 (o_ic (nI 3) (o_iadd (o_sld LS xs (o_cV 11 m_X11_set 4 (o_aload 2 (o_aload 0 (o_iload 3 (o_ic (nI 1) (o_iadd (o_sld LS xs (o_aload 0 (o_iload 3 (o_ic (nI 2) (o_iadd (o_sld LS xs (o_aload 0 (o_iload 3 (o_ic (nI 3) (o_iadd (o_sld LS xs (o_cV 12 m_X12_set 4 (o_iceq (F 1204) (o_ic (nI 0) (o_iret Q))))))))))))))))))))))))))))))))))))
def k_L_law_353 (F : FT) (Q : QT) (ne : Nat) (LS : Nat) (xs : Nat → Int32) : KT := o_aload 1 (o_aload 0 (o_iload 3 (o_ic (nI 1) (o_iadd (o_sld LS xs (o_aload 0 (o_iload 3 (o_ic (nI 2) (o_iadd (o_sld LS xs (o_cV 11 m_X11_turn 3 (o_aload 2 (o_aload 0 (o_iload 3 (o_ic (nI 1) (o_iadd (o_sld LS xs (o_aload 0 (o_iload 3 (o_ic (nI 2) (o_iadd (o_sld LS xs (o_cV 12 m_X12_turn 3 (o_iceq (F 1204) (o_ic (nI 0) (o_iret Q))))))))))))))))))))))))))
def k_L_law_386 (F : FT) (Q : QT) (ne : Nat) (LS : Nat) (xs : Nat → Int32) : KT := o_aload 1 (o_aload 0 (o_iload 3 (o_ic (nI 1) (o_iadd (o_sld LS xs (o_aload 0 (o_iload 3 (o_ic (nI 2) (o_iadd (o_sld LS xs (o_cV 11 m_X11_as 3 (o_aload 2 (o_aload 0 (o_iload 3 (o_ic (nI 1) (o_iadd (o_sld LS xs (o_aload 0 (o_iload 3 (o_ic (nI 2) (o_iadd (o_sld LS xs (o_cV 12 m_X12_as 3 (o_iceq (F 1204) (o_ic (nI 0) (o_iret Q))))))))))))))))))))))))))
def k_L_law_419 (F : FT) (Q : QT) (ne : Nat) (LS : Nat) (xs : Nat → Int32) : KT := o_aload 1 (o_aload 0 (o_iload 3 (o_ic (nI 1) (o_iadd (o_sld LS xs (o_aload 0 (o_iload 3 (o_ic (nI 2) (o_iadd (o_sld LS xs (o_cV 11 m_X11_corner 3 (o_aload 2 (o_aload 0 (o_iload 3 (o_ic (nI 1) (o_iadd (o_sld LS xs (o_aload 0 (o_iload 3 (o_ic (nI 2) (o_iadd (o_sld LS xs (o_cV 12 m_X12_corner 3 (o_iceq (F 1204) (o_ic (nI 0) (o_iret Q))))))))))))))))))))))))))
def k_L_law_452 (F : FT) (Q : QT) (ne : Nat) (LS : Nat) (xs : Nat → Int32) : KT := o_aload 1 (o_aload 0 (o_iload 3 (o_ic (nI 1) (o_iadd (o_sld LS xs (o_aload 0 (o_iload 3 (o_ic (nI 2) (o_iadd (o_sld LS xs (o_cV 11 m_X11_ith 3 (o_aload 2 (o_aload 0 (o_iload 3 (o_ic (nI 1) (o_iadd (o_sld LS xs (o_aload 0 (o_iload 3 (o_ic (nI 2) (o_iadd (o_sld LS xs (o_cV 12 m_X12_ith 3 (o_iceq (F 1204) (o_ic (nI 0) (o_iret Q))))))))))))))))))))))))))
def k_L_law_485 (F : FT) (Q : QT) (ne : Nat) (LS : Nat) (xs : Nat → Int32) : KT := o_aload 1 (o_aload 0 (o_iload 3 (o_ic (nI 1) (o_iadd (o_sld LS xs (o_aload 0 (o_iload 3 (o_ic (nI 2) (o_iadd (o_sld LS xs (o_cV 11 m_X11_sees 3 (o_aload 2 (o_aload 0 (o_iload 3 (o_ic (nI 1) (o_iadd (o_sld LS xs (o_aload 0 (o_iload 3 (o_ic (nI 2) (o_iadd (o_sld LS xs (o_cV 12 m_X12_sees 3 (o_iceq (F 1204) (o_ic (nI 0) (o_iret Q))))))))))))))))))))))))))
def k_L_law_518 (F : FT) (Q : QT) (ne : Nat) (LS : Nat) (xs : Nat → Int32) : KT := o_aload 1 (o_aload 0 (o_iload 3 (o_ic (nI 1) (o_iadd (o_sld LS xs (o_cV 11 m_X11_seen 2 (o_aload 2 (o_aload 0 (o_iload 3 (o_ic (nI 1) (o_iadd (o_sld LS xs (o_cV 12 m_X12_seen 2 (o_iceq (F 1204) (o_ic (nI 0) (o_iret Q))))))))))))))))
def k_L_law_541 (F : FT) (Q : QT) (ne : Nat) (LS : Nat) (xs : Nat → Int32) : KT := o_aload 1 (o_aload 0 (o_iload 3 (o_ic (nI 1) (o_iadd (o_sld LS xs (o_aload 0 (o_iload 3 (o_ic (nI 2) (o_iadd (o_sld LS xs (o_cV 11 m_X11_counts 3 (o_aload 2 (o_aload 0 (o_iload 3 (o_ic (nI 1) (o_iadd (o_sld LS xs (o_aload 0 (o_iload 3 (o_ic (nI 2) (o_iadd (o_sld LS xs (o_cV 12 m_X12_counts 3 (o_iceq (F 1204) (o_ic (nI 0) (o_iret Q))))))))))))))))))))))))))
def k_L_law_574 (F : FT) (Q : QT) (ne : Nat) (LS : Nat) (xs : Nat → Int32) : KT := o_aload 1 (o_aload 0 (o_iload 3 (o_ic (nI 1) (o_iadd (o_sld LS xs (o_cV 11 m_X11_whose 2 (o_aload 2 (o_aload 0 (o_iload 3 (o_ic (nI 1) (o_iadd (o_sld LS xs (o_cV 12 m_X12_whose 2 (o_iceq (F 1204) (o_ic (nI 0) (o_iret Q))))))))))))))))
def k_L_law_597 (F : FT) (Q : QT) (ne : Nat) (LS : Nat) (xs : Nat → Int32) : KT := o_aload 1 (o_aload 0 (o_iload 3 (o_ic (nI 1) (o_iadd (o_sld LS xs (o_aload 0 (o_iload 3 (o_ic (nI 2) (o_iadd (o_sld LS xs (o_cV 11 m_X11_round 3 (o_aload 2 (o_aload 0 (o_iload 3 (o_ic (nI 1) (o_iadd (o_sld LS xs (o_aload 0 (o_iload 3 (o_ic (nI 2) (o_iadd (o_sld LS xs (o_cV 12 m_X12_round 3 (o_iceq (F 1204) (o_ic (nI 0) (o_iret Q))))))))))))))))))))))))))
def k_L_law_630 (F : FT) (Q : QT) (ne : Nat) (LS : Nat) (xs : Nat → Int32) : KT := o_aload 1 (o_aload 0 (o_iload 3 (o_ic (nI 1) (o_iadd (o_sld LS xs (o_aload 0 (o_iload 3 (o_ic (nI 2) (o_iadd (o_sld LS xs (o_cV 11 m_X11_pays 3 (o_aload 2 (o_aload 0 (o_iload 3 (o_ic (nI 1) (o_iadd (o_sld LS xs (o_aload 0 (o_iload 3 (o_ic (nI 2) (o_iadd (o_sld LS xs (o_cV 12 m_X12_pays 3 (o_iceq (F 1204) (o_ic (nI 0) (o_iret Q))))))))))))))))))))))))))
def k_L_law_663 (F : FT) (Q : QT) (ne : Nat) (LS : Nat) (xs : Nat → Int32) : KT := o_aload 1 (o_aload 0 (o_iload 3 (o_ic (nI 1) (o_iadd (o_sld LS xs (o_cV 11 m_X11_shed 2 (o_aload 2 (o_aload 0 (o_iload 3 (o_ic (nI 1) (o_iadd (o_sld LS xs (o_cV 12 m_X12_shed 2 (o_iceq (F 1204) (o_ic (nI 0) (o_iret Q))))))))))))))))
def k_L_law_686 (F : FT) (Q : QT) (ne : Nat) (LS : Nat) (xs : Nat → Int32) : KT := o_aload 1 (o_aload 0 (o_iload 3 (o_ic (nI 1) (o_iadd (o_sld LS xs (o_aload 0 (o_iload 3 (o_ic (nI 2) (o_iadd (o_sld LS xs (o_cV 11 m_X11_plot 3 (o_aload 2 (o_aload 0 (o_iload 3 (o_ic (nI 1) (o_iadd (o_sld LS xs (o_aload 0 (o_iload 3 (o_ic (nI 2) (o_iadd (o_sld LS xs (o_cV 12 m_X12_plot 3 (o_iceq (F 1204) (o_ic (nI 0) (o_iret Q))))))))))))))))))))))))))
def k_L_law_719 (F : FT) (Q : QT) (ne : Nat) (LS : Nat) (xs : Nat → Int32) : KT := o_aload 1 (o_aload 0 (o_iload 3 (o_ic (nI 1) (o_iadd (o_sld LS xs (o_cV 11 m_X11_spots 2 (o_aload 2 (o_aload 0 (o_iload 3 (o_ic (nI 1) (o_iadd (o_sld LS xs (o_cV 12 m_X12_spots 2 (o_iceq (F 1204) (o_ic (nI 0) (o_iret Q))))))))))))))))
def k_L_law_742 (F : FT) (Q : QT) (ne : Nat) (LS : Nat) (xs : Nat → Int32) : KT := o_aload 1 (o_cV 11 m_X11_yields 1 (o_aload 2 (o_cV 12 m_X12_yields 1 (o_iceq (F 1204) (o_ic (nI 0) (o_iret Q))))))
def k_L_law_755 (F : FT) (Q : QT) (ne : Nat) (LS : Nat) (xs : Nat → Int32) : KT := o_aload 1 (o_aload 0 (o_iload 3 (o_ic (nI 1) (o_iadd (o_sld LS xs (o_cV 11 m_X11_rateFor 2 (o_aload 2 (o_aload 0 (o_iload 3 (o_ic (nI 1) (o_iadd (o_sld LS xs (o_cV 12 m_X12_rateFor 2 (o_iceq (F 1204) (o_ic (nI 0) (o_iret Q))))))))))))))))
def k_L_law_778 (F : FT) (Q : QT) (ne : Nat) (LS : Nat) (xs : Nat → Int32) : KT := o_aload 1 (o_cV 11 m_X11_neighbours 1 (o_aload 2 (o_cV 12 m_X12_neighbours 1 (o_iceq (F 1204) (o_ic (nI 0) (o_iret Q))))))
def k_L_law_791 (F : FT) (Q : QT) (ne : Nat) (LS : Nat) (xs : Nat → Int32) : KT := o_aload 1 (o_aload 0 (o_iload 3 (o_ic (nI 1) (o_iadd (o_sld LS xs (o_cV 11 m_X11_years 2 (o_aload 2 (o_aload 0 (o_iload 3 (o_ic (nI 1) (o_iadd (o_sld LS xs (o_cV 12 m_X12_years 2 (o_iceq (F 1204) (o_ic (nI 0) (o_iret Q))))))))))))))))
def k_L_law_814 (F : FT) (Q : QT) (ne : Nat) (LS : Nat) (xs : Nat → Int32) : KT := o_aload 1 (o_aload 0 (o_iload 3 (o_ic (nI 1) (o_iadd (o_sld LS xs (o_aload 0 (o_iload 3 (o_ic (nI 2) (o_iadd (o_sld LS xs (o_cV 11 m_X11_feed 3 (o_aload 2 (o_aload 0 (o_iload 3 (o_ic (nI 1) (o_iadd (o_sld LS xs (o_aload 0 (o_iload 3 (o_ic (nI 2) (o_iadd (o_sld LS xs (o_cV 12 m_X12_feed 3 (o_iceq (F 1204) (o_ic (nI 0) (o_iret Q))))))))))))))))))))))))))
def k_L_law_847 (F : FT) (Q : QT) (ne : Nat) (LS : Nat) (xs : Nat → Int32) : KT := o_aload 1 (o_cV 11 m_X11_wipe 1 (o_aload 2 (o_cV 12 m_X12_wipe 1 (o_iceq (F 1204) (o_ic (nI 0) (o_iret Q))))))
def k_L_law_860 (F : FT) (Q : QT) (ne : Nat) (LS : Nat) (xs : Nat → Int32) : KT := o_aload 1 (o_cV 11 m_X11_town 1 (o_aload 2 (o_cV 12 m_X12_town 1 (o_iceq (F 1204) (o_ic (nI 0) (o_iret Q))))))
def k_L_law_873 (F : FT) (Q : QT) (ne : Nat) (LS : Nat) (xs : Nat → Int32) : KT := o_aload 1 (o_aload 0 (o_iload 3 (o_ic (nI 1) (o_iadd (o_sld LS xs (o_aload 0 (o_iload 3 (o_ic (nI 2) (o_iadd (o_sld LS xs (o_aload 0 (o_iload 3 (o_ic (nI 3) (o_iadd (o_sld LS xs (o_cV 11 m_X11_sheet 4 (o_aload 2 (o_aload 0 (o_iload 3 (o_ic (nI 1) (o_iadd (o_sld LS xs (o_aload 0 (o_iload 3 (o_ic (nI 2) (o_iadd (o_sld LS xs (o_aload 0 (o_iload 3 (o_ic (nI 3) (o_iadd (o_sld LS xs (o_cV 12 m_X12_sheet 4 (o_iceq (F 1204) (o_ic (nI 0) (o_iret Q))))))))))))))))))))))))))))))))))))
def k_L_law_916 (F : FT) (Q : QT) (ne : Nat) (LS : Nat) (xs : Nat → Int32) : KT := o_aload 1 (o_aload 0 (o_iload 3 (o_ic (nI 1) (o_iadd (o_sld LS xs (o_aload 0 (o_iload 3 (o_ic (nI 2) (o_iadd (o_sld LS xs (o_aload 0 (o_iload 3 (o_ic (nI 3) (o_iadd (o_sld LS xs (o_i2l (o_ic (nI 32) (o_lshl (o_aload 0 (o_iload 3 (o_ic (nI 4) (o_iadd (o_sld LS xs (o_i2l (o_lc (4294967295) (o_land (o_lor (o_cV 11 m_X11_write 4 (o_aload 2 (o_aload 0 (o_iload 3 (o_ic (nI 1) (o_iadd (o_sld LS xs (o_aload 0 (o_iload 3 (o_ic (nI 2) (o_iadd (o_sld LS xs (o_aload 0 (o_iload 3 (o_ic (nI 3) (o_iadd (o_sld LS xs (o_i2l (o_ic (nI 32) (o_lshl (o_aload 0 (o_iload 3 (o_ic (nI 4) (o_iadd (o_sld LS xs (o_i2l (o_lc (4294967295) (o_land (o_lor (o_cV 12 m_X12_write 4 (o_lcmp (o_ifeq (F 1204) (o_ic (nI 0) (o_iret Q)))))))))))))))))))))))))))))))))))))))))))))))))))))))))))))
def k_L_law_990 (F : FT) (Q : QT) (ne : Nat) (LS : Nat) (xs : Nat → Int32) : KT := o_aload 1 (o_aload 0 (o_iload 3 (o_ic (nI 1) (o_iadd (o_sld LS xs (o_aload 0 (o_iload 3 (o_ic (nI 2) (o_iadd (o_sld LS xs (o_aload 0 (o_iload 3 (o_ic (nI 3) (o_iadd (o_sld LS xs (o_aload 0 (o_iload 3 (o_ic (nI 4) (o_iadd (o_sld LS xs (o_aload 0 (o_iload 3 (o_ic (nI 5) (o_iadd (o_sld LS xs (o_cV 11 m_X11_copy 6 (o_aload 2 (o_aload 0 (o_iload 3 (o_ic (nI 1) (o_iadd (o_sld LS xs (o_aload 0 (o_iload 3 (o_ic (nI 2) (o_iadd (o_sld LS xs (o_aload 0 (o_iload 3 (o_ic (nI 3) (o_iadd (o_sld LS xs (o_aload 0 (o_iload 3 (o_ic (nI 4) (o_iadd (o_sld LS xs (o_aload 0 (o_iload 3 (o_ic (nI 5) (o_iadd (o_sld LS xs (o_cV 12 m_X12_copy 6 (o_iceq (F 1204) (o_ic (nI 0) (o_iret Q))))))))))))))))))))))))))))))))))))))))))))))))))))))))
def k_L_law_1053 (F : FT) (Q : QT) (ne : Nat) (LS : Nat) (xs : Nat → Int32) : KT := o_aload 1 (o_aload 0 (o_iload 3 (o_ic (nI 1) (o_iadd (o_sld LS xs (o_aload 0 (o_iload 3 (o_ic (nI 2) (o_iadd (o_sld LS xs (o_cV 11 m_X11_lays 3 (o_aload 2 (o_aload 0 (o_iload 3 (o_ic (nI 1) (o_iadd (o_sld LS xs (o_aload 0 (o_iload 3 (o_ic (nI 2) (o_iadd (o_sld LS xs (o_cV 12 m_X12_lays 3 (o_iceq (F 1204) (o_ic (nI 0) (o_iret Q))))))))))))))))))))))))))
def k_L_law_1086 (F : FT) (Q : QT) (ne : Nat) (LS : Nat) (xs : Nat → Int32) : KT := o_aload 1 (o_aload 0 (o_iload 3 (o_ic (nI 1) (o_iadd (o_sld LS xs (o_aload 0 (o_iload 3 (o_ic (nI 2) (o_iadd (o_sld LS xs (o_cV 11 m_X11_read 3 (o_aload 2 (o_aload 0 (o_iload 3 (o_ic (nI 1) (o_iadd (o_sld LS xs (o_aload 0 (o_iload 3 (o_ic (nI 2) (o_iadd (o_sld LS xs (o_cV 12 m_X12_read 3 (o_iceq (F 1204) (o_ic (nI 0) (o_iret Q))))))))))))))))))))))))))
def k_L_law_1119 (F : FT) (Q : QT) (ne : Nat) (LS : Nat) (xs : Nat → Int32) : KT := o_aload 1 (o_cV 11 m_X11_image 1 (o_aload 2 (o_cV 12 m_X12_image 1 (o_iceq (F 1204) (o_ic (nI 0) (o_iret Q))))))
def k_L_law_1132 (F : FT) (Q : QT) (ne : Nat) (LS : Nat) (xs : Nat → Int32) : KT := o_aload 1 (o_cV 11 m_X11_undo 1 (o_aload 2 (o_cV 12 m_X12_undo 1 (o_iceq (F 1204) (o_ic (nI 0) (o_iret Q))))))
def k_L_law_1145 (F : FT) (Q : QT) (ne : Nat) (LS : Nat) (xs : Nat → Int32) : KT := o_aload 1 (o_cV 11 m_X11_tear 1 (o_aload 2 (o_cV 12 m_X12_tear 1 (o_iceq (F 1204) (o_ic (nI 0) (o_iret Q))))))
def k_L_law_1158 (F : FT) (Q : QT) (ne : Nat) (LS : Nat) (xs : Nat → Int32) : KT := o_aload 1 (o_aload 0 (o_iload 3 (o_ic (nI 1) (o_iadd (o_sld LS xs (o_cV 11 m_X11_count 2 (o_aload 2 (o_aload 0 (o_iload 3 (o_ic (nI 1) (o_iadd (o_sld LS xs (o_cV 12 m_X12_count 2 (o_iceq (F 1204) (o_ic (nI 0) (o_iret Q))))))))))))))))
def k_L_law_1181 (F : FT) (Q : QT) (ne : Nat) (LS : Nat) (xs : Nat → Int32) : KT := o_aload 1 (o_aload 0 (o_iload 3 (o_ic (nI 1) (o_iadd (o_sld LS xs (o_cV 11 m_X11_status 2 (o_aload 2 (o_aload 0 (o_iload 3 (o_ic (nI 1) (o_iadd (o_sld LS xs (o_cV 12 m_X12_status 2 (o_iceq (F 1204) (o_ic (nI 0) (o_iret Q))))))))))))))))
def k_L_law_1204 (F : FT) (Q : QT) (ne : Nat) (LS : Nat) (xs : Nat → Int32) : KT := o_iinc 3 (nI 6) (F 18)
def k_L_law_1210 (F : FT) (Q : QT) (ne : Nat) (LS : Nat) (xs : Nat → Int32) : KT := o_ic (nI 1) (o_iret Q)
