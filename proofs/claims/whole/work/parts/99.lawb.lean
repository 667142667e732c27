/-! The law: its code, its cases. -/
theorem kL_0 : decode code 0 = .ok (.new 7, 3) := by decide +kernel
theorem kL_3 : decode code 3 = .ok (.dup, 1) := by decide +kernel
theorem kL_4 : decode code 4 = .ok (.invokespecial 9, 3) := by decide +kernel
theorem kL_7 : decode code 7 = .ok (.astore_n 1, 1) := by decide +kernel
theorem kL_8 : decode code 8 = .ok (.new 10, 3) := by decide +kernel
theorem kL_11 : decode code 11 = .ok (.dup, 1) := by decide +kernel
theorem kL_12 : decode code 12 = .ok (.invokespecial 12, 3) := by decide +kernel
theorem kL_15 : decode code 15 = .ok (.astore_n 2, 1) := by decide +kernel
theorem kL_16 : decode code 16 = .ok (.iconst 0, 1) := by decide +kernel
theorem kL_17 : decode code 17 = .ok (.istore_n 3, 1) := by decide +kernel
theorem kL_18 : decode code 18 = .ok (.iload_n 3, 1) := by decide +kernel
theorem kL_19 : decode code 19 = .ok (.aload_n 0, 1) := by decide +kernel
theorem kL_20 : decode code 20 = .ok (.arraylength, 1) := by decide +kernel
theorem kL_21 : decode code 21 = .ok (.iconst 4, 1) := by decide +kernel
theorem kL_22 : decode code 22 = .ok (.isub, 1) := by decide +kernel
theorem kL_23 : decode code 23 = .ok (.if_icmp .gt 884, 3) := by decide +kernel
theorem kL_26 : decode code 26 = .ok (.aload_n 0, 1) := by decide +kernel
theorem kL_27 : decode code 27 = .ok (.iload_n 3, 1) := by decide +kernel
theorem kL_28 : decode code 28 = .ok (.iaload, 1) := by decide +kernel
theorem kL_29 : decode code 29 = .ok (.bipush 31, 2) := by decide +kernel
theorem kL_31 : decode code 31 = .ok (.iand, 1) := by decide +kernel
theorem kL_32 : decode code 32 = .ok (.tableswitch 869 0 28 #[132, 155, 168, 181, 194, 227, 260, 293, 326, 349, 382, 405, 438, 451, 494, 507, 530, 553, 566, 589, 622, 665, 678, 701, 734, 777, 820, 833, 846], 132) := by decide +kernel
theorem kL_164 : decode code 164 = .ok (.aload_n 1, 1) := by decide +kernel
theorem kL_165 : decode code 165 = .ok (.aload_n 0, 1) := by decide +kernel
theorem kL_166 : decode code 166 = .ok (.iload_n 3, 1) := by decide +kernel
theorem kL_167 : decode code 167 = .ok (.iconst 1, 1) := by decide +kernel
theorem kL_168 : decode code 168 = .ok (.iadd, 1) := by decide +kernel
theorem kL_169 : decode code 169 = .ok (.iaload, 1) := by decide +kernel
theorem kL_170 : decode code 170 = .ok (.invokevirtual 13, 3) := by decide +kernel
theorem kL_173 : decode code 173 = .ok (.aload_n 2, 1) := by decide +kernel
theorem kL_174 : decode code 174 = .ok (.aload_n 0, 1) := by decide +kernel
theorem kL_175 : decode code 175 = .ok (.iload_n 3, 1) := by decide +kernel
theorem kL_176 : decode code 176 = .ok (.iconst 1, 1) := by decide +kernel
theorem kL_177 : decode code 177 = .ok (.iadd, 1) := by decide +kernel
theorem kL_178 : decode code 178 = .ok (.iaload, 1) := by decide +kernel
theorem kL_179 : decode code 179 = .ok (.invokevirtual 17, 3) := by decide +kernel
theorem kL_182 : decode code 182 = .ok (.if_icmp .eq 719, 3) := by decide +kernel
theorem kL_185 : decode code 185 = .ok (.iconst 0, 1) := by decide +kernel
theorem kL_186 : decode code 186 = .ok (.ireturn, 1) := by decide +kernel
theorem kL_187 : decode code 187 = .ok (.aload_n 1, 1) := by decide +kernel
theorem kL_188 : decode code 188 = .ok (.invokevirtual 18, 3) := by decide +kernel
theorem kL_191 : decode code 191 = .ok (.aload_n 2, 1) := by decide +kernel
theorem kL_192 : decode code 192 = .ok (.invokevirtual 22, 3) := by decide +kernel
theorem kL_195 : decode code 195 = .ok (.if_icmp .eq 706, 3) := by decide +kernel
theorem kL_198 : decode code 198 = .ok (.iconst 0, 1) := by decide +kernel
theorem kL_199 : decode code 199 = .ok (.ireturn, 1) := by decide +kernel
theorem kL_200 : decode code 200 = .ok (.aload_n 1, 1) := by decide +kernel
theorem kL_201 : decode code 201 = .ok (.invokevirtual 23, 3) := by decide +kernel
theorem kL_204 : decode code 204 = .ok (.aload_n 2, 1) := by decide +kernel
theorem kL_205 : decode code 205 = .ok (.invokevirtual 26, 3) := by decide +kernel
theorem kL_208 : decode code 208 = .ok (.if_icmp .eq 693, 3) := by decide +kernel
theorem kL_211 : decode code 211 = .ok (.iconst 0, 1) := by decide +kernel
theorem kL_212 : decode code 212 = .ok (.ireturn, 1) := by decide +kernel
theorem kL_213 : decode code 213 = .ok (.aload_n 1, 1) := by decide +kernel
theorem kL_214 : decode code 214 = .ok (.invokevirtual 27, 3) := by decide +kernel
theorem kL_217 : decode code 217 = .ok (.aload_n 2, 1) := by decide +kernel
theorem kL_218 : decode code 218 = .ok (.invokevirtual 30, 3) := by decide +kernel
theorem kL_221 : decode code 221 = .ok (.if_icmp .eq 680, 3) := by decide +kernel
theorem kL_224 : decode code 224 = .ok (.iconst 0, 1) := by decide +kernel
theorem kL_225 : decode code 225 = .ok (.ireturn, 1) := by decide +kernel
theorem kL_226 : decode code 226 = .ok (.aload_n 1, 1) := by decide +kernel
theorem kL_227 : decode code 227 = .ok (.aload_n 0, 1) := by decide +kernel
theorem kL_228 : decode code 228 = .ok (.iload_n 3, 1) := by decide +kernel
theorem kL_229 : decode code 229 = .ok (.iconst 1, 1) := by decide +kernel
theorem kL_230 : decode code 230 = .ok (.iadd, 1) := by decide +kernel
theorem kL_231 : decode code 231 = .ok (.iaload, 1) := by decide +kernel
theorem kL_232 : decode code 232 = .ok (.aload_n 0, 1) := by decide +kernel
theorem kL_233 : decode code 233 = .ok (.iload_n 3, 1) := by decide +kernel
theorem kL_234 : decode code 234 = .ok (.iconst 2, 1) := by decide +kernel
theorem kL_235 : decode code 235 = .ok (.iadd, 1) := by decide +kernel
theorem kL_236 : decode code 236 = .ok (.iaload, 1) := by decide +kernel
theorem kL_237 : decode code 237 = .ok (.invokevirtual 31, 3) := by decide +kernel
theorem kL_240 : decode code 240 = .ok (.aload_n 2, 1) := by decide +kernel
theorem kL_241 : decode code 241 = .ok (.aload_n 0, 1) := by decide +kernel
theorem kL_242 : decode code 242 = .ok (.iload_n 3, 1) := by decide +kernel
theorem kL_243 : decode code 243 = .ok (.iconst 1, 1) := by decide +kernel
theorem kL_244 : decode code 244 = .ok (.iadd, 1) := by decide +kernel
theorem kL_245 : decode code 245 = .ok (.iaload, 1) := by decide +kernel
theorem kL_246 : decode code 246 = .ok (.aload_n 0, 1) := by decide +kernel
theorem kL_247 : decode code 247 = .ok (.iload_n 3, 1) := by decide +kernel
theorem kL_248 : decode code 248 = .ok (.iconst 2, 1) := by decide +kernel
theorem kL_249 : decode code 249 = .ok (.iadd, 1) := by decide +kernel
theorem kL_250 : decode code 250 = .ok (.iaload, 1) := by decide +kernel
theorem kL_251 : decode code 251 = .ok (.invokevirtual 35, 3) := by decide +kernel
theorem kL_254 : decode code 254 = .ok (.if_icmp .eq 647, 3) := by decide +kernel
theorem kL_257 : decode code 257 = .ok (.iconst 0, 1) := by decide +kernel
theorem kL_258 : decode code 258 = .ok (.ireturn, 1) := by decide +kernel
theorem kL_259 : decode code 259 = .ok (.aload_n 1, 1) := by decide +kernel
theorem kL_260 : decode code 260 = .ok (.aload_n 0, 1) := by decide +kernel
theorem kL_261 : decode code 261 = .ok (.iload_n 3, 1) := by decide +kernel
theorem kL_262 : decode code 262 = .ok (.iconst 1, 1) := by decide +kernel
theorem kL_263 : decode code 263 = .ok (.iadd, 1) := by decide +kernel
theorem kL_264 : decode code 264 = .ok (.iaload, 1) := by decide +kernel
theorem kL_265 : decode code 265 = .ok (.aload_n 0, 1) := by decide +kernel
theorem kL_266 : decode code 266 = .ok (.iload_n 3, 1) := by decide +kernel
theorem kL_267 : decode code 267 = .ok (.iconst 2, 1) := by decide +kernel
theorem kL_268 : decode code 268 = .ok (.iadd, 1) := by decide +kernel
theorem kL_269 : decode code 269 = .ok (.iaload, 1) := by decide +kernel
theorem kL_270 : decode code 270 = .ok (.invokevirtual 36, 3) := by decide +kernel
theorem kL_273 : decode code 273 = .ok (.aload_n 2, 1) := by decide +kernel
theorem kL_274 : decode code 274 = .ok (.aload_n 0, 1) := by decide +kernel
theorem kL_275 : decode code 275 = .ok (.iload_n 3, 1) := by decide +kernel
theorem kL_276 : decode code 276 = .ok (.iconst 1, 1) := by decide +kernel
theorem kL_277 : decode code 277 = .ok (.iadd, 1) := by decide +kernel
theorem kL_278 : decode code 278 = .ok (.iaload, 1) := by decide +kernel
theorem kL_279 : decode code 279 = .ok (.aload_n 0, 1) := by decide +kernel
theorem kL_280 : decode code 280 = .ok (.iload_n 3, 1) := by decide +kernel
theorem kL_281 : decode code 281 = .ok (.iconst 2, 1) := by decide +kernel
theorem kL_282 : decode code 282 = .ok (.iadd, 1) := by decide +kernel
theorem kL_283 : decode code 283 = .ok (.iaload, 1) := by decide +kernel
theorem kL_284 : decode code 284 = .ok (.invokevirtual 39, 3) := by decide +kernel
theorem kL_287 : decode code 287 = .ok (.if_icmp .eq 614, 3) := by decide +kernel
theorem kL_290 : decode code 290 = .ok (.iconst 0, 1) := by decide +kernel
theorem kL_291 : decode code 291 = .ok (.ireturn, 1) := by decide +kernel
theorem kL_292 : decode code 292 = .ok (.aload_n 1, 1) := by decide +kernel
theorem kL_293 : decode code 293 = .ok (.aload_n 0, 1) := by decide +kernel
theorem kL_294 : decode code 294 = .ok (.iload_n 3, 1) := by decide +kernel
theorem kL_295 : decode code 295 = .ok (.iconst 1, 1) := by decide +kernel
theorem kL_296 : decode code 296 = .ok (.iadd, 1) := by decide +kernel
theorem kL_297 : decode code 297 = .ok (.iaload, 1) := by decide +kernel
theorem kL_298 : decode code 298 = .ok (.aload_n 0, 1) := by decide +kernel
theorem kL_299 : decode code 299 = .ok (.iload_n 3, 1) := by decide +kernel
theorem kL_300 : decode code 300 = .ok (.iconst 2, 1) := by decide +kernel
theorem kL_301 : decode code 301 = .ok (.iadd, 1) := by decide +kernel
theorem kL_302 : decode code 302 = .ok (.iaload, 1) := by decide +kernel
theorem kL_303 : decode code 303 = .ok (.invokevirtual 40, 3) := by decide +kernel
theorem kL_306 : decode code 306 = .ok (.aload_n 2, 1) := by decide +kernel
theorem kL_307 : decode code 307 = .ok (.aload_n 0, 1) := by decide +kernel
theorem kL_308 : decode code 308 = .ok (.iload_n 3, 1) := by decide +kernel
theorem kL_309 : decode code 309 = .ok (.iconst 1, 1) := by decide +kernel
theorem kL_310 : decode code 310 = .ok (.iadd, 1) := by decide +kernel
theorem kL_311 : decode code 311 = .ok (.iaload, 1) := by decide +kernel
theorem kL_312 : decode code 312 = .ok (.aload_n 0, 1) := by decide +kernel
theorem kL_313 : decode code 313 = .ok (.iload_n 3, 1) := by decide +kernel
theorem kL_314 : decode code 314 = .ok (.iconst 2, 1) := by decide +kernel
theorem kL_315 : decode code 315 = .ok (.iadd, 1) := by decide +kernel
theorem kL_316 : decode code 316 = .ok (.iaload, 1) := by decide +kernel
theorem kL_317 : decode code 317 = .ok (.invokevirtual 43, 3) := by decide +kernel
theorem kL_320 : decode code 320 = .ok (.if_icmp .eq 581, 3) := by decide +kernel
theorem kL_323 : decode code 323 = .ok (.iconst 0, 1) := by decide +kernel
theorem kL_324 : decode code 324 = .ok (.ireturn, 1) := by decide +kernel
theorem kL_325 : decode code 325 = .ok (.aload_n 1, 1) := by decide +kernel
theorem kL_326 : decode code 326 = .ok (.aload_n 0, 1) := by decide +kernel
theorem kL_327 : decode code 327 = .ok (.iload_n 3, 1) := by decide +kernel
theorem kL_328 : decode code 328 = .ok (.iconst 1, 1) := by decide +kernel
theorem kL_329 : decode code 329 = .ok (.iadd, 1) := by decide +kernel
theorem kL_330 : decode code 330 = .ok (.iaload, 1) := by decide +kernel
theorem kL_331 : decode code 331 = .ok (.aload_n 0, 1) := by decide +kernel
theorem kL_332 : decode code 332 = .ok (.iload_n 3, 1) := by decide +kernel
theorem kL_333 : decode code 333 = .ok (.iconst 2, 1) := by decide +kernel
theorem kL_334 : decode code 334 = .ok (.iadd, 1) := by decide +kernel
theorem kL_335 : decode code 335 = .ok (.iaload, 1) := by decide +kernel
theorem kL_336 : decode code 336 = .ok (.invokevirtual 44, 3) := by decide +kernel
theorem kL_339 : decode code 339 = .ok (.aload_n 2, 1) := by decide +kernel
theorem kL_340 : decode code 340 = .ok (.aload_n 0, 1) := by decide +kernel
theorem kL_341 : decode code 341 = .ok (.iload_n 3, 1) := by decide +kernel
theorem kL_342 : decode code 342 = .ok (.iconst 1, 1) := by decide +kernel
theorem kL_343 : decode code 343 = .ok (.iadd, 1) := by decide +kernel
theorem kL_344 : decode code 344 = .ok (.iaload, 1) := by decide +kernel
theorem kL_345 : decode code 345 = .ok (.aload_n 0, 1) := by decide +kernel
theorem kL_346 : decode code 346 = .ok (.iload_n 3, 1) := by decide +kernel
theorem kL_347 : decode code 347 = .ok (.iconst 2, 1) := by decide +kernel
theorem kL_348 : decode code 348 = .ok (.iadd, 1) := by decide +kernel
theorem kL_349 : decode code 349 = .ok (.iaload, 1) := by decide +kernel
theorem kL_350 : decode code 350 = .ok (.invokevirtual 47, 3) := by decide +kernel
theorem kL_353 : decode code 353 = .ok (.if_icmp .eq 548, 3) := by decide +kernel
theorem kL_356 : decode code 356 = .ok (.iconst 0, 1) := by decide +kernel
theorem kL_357 : decode code 357 = .ok (.ireturn, 1) := by decide +kernel
theorem kL_358 : decode code 358 = .ok (.aload_n 1, 1) := by decide +kernel
theorem kL_359 : decode code 359 = .ok (.aload_n 0, 1) := by decide +kernel
theorem kL_360 : decode code 360 = .ok (.iload_n 3, 1) := by decide +kernel
theorem kL_361 : decode code 361 = .ok (.iconst 1, 1) := by decide +kernel
theorem kL_362 : decode code 362 = .ok (.iadd, 1) := by decide +kernel
theorem kL_363 : decode code 363 = .ok (.iaload, 1) := by decide +kernel
theorem kL_364 : decode code 364 = .ok (.invokevirtual 48, 3) := by decide +kernel
theorem kL_367 : decode code 367 = .ok (.aload_n 2, 1) := by decide +kernel
theorem kL_368 : decode code 368 = .ok (.aload_n 0, 1) := by decide +kernel
theorem kL_369 : decode code 369 = .ok (.iload_n 3, 1) := by decide +kernel
theorem kL_370 : decode code 370 = .ok (.iconst 1, 1) := by decide +kernel
theorem kL_371 : decode code 371 = .ok (.iadd, 1) := by decide +kernel
theorem kL_372 : decode code 372 = .ok (.iaload, 1) := by decide +kernel
theorem kL_373 : decode code 373 = .ok (.invokevirtual 51, 3) := by decide +kernel
theorem kL_376 : decode code 376 = .ok (.if_icmp .eq 525, 3) := by decide +kernel
theorem kL_379 : decode code 379 = .ok (.iconst 0, 1) := by decide +kernel
theorem kL_380 : decode code 380 = .ok (.ireturn, 1) := by decide +kernel
theorem kL_381 : decode code 381 = .ok (.aload_n 1, 1) := by decide +kernel
theorem kL_382 : decode code 382 = .ok (.aload_n 0, 1) := by decide +kernel
theorem kL_383 : decode code 383 = .ok (.iload_n 3, 1) := by decide +kernel
theorem kL_384 : decode code 384 = .ok (.iconst 1, 1) := by decide +kernel
theorem kL_385 : decode code 385 = .ok (.iadd, 1) := by decide +kernel
theorem kL_386 : decode code 386 = .ok (.iaload, 1) := by decide +kernel
theorem kL_387 : decode code 387 = .ok (.aload_n 0, 1) := by decide +kernel
theorem kL_388 : decode code 388 = .ok (.iload_n 3, 1) := by decide +kernel
theorem kL_389 : decode code 389 = .ok (.iconst 2, 1) := by decide +kernel
theorem kL_390 : decode code 390 = .ok (.iadd, 1) := by decide +kernel
theorem kL_391 : decode code 391 = .ok (.iaload, 1) := by decide +kernel
theorem kL_392 : decode code 392 = .ok (.invokevirtual 52, 3) := by decide +kernel
theorem kL_395 : decode code 395 = .ok (.aload_n 2, 1) := by decide +kernel
theorem kL_396 : decode code 396 = .ok (.aload_n 0, 1) := by decide +kernel
theorem kL_397 : decode code 397 = .ok (.iload_n 3, 1) := by decide +kernel
theorem kL_398 : decode code 398 = .ok (.iconst 1, 1) := by decide +kernel
theorem kL_399 : decode code 399 = .ok (.iadd, 1) := by decide +kernel
theorem kL_400 : decode code 400 = .ok (.iaload, 1) := by decide +kernel
theorem kL_401 : decode code 401 = .ok (.aload_n 0, 1) := by decide +kernel
theorem kL_402 : decode code 402 = .ok (.iload_n 3, 1) := by decide +kernel
theorem kL_403 : decode code 403 = .ok (.iconst 2, 1) := by decide +kernel
theorem kL_404 : decode code 404 = .ok (.iadd, 1) := by decide +kernel
theorem kL_405 : decode code 405 = .ok (.iaload, 1) := by decide +kernel
theorem kL_406 : decode code 406 = .ok (.invokevirtual 55, 3) := by decide +kernel
theorem kL_409 : decode code 409 = .ok (.if_icmp .eq 492, 3) := by decide +kernel
theorem kL_412 : decode code 412 = .ok (.iconst 0, 1) := by decide +kernel
theorem kL_413 : decode code 413 = .ok (.ireturn, 1) := by decide +kernel
theorem kL_414 : decode code 414 = .ok (.aload_n 1, 1) := by decide +kernel
theorem kL_415 : decode code 415 = .ok (.aload_n 0, 1) := by decide +kernel
theorem kL_416 : decode code 416 = .ok (.iload_n 3, 1) := by decide +kernel
theorem kL_417 : decode code 417 = .ok (.iconst 1, 1) := by decide +kernel
theorem kL_418 : decode code 418 = .ok (.iadd, 1) := by decide +kernel
theorem kL_419 : decode code 419 = .ok (.iaload, 1) := by decide +kernel
theorem kL_420 : decode code 420 = .ok (.invokevirtual 56, 3) := by decide +kernel
theorem kL_423 : decode code 423 = .ok (.aload_n 2, 1) := by decide +kernel
theorem kL_424 : decode code 424 = .ok (.aload_n 0, 1) := by decide +kernel
theorem kL_425 : decode code 425 = .ok (.iload_n 3, 1) := by decide +kernel
theorem kL_426 : decode code 426 = .ok (.iconst 1, 1) := by decide +kernel
theorem kL_427 : decode code 427 = .ok (.iadd, 1) := by decide +kernel
theorem kL_428 : decode code 428 = .ok (.iaload, 1) := by decide +kernel
theorem kL_429 : decode code 429 = .ok (.invokevirtual 59, 3) := by decide +kernel
theorem kL_432 : decode code 432 = .ok (.if_icmp .eq 469, 3) := by decide +kernel
theorem kL_435 : decode code 435 = .ok (.iconst 0, 1) := by decide +kernel
theorem kL_436 : decode code 436 = .ok (.ireturn, 1) := by decide +kernel
theorem kL_437 : decode code 437 = .ok (.aload_n 1, 1) := by decide +kernel
theorem kL_438 : decode code 438 = .ok (.aload_n 0, 1) := by decide +kernel
theorem kL_439 : decode code 439 = .ok (.iload_n 3, 1) := by decide +kernel
theorem kL_440 : decode code 440 = .ok (.iconst 1, 1) := by decide +kernel
theorem kL_441 : decode code 441 = .ok (.iadd, 1) := by decide +kernel
theorem kL_442 : decode code 442 = .ok (.iaload, 1) := by decide +kernel
theorem kL_443 : decode code 443 = .ok (.aload_n 0, 1) := by decide +kernel
theorem kL_444 : decode code 444 = .ok (.iload_n 3, 1) := by decide +kernel
theorem kL_445 : decode code 445 = .ok (.iconst 2, 1) := by decide +kernel
theorem kL_446 : decode code 446 = .ok (.iadd, 1) := by decide +kernel
theorem kL_447 : decode code 447 = .ok (.iaload, 1) := by decide +kernel
theorem kL_448 : decode code 448 = .ok (.invokevirtual 60, 3) := by decide +kernel
theorem kL_451 : decode code 451 = .ok (.aload_n 2, 1) := by decide +kernel
theorem kL_452 : decode code 452 = .ok (.aload_n 0, 1) := by decide +kernel
theorem kL_453 : decode code 453 = .ok (.iload_n 3, 1) := by decide +kernel
theorem kL_454 : decode code 454 = .ok (.iconst 1, 1) := by decide +kernel
theorem kL_455 : decode code 455 = .ok (.iadd, 1) := by decide +kernel
theorem kL_456 : decode code 456 = .ok (.iaload, 1) := by decide +kernel
theorem kL_457 : decode code 457 = .ok (.aload_n 0, 1) := by decide +kernel
theorem kL_458 : decode code 458 = .ok (.iload_n 3, 1) := by decide +kernel
theorem kL_459 : decode code 459 = .ok (.iconst 2, 1) := by decide +kernel
theorem kL_460 : decode code 460 = .ok (.iadd, 1) := by decide +kernel
theorem kL_461 : decode code 461 = .ok (.iaload, 1) := by decide +kernel
theorem kL_462 : decode code 462 = .ok (.invokevirtual 63, 3) := by decide +kernel
theorem kL_465 : decode code 465 = .ok (.if_icmp .eq 436, 3) := by decide +kernel
theorem kL_468 : decode code 468 = .ok (.iconst 0, 1) := by decide +kernel
theorem kL_469 : decode code 469 = .ok (.ireturn, 1) := by decide +kernel
theorem kL_470 : decode code 470 = .ok (.aload_n 1, 1) := by decide +kernel
theorem kL_471 : decode code 471 = .ok (.invokevirtual 64, 3) := by decide +kernel
theorem kL_474 : decode code 474 = .ok (.aload_n 2, 1) := by decide +kernel
theorem kL_475 : decode code 475 = .ok (.invokevirtual 67, 3) := by decide +kernel
theorem kL_478 : decode code 478 = .ok (.if_icmp .eq 423, 3) := by decide +kernel
theorem kL_481 : decode code 481 = .ok (.iconst 0, 1) := by decide +kernel
theorem kL_482 : decode code 482 = .ok (.ireturn, 1) := by decide +kernel
theorem kL_483 : decode code 483 = .ok (.aload_n 1, 1) := by decide +kernel
theorem kL_484 : decode code 484 = .ok (.aload_n 0, 1) := by decide +kernel
theorem kL_485 : decode code 485 = .ok (.iload_n 3, 1) := by decide +kernel
theorem kL_486 : decode code 486 = .ok (.iconst 1, 1) := by decide +kernel
theorem kL_487 : decode code 487 = .ok (.iadd, 1) := by decide +kernel
theorem kL_488 : decode code 488 = .ok (.iaload, 1) := by decide +kernel
theorem kL_489 : decode code 489 = .ok (.aload_n 0, 1) := by decide +kernel
theorem kL_490 : decode code 490 = .ok (.iload_n 3, 1) := by decide +kernel
theorem kL_491 : decode code 491 = .ok (.iconst 2, 1) := by decide +kernel
theorem kL_492 : decode code 492 = .ok (.iadd, 1) := by decide +kernel
theorem kL_493 : decode code 493 = .ok (.iaload, 1) := by decide +kernel
theorem kL_494 : decode code 494 = .ok (.aload_n 0, 1) := by decide +kernel
theorem kL_495 : decode code 495 = .ok (.iload_n 3, 1) := by decide +kernel
theorem kL_496 : decode code 496 = .ok (.iconst 3, 1) := by decide +kernel
theorem kL_497 : decode code 497 = .ok (.iadd, 1) := by decide +kernel
theorem kL_498 : decode code 498 = .ok (.iaload, 1) := by decide +kernel
theorem kL_499 : decode code 499 = .ok (.invokevirtual 68, 3) := by decide +kernel
theorem kL_502 : decode code 502 = .ok (.aload_n 2, 1) := by decide +kernel
theorem kL_503 : decode code 503 = .ok (.aload_n 0, 1) := by decide +kernel
theorem kL_504 : decode code 504 = .ok (.iload_n 3, 1) := by decide +kernel
theorem kL_505 : decode code 505 = .ok (.iconst 1, 1) := by decide +kernel
theorem kL_506 : decode code 506 = .ok (.iadd, 1) := by decide +kernel
theorem kL_507 : decode code 507 = .ok (.iaload, 1) := by decide +kernel
theorem kL_508 : decode code 508 = .ok (.aload_n 0, 1) := by decide +kernel
theorem kL_509 : decode code 509 = .ok (.iload_n 3, 1) := by decide +kernel
theorem kL_510 : decode code 510 = .ok (.iconst 2, 1) := by decide +kernel
theorem kL_511 : decode code 511 = .ok (.iadd, 1) := by decide +kernel
theorem kL_512 : decode code 512 = .ok (.iaload, 1) := by decide +kernel
theorem kL_513 : decode code 513 = .ok (.aload_n 0, 1) := by decide +kernel
theorem kL_514 : decode code 514 = .ok (.iload_n 3, 1) := by decide +kernel
theorem kL_515 : decode code 515 = .ok (.iconst 3, 1) := by decide +kernel
theorem kL_516 : decode code 516 = .ok (.iadd, 1) := by decide +kernel
theorem kL_517 : decode code 517 = .ok (.iaload, 1) := by decide +kernel
theorem kL_518 : decode code 518 = .ok (.invokevirtual 72, 3) := by decide +kernel
theorem kL_521 : decode code 521 = .ok (.if_icmp .eq 380, 3) := by decide +kernel
theorem kL_524 : decode code 524 = .ok (.iconst 0, 1) := by decide +kernel
theorem kL_525 : decode code 525 = .ok (.ireturn, 1) := by decide +kernel
theorem kL_526 : decode code 526 = .ok (.aload_n 1, 1) := by decide +kernel
theorem kL_527 : decode code 527 = .ok (.invokevirtual 73, 3) := by decide +kernel
theorem kL_530 : decode code 530 = .ok (.aload_n 2, 1) := by decide +kernel
theorem kL_531 : decode code 531 = .ok (.invokevirtual 76, 3) := by decide +kernel
theorem kL_534 : decode code 534 = .ok (.if_icmp .eq 367, 3) := by decide +kernel
theorem kL_537 : decode code 537 = .ok (.iconst 0, 1) := by decide +kernel
theorem kL_538 : decode code 538 = .ok (.ireturn, 1) := by decide +kernel
theorem kL_539 : decode code 539 = .ok (.aload_n 1, 1) := by decide +kernel
theorem kL_540 : decode code 540 = .ok (.aload_n 0, 1) := by decide +kernel
theorem kL_541 : decode code 541 = .ok (.iload_n 3, 1) := by decide +kernel
theorem kL_542 : decode code 542 = .ok (.iconst 1, 1) := by decide +kernel
theorem kL_543 : decode code 543 = .ok (.iadd, 1) := by decide +kernel
theorem kL_544 : decode code 544 = .ok (.iaload, 1) := by decide +kernel
theorem kL_545 : decode code 545 = .ok (.invokevirtual 77, 3) := by decide +kernel
theorem kL_548 : decode code 548 = .ok (.aload_n 2, 1) := by decide +kernel
theorem kL_549 : decode code 549 = .ok (.aload_n 0, 1) := by decide +kernel
theorem kL_550 : decode code 550 = .ok (.iload_n 3, 1) := by decide +kernel
theorem kL_551 : decode code 551 = .ok (.iconst 1, 1) := by decide +kernel
theorem kL_552 : decode code 552 = .ok (.iadd, 1) := by decide +kernel
theorem kL_553 : decode code 553 = .ok (.iaload, 1) := by decide +kernel
theorem kL_554 : decode code 554 = .ok (.invokevirtual 80, 3) := by decide +kernel
theorem kL_557 : decode code 557 = .ok (.if_icmp .eq 344, 3) := by decide +kernel
theorem kL_560 : decode code 560 = .ok (.iconst 0, 1) := by decide +kernel
theorem kL_561 : decode code 561 = .ok (.ireturn, 1) := by decide +kernel
theorem kL_562 : decode code 562 = .ok (.aload_n 1, 1) := by decide +kernel
theorem kL_563 : decode code 563 = .ok (.aload_n 0, 1) := by decide +kernel
theorem kL_564 : decode code 564 = .ok (.iload_n 3, 1) := by decide +kernel
theorem kL_565 : decode code 565 = .ok (.iconst 1, 1) := by decide +kernel
theorem kL_566 : decode code 566 = .ok (.iadd, 1) := by decide +kernel
theorem kL_567 : decode code 567 = .ok (.iaload, 1) := by decide +kernel
theorem kL_568 : decode code 568 = .ok (.invokevirtual 81, 3) := by decide +kernel
theorem kL_571 : decode code 571 = .ok (.aload_n 2, 1) := by decide +kernel
theorem kL_572 : decode code 572 = .ok (.aload_n 0, 1) := by decide +kernel
theorem kL_573 : decode code 573 = .ok (.iload_n 3, 1) := by decide +kernel
theorem kL_574 : decode code 574 = .ok (.iconst 1, 1) := by decide +kernel
theorem kL_575 : decode code 575 = .ok (.iadd, 1) := by decide +kernel
theorem kL_576 : decode code 576 = .ok (.iaload, 1) := by decide +kernel
theorem kL_577 : decode code 577 = .ok (.invokevirtual 84, 3) := by decide +kernel
theorem kL_580 : decode code 580 = .ok (.if_icmp .eq 321, 3) := by decide +kernel
theorem kL_583 : decode code 583 = .ok (.iconst 0, 1) := by decide +kernel
theorem kL_584 : decode code 584 = .ok (.ireturn, 1) := by decide +kernel
theorem kL_585 : decode code 585 = .ok (.aload_n 1, 1) := by decide +kernel
theorem kL_586 : decode code 586 = .ok (.invokevirtual 85, 3) := by decide +kernel
theorem kL_589 : decode code 589 = .ok (.aload_n 2, 1) := by decide +kernel
theorem kL_590 : decode code 590 = .ok (.invokevirtual 88, 3) := by decide +kernel
theorem kL_593 : decode code 593 = .ok (.if_icmp .eq 308, 3) := by decide +kernel
theorem kL_596 : decode code 596 = .ok (.iconst 0, 1) := by decide +kernel
theorem kL_597 : decode code 597 = .ok (.ireturn, 1) := by decide +kernel
theorem kL_598 : decode code 598 = .ok (.aload_n 1, 1) := by decide +kernel
theorem kL_599 : decode code 599 = .ok (.aload_n 0, 1) := by decide +kernel
theorem kL_600 : decode code 600 = .ok (.iload_n 3, 1) := by decide +kernel
theorem kL_601 : decode code 601 = .ok (.iconst 1, 1) := by decide +kernel
theorem kL_602 : decode code 602 = .ok (.iadd, 1) := by decide +kernel
theorem kL_603 : decode code 603 = .ok (.iaload, 1) := by decide +kernel
theorem kL_604 : decode code 604 = .ok (.invokevirtual 89, 3) := by decide +kernel
theorem kL_607 : decode code 607 = .ok (.aload_n 2, 1) := by decide +kernel
theorem kL_608 : decode code 608 = .ok (.aload_n 0, 1) := by decide +kernel
theorem kL_609 : decode code 609 = .ok (.iload_n 3, 1) := by decide +kernel
theorem kL_610 : decode code 610 = .ok (.iconst 1, 1) := by decide +kernel
theorem kL_611 : decode code 611 = .ok (.iadd, 1) := by decide +kernel
theorem kL_612 : decode code 612 = .ok (.iaload, 1) := by decide +kernel
theorem kL_613 : decode code 613 = .ok (.invokevirtual 92, 3) := by decide +kernel
theorem kL_616 : decode code 616 = .ok (.if_icmp .eq 285, 3) := by decide +kernel
theorem kL_619 : decode code 619 = .ok (.iconst 0, 1) := by decide +kernel
theorem kL_620 : decode code 620 = .ok (.ireturn, 1) := by decide +kernel
theorem kL_621 : decode code 621 = .ok (.aload_n 1, 1) := by decide +kernel
theorem kL_622 : decode code 622 = .ok (.aload_n 0, 1) := by decide +kernel
theorem kL_623 : decode code 623 = .ok (.iload_n 3, 1) := by decide +kernel
theorem kL_624 : decode code 624 = .ok (.iconst 1, 1) := by decide +kernel
theorem kL_625 : decode code 625 = .ok (.iadd, 1) := by decide +kernel
theorem kL_626 : decode code 626 = .ok (.iaload, 1) := by decide +kernel
theorem kL_627 : decode code 627 = .ok (.aload_n 0, 1) := by decide +kernel
theorem kL_628 : decode code 628 = .ok (.iload_n 3, 1) := by decide +kernel
theorem kL_629 : decode code 629 = .ok (.iconst 2, 1) := by decide +kernel
theorem kL_630 : decode code 630 = .ok (.iadd, 1) := by decide +kernel
theorem kL_631 : decode code 631 = .ok (.iaload, 1) := by decide +kernel
theorem kL_632 : decode code 632 = .ok (.invokevirtual 93, 3) := by decide +kernel
theorem kL_635 : decode code 635 = .ok (.aload_n 2, 1) := by decide +kernel
theorem kL_636 : decode code 636 = .ok (.aload_n 0, 1) := by decide +kernel
theorem kL_637 : decode code 637 = .ok (.iload_n 3, 1) := by decide +kernel
theorem kL_638 : decode code 638 = .ok (.iconst 1, 1) := by decide +kernel
theorem kL_639 : decode code 639 = .ok (.iadd, 1) := by decide +kernel
theorem kL_640 : decode code 640 = .ok (.iaload, 1) := by decide +kernel
theorem kL_641 : decode code 641 = .ok (.aload_n 0, 1) := by decide +kernel
theorem kL_642 : decode code 642 = .ok (.iload_n 3, 1) := by decide +kernel
theorem kL_643 : decode code 643 = .ok (.iconst 2, 1) := by decide +kernel
theorem kL_644 : decode code 644 = .ok (.iadd, 1) := by decide +kernel
theorem kL_645 : decode code 645 = .ok (.iaload, 1) := by decide +kernel
theorem kL_646 : decode code 646 = .ok (.invokevirtual 96, 3) := by decide +kernel
theorem kL_649 : decode code 649 = .ok (.if_icmp .eq 252, 3) := by decide +kernel
theorem kL_652 : decode code 652 = .ok (.iconst 0, 1) := by decide +kernel
theorem kL_653 : decode code 653 = .ok (.ireturn, 1) := by decide +kernel
theorem kL_654 : decode code 654 = .ok (.aload_n 1, 1) := by decide +kernel
theorem kL_655 : decode code 655 = .ok (.aload_n 0, 1) := by decide +kernel
theorem kL_656 : decode code 656 = .ok (.iload_n 3, 1) := by decide +kernel
theorem kL_657 : decode code 657 = .ok (.iconst 1, 1) := by decide +kernel
theorem kL_658 : decode code 658 = .ok (.iadd, 1) := by decide +kernel
theorem kL_659 : decode code 659 = .ok (.iaload, 1) := by decide +kernel
theorem kL_660 : decode code 660 = .ok (.aload_n 0, 1) := by decide +kernel
theorem kL_661 : decode code 661 = .ok (.iload_n 3, 1) := by decide +kernel
theorem kL_662 : decode code 662 = .ok (.iconst 2, 1) := by decide +kernel
theorem kL_663 : decode code 663 = .ok (.iadd, 1) := by decide +kernel
theorem kL_664 : decode code 664 = .ok (.iaload, 1) := by decide +kernel
theorem kL_665 : decode code 665 = .ok (.aload_n 0, 1) := by decide +kernel
theorem kL_666 : decode code 666 = .ok (.iload_n 3, 1) := by decide +kernel
theorem kL_667 : decode code 667 = .ok (.iconst 3, 1) := by decide +kernel
theorem kL_668 : decode code 668 = .ok (.iadd, 1) := by decide +kernel
theorem kL_669 : decode code 669 = .ok (.iaload, 1) := by decide +kernel
theorem kL_670 : decode code 670 = .ok (.invokevirtual 97, 3) := by decide +kernel
theorem kL_673 : decode code 673 = .ok (.aload_n 2, 1) := by decide +kernel
theorem kL_674 : decode code 674 = .ok (.aload_n 0, 1) := by decide +kernel
theorem kL_675 : decode code 675 = .ok (.iload_n 3, 1) := by decide +kernel
theorem kL_676 : decode code 676 = .ok (.iconst 1, 1) := by decide +kernel
theorem kL_677 : decode code 677 = .ok (.iadd, 1) := by decide +kernel
theorem kL_678 : decode code 678 = .ok (.iaload, 1) := by decide +kernel
theorem kL_679 : decode code 679 = .ok (.aload_n 0, 1) := by decide +kernel
theorem kL_680 : decode code 680 = .ok (.iload_n 3, 1) := by decide +kernel
theorem kL_681 : decode code 681 = .ok (.iconst 2, 1) := by decide +kernel
theorem kL_682 : decode code 682 = .ok (.iadd, 1) := by decide +kernel
theorem kL_683 : decode code 683 = .ok (.iaload, 1) := by decide +kernel
theorem kL_684 : decode code 684 = .ok (.aload_n 0, 1) := by decide +kernel
theorem kL_685 : decode code 685 = .ok (.iload_n 3, 1) := by decide +kernel
theorem kL_686 : decode code 686 = .ok (.iconst 3, 1) := by decide +kernel
theorem kL_687 : decode code 687 = .ok (.iadd, 1) := by decide +kernel
theorem kL_688 : decode code 688 = .ok (.iaload, 1) := by decide +kernel
theorem kL_689 : decode code 689 = .ok (.invokevirtual 100, 3) := by decide +kernel
theorem kL_692 : decode code 692 = .ok (.if_icmp .eq 209, 3) := by decide +kernel
theorem kL_695 : decode code 695 = .ok (.iconst 0, 1) := by decide +kernel
theorem kL_696 : decode code 696 = .ok (.ireturn, 1) := by decide +kernel
theorem kL_697 : decode code 697 = .ok (.aload_n 1, 1) := by decide +kernel
theorem kL_698 : decode code 698 = .ok (.invokevirtual 101, 3) := by decide +kernel
theorem kL_701 : decode code 701 = .ok (.aload_n 2, 1) := by decide +kernel
theorem kL_702 : decode code 702 = .ok (.invokevirtual 104, 3) := by decide +kernel
theorem kL_705 : decode code 705 = .ok (.if_icmp .eq 196, 3) := by decide +kernel
theorem kL_708 : decode code 708 = .ok (.iconst 0, 1) := by decide +kernel
theorem kL_709 : decode code 709 = .ok (.ireturn, 1) := by decide +kernel
theorem kL_710 : decode code 710 = .ok (.aload_n 1, 1) := by decide +kernel
theorem kL_711 : decode code 711 = .ok (.aload_n 0, 1) := by decide +kernel
theorem kL_712 : decode code 712 = .ok (.iload_n 3, 1) := by decide +kernel
theorem kL_713 : decode code 713 = .ok (.iconst 1, 1) := by decide +kernel
theorem kL_714 : decode code 714 = .ok (.iadd, 1) := by decide +kernel
theorem kL_715 : decode code 715 = .ok (.iaload, 1) := by decide +kernel
theorem kL_716 : decode code 716 = .ok (.invokevirtual 105, 3) := by decide +kernel
theorem kL_719 : decode code 719 = .ok (.aload_n 2, 1) := by decide +kernel
theorem kL_720 : decode code 720 = .ok (.aload_n 0, 1) := by decide +kernel
theorem kL_721 : decode code 721 = .ok (.iload_n 3, 1) := by decide +kernel
theorem kL_722 : decode code 722 = .ok (.iconst 1, 1) := by decide +kernel
theorem kL_723 : decode code 723 = .ok (.iadd, 1) := by decide +kernel
theorem kL_724 : decode code 724 = .ok (.iaload, 1) := by decide +kernel
theorem kL_725 : decode code 725 = .ok (.invokevirtual 108, 3) := by decide +kernel
theorem kL_728 : decode code 728 = .ok (.if_icmp .eq 173, 3) := by decide +kernel
theorem kL_731 : decode code 731 = .ok (.iconst 0, 1) := by decide +kernel
theorem kL_732 : decode code 732 = .ok (.ireturn, 1) := by decide +kernel
theorem kL_733 : decode code 733 = .ok (.aload_n 1, 1) := by decide +kernel
theorem kL_734 : decode code 734 = .ok (.aload_n 0, 1) := by decide +kernel
theorem kL_735 : decode code 735 = .ok (.iload_n 3, 1) := by decide +kernel
theorem kL_736 : decode code 736 = .ok (.iconst 1, 1) := by decide +kernel
theorem kL_737 : decode code 737 = .ok (.iadd, 1) := by decide +kernel
theorem kL_738 : decode code 738 = .ok (.iaload, 1) := by decide +kernel
theorem kL_739 : decode code 739 = .ok (.aload_n 0, 1) := by decide +kernel
theorem kL_740 : decode code 740 = .ok (.iload_n 3, 1) := by decide +kernel
theorem kL_741 : decode code 741 = .ok (.iconst 2, 1) := by decide +kernel
theorem kL_742 : decode code 742 = .ok (.iadd, 1) := by decide +kernel
theorem kL_743 : decode code 743 = .ok (.iaload, 1) := by decide +kernel
theorem kL_744 : decode code 744 = .ok (.invokevirtual 109, 3) := by decide +kernel
theorem kL_747 : decode code 747 = .ok (.aload_n 2, 1) := by decide +kernel
theorem kL_748 : decode code 748 = .ok (.aload_n 0, 1) := by decide +kernel
theorem kL_749 : decode code 749 = .ok (.iload_n 3, 1) := by decide +kernel
theorem kL_750 : decode code 750 = .ok (.iconst 1, 1) := by decide +kernel
theorem kL_751 : decode code 751 = .ok (.iadd, 1) := by decide +kernel
theorem kL_752 : decode code 752 = .ok (.iaload, 1) := by decide +kernel
theorem kL_753 : decode code 753 = .ok (.aload_n 0, 1) := by decide +kernel
theorem kL_754 : decode code 754 = .ok (.iload_n 3, 1) := by decide +kernel
theorem kL_755 : decode code 755 = .ok (.iconst 2, 1) := by decide +kernel
theorem kL_756 : decode code 756 = .ok (.iadd, 1) := by decide +kernel
theorem kL_757 : decode code 757 = .ok (.iaload, 1) := by decide +kernel
theorem kL_758 : decode code 758 = .ok (.invokevirtual 112, 3) := by decide +kernel
theorem kL_761 : decode code 761 = .ok (.if_icmp .eq 140, 3) := by decide +kernel
theorem kL_764 : decode code 764 = .ok (.iconst 0, 1) := by decide +kernel
theorem kL_765 : decode code 765 = .ok (.ireturn, 1) := by decide +kernel
theorem kL_766 : decode code 766 = .ok (.aload_n 1, 1) := by decide +kernel
theorem kL_767 : decode code 767 = .ok (.aload_n 0, 1) := by decide +kernel
theorem kL_768 : decode code 768 = .ok (.iload_n 3, 1) := by decide +kernel
theorem kL_769 : decode code 769 = .ok (.iconst 1, 1) := by decide +kernel
theorem kL_770 : decode code 770 = .ok (.iadd, 1) := by decide +kernel
theorem kL_771 : decode code 771 = .ok (.iaload, 1) := by decide +kernel
theorem kL_772 : decode code 772 = .ok (.aload_n 0, 1) := by decide +kernel
theorem kL_773 : decode code 773 = .ok (.iload_n 3, 1) := by decide +kernel
theorem kL_774 : decode code 774 = .ok (.iconst 2, 1) := by decide +kernel
theorem kL_775 : decode code 775 = .ok (.iadd, 1) := by decide +kernel
theorem kL_776 : decode code 776 = .ok (.iaload, 1) := by decide +kernel
theorem kL_777 : decode code 777 = .ok (.aload_n 0, 1) := by decide +kernel
theorem kL_778 : decode code 778 = .ok (.iload_n 3, 1) := by decide +kernel
theorem kL_779 : decode code 779 = .ok (.iconst 3, 1) := by decide +kernel
theorem kL_780 : decode code 780 = .ok (.iadd, 1) := by decide +kernel
theorem kL_781 : decode code 781 = .ok (.iaload, 1) := by decide +kernel
theorem kL_782 : decode code 782 = .ok (.invokevirtual 113, 3) := by decide +kernel
theorem kL_785 : decode code 785 = .ok (.aload_n 2, 1) := by decide +kernel
theorem kL_786 : decode code 786 = .ok (.aload_n 0, 1) := by decide +kernel
theorem kL_787 : decode code 787 = .ok (.iload_n 3, 1) := by decide +kernel
theorem kL_788 : decode code 788 = .ok (.iconst 1, 1) := by decide +kernel
theorem kL_789 : decode code 789 = .ok (.iadd, 1) := by decide +kernel
theorem kL_790 : decode code 790 = .ok (.iaload, 1) := by decide +kernel
theorem kL_791 : decode code 791 = .ok (.aload_n 0, 1) := by decide +kernel
theorem kL_792 : decode code 792 = .ok (.iload_n 3, 1) := by decide +kernel
theorem kL_793 : decode code 793 = .ok (.iconst 2, 1) := by decide +kernel
theorem kL_794 : decode code 794 = .ok (.iadd, 1) := by decide +kernel
theorem kL_795 : decode code 795 = .ok (.iaload, 1) := by decide +kernel
theorem kL_796 : decode code 796 = .ok (.aload_n 0, 1) := by decide +kernel
theorem kL_797 : decode code 797 = .ok (.iload_n 3, 1) := by decide +kernel
theorem kL_798 : decode code 798 = .ok (.iconst 3, 1) := by decide +kernel
theorem kL_799 : decode code 799 = .ok (.iadd, 1) := by decide +kernel
theorem kL_800 : decode code 800 = .ok (.iaload, 1) := by decide +kernel
theorem kL_801 : decode code 801 = .ok (.invokevirtual 116, 3) := by decide +kernel
theorem kL_804 : decode code 804 = .ok (.if_icmp .eq 97, 3) := by decide +kernel
theorem kL_807 : decode code 807 = .ok (.iconst 0, 1) := by decide +kernel
theorem kL_808 : decode code 808 = .ok (.ireturn, 1) := by decide +kernel
theorem kL_809 : decode code 809 = .ok (.aload_n 1, 1) := by decide +kernel
theorem kL_810 : decode code 810 = .ok (.aload_n 0, 1) := by decide +kernel
theorem kL_811 : decode code 811 = .ok (.iload_n 3, 1) := by decide +kernel
theorem kL_812 : decode code 812 = .ok (.iconst 1, 1) := by decide +kernel
theorem kL_813 : decode code 813 = .ok (.iadd, 1) := by decide +kernel
theorem kL_814 : decode code 814 = .ok (.iaload, 1) := by decide +kernel
theorem kL_815 : decode code 815 = .ok (.aload_n 0, 1) := by decide +kernel
theorem kL_816 : decode code 816 = .ok (.iload_n 3, 1) := by decide +kernel
theorem kL_817 : decode code 817 = .ok (.iconst 2, 1) := by decide +kernel
theorem kL_818 : decode code 818 = .ok (.iadd, 1) := by decide +kernel
theorem kL_819 : decode code 819 = .ok (.iaload, 1) := by decide +kernel
theorem kL_820 : decode code 820 = .ok (.aload_n 0, 1) := by decide +kernel
theorem kL_821 : decode code 821 = .ok (.iload_n 3, 1) := by decide +kernel
theorem kL_822 : decode code 822 = .ok (.iconst 3, 1) := by decide +kernel
theorem kL_823 : decode code 823 = .ok (.iadd, 1) := by decide +kernel
theorem kL_824 : decode code 824 = .ok (.iaload, 1) := by decide +kernel
theorem kL_825 : decode code 825 = .ok (.invokevirtual 117, 3) := by decide +kernel
theorem kL_828 : decode code 828 = .ok (.aload_n 2, 1) := by decide +kernel
theorem kL_829 : decode code 829 = .ok (.aload_n 0, 1) := by decide +kernel
theorem kL_830 : decode code 830 = .ok (.iload_n 3, 1) := by decide +kernel
theorem kL_831 : decode code 831 = .ok (.iconst 1, 1) := by decide +kernel
theorem kL_832 : decode code 832 = .ok (.iadd, 1) := by decide +kernel
theorem kL_833 : decode code 833 = .ok (.iaload, 1) := by decide +kernel
theorem kL_834 : decode code 834 = .ok (.aload_n 0, 1) := by decide +kernel
theorem kL_835 : decode code 835 = .ok (.iload_n 3, 1) := by decide +kernel
theorem kL_836 : decode code 836 = .ok (.iconst 2, 1) := by decide +kernel
theorem kL_837 : decode code 837 = .ok (.iadd, 1) := by decide +kernel
theorem kL_838 : decode code 838 = .ok (.iaload, 1) := by decide +kernel
theorem kL_839 : decode code 839 = .ok (.aload_n 0, 1) := by decide +kernel
theorem kL_840 : decode code 840 = .ok (.iload_n 3, 1) := by decide +kernel
theorem kL_841 : decode code 841 = .ok (.iconst 3, 1) := by decide +kernel
theorem kL_842 : decode code 842 = .ok (.iadd, 1) := by decide +kernel
theorem kL_843 : decode code 843 = .ok (.iaload, 1) := by decide +kernel
theorem kL_844 : decode code 844 = .ok (.invokevirtual 120, 3) := by decide +kernel
theorem kL_847 : decode code 847 = .ok (.if_icmp .eq 54, 3) := by decide +kernel
theorem kL_850 : decode code 850 = .ok (.iconst 0, 1) := by decide +kernel
theorem kL_851 : decode code 851 = .ok (.ireturn, 1) := by decide +kernel
theorem kL_852 : decode code 852 = .ok (.aload_n 1, 1) := by decide +kernel
theorem kL_853 : decode code 853 = .ok (.invokevirtual 121, 3) := by decide +kernel
theorem kL_856 : decode code 856 = .ok (.aload_n 2, 1) := by decide +kernel
theorem kL_857 : decode code 857 = .ok (.invokevirtual 124, 3) := by decide +kernel
theorem kL_860 : decode code 860 = .ok (.if_icmp .eq 41, 3) := by decide +kernel
theorem kL_863 : decode code 863 = .ok (.iconst 0, 1) := by decide +kernel
theorem kL_864 : decode code 864 = .ok (.ireturn, 1) := by decide +kernel
theorem kL_865 : decode code 865 = .ok (.aload_n 1, 1) := by decide +kernel
theorem kL_866 : decode code 866 = .ok (.invokevirtual 125, 3) := by decide +kernel
theorem kL_869 : decode code 869 = .ok (.aload_n 2, 1) := by decide +kernel
theorem kL_870 : decode code 870 = .ok (.invokevirtual 128, 3) := by decide +kernel
theorem kL_873 : decode code 873 = .ok (.if_icmp .eq 28, 3) := by decide +kernel
theorem kL_876 : decode code 876 = .ok (.iconst 0, 1) := by decide +kernel
theorem kL_877 : decode code 877 = .ok (.ireturn, 1) := by decide +kernel
theorem kL_878 : decode code 878 = .ok (.aload_n 1, 1) := by decide +kernel
theorem kL_879 : decode code 879 = .ok (.aload_n 0, 1) := by decide +kernel
theorem kL_880 : decode code 880 = .ok (.iload_n 3, 1) := by decide +kernel
theorem kL_881 : decode code 881 = .ok (.iconst 1, 1) := by decide +kernel
theorem kL_882 : decode code 882 = .ok (.iadd, 1) := by decide +kernel
theorem kL_883 : decode code 883 = .ok (.iaload, 1) := by decide +kernel
theorem kL_884 : decode code 884 = .ok (.invokevirtual 129, 3) := by decide +kernel
theorem kL_887 : decode code 887 = .ok (.aload_n 2, 1) := by decide +kernel
theorem kL_888 : decode code 888 = .ok (.aload_n 0, 1) := by decide +kernel
theorem kL_889 : decode code 889 = .ok (.iload_n 3, 1) := by decide +kernel
theorem kL_890 : decode code 890 = .ok (.iconst 1, 1) := by decide +kernel
theorem kL_891 : decode code 891 = .ok (.iadd, 1) := by decide +kernel
theorem kL_892 : decode code 892 = .ok (.iaload, 1) := by decide +kernel
theorem kL_893 : decode code 893 = .ok (.invokevirtual 132, 3) := by decide +kernel
theorem kL_896 : decode code 896 = .ok (.if_icmp .eq 5, 3) := by decide +kernel
theorem kL_899 : decode code 899 = .ok (.iconst 0, 1) := by decide +kernel
theorem kL_900 : decode code 900 = .ok (.ireturn, 1) := by decide +kernel
theorem kL_901 : decode code 901 = .ok (.iinc 3 4, 3) := by decide +kernel
theorem kL_904 : decode code 904 = .ok (.goto (-886), 3) := by decide +kernel
theorem kL_907 : decode code 907 = .ok (.iconst 1, 1) := by decide +kernel
theorem kL_908 : decode code 908 = .ok (.ireturn, 1) := by decide +kernel
section LC
variable {p : Program} {l : Launch} {e : Env} {R : Room} {s : State} {m : MethodId} {args : Array Value} {below : List Frame} {meth : Method} {c : Code} {cells slots : Nat} {Q : State → Prop} {G : nl_G} {ls : Array Slot} {H : Heap} {locs : List Loc} {b L : Nat} {xs : Nat → Int32} {i : Nat} {h : nl_H}
/-- what stands through a round of the law -/
def lk_Cx (p : Program) (R : Room) (s : State) (m : MethodId) (args : Array Value) (c : Code) (cells slots : Nat) (G : nl_G) (b L : Nat) (xs : Nat → Int32) : Prop :=
  nk_Cx p s m args c code 4 7 G ∧ nl_Ap G ∧ gN G 6 = 1 ∧ va_X b L xs s s.heap ∧ b < s.heap.size ∧ ¬ gF G b ∧ L ≤ 2048 ∧ 21 ≤ R.frames ∧ 2100 ≤ R.locals ∧ (cells ≤ R.cells ∧ slots ≤ R.slots)
theorem lw_c0 (C : lk_Cx p R s m args c cells slots G b L xs) (hi : i + 3 < L) (hl : lv_has ls 4 [(3, .int (Int32.ofNat i)), (2, .ref (gO G 6 0)), (1, .ref (gO G 5 0)), (0, .ref b)]) (hW : nl_Wd G h s H) (hg : rg h) (hS : va_S (gF G) s.heap H locs)
    (kk : ∀ (H1 : Heap) (locs1 : List Loc) (h1 : nl_H), nl_Wd G h1 s H1 → rg h1 → va_S (gF G) s.heap H1 locs1 → W p l e R s m args below meth c H1 locs1 cells slots Q (F0 m 901 ls [])) : W p l e R s m args below meth c H locs cells slots Q (F0 m 164 ls []) :=
  lk_case (l := l) C.1 C.2.1 C.2.2.1 hl rfl rfl (pc := 164) (pa := 170) (pb := 179) (as := [vI (xs (i + 1)).toInt]) (ag_write (LS := gL G) (n := 20) (by omega) hg (lk_in _)) rfl rfl (nl_w2 74 rfl rfl) (nl_w3 220 rfl rfl) ⟨rfl, rfl, rfl⟩ ⟨rfl, rfl, rfl⟩ (fun _ => rfl) (fun _ => rfl) (fun v hv => by obtain rfl := List.mem_singleton.mp hv; trivial) C.2.2.2.2.2.2.2.1 C.2.2.2.2.2.2.2.2.1 C.2.2.2.2.2.2.2.2.2 kL_164 (fun H locs rest hS k => (lk_arg C.1 C.2.2.2.1 C.2.2.2.2.1 C.2.2.2.2.2.1 C.2.2.2.2.2.2.1 hl rfl rfl 1 (by omega) (by omega) kL_165 kL_166 kL_167 kL_168 kL_169 hS k)) kL_170 kL_173 (fun H locs rest hS k => (lk_arg C.1 C.2.2.2.1 C.2.2.2.2.1 C.2.2.2.2.2.1 C.2.2.2.2.2.2.1 hl rfl rfl 1 (by omega) (by omega) kL_174 kL_175 kL_176 kL_177 kL_178 hS k)) kL_179 kL_182 rfl hW hS kk
theorem lw_c1 (C : lk_Cx p R s m args c cells slots G b L xs) (hi : i + 3 < L) (hl : lv_has ls 4 [(3, .int (Int32.ofNat i)), (2, .ref (gO G 6 0)), (1, .ref (gO G 5 0)), (0, .ref b)]) (hW : nl_Wd G h s H) (hg : rg h) (hS : va_S (gF G) s.heap H locs)
    (kk : ∀ (H1 : Heap) (locs1 : List Loc) (h1 : nl_H), nl_Wd G h1 s H1 → rg h1 → va_S (gF G) s.heap H1 locs1 → W p l e R s m args below meth c H1 locs1 cells slots Q (F0 m 901 ls [])) : W p l e R s m args below meth c H locs cells slots Q (F0 m 187 ls []) :=
  lk_case (l := l) C.1 C.2.1 C.2.2.1 hl rfl rfl (pc := 187) (pa := 188) (pb := 192) (as := []) (ag_wipe (LS := gL G) (n := 20) (by omega) hg) rfl rfl (nl_w2 75 rfl rfl) (nl_w3 227 rfl rfl) ⟨rfl, rfl, rfl⟩ ⟨rfl, rfl, rfl⟩ (fun _ => rfl) (fun _ => rfl) (fun v hv => by cases hv) C.2.2.2.2.2.2.2.1 C.2.2.2.2.2.2.2.2.1 C.2.2.2.2.2.2.2.2.2 kL_187 (fun H locs rest hS k => k) kL_188 kL_191 (fun H locs rest hS k => k) kL_192 kL_195 rfl hW hS kk
theorem lw_c2 (C : lk_Cx p R s m args c cells slots G b L xs) (hi : i + 3 < L) (hl : lv_has ls 4 [(3, .int (Int32.ofNat i)), (2, .ref (gO G 6 0)), (1, .ref (gO G 5 0)), (0, .ref b)]) (hW : nl_Wd G h s H) (hg : rg h) (hS : va_S (gF G) s.heap H locs)
    (kk : ∀ (H1 : Heap) (locs1 : List Loc) (h1 : nl_H), nl_Wd G h1 s H1 → rg h1 → va_S (gF G) s.heap H1 locs1 → W p l e R s m args below meth c H1 locs1 cells slots Q (F0 m 901 ls [])) : W p l e R s m args below meth c H locs cells slots Q (F0 m 200 ls []) :=
  lk_case (l := l) C.1 C.2.1 C.2.2.1 hl rfl rfl (pc := 200) (pa := 201) (pb := 205) (as := []) (ag_fault (LS := gL G) (n := 20) (by omega) hg) rfl rfl (nl_w2 76 rfl rfl) (nl_w3 231 rfl rfl) ⟨rfl, rfl, rfl⟩ ⟨rfl, rfl, rfl⟩ (fun _ => rfl) (fun _ => rfl) (fun v hv => by cases hv) C.2.2.2.2.2.2.2.1 C.2.2.2.2.2.2.2.2.1 C.2.2.2.2.2.2.2.2.2 kL_200 (fun H locs rest hS k => k) kL_201 kL_204 (fun H locs rest hS k => k) kL_205 kL_208 rfl hW hS kk
theorem lw_c3 (C : lk_Cx p R s m args c cells slots G b L xs) (hi : i + 3 < L) (hl : lv_has ls 4 [(3, .int (Int32.ofNat i)), (2, .ref (gO G 6 0)), (1, .ref (gO G 5 0)), (0, .ref b)]) (hW : nl_Wd G h s H) (hg : rg h) (hS : va_S (gF G) s.heap H locs)
    (kk : ∀ (H1 : Heap) (locs1 : List Loc) (h1 : nl_H), nl_Wd G h1 s H1 → rg h1 → va_S (gF G) s.heap H1 locs1 → W p l e R s m args below meth c H1 locs1 cells slots Q (F0 m 901 ls [])) : W p l e R s m args below meth c H locs cells slots Q (F0 m 213 ls []) :=
  lk_case (l := l) C.1 C.2.1 C.2.2.1 hl rfl rfl (pc := 213) (pa := 214) (pb := 218) (as := []) (ag_lay (LS := gL G) (n := 20) (by omega) hg) rfl rfl (nl_w2 80 rfl rfl) (nl_w4 19 rfl rfl) ⟨rfl, rfl, rfl⟩ ⟨rfl, rfl, rfl⟩ (fun _ => rfl) (fun _ => rfl) (fun v hv => by cases hv) C.2.2.2.2.2.2.2.1 C.2.2.2.2.2.2.2.2.1 C.2.2.2.2.2.2.2.2.2 kL_213 (fun H locs rest hS k => k) kL_214 kL_217 (fun H locs rest hS k => k) kL_218 kL_221 rfl hW hS kk
theorem lw_c4 (C : lk_Cx p R s m args c cells slots G b L xs) (hi : i + 3 < L) (hl : lv_has ls 4 [(3, .int (Int32.ofNat i)), (2, .ref (gO G 6 0)), (1, .ref (gO G 5 0)), (0, .ref b)]) (hW : nl_Wd G h s H) (hg : rg h) (hS : va_S (gF G) s.heap H locs)
    (kk : ∀ (H1 : Heap) (locs1 : List Loc) (h1 : nl_H), nl_Wd G h1 s H1 → rg h1 → va_S (gF G) s.heap H1 locs1 → W p l e R s m args below meth c H1 locs1 cells slots Q (F0 m 901 ls [])) : W p l e R s m args below meth c H locs cells slots Q (F0 m 226 ls []) :=
  lk_case (l := l) C.1 C.2.1 C.2.2.1 hl rfl rfl (pc := 226) (pa := 237) (pb := 251) (as := [vI (xs (i + 1)).toInt, vI (xs (i + 2)).toInt]) (ag_house (LS := gL G) (n := 20) (by omega) hg (lk_in _) (lk_in _)) rfl rfl (nl_w2 81 rfl rfl) (nl_w4 24 rfl rfl) ⟨rfl, rfl, rfl⟩ ⟨rfl, rfl, rfl⟩ (fun _ => rfl) (fun _ => rfl) (fun v hv => by simp only [List.mem_cons, List.not_mem_nil, or_false] at hv; rcases hv with rfl | rfl <;> trivial) C.2.2.2.2.2.2.2.1 C.2.2.2.2.2.2.2.2.1 C.2.2.2.2.2.2.2.2.2 kL_226 (fun H locs rest hS k => (lk_arg C.1 C.2.2.2.1 C.2.2.2.2.1 C.2.2.2.2.2.1 C.2.2.2.2.2.2.1 hl rfl rfl 1 (by omega) (by omega) kL_227 kL_228 kL_229 kL_230 kL_231 hS (lk_arg C.1 C.2.2.2.1 C.2.2.2.2.1 C.2.2.2.2.2.1 C.2.2.2.2.2.2.1 hl rfl rfl 2 (by omega) (by omega) kL_232 kL_233 kL_234 kL_235 kL_236 hS k))) kL_237 kL_240 (fun H locs rest hS k => (lk_arg C.1 C.2.2.2.1 C.2.2.2.2.1 C.2.2.2.2.2.1 C.2.2.2.2.2.2.1 hl rfl rfl 1 (by omega) (by omega) kL_241 kL_242 kL_243 kL_244 kL_245 hS (lk_arg C.1 C.2.2.2.1 C.2.2.2.2.1 C.2.2.2.2.2.1 C.2.2.2.2.2.2.1 hl rfl rfl 2 (by omega) (by omega) kL_246 kL_247 kL_248 kL_249 kL_250 hS k))) kL_251 kL_254 rfl hW hS kk
theorem lw_c5 (C : lk_Cx p R s m args c cells slots G b L xs) (hi : i + 3 < L) (hl : lv_has ls 4 [(3, .int (Int32.ofNat i)), (2, .ref (gO G 6 0)), (1, .ref (gO G 5 0)), (0, .ref b)]) (hW : nl_Wd G h s H) (hg : rg h) (hS : va_S (gF G) s.heap H locs)
    (kk : ∀ (H1 : Heap) (locs1 : List Loc) (h1 : nl_H), nl_Wd G h1 s H1 → rg h1 → va_S (gF G) s.heap H1 locs1 → W p l e R s m args below meth c H1 locs1 cells slots Q (F0 m 901 ls [])) : W p l e R s m args below meth c H locs cells slots Q (F0 m 259 ls []) :=
  lk_case (l := l) C.1 C.2.1 C.2.2.1 hl rfl rfl (pc := 259) (pa := 270) (pb := 284) (as := [vI (xs (i + 1)).toInt, vI (xs (i + 2)).toInt]) (ag_hour (LS := gL G) (n := 20) (by omega) hg (lk_in _) (lk_in _)) rfl rfl (nl_w2 89 rfl rfl) (nl_w4 32 rfl rfl) ⟨rfl, rfl, rfl⟩ ⟨rfl, rfl, rfl⟩ (fun _ => rfl) (fun _ => rfl) (fun v hv => by simp only [List.mem_cons, List.not_mem_nil, or_false] at hv; rcases hv with rfl | rfl <;> trivial) C.2.2.2.2.2.2.2.1 C.2.2.2.2.2.2.2.2.1 C.2.2.2.2.2.2.2.2.2 kL_259 (fun H locs rest hS k => (lk_arg C.1 C.2.2.2.1 C.2.2.2.2.1 C.2.2.2.2.2.1 C.2.2.2.2.2.2.1 hl rfl rfl 1 (by omega) (by omega) kL_260 kL_261 kL_262 kL_263 kL_264 hS (lk_arg C.1 C.2.2.2.1 C.2.2.2.2.1 C.2.2.2.2.2.1 C.2.2.2.2.2.2.1 hl rfl rfl 2 (by omega) (by omega) kL_265 kL_266 kL_267 kL_268 kL_269 hS k))) kL_270 kL_273 (fun H locs rest hS k => (lk_arg C.1 C.2.2.2.1 C.2.2.2.2.1 C.2.2.2.2.2.1 C.2.2.2.2.2.2.1 hl rfl rfl 1 (by omega) (by omega) kL_274 kL_275 kL_276 kL_277 kL_278 hS (lk_arg C.1 C.2.2.2.1 C.2.2.2.2.1 C.2.2.2.2.2.1 C.2.2.2.2.2.2.1 hl rfl rfl 2 (by omega) (by omega) kL_279 kL_280 kL_281 kL_282 kL_283 hS k))) kL_284 kL_287 rfl hW hS kk
theorem lw_c6 (C : lk_Cx p R s m args c cells slots G b L xs) (hi : i + 3 < L) (hl : lv_has ls 4 [(3, .int (Int32.ofNat i)), (2, .ref (gO G 6 0)), (1, .ref (gO G 5 0)), (0, .ref b)]) (hW : nl_Wd G h s H) (hg : rg h) (hS : va_S (gF G) s.heap H locs)
    (kk : ∀ (H1 : Heap) (locs1 : List Loc) (h1 : nl_H), nl_Wd G h1 s H1 → rg h1 → va_S (gF G) s.heap H1 locs1 → W p l e R s m args below meth c H1 locs1 cells slots Q (F0 m 901 ls [])) : W p l e R s m args below meth c H locs cells slots Q (F0 m 292 ls []) :=
  lk_case (l := l) C.1 C.2.1 C.2.2.1 hl rfl rfl (pc := 292) (pa := 303) (pb := 317) (as := [vI (xs (i + 1)).toInt, vI (xs (i + 2)).toInt]) (ag_heavy (LS := gL G) (n := 20) (by omega) hg (lk_in _) (lk_in _)) rfl rfl (nl_w2 101 rfl rfl) (nl_w4 40 rfl rfl) ⟨rfl, rfl, rfl⟩ ⟨rfl, rfl, rfl⟩ (fun _ => rfl) (fun _ => rfl) (fun v hv => by simp only [List.mem_cons, List.not_mem_nil, or_false] at hv; rcases hv with rfl | rfl <;> trivial) C.2.2.2.2.2.2.2.1 C.2.2.2.2.2.2.2.2.1 C.2.2.2.2.2.2.2.2.2 kL_292 (fun H locs rest hS k => (lk_arg C.1 C.2.2.2.1 C.2.2.2.2.1 C.2.2.2.2.2.1 C.2.2.2.2.2.2.1 hl rfl rfl 1 (by omega) (by omega) kL_293 kL_294 kL_295 kL_296 kL_297 hS (lk_arg C.1 C.2.2.2.1 C.2.2.2.2.1 C.2.2.2.2.2.1 C.2.2.2.2.2.2.1 hl rfl rfl 2 (by omega) (by omega) kL_298 kL_299 kL_300 kL_301 kL_302 hS k))) kL_303 kL_306 (fun H locs rest hS k => (lk_arg C.1 C.2.2.2.1 C.2.2.2.2.1 C.2.2.2.2.2.1 C.2.2.2.2.2.2.1 hl rfl rfl 1 (by omega) (by omega) kL_307 kL_308 kL_309 kL_310 kL_311 hS (lk_arg C.1 C.2.2.2.1 C.2.2.2.2.1 C.2.2.2.2.2.1 C.2.2.2.2.2.2.1 hl rfl rfl 2 (by omega) (by omega) kL_312 kL_313 kL_314 kL_315 kL_316 hS k))) kL_317 kL_320 rfl hW hS kk
theorem lw_c7 (C : lk_Cx p R s m args c cells slots G b L xs) (hi : i + 3 < L) (hl : lv_has ls 4 [(3, .int (Int32.ofNat i)), (2, .ref (gO G 6 0)), (1, .ref (gO G 5 0)), (0, .ref b)]) (hW : nl_Wd G h s H) (hg : rg h) (hS : va_S (gF G) s.heap H locs)
    (kk : ∀ (H1 : Heap) (locs1 : List Loc) (h1 : nl_H), nl_Wd G h1 s H1 → rg h1 → va_S (gF G) s.heap H1 locs1 → W p l e R s m args below meth c H1 locs1 cells slots Q (F0 m 901 ls [])) : W p l e R s m args below meth c H locs cells slots Q (F0 m 325 ls []) :=
  lk_case (l := l) C.1 C.2.1 C.2.2.1 hl rfl rfl (pc := 325) (pa := 336) (pb := 350) (as := [vI (xs (i + 1)).toInt, vI (xs (i + 2)).toInt]) (ag_had (LS := gL G) (n := 20) (by omega) hg (lk_in _) (lk_in _)) rfl rfl (nl_w2 114 rfl rfl) (nl_w4 55 rfl rfl) ⟨rfl, rfl, rfl⟩ ⟨rfl, rfl, rfl⟩ (fun _ => rfl) (fun _ => rfl) (fun v hv => by simp only [List.mem_cons, List.not_mem_nil, or_false] at hv; rcases hv with rfl | rfl <;> trivial) C.2.2.2.2.2.2.2.1 C.2.2.2.2.2.2.2.2.1 C.2.2.2.2.2.2.2.2.2 kL_325 (fun H locs rest hS k => (lk_arg C.1 C.2.2.2.1 C.2.2.2.2.1 C.2.2.2.2.2.1 C.2.2.2.2.2.2.1 hl rfl rfl 1 (by omega) (by omega) kL_326 kL_327 kL_328 kL_329 kL_330 hS (lk_arg C.1 C.2.2.2.1 C.2.2.2.2.1 C.2.2.2.2.2.1 C.2.2.2.2.2.2.1 hl rfl rfl 2 (by omega) (by omega) kL_331 kL_332 kL_333 kL_334 kL_335 hS k))) kL_336 kL_339 (fun H locs rest hS k => (lk_arg C.1 C.2.2.2.1 C.2.2.2.2.1 C.2.2.2.2.2.1 C.2.2.2.2.2.2.1 hl rfl rfl 1 (by omega) (by omega) kL_340 kL_341 kL_342 kL_343 kL_344 hS (lk_arg C.1 C.2.2.2.1 C.2.2.2.2.1 C.2.2.2.2.2.1 C.2.2.2.2.2.2.1 hl rfl rfl 2 (by omega) (by omega) kL_345 kL_346 kL_347 kL_348 kL_349 hS k))) kL_350 kL_353 rfl hW hS kk
theorem lw_c8 (C : lk_Cx p R s m args c cells slots G b L xs) (hi : i + 3 < L) (hl : lv_has ls 4 [(3, .int (Int32.ofNat i)), (2, .ref (gO G 6 0)), (1, .ref (gO G 5 0)), (0, .ref b)]) (hW : nl_Wd G h s H) (hg : rg h) (hS : va_S (gF G) s.heap H locs)
    (kk : ∀ (H1 : Heap) (locs1 : List Loc) (h1 : nl_H), nl_Wd G h1 s H1 → rg h1 → va_S (gF G) s.heap H1 locs1 → W p l e R s m args below meth c H1 locs1 cells slots Q (F0 m 901 ls [])) : W p l e R s m args below meth c H locs cells slots Q (F0 m 358 ls []) :=
  lk_case (l := l) C.1 C.2.1 C.2.2.1 hl rfl rfl (pc := 358) (pa := 364) (pb := 373) (as := [vI (xs (i + 1)).toInt]) (ag_pass (LS := gL G) (n := 20) (by omega) hg (lk_in _)) rfl rfl (nl_w2 122 rfl rfl) (nl_w4 59 rfl rfl) ⟨rfl, rfl, rfl⟩ ⟨rfl, rfl, rfl⟩ (fun _ => rfl) (fun _ => rfl) (fun v hv => by obtain rfl := List.mem_singleton.mp hv; trivial) C.2.2.2.2.2.2.2.1 C.2.2.2.2.2.2.2.2.1 C.2.2.2.2.2.2.2.2.2 kL_358 (fun H locs rest hS k => (lk_arg C.1 C.2.2.2.1 C.2.2.2.2.1 C.2.2.2.2.2.1 C.2.2.2.2.2.2.1 hl rfl rfl 1 (by omega) (by omega) kL_359 kL_360 kL_361 kL_362 kL_363 hS k)) kL_364 kL_367 (fun H locs rest hS k => (lk_arg C.1 C.2.2.2.1 C.2.2.2.2.1 C.2.2.2.2.2.1 C.2.2.2.2.2.2.1 hl rfl rfl 1 (by omega) (by omega) kL_368 kL_369 kL_370 kL_371 kL_372 hS k)) kL_373 kL_376 rfl hW hS kk
theorem lw_c9 (C : lk_Cx p R s m args c cells slots G b L xs) (hi : i + 3 < L) (hl : lv_has ls 4 [(3, .int (Int32.ofNat i)), (2, .ref (gO G 6 0)), (1, .ref (gO G 5 0)), (0, .ref b)]) (hW : nl_Wd G h s H) (hg : rg h) (hS : va_S (gF G) s.heap H locs)
    (kk : ∀ (H1 : Heap) (locs1 : List Loc) (h1 : nl_H), nl_Wd G h1 s H1 → rg h1 → va_S (gF G) s.heap H1 locs1 → W p l e R s m args below meth c H1 locs1 cells slots Q (F0 m 901 ls [])) : W p l e R s m args below meth c H locs cells slots Q (F0 m 381 ls []) :=
  lk_case (l := l) C.1 C.2.1 C.2.2.1 hl rfl rfl (pc := 381) (pa := 392) (pb := 406) (as := [vI (xs (i + 1)).toInt, vI (xs (i + 2)).toInt]) (ag_swap (LS := gL G) (n := 20) (by omega) hg (lk_in _) (lk_in _)) rfl rfl (nl_w2 152 rfl rfl) (nl_w4 86 rfl rfl) ⟨rfl, rfl, rfl⟩ ⟨rfl, rfl, rfl⟩ (fun _ => rfl) (fun _ => rfl) (fun v hv => by simp only [List.mem_cons, List.not_mem_nil, or_false] at hv; rcases hv with rfl | rfl <;> trivial) C.2.2.2.2.2.2.2.1 C.2.2.2.2.2.2.2.2.1 C.2.2.2.2.2.2.2.2.2 kL_381 (fun H locs rest hS k => (lk_arg C.1 C.2.2.2.1 C.2.2.2.2.1 C.2.2.2.2.2.1 C.2.2.2.2.2.2.1 hl rfl rfl 1 (by omega) (by omega) kL_382 kL_383 kL_384 kL_385 kL_386 hS (lk_arg C.1 C.2.2.2.1 C.2.2.2.2.1 C.2.2.2.2.2.1 C.2.2.2.2.2.2.1 hl rfl rfl 2 (by omega) (by omega) kL_387 kL_388 kL_389 kL_390 kL_391 hS k))) kL_392 kL_395 (fun H locs rest hS k => (lk_arg C.1 C.2.2.2.1 C.2.2.2.2.1 C.2.2.2.2.2.1 C.2.2.2.2.2.2.1 hl rfl rfl 1 (by omega) (by omega) kL_396 kL_397 kL_398 kL_399 kL_400 hS (lk_arg C.1 C.2.2.2.1 C.2.2.2.2.1 C.2.2.2.2.2.1 C.2.2.2.2.2.2.1 hl rfl rfl 2 (by omega) (by omega) kL_401 kL_402 kL_403 kL_404 kL_405 hS k))) kL_406 kL_409 rfl hW hS kk
theorem lw_c10 (C : lk_Cx p R s m args c cells slots G b L xs) (hi : i + 3 < L) (hl : lv_has ls 4 [(3, .int (Int32.ofNat i)), (2, .ref (gO G 6 0)), (1, .ref (gO G 5 0)), (0, .ref b)]) (hW : nl_Wd G h s H) (hg : rg h) (hS : va_S (gF G) s.heap H locs)
    (kk : ∀ (H1 : Heap) (locs1 : List Loc) (h1 : nl_H), nl_Wd G h1 s H1 → rg h1 → va_S (gF G) s.heap H1 locs1 → W p l e R s m args below meth c H1 locs1 cells slots Q (F0 m 901 ls [])) : W p l e R s m args below meth c H locs cells slots Q (F0 m 414 ls []) :=
  lk_case (l := l) C.1 C.2.1 C.2.2.1 hl rfl rfl (pc := 414) (pa := 420) (pb := 429) (as := [vI (xs (i + 1)).toInt]) (ag_rest (LS := gL G) (n := 20) (by omega) hg (lk_in _)) rfl rfl (nl_w2 160 rfl rfl) (nl_w4 94 rfl rfl) ⟨rfl, rfl, rfl⟩ ⟨rfl, rfl, rfl⟩ (fun _ => rfl) (fun _ => rfl) (fun v hv => by obtain rfl := List.mem_singleton.mp hv; trivial) C.2.2.2.2.2.2.2.1 C.2.2.2.2.2.2.2.2.1 C.2.2.2.2.2.2.2.2.2 kL_414 (fun H locs rest hS k => (lk_arg C.1 C.2.2.2.1 C.2.2.2.2.1 C.2.2.2.2.2.1 C.2.2.2.2.2.2.1 hl rfl rfl 1 (by omega) (by omega) kL_415 kL_416 kL_417 kL_418 kL_419 hS k)) kL_420 kL_423 (fun H locs rest hS k => (lk_arg C.1 C.2.2.2.1 C.2.2.2.2.1 C.2.2.2.2.2.1 C.2.2.2.2.2.2.1 hl rfl rfl 1 (by omega) (by omega) kL_424 kL_425 kL_426 kL_427 kL_428 hS k)) kL_429 kL_432 rfl hW hS kk
theorem lw_c11 (C : lk_Cx p R s m args c cells slots G b L xs) (hi : i + 3 < L) (hl : lv_has ls 4 [(3, .int (Int32.ofNat i)), (2, .ref (gO G 6 0)), (1, .ref (gO G 5 0)), (0, .ref b)]) (hW : nl_Wd G h s H) (hg : rg h) (hS : va_S (gF G) s.heap H locs)
    (kk : ∀ (H1 : Heap) (locs1 : List Loc) (h1 : nl_H), nl_Wd G h1 s H1 → rg h1 → va_S (gF G) s.heap H1 locs1 → W p l e R s m args below meth c H1 locs1 cells slots Q (F0 m 901 ls [])) : W p l e R s m args below meth c H locs cells slots Q (F0 m 437 ls []) :=
  lk_case (l := l) C.1 C.2.1 C.2.2.1 hl rfl rfl (pc := 437) (pa := 448) (pb := 462) (as := [vI (xs (i + 1)).toInt, vI (xs (i + 2)).toInt]) (ag_burden (LS := gL G) (n := 20) (by omega) hg (lk_in _) (lk_in _)) rfl rfl (nl_w2 168 rfl rfl) (nl_w4 102 rfl rfl) ⟨rfl, rfl, rfl⟩ ⟨rfl, rfl, rfl⟩ (fun _ => rfl) (fun _ => rfl) (fun v hv => by simp only [List.mem_cons, List.not_mem_nil, or_false] at hv; rcases hv with rfl | rfl <;> trivial) C.2.2.2.2.2.2.2.1 C.2.2.2.2.2.2.2.2.1 C.2.2.2.2.2.2.2.2.2 kL_437 (fun H locs rest hS k => (lk_arg C.1 C.2.2.2.1 C.2.2.2.2.1 C.2.2.2.2.2.1 C.2.2.2.2.2.2.1 hl rfl rfl 1 (by omega) (by omega) kL_438 kL_439 kL_440 kL_441 kL_442 hS (lk_arg C.1 C.2.2.2.1 C.2.2.2.2.1 C.2.2.2.2.2.1 C.2.2.2.2.2.2.1 hl rfl rfl 2 (by omega) (by omega) kL_443 kL_444 kL_445 kL_446 kL_447 hS k))) kL_448 kL_451 (fun H locs rest hS k => (lk_arg C.1 C.2.2.2.1 C.2.2.2.2.1 C.2.2.2.2.2.1 C.2.2.2.2.2.2.1 hl rfl rfl 1 (by omega) (by omega) kL_452 kL_453 kL_454 kL_455 kL_456 hS (lk_arg C.1 C.2.2.2.1 C.2.2.2.2.1 C.2.2.2.2.2.1 C.2.2.2.2.2.2.1 hl rfl rfl 2 (by omega) (by omega) kL_457 kL_458 kL_459 kL_460 kL_461 hS k))) kL_462 kL_465 rfl hW hS kk
theorem lw_c12 (C : lk_Cx p R s m args c cells slots G b L xs) (hi : i + 3 < L) (hl : lv_has ls 4 [(3, .int (Int32.ofNat i)), (2, .ref (gO G 6 0)), (1, .ref (gO G 5 0)), (0, .ref b)]) (hW : nl_Wd G h s H) (hg : rg h) (hS : va_S (gF G) s.heap H locs)
    (kk : ∀ (H1 : Heap) (locs1 : List Loc) (h1 : nl_H), nl_Wd G h1 s H1 → rg h1 → va_S (gF G) s.heap H1 locs1 → W p l e R s m args below meth c H1 locs1 cells slots Q (F0 m 901 ls [])) : W p l e R s m args below meth c H locs cells slots Q (F0 m 470 ls []) :=
  lk_case (l := l) C.1 C.2.1 C.2.2.1 hl rfl rfl (pc := 470) (pa := 471) (pb := 475) (as := []) (ag_undo (LS := gL G) (n := 20) (by omega) hg) rfl rfl (nl_w2 176 rfl rfl) (nl_w4 106 rfl rfl) ⟨rfl, rfl, rfl⟩ ⟨rfl, rfl, rfl⟩ (fun _ => rfl) (fun _ => rfl) (fun v hv => by cases hv) C.2.2.2.2.2.2.2.1 C.2.2.2.2.2.2.2.2.1 C.2.2.2.2.2.2.2.2.2 kL_470 (fun H locs rest hS k => k) kL_471 kL_474 (fun H locs rest hS k => k) kL_475 kL_478 rfl hW hS kk
theorem lw_c13 (C : lk_Cx p R s m args c cells slots G b L xs) (hi : i + 3 < L) (hl : lv_has ls 4 [(3, .int (Int32.ofNat i)), (2, .ref (gO G 6 0)), (1, .ref (gO G 5 0)), (0, .ref b)]) (hW : nl_Wd G h s H) (hg : rg h) (hS : va_S (gF G) s.heap H locs)
    (kk : ∀ (H1 : Heap) (locs1 : List Loc) (h1 : nl_H), nl_Wd G h1 s H1 → rg h1 → va_S (gF G) s.heap H1 locs1 → W p l e R s m args below meth c H1 locs1 cells slots Q (F0 m 901 ls [])) : W p l e R s m args below meth c H locs cells slots Q (F0 m 483 ls []) :=
  lk_case (l := l) C.1 C.2.1 C.2.2.1 hl rfl rfl (pc := 483) (pa := 499) (pb := 518) (as := [vI (xs (i + 1)).toInt, vI (xs (i + 2)).toInt, vI (xs (i + 3)).toInt]) (ag_behind (LS := gL G) (n := 20) (by omega) hg (lk_in _) (lk_in _) (lk_in _)) rfl rfl (nl_w2 184 rfl rfl) (nl_w4 114 rfl rfl) ⟨rfl, rfl, rfl⟩ ⟨rfl, rfl, rfl⟩ (fun _ => rfl) (fun _ => rfl) (fun v hv => by simp only [List.mem_cons, List.not_mem_nil, or_false] at hv; rcases hv with rfl | rfl | rfl <;> trivial) C.2.2.2.2.2.2.2.1 C.2.2.2.2.2.2.2.2.1 C.2.2.2.2.2.2.2.2.2 kL_483 (fun H locs rest hS k => (lk_arg C.1 C.2.2.2.1 C.2.2.2.2.1 C.2.2.2.2.2.1 C.2.2.2.2.2.2.1 hl rfl rfl 1 (by omega) (by omega) kL_484 kL_485 kL_486 kL_487 kL_488 hS (lk_arg C.1 C.2.2.2.1 C.2.2.2.2.1 C.2.2.2.2.2.1 C.2.2.2.2.2.2.1 hl rfl rfl 2 (by omega) (by omega) kL_489 kL_490 kL_491 kL_492 kL_493 hS (lk_arg C.1 C.2.2.2.1 C.2.2.2.2.1 C.2.2.2.2.2.1 C.2.2.2.2.2.2.1 hl rfl rfl 3 (by omega) (by omega) kL_494 kL_495 kL_496 kL_497 kL_498 hS k)))) kL_499 kL_502 (fun H locs rest hS k => (lk_arg C.1 C.2.2.2.1 C.2.2.2.2.1 C.2.2.2.2.2.1 C.2.2.2.2.2.2.1 hl rfl rfl 1 (by omega) (by omega) kL_503 kL_504 kL_505 kL_506 kL_507 hS (lk_arg C.1 C.2.2.2.1 C.2.2.2.2.1 C.2.2.2.2.2.1 C.2.2.2.2.2.2.1 hl rfl rfl 2 (by omega) (by omega) kL_508 kL_509 kL_510 kL_511 kL_512 hS (lk_arg C.1 C.2.2.2.1 C.2.2.2.2.1 C.2.2.2.2.2.1 C.2.2.2.2.2.2.1 hl rfl rfl 3 (by omega) (by omega) kL_513 kL_514 kL_515 kL_516 kL_517 hS k)))) kL_518 kL_521 rfl hW hS kk
theorem lw_c14 (C : lk_Cx p R s m args c cells slots G b L xs) (hi : i + 3 < L) (hl : lv_has ls 4 [(3, .int (Int32.ofNat i)), (2, .ref (gO G 6 0)), (1, .ref (gO G 5 0)), (0, .ref b)]) (hW : nl_Wd G h s H) (hg : rg h) (hS : va_S (gF G) s.heap H locs)
    (kk : ∀ (H1 : Heap) (locs1 : List Loc) (h1 : nl_H), nl_Wd G h1 s H1 → rg h1 → va_S (gF G) s.heap H1 locs1 → W p l e R s m args below meth c H1 locs1 cells slots Q (F0 m 901 ls [])) : W p l e R s m args below meth c H locs cells slots Q (F0 m 526 ls []) :=
  lk_case (l := l) C.1 C.2.1 C.2.2.1 hl rfl rfl (pc := 526) (pa := 527) (pb := 531) (as := []) (ag_gaps (LS := gL G) (n := 20) (by omega) hg) rfl rfl (nl_w2 189 rfl rfl) (nl_w4 126 rfl rfl) ⟨rfl, rfl, rfl⟩ ⟨rfl, rfl, rfl⟩ (fun _ => rfl) (fun _ => rfl) (fun v hv => by cases hv) C.2.2.2.2.2.2.2.1 C.2.2.2.2.2.2.2.2.1 C.2.2.2.2.2.2.2.2.2 kL_526 (fun H locs rest hS k => k) kL_527 kL_530 (fun H locs rest hS k => k) kL_531 kL_534 rfl hW hS kk
theorem lw_c15 (C : lk_Cx p R s m args c cells slots G b L xs) (hi : i + 3 < L) (hl : lv_has ls 4 [(3, .int (Int32.ofNat i)), (2, .ref (gO G 6 0)), (1, .ref (gO G 5 0)), (0, .ref b)]) (hW : nl_Wd G h s H) (hg : rg h) (hS : va_S (gF G) s.heap H locs)
    (kk : ∀ (H1 : Heap) (locs1 : List Loc) (h1 : nl_H), nl_Wd G h1 s H1 → rg h1 → va_S (gF G) s.heap H1 locs1 → W p l e R s m args below meth c H1 locs1 cells slots Q (F0 m 901 ls [])) : W p l e R s m args below meth c H locs cells slots Q (F0 m 539 ls []) :=
  lk_case (l := l) C.1 C.2.1 C.2.2.1 hl rfl rfl (pc := 539) (pa := 545) (pb := 554) (as := [vI (xs (i + 1)).toInt]) (ag_first (LS := gL G) (n := 20) (by omega) hg (lk_in _)) rfl rfl (nl_w2 198 rfl rfl) (nl_w4 134 rfl rfl) ⟨rfl, rfl, rfl⟩ ⟨rfl, rfl, rfl⟩ (fun _ => rfl) (fun _ => rfl) (fun v hv => by obtain rfl := List.mem_singleton.mp hv; trivial) C.2.2.2.2.2.2.2.1 C.2.2.2.2.2.2.2.2.1 C.2.2.2.2.2.2.2.2.2 kL_539 (fun H locs rest hS k => (lk_arg C.1 C.2.2.2.1 C.2.2.2.2.1 C.2.2.2.2.2.1 C.2.2.2.2.2.2.1 hl rfl rfl 1 (by omega) (by omega) kL_540 kL_541 kL_542 kL_543 kL_544 hS k)) kL_545 kL_548 (fun H locs rest hS k => (lk_arg C.1 C.2.2.2.1 C.2.2.2.2.1 C.2.2.2.2.2.1 C.2.2.2.2.2.2.1 hl rfl rfl 1 (by omega) (by omega) kL_549 kL_550 kL_551 kL_552 kL_553 hS k)) kL_554 kL_557 rfl hW hS kk
theorem lw_c16 (C : lk_Cx p R s m args c cells slots G b L xs) (hi : i + 3 < L) (hl : lv_has ls 4 [(3, .int (Int32.ofNat i)), (2, .ref (gO G 6 0)), (1, .ref (gO G 5 0)), (0, .ref b)]) (hW : nl_Wd G h s H) (hg : rg h) (hS : va_S (gF G) s.heap H locs)
    (kk : ∀ (H1 : Heap) (locs1 : List Loc) (h1 : nl_H), nl_Wd G h1 s H1 → rg h1 → va_S (gF G) s.heap H1 locs1 → W p l e R s m args below meth c H1 locs1 cells slots Q (F0 m 901 ls [])) : W p l e R s m args below meth c H locs cells slots Q (F0 m 562 ls []) :=
  lk_case (l := l) C.1 C.2.1 C.2.2.1 hl rfl rfl (pc := 562) (pa := 568) (pb := 577) (as := [vI (xs (i + 1)).toInt]) (ag_even (LS := gL G) (n := 20) (by omega) hg (lk_in _)) rfl rfl (nl_w2 207 rfl rfl) (nl_w4 138 rfl rfl) ⟨rfl, rfl, rfl⟩ ⟨rfl, rfl, rfl⟩ (fun _ => rfl) (fun _ => rfl) (fun v hv => by obtain rfl := List.mem_singleton.mp hv; trivial) C.2.2.2.2.2.2.2.1 C.2.2.2.2.2.2.2.2.1 C.2.2.2.2.2.2.2.2.2 kL_562 (fun H locs rest hS k => (lk_arg C.1 C.2.2.2.1 C.2.2.2.2.1 C.2.2.2.2.2.1 C.2.2.2.2.2.2.1 hl rfl rfl 1 (by omega) (by omega) kL_563 kL_564 kL_565 kL_566 kL_567 hS k)) kL_568 kL_571 (fun H locs rest hS k => (lk_arg C.1 C.2.2.2.1 C.2.2.2.2.1 C.2.2.2.2.2.1 C.2.2.2.2.2.2.1 hl rfl rfl 1 (by omega) (by omega) kL_572 kL_573 kL_574 kL_575 kL_576 hS k)) kL_577 kL_580 rfl hW hS kk
theorem lw_c17 (C : lk_Cx p R s m args c cells slots G b L xs) (hi : i + 3 < L) (hl : lv_has ls 4 [(3, .int (Int32.ofNat i)), (2, .ref (gO G 6 0)), (1, .ref (gO G 5 0)), (0, .ref b)]) (hW : nl_Wd G h s H) (hg : rg h) (hS : va_S (gF G) s.heap H locs)
    (kk : ∀ (H1 : Heap) (locs1 : List Loc) (h1 : nl_H), nl_Wd G h1 s H1 → rg h1 → va_S (gF G) s.heap H1 locs1 → W p l e R s m args below meth c H1 locs1 cells slots Q (F0 m 901 ls [])) : W p l e R s m args below meth c H locs cells slots Q (F0 m 585 ls []) :=
  lk_case (l := l) C.1 C.2.1 C.2.2.1 hl rfl rfl (pc := 585) (pa := 586) (pb := 590) (as := []) (ag_swaps (LS := gL G) (n := 20) (by omega) hg) rfl rfl (nl_w3 4 rfl rfl) (nl_w4 159 rfl rfl) ⟨rfl, rfl, rfl⟩ ⟨rfl, rfl, rfl⟩ (fun _ => rfl) (fun _ => rfl) (fun v hv => by cases hv) C.2.2.2.2.2.2.2.1 C.2.2.2.2.2.2.2.2.1 C.2.2.2.2.2.2.2.2.2 kL_585 (fun H locs rest hS k => k) kL_586 kL_589 (fun H locs rest hS k => k) kL_590 kL_593 rfl hW hS kk
theorem lw_c18 (C : lk_Cx p R s m args c cells slots G b L xs) (hi : i + 3 < L) (hl : lv_has ls 4 [(3, .int (Int32.ofNat i)), (2, .ref (gO G 6 0)), (1, .ref (gO G 5 0)), (0, .ref b)]) (hW : nl_Wd G h s H) (hg : rg h) (hS : va_S (gF G) s.heap H locs)
    (kk : ∀ (H1 : Heap) (locs1 : List Loc) (h1 : nl_H), nl_Wd G h1 s H1 → rg h1 → va_S (gF G) s.heap H1 locs1 → W p l e R s m args below meth c H1 locs1 cells slots Q (F0 m 901 ls [])) : W p l e R s m args below meth c H locs cells slots Q (F0 m 598 ls []) :=
  lk_case (l := l) C.1 C.2.1 C.2.2.1 hl rfl rfl (pc := 598) (pa := 604) (pb := 613) (as := [vI (xs (i + 1)).toInt]) (ag_far (LS := gL G) (n := 20) (by omega) hg (lk_in _)) rfl rfl (nl_w3 18 rfl rfl) (nl_w4 170 rfl rfl) ⟨rfl, rfl, rfl⟩ ⟨rfl, rfl, rfl⟩ (fun _ => rfl) (fun _ => rfl) (fun v hv => by obtain rfl := List.mem_singleton.mp hv; trivial) C.2.2.2.2.2.2.2.1 C.2.2.2.2.2.2.2.2.1 C.2.2.2.2.2.2.2.2.2 kL_598 (fun H locs rest hS k => (lk_arg C.1 C.2.2.2.1 C.2.2.2.2.1 C.2.2.2.2.2.1 C.2.2.2.2.2.2.1 hl rfl rfl 1 (by omega) (by omega) kL_599 kL_600 kL_601 kL_602 kL_603 hS k)) kL_604 kL_607 (fun H locs rest hS k => (lk_arg C.1 C.2.2.2.1 C.2.2.2.2.1 C.2.2.2.2.2.1 C.2.2.2.2.2.2.1 hl rfl rfl 1 (by omega) (by omega) kL_608 kL_609 kL_610 kL_611 kL_612 hS k)) kL_613 kL_616 rfl hW hS kk
theorem lw_c19 (C : lk_Cx p R s m args c cells slots G b L xs) (hi : i + 3 < L) (hl : lv_has ls 4 [(3, .int (Int32.ofNat i)), (2, .ref (gO G 6 0)), (1, .ref (gO G 5 0)), (0, .ref b)]) (hW : nl_Wd G h s H) (hg : rg h) (hS : va_S (gF G) s.heap H locs)
    (kk : ∀ (H1 : Heap) (locs1 : List Loc) (h1 : nl_H), nl_Wd G h1 s H1 → rg h1 → va_S (gF G) s.heap H1 locs1 → W p l e R s m args below meth c H1 locs1 cells slots Q (F0 m 901 ls [])) : W p l e R s m args below meth c H locs cells slots Q (F0 m 621 ls []) :=
  lk_case (l := l) C.1 C.2.1 C.2.2.1 hl rfl rfl (pc := 621) (pa := 632) (pb := 646) (as := [vI (xs (i + 1)).toInt, vI (xs (i + 2)).toInt]) (ag_lamps (LS := gL G) (n := 20) (by omega) hg (lk_in _) (lk_in _)) rfl rfl (nl_w3 33 rfl rfl) (nl_w4 177 rfl rfl) ⟨rfl, rfl, rfl⟩ ⟨rfl, rfl, rfl⟩ (fun _ => rfl) (fun _ => rfl) (fun v hv => by simp only [List.mem_cons, List.not_mem_nil, or_false] at hv; rcases hv with rfl | rfl <;> trivial) C.2.2.2.2.2.2.2.1 C.2.2.2.2.2.2.2.2.1 C.2.2.2.2.2.2.2.2.2 kL_621 (fun H locs rest hS k => (lk_arg C.1 C.2.2.2.1 C.2.2.2.2.1 C.2.2.2.2.2.1 C.2.2.2.2.2.2.1 hl rfl rfl 1 (by omega) (by omega) kL_622 kL_623 kL_624 kL_625 kL_626 hS (lk_arg C.1 C.2.2.2.1 C.2.2.2.2.1 C.2.2.2.2.2.1 C.2.2.2.2.2.2.1 hl rfl rfl 2 (by omega) (by omega) kL_627 kL_628 kL_629 kL_630 kL_631 hS k))) kL_632 kL_635 (fun H locs rest hS k => (lk_arg C.1 C.2.2.2.1 C.2.2.2.2.1 C.2.2.2.2.2.1 C.2.2.2.2.2.2.1 hl rfl rfl 1 (by omega) (by omega) kL_636 kL_637 kL_638 kL_639 kL_640 hS (lk_arg C.1 C.2.2.2.1 C.2.2.2.2.1 C.2.2.2.2.2.1 C.2.2.2.2.2.2.1 hl rfl rfl 2 (by omega) (by omega) kL_641 kL_642 kL_643 kL_644 kL_645 hS k))) kL_646 kL_649 rfl hW hS kk
theorem lw_c20 (C : lk_Cx p R s m args c cells slots G b L xs) (hi : i + 3 < L) (hl : lv_has ls 4 [(3, .int (Int32.ofNat i)), (2, .ref (gO G 6 0)), (1, .ref (gO G 5 0)), (0, .ref b)]) (hW : nl_Wd G h s H) (hg : rg h) (hS : va_S (gF G) s.heap H locs)
    (kk : ∀ (H1 : Heap) (locs1 : List Loc) (h1 : nl_H), nl_Wd G h1 s H1 → rg h1 → va_S (gF G) s.heap H1 locs1 → W p l e R s m args below meth c H1 locs1 cells slots Q (F0 m 901 ls [])) : W p l e R s m args below meth c H locs cells slots Q (F0 m 654 ls []) :=
  lk_case (l := l) C.1 C.2.1 C.2.2.1 hl rfl rfl (pc := 654) (pa := 670) (pb := 689) (as := [vI (xs (i + 1)).toInt, vI (xs (i + 2)).toInt, vI (xs (i + 3)).toInt]) (ag_seen (LS := gL G) (n := 20) (by omega) hg (lk_in _) (lk_in _) (lk_in _)) rfl rfl (nl_w3 38 rfl rfl) (nl_w4 184 rfl rfl) ⟨rfl, rfl, rfl⟩ ⟨rfl, rfl, rfl⟩ (fun _ => rfl) (fun _ => rfl) (fun v hv => by simp only [List.mem_cons, List.not_mem_nil, or_false] at hv; rcases hv with rfl | rfl | rfl <;> trivial) C.2.2.2.2.2.2.2.1 C.2.2.2.2.2.2.2.2.1 C.2.2.2.2.2.2.2.2.2 kL_654 (fun H locs rest hS k => (lk_arg C.1 C.2.2.2.1 C.2.2.2.2.1 C.2.2.2.2.2.1 C.2.2.2.2.2.2.1 hl rfl rfl 1 (by omega) (by omega) kL_655 kL_656 kL_657 kL_658 kL_659 hS (lk_arg C.1 C.2.2.2.1 C.2.2.2.2.1 C.2.2.2.2.2.1 C.2.2.2.2.2.2.1 hl rfl rfl 2 (by omega) (by omega) kL_660 kL_661 kL_662 kL_663 kL_664 hS (lk_arg C.1 C.2.2.2.1 C.2.2.2.2.1 C.2.2.2.2.2.1 C.2.2.2.2.2.2.1 hl rfl rfl 3 (by omega) (by omega) kL_665 kL_666 kL_667 kL_668 kL_669 hS k)))) kL_670 kL_673 (fun H locs rest hS k => (lk_arg C.1 C.2.2.2.1 C.2.2.2.2.1 C.2.2.2.2.2.1 C.2.2.2.2.2.2.1 hl rfl rfl 1 (by omega) (by omega) kL_674 kL_675 kL_676 kL_677 kL_678 hS (lk_arg C.1 C.2.2.2.1 C.2.2.2.2.1 C.2.2.2.2.2.1 C.2.2.2.2.2.2.1 hl rfl rfl 2 (by omega) (by omega) kL_679 kL_680 kL_681 kL_682 kL_683 hS (lk_arg C.1 C.2.2.2.1 C.2.2.2.2.1 C.2.2.2.2.2.1 C.2.2.2.2.2.2.1 hl rfl rfl 3 (by omega) (by omega) kL_684 kL_685 kL_686 kL_687 kL_688 hS k)))) kL_689 kL_692 rfl hW hS kk
theorem lw_c21 (C : lk_Cx p R s m args c cells slots G b L xs) (hi : i + 3 < L) (hl : lv_has ls 4 [(3, .int (Int32.ofNat i)), (2, .ref (gO G 6 0)), (1, .ref (gO G 5 0)), (0, .ref b)]) (hW : nl_Wd G h s H) (hg : rg h) (hS : va_S (gF G) s.heap H locs)
    (kk : ∀ (H1 : Heap) (locs1 : List Loc) (h1 : nl_H), nl_Wd G h1 s H1 → rg h1 → va_S (gF G) s.heap H1 locs1 → W p l e R s m args below meth c H1 locs1 cells slots Q (F0 m 901 ls [])) : W p l e R s m args below meth c H locs cells slots Q (F0 m 697 ls []) :=
  lk_case (l := l) C.1 C.2.1 C.2.2.1 hl rfl rfl (pc := 697) (pa := 698) (pb := 702) (as := []) (ag_forget (LS := gL G) (n := 20) (by omega) hg) rfl rfl (nl_w3 46 rfl rfl) (nl_w4 188 rfl rfl) ⟨rfl, rfl, rfl⟩ ⟨rfl, rfl, rfl⟩ (fun _ => rfl) (fun _ => rfl) (fun v hv => by cases hv) C.2.2.2.2.2.2.2.1 C.2.2.2.2.2.2.2.2.1 C.2.2.2.2.2.2.2.2.2 kL_697 (fun H locs rest hS k => k) kL_698 kL_701 (fun H locs rest hS k => k) kL_702 kL_705 rfl hW hS kk
theorem lw_c22 (C : lk_Cx p R s m args c cells slots G b L xs) (hi : i + 3 < L) (hl : lv_has ls 4 [(3, .int (Int32.ofNat i)), (2, .ref (gO G 6 0)), (1, .ref (gO G 5 0)), (0, .ref b)]) (hW : nl_Wd G h s H) (hg : rg h) (hS : va_S (gF G) s.heap H locs)
    (kk : ∀ (H1 : Heap) (locs1 : List Loc) (h1 : nl_H), nl_Wd G h1 s H1 → rg h1 → va_S (gF G) s.heap H1 locs1 → W p l e R s m args below meth c H1 locs1 cells slots Q (F0 m 901 ls [])) : W p l e R s m args below meth c H locs cells slots Q (F0 m 710 ls []) :=
  lk_case (l := l) C.1 C.2.1 C.2.2.1 hl rfl rfl (pc := 710) (pa := 716) (pb := 725) (as := [vI (xs (i + 1)).toInt]) (ag_kinds (LS := gL G) (n := 20) (by omega) hg (lk_in _)) rfl rfl (nl_w3 50 rfl rfl) (nl_w4 192 rfl rfl) ⟨rfl, rfl, rfl⟩ ⟨rfl, rfl, rfl⟩ (fun _ => rfl) (fun _ => rfl) (fun v hv => by obtain rfl := List.mem_singleton.mp hv; trivial) C.2.2.2.2.2.2.2.1 C.2.2.2.2.2.2.2.2.1 C.2.2.2.2.2.2.2.2.2 kL_710 (fun H locs rest hS k => (lk_arg C.1 C.2.2.2.1 C.2.2.2.2.1 C.2.2.2.2.2.1 C.2.2.2.2.2.2.1 hl rfl rfl 1 (by omega) (by omega) kL_711 kL_712 kL_713 kL_714 kL_715 hS k)) kL_716 kL_719 (fun H locs rest hS k => (lk_arg C.1 C.2.2.2.1 C.2.2.2.2.1 C.2.2.2.2.2.1 C.2.2.2.2.2.2.1 hl rfl rfl 1 (by omega) (by omega) kL_720 kL_721 kL_722 kL_723 kL_724 hS k)) kL_725 kL_728 rfl hW hS kk
theorem lw_c23 (C : lk_Cx p R s m args c cells slots G b L xs) (hi : i + 3 < L) (hl : lv_has ls 4 [(3, .int (Int32.ofNat i)), (2, .ref (gO G 6 0)), (1, .ref (gO G 5 0)), (0, .ref b)]) (hW : nl_Wd G h s H) (hg : rg h) (hS : va_S (gF G) s.heap H locs)
    (kk : ∀ (H1 : Heap) (locs1 : List Loc) (h1 : nl_H), nl_Wd G h1 s H1 → rg h1 → va_S (gF G) s.heap H1 locs1 → W p l e R s m args below meth c H1 locs1 cells slots Q (F0 m 901 ls [])) : W p l e R s m args below meth c H locs cells slots Q (F0 m 733 ls []) :=
  lk_case (l := l) C.1 C.2.1 C.2.2.1 hl rfl rfl (pc := 733) (pa := 744) (pb := 758) (as := [vI (xs (i + 1)).toInt, vI (xs (i + 2)).toInt]) (ag_strengths (LS := gL G) (n := 20) (by omega) hg (lk_in _) (lk_in _)) rfl rfl (nl_w3 68 rfl rfl) (nl_w4 200 rfl rfl) ⟨rfl, rfl, rfl⟩ ⟨rfl, rfl, rfl⟩ (fun _ => rfl) (fun _ => rfl) (fun v hv => by simp only [List.mem_cons, List.not_mem_nil, or_false] at hv; rcases hv with rfl | rfl <;> trivial) C.2.2.2.2.2.2.2.1 C.2.2.2.2.2.2.2.2.1 C.2.2.2.2.2.2.2.2.2 kL_733 (fun H locs rest hS k => (lk_arg C.1 C.2.2.2.1 C.2.2.2.2.1 C.2.2.2.2.2.1 C.2.2.2.2.2.2.1 hl rfl rfl 1 (by omega) (by omega) kL_734 kL_735 kL_736 kL_737 kL_738 hS (lk_arg C.1 C.2.2.2.1 C.2.2.2.2.1 C.2.2.2.2.2.1 C.2.2.2.2.2.2.1 hl rfl rfl 2 (by omega) (by omega) kL_739 kL_740 kL_741 kL_742 kL_743 hS k))) kL_744 kL_747 (fun H locs rest hS k => (lk_arg C.1 C.2.2.2.1 C.2.2.2.2.1 C.2.2.2.2.2.1 C.2.2.2.2.2.2.1 hl rfl rfl 1 (by omega) (by omega) kL_748 kL_749 kL_750 kL_751 kL_752 hS (lk_arg C.1 C.2.2.2.1 C.2.2.2.2.1 C.2.2.2.2.2.1 C.2.2.2.2.2.2.1 hl rfl rfl 2 (by omega) (by omega) kL_753 kL_754 kL_755 kL_756 kL_757 hS k))) kL_758 kL_761 rfl hW hS kk
theorem lw_c24 (C : lk_Cx p R s m args c cells slots G b L xs) (hi : i + 3 < L) (hl : lv_has ls 4 [(3, .int (Int32.ofNat i)), (2, .ref (gO G 6 0)), (1, .ref (gO G 5 0)), (0, .ref b)]) (hW : nl_Wd G h s H) (hg : rg h) (hS : va_S (gF G) s.heap H locs)
    (kk : ∀ (H1 : Heap) (locs1 : List Loc) (h1 : nl_H), nl_Wd G h1 s H1 → rg h1 → va_S (gF G) s.heap H1 locs1 → W p l e R s m args below meth c H1 locs1 cells slots Q (F0 m 901 ls [])) : W p l e R s m args below meth c H locs cells slots Q (F0 m 766 ls []) :=
  lk_case (l := l) C.1 C.2.1 C.2.2.1 hl rfl rfl (pc := 766) (pa := 782) (pb := 801) (as := [vI (xs (i + 1)).toInt, vI (xs (i + 2)).toInt, vI (xs (i + 3)).toInt]) (ag_likely (LS := gL G) (n := 20) (by omega) hg (lk_in _) (lk_in _) (lk_in _)) rfl rfl (nl_w3 72 rfl rfl) (nl_w4 204 rfl rfl) ⟨rfl, rfl, rfl⟩ ⟨rfl, rfl, rfl⟩ (fun _ => rfl) (fun _ => rfl) (fun v hv => by simp only [List.mem_cons, List.not_mem_nil, or_false] at hv; rcases hv with rfl | rfl | rfl <;> trivial) C.2.2.2.2.2.2.2.1 C.2.2.2.2.2.2.2.2.1 C.2.2.2.2.2.2.2.2.2 kL_766 (fun H locs rest hS k => (lk_arg C.1 C.2.2.2.1 C.2.2.2.2.1 C.2.2.2.2.2.1 C.2.2.2.2.2.2.1 hl rfl rfl 1 (by omega) (by omega) kL_767 kL_768 kL_769 kL_770 kL_771 hS (lk_arg C.1 C.2.2.2.1 C.2.2.2.2.1 C.2.2.2.2.2.1 C.2.2.2.2.2.2.1 hl rfl rfl 2 (by omega) (by omega) kL_772 kL_773 kL_774 kL_775 kL_776 hS (lk_arg C.1 C.2.2.2.1 C.2.2.2.2.1 C.2.2.2.2.2.1 C.2.2.2.2.2.2.1 hl rfl rfl 3 (by omega) (by omega) kL_777 kL_778 kL_779 kL_780 kL_781 hS k)))) kL_782 kL_785 (fun H locs rest hS k => (lk_arg C.1 C.2.2.2.1 C.2.2.2.2.1 C.2.2.2.2.2.1 C.2.2.2.2.2.2.1 hl rfl rfl 1 (by omega) (by omega) kL_786 kL_787 kL_788 kL_789 kL_790 hS (lk_arg C.1 C.2.2.2.1 C.2.2.2.2.1 C.2.2.2.2.2.1 C.2.2.2.2.2.2.1 hl rfl rfl 2 (by omega) (by omega) kL_791 kL_792 kL_793 kL_794 kL_795 hS (lk_arg C.1 C.2.2.2.1 C.2.2.2.2.1 C.2.2.2.2.2.1 C.2.2.2.2.2.2.1 hl rfl rfl 3 (by omega) (by omega) kL_796 kL_797 kL_798 kL_799 kL_800 hS k)))) kL_801 kL_804 rfl hW hS kk
theorem lw_c25 (C : lk_Cx p R s m args c cells slots G b L xs) (hi : i + 3 < L) (hl : lv_has ls 4 [(3, .int (Int32.ofNat i)), (2, .ref (gO G 6 0)), (1, .ref (gO G 5 0)), (0, .ref b)]) (hW : nl_Wd G h s H) (hg : rg h) (hS : va_S (gF G) s.heap H locs)
    (kk : ∀ (H1 : Heap) (locs1 : List Loc) (h1 : nl_H), nl_Wd G h1 s H1 → rg h1 → va_S (gF G) s.heap H1 locs1 → W p l e R s m args below meth c H1 locs1 cells slots Q (F0 m 901 ls [])) : W p l e R s m args below meth c H locs cells slots Q (F0 m 809 ls []) :=
  lk_case (l := l) C.1 C.2.1 C.2.2.1 hl rfl rfl (pc := 809) (pa := 825) (pb := 844) (as := [vI (xs (i + 1)).toInt, vI (xs (i + 2)).toInt, vI (xs (i + 3)).toInt]) (ag_winter (LS := gL G) (n := 20) (by omega) hg (lk_in _) (lk_in _) (lk_in _)) rfl rfl (nl_w3 81 rfl rfl) (nl_w4 212 rfl rfl) ⟨rfl, rfl, rfl⟩ ⟨rfl, rfl, rfl⟩ (fun _ => rfl) (fun _ => rfl) (fun v hv => by simp only [List.mem_cons, List.not_mem_nil, or_false] at hv; rcases hv with rfl | rfl | rfl <;> trivial) C.2.2.2.2.2.2.2.1 C.2.2.2.2.2.2.2.2.1 C.2.2.2.2.2.2.2.2.2 kL_809 (fun H locs rest hS k => (lk_arg C.1 C.2.2.2.1 C.2.2.2.2.1 C.2.2.2.2.2.1 C.2.2.2.2.2.2.1 hl rfl rfl 1 (by omega) (by omega) kL_810 kL_811 kL_812 kL_813 kL_814 hS (lk_arg C.1 C.2.2.2.1 C.2.2.2.2.1 C.2.2.2.2.2.1 C.2.2.2.2.2.2.1 hl rfl rfl 2 (by omega) (by omega) kL_815 kL_816 kL_817 kL_818 kL_819 hS (lk_arg C.1 C.2.2.2.1 C.2.2.2.2.1 C.2.2.2.2.2.1 C.2.2.2.2.2.2.1 hl rfl rfl 3 (by omega) (by omega) kL_820 kL_821 kL_822 kL_823 kL_824 hS k)))) kL_825 kL_828 (fun H locs rest hS k => (lk_arg C.1 C.2.2.2.1 C.2.2.2.2.1 C.2.2.2.2.2.1 C.2.2.2.2.2.2.1 hl rfl rfl 1 (by omega) (by omega) kL_829 kL_830 kL_831 kL_832 kL_833 hS (lk_arg C.1 C.2.2.2.1 C.2.2.2.2.1 C.2.2.2.2.2.1 C.2.2.2.2.2.2.1 hl rfl rfl 2 (by omega) (by omega) kL_834 kL_835 kL_836 kL_837 kL_838 hS (lk_arg C.1 C.2.2.2.1 C.2.2.2.2.1 C.2.2.2.2.2.1 C.2.2.2.2.2.2.1 hl rfl rfl 3 (by omega) (by omega) kL_839 kL_840 kL_841 kL_842 kL_843 hS k)))) kL_844 kL_847 rfl hW hS kk
theorem lw_c26 (C : lk_Cx p R s m args c cells slots G b L xs) (hi : i + 3 < L) (hl : lv_has ls 4 [(3, .int (Int32.ofNat i)), (2, .ref (gO G 6 0)), (1, .ref (gO G 5 0)), (0, .ref b)]) (hW : nl_Wd G h s H) (hg : rg h) (hS : va_S (gF G) s.heap H locs)
    (kk : ∀ (H1 : Heap) (locs1 : List Loc) (h1 : nl_H), nl_Wd G h1 s H1 → rg h1 → va_S (gF G) s.heap H1 locs1 → W p l e R s m args below meth c H1 locs1 cells slots Q (F0 m 901 ls [])) : W p l e R s m args below meth c H locs cells slots Q (F0 m 852 ls []) :=
  lk_case (l := l) C.1 C.2.1 C.2.2.1 hl rfl rfl (pc := 852) (pa := 853) (pb := 857) (as := []) (ag_keep (LS := gL G) (n := 20) (by omega) hg) rfl rfl (nl_w3 103 rfl rfl) (nl_w4 224 rfl rfl) ⟨rfl, rfl, rfl⟩ ⟨rfl, rfl, rfl⟩ (fun _ => rfl) (fun _ => rfl) (fun v hv => by cases hv) C.2.2.2.2.2.2.2.1 C.2.2.2.2.2.2.2.2.1 C.2.2.2.2.2.2.2.2.2 kL_852 (fun H locs rest hS k => k) kL_853 kL_856 (fun H locs rest hS k => k) kL_857 kL_860 rfl hW hS kk
theorem lw_c27 (C : lk_Cx p R s m args c cells slots G b L xs) (hi : i + 3 < L) (hl : lv_has ls 4 [(3, .int (Int32.ofNat i)), (2, .ref (gO G 6 0)), (1, .ref (gO G 5 0)), (0, .ref b)]) (hW : nl_Wd G h s H) (hg : rg h) (hS : va_S (gF G) s.heap H locs)
    (kk : ∀ (H1 : Heap) (locs1 : List Loc) (h1 : nl_H), nl_Wd G h1 s H1 → rg h1 → va_S (gF G) s.heap H1 locs1 → W p l e R s m args below meth c H1 locs1 cells slots Q (F0 m 901 ls [])) : W p l e R s m args below meth c H locs cells slots Q (F0 m 865 ls []) :=
  lk_case (l := l) C.1 C.2.1 C.2.2.1 hl rfl rfl (pc := 865) (pa := 866) (pb := 870) (as := []) (ag_back (LS := gL G) (n := 20) (by omega) hg) rfl rfl (nl_w3 107 rfl rfl) (nl_w4 228 rfl rfl) ⟨rfl, rfl, rfl⟩ ⟨rfl, rfl, rfl⟩ (fun _ => rfl) (fun _ => rfl) (fun v hv => by cases hv) C.2.2.2.2.2.2.2.1 C.2.2.2.2.2.2.2.2.1 C.2.2.2.2.2.2.2.2.2 kL_865 (fun H locs rest hS k => k) kL_866 kL_869 (fun H locs rest hS k => k) kL_870 kL_873 rfl hW hS kk
theorem lw_c28 (C : lk_Cx p R s m args c cells slots G b L xs) (hi : i + 3 < L) (hl : lv_has ls 4 [(3, .int (Int32.ofNat i)), (2, .ref (gO G 6 0)), (1, .ref (gO G 5 0)), (0, .ref b)]) (hW : nl_Wd G h s H) (hg : rg h) (hS : va_S (gF G) s.heap H locs)
    (kk : ∀ (H1 : Heap) (locs1 : List Loc) (h1 : nl_H), nl_Wd G h1 s H1 → rg h1 → va_S (gF G) s.heap H1 locs1 → W p l e R s m args below meth c H1 locs1 cells slots Q (F0 m 901 ls [])) : W p l e R s m args below meth c H locs cells slots Q (F0 m 878 ls []) :=
  lk_case (l := l) C.1 C.2.1 C.2.2.1 hl rfl rfl (pc := 878) (pa := 884) (pb := 893) (as := [vI (xs (i + 1)).toInt]) (ag_count (LS := gL G) (n := 20) (by omega) hg (lk_in _)) rfl rfl (nl_w3 111 rfl rfl) (nl_w4 232 rfl rfl) ⟨rfl, rfl, rfl⟩ ⟨rfl, rfl, rfl⟩ (fun _ => rfl) (fun _ => rfl) (fun v hv => by obtain rfl := List.mem_singleton.mp hv; trivial) C.2.2.2.2.2.2.2.1 C.2.2.2.2.2.2.2.2.1 C.2.2.2.2.2.2.2.2.2 kL_878 (fun H locs rest hS k => (lk_arg C.1 C.2.2.2.1 C.2.2.2.2.1 C.2.2.2.2.2.1 C.2.2.2.2.2.2.1 hl rfl rfl 1 (by omega) (by omega) kL_879 kL_880 kL_881 kL_882 kL_883 hS k)) kL_884 kL_887 (fun H locs rest hS k => (lk_arg C.1 C.2.2.2.1 C.2.2.2.2.1 C.2.2.2.2.2.1 C.2.2.2.2.2.2.1 hl rfl rfl 1 (by omega) (by omega) kL_888 kL_889 kL_890 kL_891 kL_892 hS k)) kL_893 kL_896 rfl hW hS kk
theorem lw_sw {x : Int32} (hx0 : 0 ≤ x.toInt ∧ x.toInt ≤ 31) (C : lk_Cx p R s m args c cells slots G b L xs) (hi : i + 3 < L) (hl : lv_has ls 4 [(3, .int (Int32.ofNat i)), (2, .ref (gO G 6 0)), (1, .ref (gO G 5 0)), (0, .ref b)]) (hW : nl_Wd G h s H) (hg : rg h) (hS : va_S (gF G) s.heap H locs)
    (kk : ∀ (H1 : Heap) (locs1 : List Loc) (h1 : nl_H), nl_Wd G h1 s H1 → rg h1 → va_S (gF G) s.heap H1 locs1 → W p l e R s m args below meth c H1 locs1 cells slots Q (F0 m 901 ls [])) : W p l e R s m args below meth c H locs cells slots Q (F0 m 32 ls [.int x]) := by
  have hx := C.1.1
  have hb := C.1.2.1
  rcases (show x.toInt = 0 ∨ x.toInt = 1 ∨ x.toInt = 2 ∨ x.toInt = 3 ∨ x.toInt = 4 ∨ x.toInt = 5 ∨ x.toInt = 6 ∨ x.toInt = 7 ∨ x.toInt = 8 ∨ x.toInt = 9 ∨ x.toInt = 10 ∨ x.toInt = 11 ∨ x.toInt = 12 ∨ x.toInt = 13 ∨ x.toInt = 14 ∨ x.toInt = 15 ∨ x.toInt = 16 ∨ x.toInt = 17 ∨ x.toInt = 18 ∨ x.toInt = 19 ∨ x.toInt = 20 ∨ x.toInt = 21 ∨ x.toInt = 22 ∨ x.toInt = 23 ∨ x.toInt = 24 ∨ x.toInt = 25 ∨ x.toInt = 26 ∨ x.toInt = 27 ∨ x.toInt = 28 ∨ 29 ≤ x.toInt by omega) with q | q | q | q | q | q | q | q | q | q | q | q | q | q | q | q | q | q | q | q | q | q | q | q | q | q | q | q | q | q
  · exact lv_tableIn hx hb kL_32 (off := 132) (tgt := 164) (by omega) (by omega) (by rw [q]; rfl) rfl (lw_c0 C hi hl hW hg hS kk)
  · exact lv_tableIn hx hb kL_32 (off := 155) (tgt := 187) (by omega) (by omega) (by rw [q]; rfl) rfl (lw_c1 C hi hl hW hg hS kk)
  · exact lv_tableIn hx hb kL_32 (off := 168) (tgt := 200) (by omega) (by omega) (by rw [q]; rfl) rfl (lw_c2 C hi hl hW hg hS kk)
  · exact lv_tableIn hx hb kL_32 (off := 181) (tgt := 213) (by omega) (by omega) (by rw [q]; rfl) rfl (lw_c3 C hi hl hW hg hS kk)
  · exact lv_tableIn hx hb kL_32 (off := 194) (tgt := 226) (by omega) (by omega) (by rw [q]; rfl) rfl (lw_c4 C hi hl hW hg hS kk)
  · exact lv_tableIn hx hb kL_32 (off := 227) (tgt := 259) (by omega) (by omega) (by rw [q]; rfl) rfl (lw_c5 C hi hl hW hg hS kk)
  · exact lv_tableIn hx hb kL_32 (off := 260) (tgt := 292) (by omega) (by omega) (by rw [q]; rfl) rfl (lw_c6 C hi hl hW hg hS kk)
  · exact lv_tableIn hx hb kL_32 (off := 293) (tgt := 325) (by omega) (by omega) (by rw [q]; rfl) rfl (lw_c7 C hi hl hW hg hS kk)
  · exact lv_tableIn hx hb kL_32 (off := 326) (tgt := 358) (by omega) (by omega) (by rw [q]; rfl) rfl (lw_c8 C hi hl hW hg hS kk)
  · exact lv_tableIn hx hb kL_32 (off := 349) (tgt := 381) (by omega) (by omega) (by rw [q]; rfl) rfl (lw_c9 C hi hl hW hg hS kk)
  · exact lv_tableIn hx hb kL_32 (off := 382) (tgt := 414) (by omega) (by omega) (by rw [q]; rfl) rfl (lw_c10 C hi hl hW hg hS kk)
  · exact lv_tableIn hx hb kL_32 (off := 405) (tgt := 437) (by omega) (by omega) (by rw [q]; rfl) rfl (lw_c11 C hi hl hW hg hS kk)
  · exact lv_tableIn hx hb kL_32 (off := 438) (tgt := 470) (by omega) (by omega) (by rw [q]; rfl) rfl (lw_c12 C hi hl hW hg hS kk)
  · exact lv_tableIn hx hb kL_32 (off := 451) (tgt := 483) (by omega) (by omega) (by rw [q]; rfl) rfl (lw_c13 C hi hl hW hg hS kk)
  · exact lv_tableIn hx hb kL_32 (off := 494) (tgt := 526) (by omega) (by omega) (by rw [q]; rfl) rfl (lw_c14 C hi hl hW hg hS kk)
  · exact lv_tableIn hx hb kL_32 (off := 507) (tgt := 539) (by omega) (by omega) (by rw [q]; rfl) rfl (lw_c15 C hi hl hW hg hS kk)
  · exact lv_tableIn hx hb kL_32 (off := 530) (tgt := 562) (by omega) (by omega) (by rw [q]; rfl) rfl (lw_c16 C hi hl hW hg hS kk)
  · exact lv_tableIn hx hb kL_32 (off := 553) (tgt := 585) (by omega) (by omega) (by rw [q]; rfl) rfl (lw_c17 C hi hl hW hg hS kk)
  · exact lv_tableIn hx hb kL_32 (off := 566) (tgt := 598) (by omega) (by omega) (by rw [q]; rfl) rfl (lw_c18 C hi hl hW hg hS kk)
  · exact lv_tableIn hx hb kL_32 (off := 589) (tgt := 621) (by omega) (by omega) (by rw [q]; rfl) rfl (lw_c19 C hi hl hW hg hS kk)
  · exact lv_tableIn hx hb kL_32 (off := 622) (tgt := 654) (by omega) (by omega) (by rw [q]; rfl) rfl (lw_c20 C hi hl hW hg hS kk)
  · exact lv_tableIn hx hb kL_32 (off := 665) (tgt := 697) (by omega) (by omega) (by rw [q]; rfl) rfl (lw_c21 C hi hl hW hg hS kk)
  · exact lv_tableIn hx hb kL_32 (off := 678) (tgt := 710) (by omega) (by omega) (by rw [q]; rfl) rfl (lw_c22 C hi hl hW hg hS kk)
  · exact lv_tableIn hx hb kL_32 (off := 701) (tgt := 733) (by omega) (by omega) (by rw [q]; rfl) rfl (lw_c23 C hi hl hW hg hS kk)
  · exact lv_tableIn hx hb kL_32 (off := 734) (tgt := 766) (by omega) (by omega) (by rw [q]; rfl) rfl (lw_c24 C hi hl hW hg hS kk)
  · exact lv_tableIn hx hb kL_32 (off := 777) (tgt := 809) (by omega) (by omega) (by rw [q]; rfl) rfl (lw_c25 C hi hl hW hg hS kk)
  · exact lv_tableIn hx hb kL_32 (off := 820) (tgt := 852) (by omega) (by omega) (by rw [q]; rfl) rfl (lw_c26 C hi hl hW hg hS kk)
  · exact lv_tableIn hx hb kL_32 (off := 833) (tgt := 865) (by omega) (by omega) (by rw [q]; rfl) rfl (lw_c27 C hi hl hW hg hS kk)
  · exact lv_tableIn hx hb kL_32 (off := 846) (tgt := 878) (by omega) (by omega) (by rw [q]; rfl) rfl (lw_c28 C hi hl hW hg hS kk)
  · exact lv_tableOut hx hb kL_32 (tgt := 901) (Or.inr (by omega)) rfl (kk H locs h hW hg hS)
end LC
