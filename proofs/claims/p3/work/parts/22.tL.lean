section
theorem dL_law_0 : decode cL_law 0 = .ok (.new 7, 3) := by decide +kernel
theorem dL_law_3 : decode cL_law 3 = .ok (.dup, 1) := by decide +kernel
theorem dL_law_4 : decode cL_law 4 = .ok (.invokespecial 9, 3) := by decide +kernel
theorem dL_law_7 : decode cL_law 7 = .ok (.astore_n 1, 1) := by decide +kernel
theorem dL_law_8 : decode cL_law 8 = .ok (.new 10, 3) := by decide +kernel
theorem dL_law_11 : decode cL_law 11 = .ok (.dup, 1) := by decide +kernel
theorem dL_law_12 : decode cL_law 12 = .ok (.invokespecial 12, 3) := by decide +kernel
theorem dL_law_15 : decode cL_law 15 = .ok (.astore_n 2, 1) := by decide +kernel
theorem dL_law_16 : decode cL_law 16 = .ok (.iconst 0, 1) := by decide +kernel
theorem dL_law_17 : decode cL_law 17 = .ok (.istore_n 3, 1) := by decide +kernel
theorem dL_law_18 : decode cL_law 18 = .ok (.iload_n 3, 1) := by decide +kernel
theorem dL_law_19 : decode cL_law 19 = .ok (.aload_n 0, 1) := by decide +kernel
theorem dL_law_20 : decode cL_law 20 = .ok (.arraylength, 1) := by decide +kernel
theorem dL_law_21 : decode cL_law 21 = .ok (.bipush 6, 2) := by decide +kernel
theorem dL_law_23 : decode cL_law 23 = .ok (.isub, 1) := by decide +kernel
theorem dL_law_24 : decode cL_law 24 = .ok (.if_icmp .gt 1843, 3) := by decide +kernel
theorem dL_law_27 : decode cL_law 27 = .ok (.aload_n 0, 1) := by decide +kernel
theorem dL_law_28 : decode cL_law 28 = .ok (.iload_n 3, 1) := by decide +kernel
theorem dL_law_29 : decode cL_law 29 = .ok (.iaload, 1) := by decide +kernel
theorem dL_law_30 : decode cL_law 30 = .ok (.bipush 63, 2) := by decide +kernel
theorem dL_law_32 : decode cL_law 32 = .ok (.iand, 1) := by decide +kernel
theorem dL_law_33 : decode cL_law 33 = .ok (.tableswitch 1828 0 36 #[163, 226, 249, 282, 305, 338, 381, 424, 483, 516, 569, 638, 691, 750, 819, 852, 885, 954, 1007, 1050, 1083, 1126, 1169, 1212, 1255, 1308, 1351, 1394, 1437, 1506, 1575, 1608, 1667, 1700, 1759, 1782, 1805], 163) := by decide +kernel
theorem dL_law_196 : decode cL_law 196 = .ok (.aload_n 1, 1) := by decide +kernel
theorem dL_law_197 : decode cL_law 197 = .ok (.aload_n 0, 1) := by decide +kernel
theorem dL_law_198 : decode cL_law 198 = .ok (.iload_n 3, 1) := by decide +kernel
theorem dL_law_199 : decode cL_law 199 = .ok (.iconst 1, 1) := by decide +kernel
theorem dL_law_200 : decode cL_law 200 = .ok (.iadd, 1) := by decide +kernel
theorem dL_law_201 : decode cL_law 201 = .ok (.iaload, 1) := by decide +kernel
theorem dL_law_202 : decode cL_law 202 = .ok (.aload_n 0, 1) := by decide +kernel
theorem dL_law_203 : decode cL_law 203 = .ok (.iload_n 3, 1) := by decide +kernel
theorem dL_law_204 : decode cL_law 204 = .ok (.iconst 2, 1) := by decide +kernel
theorem dL_law_205 : decode cL_law 205 = .ok (.iadd, 1) := by decide +kernel
theorem dL_law_206 : decode cL_law 206 = .ok (.iaload, 1) := by decide +kernel
theorem dL_law_207 : decode cL_law 207 = .ok (.aload_n 0, 1) := by decide +kernel
theorem dL_law_208 : decode cL_law 208 = .ok (.iload_n 3, 1) := by decide +kernel
theorem dL_law_209 : decode cL_law 209 = .ok (.iconst 3, 1) := by decide +kernel
theorem dL_law_210 : decode cL_law 210 = .ok (.iadd, 1) := by decide +kernel
theorem dL_law_211 : decode cL_law 211 = .ok (.iaload, 1) := by decide +kernel
theorem dL_law_212 : decode cL_law 212 = .ok (.aload_n 0, 1) := by decide +kernel
theorem dL_law_213 : decode cL_law 213 = .ok (.iload_n 3, 1) := by decide +kernel
theorem dL_law_214 : decode cL_law 214 = .ok (.iconst 4, 1) := by decide +kernel
theorem dL_law_215 : decode cL_law 215 = .ok (.iadd, 1) := by decide +kernel
theorem dL_law_216 : decode cL_law 216 = .ok (.iaload, 1) := by decide +kernel
theorem dL_law_217 : decode cL_law 217 = .ok (.aload_n 0, 1) := by decide +kernel
theorem dL_law_218 : decode cL_law 218 = .ok (.iload_n 3, 1) := by decide +kernel
theorem dL_law_219 : decode cL_law 219 = .ok (.iconst 5, 1) := by decide +kernel
theorem dL_law_220 : decode cL_law 220 = .ok (.iadd, 1) := by decide +kernel
theorem dL_law_221 : decode cL_law 221 = .ok (.iaload, 1) := by decide +kernel
theorem dL_law_222 : decode cL_law 222 = .ok (.invokevirtual 13, 3) := by decide +kernel
theorem dL_law_225 : decode cL_law 225 = .ok (.pop, 1) := by decide +kernel
theorem dL_law_226 : decode cL_law 226 = .ok (.aload_n 2, 1) := by decide +kernel
theorem dL_law_227 : decode cL_law 227 = .ok (.aload_n 0, 1) := by decide +kernel
theorem dL_law_228 : decode cL_law 228 = .ok (.iload_n 3, 1) := by decide +kernel
theorem dL_law_229 : decode cL_law 229 = .ok (.iconst 1, 1) := by decide +kernel
theorem dL_law_230 : decode cL_law 230 = .ok (.iadd, 1) := by decide +kernel
theorem dL_law_231 : decode cL_law 231 = .ok (.iaload, 1) := by decide +kernel
theorem dL_law_232 : decode cL_law 232 = .ok (.aload_n 0, 1) := by decide +kernel
theorem dL_law_233 : decode cL_law 233 = .ok (.iload_n 3, 1) := by decide +kernel
theorem dL_law_234 : decode cL_law 234 = .ok (.iconst 2, 1) := by decide +kernel
theorem dL_law_235 : decode cL_law 235 = .ok (.iadd, 1) := by decide +kernel
theorem dL_law_236 : decode cL_law 236 = .ok (.iaload, 1) := by decide +kernel
theorem dL_law_237 : decode cL_law 237 = .ok (.aload_n 0, 1) := by decide +kernel
theorem dL_law_238 : decode cL_law 238 = .ok (.iload_n 3, 1) := by decide +kernel
theorem dL_law_239 : decode cL_law 239 = .ok (.iconst 3, 1) := by decide +kernel
theorem dL_law_240 : decode cL_law 240 = .ok (.iadd, 1) := by decide +kernel
theorem dL_law_241 : decode cL_law 241 = .ok (.iaload, 1) := by decide +kernel
theorem dL_law_242 : decode cL_law 242 = .ok (.aload_n 0, 1) := by decide +kernel
theorem dL_law_243 : decode cL_law 243 = .ok (.iload_n 3, 1) := by decide +kernel
theorem dL_law_244 : decode cL_law 244 = .ok (.iconst 4, 1) := by decide +kernel
theorem dL_law_245 : decode cL_law 245 = .ok (.iadd, 1) := by decide +kernel
theorem dL_law_246 : decode cL_law 246 = .ok (.iaload, 1) := by decide +kernel
theorem dL_law_247 : decode cL_law 247 = .ok (.aload_n 0, 1) := by decide +kernel
theorem dL_law_248 : decode cL_law 248 = .ok (.iload_n 3, 1) := by decide +kernel
theorem dL_law_249 : decode cL_law 249 = .ok (.iconst 5, 1) := by decide +kernel
theorem dL_law_250 : decode cL_law 250 = .ok (.iadd, 1) := by decide +kernel
theorem dL_law_251 : decode cL_law 251 = .ok (.iaload, 1) := by decide +kernel
theorem dL_law_252 : decode cL_law 252 = .ok (.invokevirtual 17, 3) := by decide +kernel
theorem dL_law_255 : decode cL_law 255 = .ok (.pop, 1) := by decide +kernel
theorem dL_law_256 : decode cL_law 256 = .ok (.goto 1605, 3) := by decide +kernel
theorem dL_law_259 : decode cL_law 259 = .ok (.aload_n 1, 1) := by decide +kernel
theorem dL_law_260 : decode cL_law 260 = .ok (.aload_n 0, 1) := by decide +kernel
theorem dL_law_261 : decode cL_law 261 = .ok (.iload_n 3, 1) := by decide +kernel
theorem dL_law_262 : decode cL_law 262 = .ok (.iconst 1, 1) := by decide +kernel
theorem dL_law_263 : decode cL_law 263 = .ok (.iadd, 1) := by decide +kernel
theorem dL_law_264 : decode cL_law 264 = .ok (.iaload, 1) := by decide +kernel
theorem dL_law_265 : decode cL_law 265 = .ok (.invokevirtual 18, 3) := by decide +kernel
theorem dL_law_268 : decode cL_law 268 = .ok (.aload_n 2, 1) := by decide +kernel
theorem dL_law_269 : decode cL_law 269 = .ok (.aload_n 0, 1) := by decide +kernel
theorem dL_law_270 : decode cL_law 270 = .ok (.iload_n 3, 1) := by decide +kernel
theorem dL_law_271 : decode cL_law 271 = .ok (.iconst 1, 1) := by decide +kernel
theorem dL_law_272 : decode cL_law 272 = .ok (.iadd, 1) := by decide +kernel
theorem dL_law_273 : decode cL_law 273 = .ok (.iaload, 1) := by decide +kernel
theorem dL_law_274 : decode cL_law 274 = .ok (.invokevirtual 22, 3) := by decide +kernel
theorem dL_law_277 : decode cL_law 277 = .ok (.if_icmp .eq 1584, 3) := by decide +kernel
theorem dL_law_280 : decode cL_law 280 = .ok (.iconst 0, 1) := by decide +kernel
theorem dL_law_281 : decode cL_law 281 = .ok (.ireturn, 1) := by decide +kernel
theorem dL_law_282 : decode cL_law 282 = .ok (.aload_n 1, 1) := by decide +kernel
theorem dL_law_283 : decode cL_law 283 = .ok (.aload_n 0, 1) := by decide +kernel
theorem dL_law_284 : decode cL_law 284 = .ok (.iload_n 3, 1) := by decide +kernel
theorem dL_law_285 : decode cL_law 285 = .ok (.iconst 1, 1) := by decide +kernel
theorem dL_law_286 : decode cL_law 286 = .ok (.iadd, 1) := by decide +kernel
theorem dL_law_287 : decode cL_law 287 = .ok (.iaload, 1) := by decide +kernel
theorem dL_law_288 : decode cL_law 288 = .ok (.aload_n 0, 1) := by decide +kernel
theorem dL_law_289 : decode cL_law 289 = .ok (.iload_n 3, 1) := by decide +kernel
theorem dL_law_290 : decode cL_law 290 = .ok (.iconst 2, 1) := by decide +kernel
theorem dL_law_291 : decode cL_law 291 = .ok (.iadd, 1) := by decide +kernel
theorem dL_law_292 : decode cL_law 292 = .ok (.iaload, 1) := by decide +kernel
theorem dL_law_293 : decode cL_law 293 = .ok (.invokevirtual 23, 3) := by decide +kernel
theorem dL_law_296 : decode cL_law 296 = .ok (.pop, 1) := by decide +kernel
theorem dL_law_297 : decode cL_law 297 = .ok (.aload_n 2, 1) := by decide +kernel
theorem dL_law_298 : decode cL_law 298 = .ok (.aload_n 0, 1) := by decide +kernel
theorem dL_law_299 : decode cL_law 299 = .ok (.iload_n 3, 1) := by decide +kernel
theorem dL_law_300 : decode cL_law 300 = .ok (.iconst 1, 1) := by decide +kernel
theorem dL_law_301 : decode cL_law 301 = .ok (.iadd, 1) := by decide +kernel
theorem dL_law_302 : decode cL_law 302 = .ok (.iaload, 1) := by decide +kernel
theorem dL_law_303 : decode cL_law 303 = .ok (.aload_n 0, 1) := by decide +kernel
theorem dL_law_304 : decode cL_law 304 = .ok (.iload_n 3, 1) := by decide +kernel
theorem dL_law_305 : decode cL_law 305 = .ok (.iconst 2, 1) := by decide +kernel
theorem dL_law_306 : decode cL_law 306 = .ok (.iadd, 1) := by decide +kernel
theorem dL_law_307 : decode cL_law 307 = .ok (.iaload, 1) := by decide +kernel
theorem dL_law_308 : decode cL_law 308 = .ok (.invokevirtual 27, 3) := by decide +kernel
theorem dL_law_311 : decode cL_law 311 = .ok (.pop, 1) := by decide +kernel
theorem dL_law_312 : decode cL_law 312 = .ok (.goto 1549, 3) := by decide +kernel
theorem dL_law_315 : decode cL_law 315 = .ok (.aload_n 1, 1) := by decide +kernel
theorem dL_law_316 : decode cL_law 316 = .ok (.aload_n 0, 1) := by decide +kernel
theorem dL_law_317 : decode cL_law 317 = .ok (.iload_n 3, 1) := by decide +kernel
theorem dL_law_318 : decode cL_law 318 = .ok (.iconst 1, 1) := by decide +kernel
theorem dL_law_319 : decode cL_law 319 = .ok (.iadd, 1) := by decide +kernel
theorem dL_law_320 : decode cL_law 320 = .ok (.iaload, 1) := by decide +kernel
theorem dL_law_321 : decode cL_law 321 = .ok (.invokevirtual 28, 3) := by decide +kernel
theorem dL_law_324 : decode cL_law 324 = .ok (.pop, 1) := by decide +kernel
theorem dL_law_325 : decode cL_law 325 = .ok (.aload_n 2, 1) := by decide +kernel
theorem dL_law_326 : decode cL_law 326 = .ok (.aload_n 0, 1) := by decide +kernel
theorem dL_law_327 : decode cL_law 327 = .ok (.iload_n 3, 1) := by decide +kernel
theorem dL_law_328 : decode cL_law 328 = .ok (.iconst 1, 1) := by decide +kernel
theorem dL_law_329 : decode cL_law 329 = .ok (.iadd, 1) := by decide +kernel
theorem dL_law_330 : decode cL_law 330 = .ok (.iaload, 1) := by decide +kernel
theorem dL_law_331 : decode cL_law 331 = .ok (.invokevirtual 31, 3) := by decide +kernel
theorem dL_law_334 : decode cL_law 334 = .ok (.pop, 1) := by decide +kernel
theorem dL_law_335 : decode cL_law 335 = .ok (.goto 1526, 3) := by decide +kernel
theorem dL_law_338 : decode cL_law 338 = .ok (.aload_n 1, 1) := by decide +kernel
theorem dL_law_339 : decode cL_law 339 = .ok (.aload_n 0, 1) := by decide +kernel
theorem dL_law_340 : decode cL_law 340 = .ok (.iload_n 3, 1) := by decide +kernel
theorem dL_law_341 : decode cL_law 341 = .ok (.iconst 1, 1) := by decide +kernel
theorem dL_law_342 : decode cL_law 342 = .ok (.iadd, 1) := by decide +kernel
theorem dL_law_343 : decode cL_law 343 = .ok (.iaload, 1) := by decide +kernel
theorem dL_law_344 : decode cL_law 344 = .ok (.aload_n 0, 1) := by decide +kernel
theorem dL_law_345 : decode cL_law 345 = .ok (.iload_n 3, 1) := by decide +kernel
theorem dL_law_346 : decode cL_law 346 = .ok (.iconst 2, 1) := by decide +kernel
theorem dL_law_347 : decode cL_law 347 = .ok (.iadd, 1) := by decide +kernel
theorem dL_law_348 : decode cL_law 348 = .ok (.iaload, 1) := by decide +kernel
theorem dL_law_349 : decode cL_law 349 = .ok (.invokevirtual 32, 3) := by decide +kernel
theorem dL_law_352 : decode cL_law 352 = .ok (.pop, 1) := by decide +kernel
theorem dL_law_353 : decode cL_law 353 = .ok (.aload_n 2, 1) := by decide +kernel
theorem dL_law_354 : decode cL_law 354 = .ok (.aload_n 0, 1) := by decide +kernel
theorem dL_law_355 : decode cL_law 355 = .ok (.iload_n 3, 1) := by decide +kernel
theorem dL_law_356 : decode cL_law 356 = .ok (.iconst 1, 1) := by decide +kernel
theorem dL_law_357 : decode cL_law 357 = .ok (.iadd, 1) := by decide +kernel
theorem dL_law_358 : decode cL_law 358 = .ok (.iaload, 1) := by decide +kernel
theorem dL_law_359 : decode cL_law 359 = .ok (.aload_n 0, 1) := by decide +kernel
theorem dL_law_360 : decode cL_law 360 = .ok (.iload_n 3, 1) := by decide +kernel
theorem dL_law_361 : decode cL_law 361 = .ok (.iconst 2, 1) := by decide +kernel
theorem dL_law_362 : decode cL_law 362 = .ok (.iadd, 1) := by decide +kernel
theorem dL_law_363 : decode cL_law 363 = .ok (.iaload, 1) := by decide +kernel
theorem dL_law_364 : decode cL_law 364 = .ok (.invokevirtual 35, 3) := by decide +kernel
theorem dL_law_367 : decode cL_law 367 = .ok (.pop, 1) := by decide +kernel
theorem dL_law_368 : decode cL_law 368 = .ok (.goto 1493, 3) := by decide +kernel
theorem dL_law_371 : decode cL_law 371 = .ok (.aload_n 1, 1) := by decide +kernel
theorem dL_law_372 : decode cL_law 372 = .ok (.aload_n 0, 1) := by decide +kernel
theorem dL_law_373 : decode cL_law 373 = .ok (.iload_n 3, 1) := by decide +kernel
theorem dL_law_374 : decode cL_law 374 = .ok (.iconst 1, 1) := by decide +kernel
theorem dL_law_375 : decode cL_law 375 = .ok (.iadd, 1) := by decide +kernel
theorem dL_law_376 : decode cL_law 376 = .ok (.iaload, 1) := by decide +kernel
theorem dL_law_377 : decode cL_law 377 = .ok (.aload_n 0, 1) := by decide +kernel
theorem dL_law_378 : decode cL_law 378 = .ok (.iload_n 3, 1) := by decide +kernel
theorem dL_law_379 : decode cL_law 379 = .ok (.iconst 2, 1) := by decide +kernel
theorem dL_law_380 : decode cL_law 380 = .ok (.iadd, 1) := by decide +kernel
theorem dL_law_381 : decode cL_law 381 = .ok (.iaload, 1) := by decide +kernel
theorem dL_law_382 : decode cL_law 382 = .ok (.aload_n 0, 1) := by decide +kernel
theorem dL_law_383 : decode cL_law 383 = .ok (.iload_n 3, 1) := by decide +kernel
theorem dL_law_384 : decode cL_law 384 = .ok (.iconst 3, 1) := by decide +kernel
theorem dL_law_385 : decode cL_law 385 = .ok (.iadd, 1) := by decide +kernel
theorem dL_law_386 : decode cL_law 386 = .ok (.iaload, 1) := by decide +kernel
theorem dL_law_387 : decode cL_law 387 = .ok (.invokevirtual 36, 3) := by decide +kernel
theorem dL_law_390 : decode cL_law 390 = .ok (.pop, 1) := by decide +kernel
theorem dL_law_391 : decode cL_law 391 = .ok (.aload_n 2, 1) := by decide +kernel
theorem dL_law_392 : decode cL_law 392 = .ok (.aload_n 0, 1) := by decide +kernel
theorem dL_law_393 : decode cL_law 393 = .ok (.iload_n 3, 1) := by decide +kernel
theorem dL_law_394 : decode cL_law 394 = .ok (.iconst 1, 1) := by decide +kernel
theorem dL_law_395 : decode cL_law 395 = .ok (.iadd, 1) := by decide +kernel
theorem dL_law_396 : decode cL_law 396 = .ok (.iaload, 1) := by decide +kernel
theorem dL_law_397 : decode cL_law 397 = .ok (.aload_n 0, 1) := by decide +kernel
theorem dL_law_398 : decode cL_law 398 = .ok (.iload_n 3, 1) := by decide +kernel
theorem dL_law_399 : decode cL_law 399 = .ok (.iconst 2, 1) := by decide +kernel
theorem dL_law_400 : decode cL_law 400 = .ok (.iadd, 1) := by decide +kernel
theorem dL_law_401 : decode cL_law 401 = .ok (.iaload, 1) := by decide +kernel
theorem dL_law_402 : decode cL_law 402 = .ok (.aload_n 0, 1) := by decide +kernel
theorem dL_law_403 : decode cL_law 403 = .ok (.iload_n 3, 1) := by decide +kernel
theorem dL_law_404 : decode cL_law 404 = .ok (.iconst 3, 1) := by decide +kernel
theorem dL_law_405 : decode cL_law 405 = .ok (.iadd, 1) := by decide +kernel
theorem dL_law_406 : decode cL_law 406 = .ok (.iaload, 1) := by decide +kernel
theorem dL_law_407 : decode cL_law 407 = .ok (.invokevirtual 40, 3) := by decide +kernel
theorem dL_law_410 : decode cL_law 410 = .ok (.pop, 1) := by decide +kernel
theorem dL_law_411 : decode cL_law 411 = .ok (.goto 1450, 3) := by decide +kernel
theorem dL_law_414 : decode cL_law 414 = .ok (.aload_n 1, 1) := by decide +kernel
theorem dL_law_415 : decode cL_law 415 = .ok (.aload_n 0, 1) := by decide +kernel
theorem dL_law_416 : decode cL_law 416 = .ok (.iload_n 3, 1) := by decide +kernel
theorem dL_law_417 : decode cL_law 417 = .ok (.iconst 1, 1) := by decide +kernel
theorem dL_law_418 : decode cL_law 418 = .ok (.iadd, 1) := by decide +kernel
theorem dL_law_419 : decode cL_law 419 = .ok (.iaload, 1) := by decide +kernel
theorem dL_law_420 : decode cL_law 420 = .ok (.aload_n 0, 1) := by decide +kernel
theorem dL_law_421 : decode cL_law 421 = .ok (.iload_n 3, 1) := by decide +kernel
theorem dL_law_422 : decode cL_law 422 = .ok (.iconst 2, 1) := by decide +kernel
theorem dL_law_423 : decode cL_law 423 = .ok (.iadd, 1) := by decide +kernel
theorem dL_law_424 : decode cL_law 424 = .ok (.iaload, 1) := by decide +kernel
theorem dL_law_425 : decode cL_law 425 = .ok (.aload_n 0, 1) := by decide +kernel
theorem dL_law_426 : decode cL_law 426 = .ok (.iload_n 3, 1) := by decide +kernel
theorem dL_law_427 : decode cL_law 427 = .ok (.iconst 3, 1) := by decide +kernel
theorem dL_law_428 : decode cL_law 428 = .ok (.iadd, 1) := by decide +kernel
theorem dL_law_429 : decode cL_law 429 = .ok (.iaload, 1) := by decide +kernel
theorem dL_law_430 : decode cL_law 430 = .ok (.invokevirtual 41, 3) := by decide +kernel
theorem dL_law_433 : decode cL_law 433 = .ok (.pop, 1) := by decide +kernel
theorem dL_law_434 : decode cL_law 434 = .ok (.aload_n 2, 1) := by decide +kernel
theorem dL_law_435 : decode cL_law 435 = .ok (.aload_n 0, 1) := by decide +kernel
theorem dL_law_436 : decode cL_law 436 = .ok (.iload_n 3, 1) := by decide +kernel
theorem dL_law_437 : decode cL_law 437 = .ok (.iconst 1, 1) := by decide +kernel
theorem dL_law_438 : decode cL_law 438 = .ok (.iadd, 1) := by decide +kernel
theorem dL_law_439 : decode cL_law 439 = .ok (.iaload, 1) := by decide +kernel
theorem dL_law_440 : decode cL_law 440 = .ok (.aload_n 0, 1) := by decide +kernel
theorem dL_law_441 : decode cL_law 441 = .ok (.iload_n 3, 1) := by decide +kernel
theorem dL_law_442 : decode cL_law 442 = .ok (.iconst 2, 1) := by decide +kernel
theorem dL_law_443 : decode cL_law 443 = .ok (.iadd, 1) := by decide +kernel
theorem dL_law_444 : decode cL_law 444 = .ok (.iaload, 1) := by decide +kernel
theorem dL_law_445 : decode cL_law 445 = .ok (.aload_n 0, 1) := by decide +kernel
theorem dL_law_446 : decode cL_law 446 = .ok (.iload_n 3, 1) := by decide +kernel
theorem dL_law_447 : decode cL_law 447 = .ok (.iconst 3, 1) := by decide +kernel
theorem dL_law_448 : decode cL_law 448 = .ok (.iadd, 1) := by decide +kernel
theorem dL_law_449 : decode cL_law 449 = .ok (.iaload, 1) := by decide +kernel
theorem dL_law_450 : decode cL_law 450 = .ok (.invokevirtual 44, 3) := by decide +kernel
theorem dL_law_453 : decode cL_law 453 = .ok (.pop, 1) := by decide +kernel
theorem dL_law_454 : decode cL_law 454 = .ok (.goto 1407, 3) := by decide +kernel
theorem dL_law_457 : decode cL_law 457 = .ok (.aload_n 1, 1) := by decide +kernel
theorem dL_law_458 : decode cL_law 458 = .ok (.aload_n 0, 1) := by decide +kernel
theorem dL_law_459 : decode cL_law 459 = .ok (.iload_n 3, 1) := by decide +kernel
theorem dL_law_460 : decode cL_law 460 = .ok (.iconst 1, 1) := by decide +kernel
theorem dL_law_461 : decode cL_law 461 = .ok (.iadd, 1) := by decide +kernel
theorem dL_law_462 : decode cL_law 462 = .ok (.iaload, 1) := by decide +kernel
theorem dL_law_463 : decode cL_law 463 = .ok (.aload_n 0, 1) := by decide +kernel
theorem dL_law_464 : decode cL_law 464 = .ok (.iload_n 3, 1) := by decide +kernel
theorem dL_law_465 : decode cL_law 465 = .ok (.iconst 2, 1) := by decide +kernel
theorem dL_law_466 : decode cL_law 466 = .ok (.iadd, 1) := by decide +kernel
theorem dL_law_467 : decode cL_law 467 = .ok (.iaload, 1) := by decide +kernel
theorem dL_law_468 : decode cL_law 468 = .ok (.aload_n 0, 1) := by decide +kernel
theorem dL_law_469 : decode cL_law 469 = .ok (.iload_n 3, 1) := by decide +kernel
theorem dL_law_470 : decode cL_law 470 = .ok (.iconst 3, 1) := by decide +kernel
theorem dL_law_471 : decode cL_law 471 = .ok (.iadd, 1) := by decide +kernel
theorem dL_law_472 : decode cL_law 472 = .ok (.iaload, 1) := by decide +kernel
theorem dL_law_473 : decode cL_law 473 = .ok (.ifCond .eq 7, 3) := by decide +kernel
theorem dL_law_476 : decode cL_law 476 = .ok (.iconst 1, 1) := by decide +kernel
theorem dL_law_477 : decode cL_law 477 = .ok (.goto 4, 3) := by decide +kernel
theorem dL_law_480 : decode cL_law 480 = .ok (.iconst 0, 1) := by decide +kernel
theorem dL_law_481 : decode cL_law 481 = .ok (.invokevirtual 45, 3) := by decide +kernel
theorem dL_law_484 : decode cL_law 484 = .ok (.pop, 1) := by decide +kernel
theorem dL_law_485 : decode cL_law 485 = .ok (.aload_n 2, 1) := by decide +kernel
theorem dL_law_486 : decode cL_law 486 = .ok (.aload_n 0, 1) := by decide +kernel
theorem dL_law_487 : decode cL_law 487 = .ok (.iload_n 3, 1) := by decide +kernel
theorem dL_law_488 : decode cL_law 488 = .ok (.iconst 1, 1) := by decide +kernel
theorem dL_law_489 : decode cL_law 489 = .ok (.iadd, 1) := by decide +kernel
theorem dL_law_490 : decode cL_law 490 = .ok (.iaload, 1) := by decide +kernel
theorem dL_law_491 : decode cL_law 491 = .ok (.aload_n 0, 1) := by decide +kernel
theorem dL_law_492 : decode cL_law 492 = .ok (.iload_n 3, 1) := by decide +kernel
theorem dL_law_493 : decode cL_law 493 = .ok (.iconst 2, 1) := by decide +kernel
theorem dL_law_494 : decode cL_law 494 = .ok (.iadd, 1) := by decide +kernel
theorem dL_law_495 : decode cL_law 495 = .ok (.iaload, 1) := by decide +kernel
theorem dL_law_496 : decode cL_law 496 = .ok (.aload_n 0, 1) := by decide +kernel
theorem dL_law_497 : decode cL_law 497 = .ok (.iload_n 3, 1) := by decide +kernel
theorem dL_law_498 : decode cL_law 498 = .ok (.iconst 3, 1) := by decide +kernel
theorem dL_law_499 : decode cL_law 499 = .ok (.iadd, 1) := by decide +kernel
theorem dL_law_500 : decode cL_law 500 = .ok (.iaload, 1) := by decide +kernel
theorem dL_law_501 : decode cL_law 501 = .ok (.ifCond .eq 7, 3) := by decide +kernel
theorem dL_law_504 : decode cL_law 504 = .ok (.iconst 1, 1) := by decide +kernel
theorem dL_law_505 : decode cL_law 505 = .ok (.goto 4, 3) := by decide +kernel
theorem dL_law_508 : decode cL_law 508 = .ok (.iconst 0, 1) := by decide +kernel
theorem dL_law_509 : decode cL_law 509 = .ok (.invokevirtual 49, 3) := by decide +kernel
theorem dL_law_512 : decode cL_law 512 = .ok (.pop, 1) := by decide +kernel
theorem dL_law_513 : decode cL_law 513 = .ok (.goto 1348, 3) := by decide +kernel
theorem dL_law_516 : decode cL_law 516 = .ok (.aload_n 1, 1) := by decide +kernel
theorem dL_law_517 : decode cL_law 517 = .ok (.aload_n 0, 1) := by decide +kernel
theorem dL_law_518 : decode cL_law 518 = .ok (.iload_n 3, 1) := by decide +kernel
theorem dL_law_519 : decode cL_law 519 = .ok (.iconst 1, 1) := by decide +kernel
theorem dL_law_520 : decode cL_law 520 = .ok (.iadd, 1) := by decide +kernel
theorem dL_law_521 : decode cL_law 521 = .ok (.iaload, 1) := by decide +kernel
theorem dL_law_522 : decode cL_law 522 = .ok (.aload_n 0, 1) := by decide +kernel
theorem dL_law_523 : decode cL_law 523 = .ok (.iload_n 3, 1) := by decide +kernel
theorem dL_law_524 : decode cL_law 524 = .ok (.iconst 2, 1) := by decide +kernel
theorem dL_law_525 : decode cL_law 525 = .ok (.iadd, 1) := by decide +kernel
theorem dL_law_526 : decode cL_law 526 = .ok (.iaload, 1) := by decide +kernel
theorem dL_law_527 : decode cL_law 527 = .ok (.invokevirtual 50, 3) := by decide +kernel
theorem dL_law_530 : decode cL_law 530 = .ok (.pop, 1) := by decide +kernel
theorem dL_law_531 : decode cL_law 531 = .ok (.aload_n 2, 1) := by decide +kernel
theorem dL_law_532 : decode cL_law 532 = .ok (.aload_n 0, 1) := by decide +kernel
theorem dL_law_533 : decode cL_law 533 = .ok (.iload_n 3, 1) := by decide +kernel
theorem dL_law_534 : decode cL_law 534 = .ok (.iconst 1, 1) := by decide +kernel
theorem dL_law_535 : decode cL_law 535 = .ok (.iadd, 1) := by decide +kernel
theorem dL_law_536 : decode cL_law 536 = .ok (.iaload, 1) := by decide +kernel
theorem dL_law_537 : decode cL_law 537 = .ok (.aload_n 0, 1) := by decide +kernel
theorem dL_law_538 : decode cL_law 538 = .ok (.iload_n 3, 1) := by decide +kernel
theorem dL_law_539 : decode cL_law 539 = .ok (.iconst 2, 1) := by decide +kernel
theorem dL_law_540 : decode cL_law 540 = .ok (.iadd, 1) := by decide +kernel
theorem dL_law_541 : decode cL_law 541 = .ok (.iaload, 1) := by decide +kernel
theorem dL_law_542 : decode cL_law 542 = .ok (.invokevirtual 53, 3) := by decide +kernel
theorem dL_law_545 : decode cL_law 545 = .ok (.pop, 1) := by decide +kernel
theorem dL_law_546 : decode cL_law 546 = .ok (.goto 1315, 3) := by decide +kernel
theorem dL_law_549 : decode cL_law 549 = .ok (.aload_n 1, 1) := by decide +kernel
theorem dL_law_550 : decode cL_law 550 = .ok (.aload_n 0, 1) := by decide +kernel
theorem dL_law_551 : decode cL_law 551 = .ok (.iload_n 3, 1) := by decide +kernel
theorem dL_law_552 : decode cL_law 552 = .ok (.iconst 1, 1) := by decide +kernel
theorem dL_law_553 : decode cL_law 553 = .ok (.iadd, 1) := by decide +kernel
theorem dL_law_554 : decode cL_law 554 = .ok (.iaload, 1) := by decide +kernel
theorem dL_law_555 : decode cL_law 555 = .ok (.aload_n 0, 1) := by decide +kernel
theorem dL_law_556 : decode cL_law 556 = .ok (.iload_n 3, 1) := by decide +kernel
theorem dL_law_557 : decode cL_law 557 = .ok (.iconst 2, 1) := by decide +kernel
theorem dL_law_558 : decode cL_law 558 = .ok (.iadd, 1) := by decide +kernel
theorem dL_law_559 : decode cL_law 559 = .ok (.iaload, 1) := by decide +kernel
theorem dL_law_560 : decode cL_law 560 = .ok (.aload_n 0, 1) := by decide +kernel
theorem dL_law_561 : decode cL_law 561 = .ok (.iload_n 3, 1) := by decide +kernel
theorem dL_law_562 : decode cL_law 562 = .ok (.iconst 3, 1) := by decide +kernel
theorem dL_law_563 : decode cL_law 563 = .ok (.iadd, 1) := by decide +kernel
theorem dL_law_564 : decode cL_law 564 = .ok (.iaload, 1) := by decide +kernel
theorem dL_law_565 : decode cL_law 565 = .ok (.aload_n 0, 1) := by decide +kernel
theorem dL_law_566 : decode cL_law 566 = .ok (.iload_n 3, 1) := by decide +kernel
theorem dL_law_567 : decode cL_law 567 = .ok (.iconst 4, 1) := by decide +kernel
theorem dL_law_568 : decode cL_law 568 = .ok (.iadd, 1) := by decide +kernel
theorem dL_law_569 : decode cL_law 569 = .ok (.iaload, 1) := by decide +kernel
theorem dL_law_570 : decode cL_law 570 = .ok (.invokevirtual 54, 3) := by decide +kernel
theorem dL_law_573 : decode cL_law 573 = .ok (.pop, 1) := by decide +kernel
theorem dL_law_574 : decode cL_law 574 = .ok (.aload_n 2, 1) := by decide +kernel
theorem dL_law_575 : decode cL_law 575 = .ok (.aload_n 0, 1) := by decide +kernel
theorem dL_law_576 : decode cL_law 576 = .ok (.iload_n 3, 1) := by decide +kernel
theorem dL_law_577 : decode cL_law 577 = .ok (.iconst 1, 1) := by decide +kernel
theorem dL_law_578 : decode cL_law 578 = .ok (.iadd, 1) := by decide +kernel
theorem dL_law_579 : decode cL_law 579 = .ok (.iaload, 1) := by decide +kernel
theorem dL_law_580 : decode cL_law 580 = .ok (.aload_n 0, 1) := by decide +kernel
theorem dL_law_581 : decode cL_law 581 = .ok (.iload_n 3, 1) := by decide +kernel
theorem dL_law_582 : decode cL_law 582 = .ok (.iconst 2, 1) := by decide +kernel
theorem dL_law_583 : decode cL_law 583 = .ok (.iadd, 1) := by decide +kernel
theorem dL_law_584 : decode cL_law 584 = .ok (.iaload, 1) := by decide +kernel
theorem dL_law_585 : decode cL_law 585 = .ok (.aload_n 0, 1) := by decide +kernel
theorem dL_law_586 : decode cL_law 586 = .ok (.iload_n 3, 1) := by decide +kernel
theorem dL_law_587 : decode cL_law 587 = .ok (.iconst 3, 1) := by decide +kernel
theorem dL_law_588 : decode cL_law 588 = .ok (.iadd, 1) := by decide +kernel
theorem dL_law_589 : decode cL_law 589 = .ok (.iaload, 1) := by decide +kernel
theorem dL_law_590 : decode cL_law 590 = .ok (.aload_n 0, 1) := by decide +kernel
theorem dL_law_591 : decode cL_law 591 = .ok (.iload_n 3, 1) := by decide +kernel
theorem dL_law_592 : decode cL_law 592 = .ok (.iconst 4, 1) := by decide +kernel
theorem dL_law_593 : decode cL_law 593 = .ok (.iadd, 1) := by decide +kernel
theorem dL_law_594 : decode cL_law 594 = .ok (.iaload, 1) := by decide +kernel
theorem dL_law_595 : decode cL_law 595 = .ok (.invokevirtual 58, 3) := by decide +kernel
theorem dL_law_598 : decode cL_law 598 = .ok (.pop, 1) := by decide +kernel
theorem dL_law_599 : decode cL_law 599 = .ok (.goto 1262, 3) := by decide +kernel
theorem dL_law_602 : decode cL_law 602 = .ok (.aload_n 1, 1) := by decide +kernel
theorem dL_law_603 : decode cL_law 603 = .ok (.aload_n 0, 1) := by decide +kernel
theorem dL_law_604 : decode cL_law 604 = .ok (.iload_n 3, 1) := by decide +kernel
theorem dL_law_605 : decode cL_law 605 = .ok (.iconst 1, 1) := by decide +kernel
theorem dL_law_606 : decode cL_law 606 = .ok (.iadd, 1) := by decide +kernel
theorem dL_law_607 : decode cL_law 607 = .ok (.iaload, 1) := by decide +kernel
theorem dL_law_608 : decode cL_law 608 = .ok (.aload_n 0, 1) := by decide +kernel
theorem dL_law_609 : decode cL_law 609 = .ok (.iload_n 3, 1) := by decide +kernel
theorem dL_law_610 : decode cL_law 610 = .ok (.iconst 2, 1) := by decide +kernel
theorem dL_law_611 : decode cL_law 611 = .ok (.iadd, 1) := by decide +kernel
theorem dL_law_612 : decode cL_law 612 = .ok (.iaload, 1) := by decide +kernel
theorem dL_law_613 : decode cL_law 613 = .ok (.aload_n 0, 1) := by decide +kernel
theorem dL_law_614 : decode cL_law 614 = .ok (.iload_n 3, 1) := by decide +kernel
theorem dL_law_615 : decode cL_law 615 = .ok (.iconst 3, 1) := by decide +kernel
theorem dL_law_616 : decode cL_law 616 = .ok (.iadd, 1) := by decide +kernel
theorem dL_law_617 : decode cL_law 617 = .ok (.iaload, 1) := by decide +kernel
theorem dL_law_618 : decode cL_law 618 = .ok (.aload_n 0, 1) := by decide +kernel
theorem dL_law_619 : decode cL_law 619 = .ok (.iload_n 3, 1) := by decide +kernel
theorem dL_law_620 : decode cL_law 620 = .ok (.iconst 4, 1) := by decide +kernel
theorem dL_law_621 : decode cL_law 621 = .ok (.iadd, 1) := by decide +kernel
theorem dL_law_622 : decode cL_law 622 = .ok (.iaload, 1) := by decide +kernel
theorem dL_law_623 : decode cL_law 623 = .ok (.ifCond .eq 7, 3) := by decide +kernel
theorem dL_law_626 : decode cL_law 626 = .ok (.iconst 1, 1) := by decide +kernel
theorem dL_law_627 : decode cL_law 627 = .ok (.goto 4, 3) := by decide +kernel
theorem dL_law_630 : decode cL_law 630 = .ok (.iconst 0, 1) := by decide +kernel
theorem dL_law_631 : decode cL_law 631 = .ok (.invokevirtual 59, 3) := by decide +kernel
theorem dL_law_634 : decode cL_law 634 = .ok (.pop2, 1) := by decide +kernel
theorem dL_law_635 : decode cL_law 635 = .ok (.aload_n 2, 1) := by decide +kernel
theorem dL_law_636 : decode cL_law 636 = .ok (.aload_n 0, 1) := by decide +kernel
theorem dL_law_637 : decode cL_law 637 = .ok (.iload_n 3, 1) := by decide +kernel
theorem dL_law_638 : decode cL_law 638 = .ok (.iconst 1, 1) := by decide +kernel
theorem dL_law_639 : decode cL_law 639 = .ok (.iadd, 1) := by decide +kernel
theorem dL_law_640 : decode cL_law 640 = .ok (.iaload, 1) := by decide +kernel
theorem dL_law_641 : decode cL_law 641 = .ok (.aload_n 0, 1) := by decide +kernel
theorem dL_law_642 : decode cL_law 642 = .ok (.iload_n 3, 1) := by decide +kernel
theorem dL_law_643 : decode cL_law 643 = .ok (.iconst 2, 1) := by decide +kernel
theorem dL_law_644 : decode cL_law 644 = .ok (.iadd, 1) := by decide +kernel
theorem dL_law_645 : decode cL_law 645 = .ok (.iaload, 1) := by decide +kernel
theorem dL_law_646 : decode cL_law 646 = .ok (.aload_n 0, 1) := by decide +kernel
theorem dL_law_647 : decode cL_law 647 = .ok (.iload_n 3, 1) := by decide +kernel
theorem dL_law_648 : decode cL_law 648 = .ok (.iconst 3, 1) := by decide +kernel
theorem dL_law_649 : decode cL_law 649 = .ok (.iadd, 1) := by decide +kernel
theorem dL_law_650 : decode cL_law 650 = .ok (.iaload, 1) := by decide +kernel
theorem dL_law_651 : decode cL_law 651 = .ok (.aload_n 0, 1) := by decide +kernel
theorem dL_law_652 : decode cL_law 652 = .ok (.iload_n 3, 1) := by decide +kernel
theorem dL_law_653 : decode cL_law 653 = .ok (.iconst 4, 1) := by decide +kernel
theorem dL_law_654 : decode cL_law 654 = .ok (.iadd, 1) := by decide +kernel
theorem dL_law_655 : decode cL_law 655 = .ok (.iaload, 1) := by decide +kernel
theorem dL_law_656 : decode cL_law 656 = .ok (.ifCond .eq 7, 3) := by decide +kernel
theorem dL_law_659 : decode cL_law 659 = .ok (.iconst 1, 1) := by decide +kernel
theorem dL_law_660 : decode cL_law 660 = .ok (.goto 4, 3) := by decide +kernel
theorem dL_law_663 : decode cL_law 663 = .ok (.iconst 0, 1) := by decide +kernel
theorem dL_law_664 : decode cL_law 664 = .ok (.invokevirtual 63, 3) := by decide +kernel
theorem dL_law_667 : decode cL_law 667 = .ok (.pop2, 1) := by decide +kernel
theorem dL_law_668 : decode cL_law 668 = .ok (.goto 1193, 3) := by decide +kernel
theorem dL_law_671 : decode cL_law 671 = .ok (.aload_n 1, 1) := by decide +kernel
theorem dL_law_672 : decode cL_law 672 = .ok (.aload_n 0, 1) := by decide +kernel
theorem dL_law_673 : decode cL_law 673 = .ok (.iload_n 3, 1) := by decide +kernel
theorem dL_law_674 : decode cL_law 674 = .ok (.iconst 1, 1) := by decide +kernel
theorem dL_law_675 : decode cL_law 675 = .ok (.iadd, 1) := by decide +kernel
theorem dL_law_676 : decode cL_law 676 = .ok (.iaload, 1) := by decide +kernel
theorem dL_law_677 : decode cL_law 677 = .ok (.aload_n 0, 1) := by decide +kernel
theorem dL_law_678 : decode cL_law 678 = .ok (.iload_n 3, 1) := by decide +kernel
theorem dL_law_679 : decode cL_law 679 = .ok (.iconst 2, 1) := by decide +kernel
theorem dL_law_680 : decode cL_law 680 = .ok (.iadd, 1) := by decide +kernel
theorem dL_law_681 : decode cL_law 681 = .ok (.iaload, 1) := by decide +kernel
theorem dL_law_682 : decode cL_law 682 = .ok (.aload_n 0, 1) := by decide +kernel
theorem dL_law_683 : decode cL_law 683 = .ok (.iload_n 3, 1) := by decide +kernel
theorem dL_law_684 : decode cL_law 684 = .ok (.iconst 3, 1) := by decide +kernel
theorem dL_law_685 : decode cL_law 685 = .ok (.iadd, 1) := by decide +kernel
theorem dL_law_686 : decode cL_law 686 = .ok (.iaload, 1) := by decide +kernel
theorem dL_law_687 : decode cL_law 687 = .ok (.aload_n 0, 1) := by decide +kernel
theorem dL_law_688 : decode cL_law 688 = .ok (.iload_n 3, 1) := by decide +kernel
theorem dL_law_689 : decode cL_law 689 = .ok (.iconst 4, 1) := by decide +kernel
theorem dL_law_690 : decode cL_law 690 = .ok (.iadd, 1) := by decide +kernel
theorem dL_law_691 : decode cL_law 691 = .ok (.iaload, 1) := by decide +kernel
theorem dL_law_692 : decode cL_law 692 = .ok (.invokevirtual 64, 3) := by decide +kernel
theorem dL_law_695 : decode cL_law 695 = .ok (.pop, 1) := by decide +kernel
theorem dL_law_696 : decode cL_law 696 = .ok (.aload_n 2, 1) := by decide +kernel
theorem dL_law_697 : decode cL_law 697 = .ok (.aload_n 0, 1) := by decide +kernel
theorem dL_law_698 : decode cL_law 698 = .ok (.iload_n 3, 1) := by decide +kernel
theorem dL_law_699 : decode cL_law 699 = .ok (.iconst 1, 1) := by decide +kernel
theorem dL_law_700 : decode cL_law 700 = .ok (.iadd, 1) := by decide +kernel
theorem dL_law_701 : decode cL_law 701 = .ok (.iaload, 1) := by decide +kernel
theorem dL_law_702 : decode cL_law 702 = .ok (.aload_n 0, 1) := by decide +kernel
theorem dL_law_703 : decode cL_law 703 = .ok (.iload_n 3, 1) := by decide +kernel
theorem dL_law_704 : decode cL_law 704 = .ok (.iconst 2, 1) := by decide +kernel
theorem dL_law_705 : decode cL_law 705 = .ok (.iadd, 1) := by decide +kernel
theorem dL_law_706 : decode cL_law 706 = .ok (.iaload, 1) := by decide +kernel
theorem dL_law_707 : decode cL_law 707 = .ok (.aload_n 0, 1) := by decide +kernel
theorem dL_law_708 : decode cL_law 708 = .ok (.iload_n 3, 1) := by decide +kernel
theorem dL_law_709 : decode cL_law 709 = .ok (.iconst 3, 1) := by decide +kernel
theorem dL_law_710 : decode cL_law 710 = .ok (.iadd, 1) := by decide +kernel
theorem dL_law_711 : decode cL_law 711 = .ok (.iaload, 1) := by decide +kernel
theorem dL_law_712 : decode cL_law 712 = .ok (.aload_n 0, 1) := by decide +kernel
theorem dL_law_713 : decode cL_law 713 = .ok (.iload_n 3, 1) := by decide +kernel
theorem dL_law_714 : decode cL_law 714 = .ok (.iconst 4, 1) := by decide +kernel
theorem dL_law_715 : decode cL_law 715 = .ok (.iadd, 1) := by decide +kernel
theorem dL_law_716 : decode cL_law 716 = .ok (.iaload, 1) := by decide +kernel
theorem dL_law_717 : decode cL_law 717 = .ok (.invokevirtual 67, 3) := by decide +kernel
theorem dL_law_720 : decode cL_law 720 = .ok (.pop, 1) := by decide +kernel
theorem dL_law_721 : decode cL_law 721 = .ok (.goto 1140, 3) := by decide +kernel
theorem dL_law_724 : decode cL_law 724 = .ok (.aload_n 1, 1) := by decide +kernel
theorem dL_law_725 : decode cL_law 725 = .ok (.aload_n 0, 1) := by decide +kernel
theorem dL_law_726 : decode cL_law 726 = .ok (.iload_n 3, 1) := by decide +kernel
theorem dL_law_727 : decode cL_law 727 = .ok (.iconst 1, 1) := by decide +kernel
theorem dL_law_728 : decode cL_law 728 = .ok (.iadd, 1) := by decide +kernel
theorem dL_law_729 : decode cL_law 729 = .ok (.iaload, 1) := by decide +kernel
theorem dL_law_730 : decode cL_law 730 = .ok (.aload_n 0, 1) := by decide +kernel
theorem dL_law_731 : decode cL_law 731 = .ok (.iload_n 3, 1) := by decide +kernel
theorem dL_law_732 : decode cL_law 732 = .ok (.iconst 2, 1) := by decide +kernel
theorem dL_law_733 : decode cL_law 733 = .ok (.iadd, 1) := by decide +kernel
theorem dL_law_734 : decode cL_law 734 = .ok (.iaload, 1) := by decide +kernel
theorem dL_law_735 : decode cL_law 735 = .ok (.aload_n 0, 1) := by decide +kernel
theorem dL_law_736 : decode cL_law 736 = .ok (.iload_n 3, 1) := by decide +kernel
theorem dL_law_737 : decode cL_law 737 = .ok (.iconst 3, 1) := by decide +kernel
theorem dL_law_738 : decode cL_law 738 = .ok (.iadd, 1) := by decide +kernel
theorem dL_law_739 : decode cL_law 739 = .ok (.iaload, 1) := by decide +kernel
theorem dL_law_740 : decode cL_law 740 = .ok (.ifCond .eq 7, 3) := by decide +kernel
theorem dL_law_743 : decode cL_law 743 = .ok (.iconst 1, 1) := by decide +kernel
theorem dL_law_744 : decode cL_law 744 = .ok (.goto 4, 3) := by decide +kernel
theorem dL_law_747 : decode cL_law 747 = .ok (.iconst 0, 1) := by decide +kernel
theorem dL_law_748 : decode cL_law 748 = .ok (.invokevirtual 68, 3) := by decide +kernel
theorem dL_law_751 : decode cL_law 751 = .ok (.pop, 1) := by decide +kernel
theorem dL_law_752 : decode cL_law 752 = .ok (.aload_n 2, 1) := by decide +kernel
theorem dL_law_753 : decode cL_law 753 = .ok (.aload_n 0, 1) := by decide +kernel
theorem dL_law_754 : decode cL_law 754 = .ok (.iload_n 3, 1) := by decide +kernel
theorem dL_law_755 : decode cL_law 755 = .ok (.iconst 1, 1) := by decide +kernel
theorem dL_law_756 : decode cL_law 756 = .ok (.iadd, 1) := by decide +kernel
theorem dL_law_757 : decode cL_law 757 = .ok (.iaload, 1) := by decide +kernel
theorem dL_law_758 : decode cL_law 758 = .ok (.aload_n 0, 1) := by decide +kernel
theorem dL_law_759 : decode cL_law 759 = .ok (.iload_n 3, 1) := by decide +kernel
theorem dL_law_760 : decode cL_law 760 = .ok (.iconst 2, 1) := by decide +kernel
theorem dL_law_761 : decode cL_law 761 = .ok (.iadd, 1) := by decide +kernel
theorem dL_law_762 : decode cL_law 762 = .ok (.iaload, 1) := by decide +kernel
theorem dL_law_763 : decode cL_law 763 = .ok (.aload_n 0, 1) := by decide +kernel
theorem dL_law_764 : decode cL_law 764 = .ok (.iload_n 3, 1) := by decide +kernel
theorem dL_law_765 : decode cL_law 765 = .ok (.iconst 3, 1) := by decide +kernel
theorem dL_law_766 : decode cL_law 766 = .ok (.iadd, 1) := by decide +kernel
theorem dL_law_767 : decode cL_law 767 = .ok (.iaload, 1) := by decide +kernel
theorem dL_law_768 : decode cL_law 768 = .ok (.ifCond .eq 7, 3) := by decide +kernel
theorem dL_law_771 : decode cL_law 771 = .ok (.iconst 1, 1) := by decide +kernel
theorem dL_law_772 : decode cL_law 772 = .ok (.goto 4, 3) := by decide +kernel
theorem dL_law_775 : decode cL_law 775 = .ok (.iconst 0, 1) := by decide +kernel
theorem dL_law_776 : decode cL_law 776 = .ok (.invokevirtual 71, 3) := by decide +kernel
theorem dL_law_779 : decode cL_law 779 = .ok (.pop, 1) := by decide +kernel
theorem dL_law_780 : decode cL_law 780 = .ok (.goto 1081, 3) := by decide +kernel
theorem dL_law_783 : decode cL_law 783 = .ok (.aload_n 1, 1) := by decide +kernel
theorem dL_law_784 : decode cL_law 784 = .ok (.aload_n 0, 1) := by decide +kernel
theorem dL_law_785 : decode cL_law 785 = .ok (.iload_n 3, 1) := by decide +kernel
theorem dL_law_786 : decode cL_law 786 = .ok (.iconst 1, 1) := by decide +kernel
theorem dL_law_787 : decode cL_law 787 = .ok (.iadd, 1) := by decide +kernel
theorem dL_law_788 : decode cL_law 788 = .ok (.iaload, 1) := by decide +kernel
theorem dL_law_789 : decode cL_law 789 = .ok (.aload_n 0, 1) := by decide +kernel
theorem dL_law_790 : decode cL_law 790 = .ok (.iload_n 3, 1) := by decide +kernel
theorem dL_law_791 : decode cL_law 791 = .ok (.iconst 2, 1) := by decide +kernel
theorem dL_law_792 : decode cL_law 792 = .ok (.iadd, 1) := by decide +kernel
theorem dL_law_793 : decode cL_law 793 = .ok (.iaload, 1) := by decide +kernel
theorem dL_law_794 : decode cL_law 794 = .ok (.aload_n 0, 1) := by decide +kernel
theorem dL_law_795 : decode cL_law 795 = .ok (.iload_n 3, 1) := by decide +kernel
theorem dL_law_796 : decode cL_law 796 = .ok (.iconst 3, 1) := by decide +kernel
theorem dL_law_797 : decode cL_law 797 = .ok (.iadd, 1) := by decide +kernel
theorem dL_law_798 : decode cL_law 798 = .ok (.iaload, 1) := by decide +kernel
theorem dL_law_799 : decode cL_law 799 = .ok (.aload_n 0, 1) := by decide +kernel
theorem dL_law_800 : decode cL_law 800 = .ok (.iload_n 3, 1) := by decide +kernel
theorem dL_law_801 : decode cL_law 801 = .ok (.iconst 4, 1) := by decide +kernel
theorem dL_law_802 : decode cL_law 802 = .ok (.iadd, 1) := by decide +kernel
theorem dL_law_803 : decode cL_law 803 = .ok (.iaload, 1) := by decide +kernel
theorem dL_law_804 : decode cL_law 804 = .ok (.ifCond .eq 7, 3) := by decide +kernel
theorem dL_law_807 : decode cL_law 807 = .ok (.iconst 1, 1) := by decide +kernel
theorem dL_law_808 : decode cL_law 808 = .ok (.goto 4, 3) := by decide +kernel
theorem dL_law_811 : decode cL_law 811 = .ok (.iconst 0, 1) := by decide +kernel
theorem dL_law_812 : decode cL_law 812 = .ok (.invokevirtual 72, 3) := by decide +kernel
theorem dL_law_815 : decode cL_law 815 = .ok (.pop, 1) := by decide +kernel
theorem dL_law_816 : decode cL_law 816 = .ok (.aload_n 2, 1) := by decide +kernel
theorem dL_law_817 : decode cL_law 817 = .ok (.aload_n 0, 1) := by decide +kernel
theorem dL_law_818 : decode cL_law 818 = .ok (.iload_n 3, 1) := by decide +kernel
theorem dL_law_819 : decode cL_law 819 = .ok (.iconst 1, 1) := by decide +kernel
theorem dL_law_820 : decode cL_law 820 = .ok (.iadd, 1) := by decide +kernel
theorem dL_law_821 : decode cL_law 821 = .ok (.iaload, 1) := by decide +kernel
theorem dL_law_822 : decode cL_law 822 = .ok (.aload_n 0, 1) := by decide +kernel
theorem dL_law_823 : decode cL_law 823 = .ok (.iload_n 3, 1) := by decide +kernel
theorem dL_law_824 : decode cL_law 824 = .ok (.iconst 2, 1) := by decide +kernel
theorem dL_law_825 : decode cL_law 825 = .ok (.iadd, 1) := by decide +kernel
theorem dL_law_826 : decode cL_law 826 = .ok (.iaload, 1) := by decide +kernel
theorem dL_law_827 : decode cL_law 827 = .ok (.aload_n 0, 1) := by decide +kernel
theorem dL_law_828 : decode cL_law 828 = .ok (.iload_n 3, 1) := by decide +kernel
theorem dL_law_829 : decode cL_law 829 = .ok (.iconst 3, 1) := by decide +kernel
theorem dL_law_830 : decode cL_law 830 = .ok (.iadd, 1) := by decide +kernel
theorem dL_law_831 : decode cL_law 831 = .ok (.iaload, 1) := by decide +kernel
theorem dL_law_832 : decode cL_law 832 = .ok (.aload_n 0, 1) := by decide +kernel
theorem dL_law_833 : decode cL_law 833 = .ok (.iload_n 3, 1) := by decide +kernel
theorem dL_law_834 : decode cL_law 834 = .ok (.iconst 4, 1) := by decide +kernel
theorem dL_law_835 : decode cL_law 835 = .ok (.iadd, 1) := by decide +kernel
theorem dL_law_836 : decode cL_law 836 = .ok (.iaload, 1) := by decide +kernel
theorem dL_law_837 : decode cL_law 837 = .ok (.ifCond .eq 7, 3) := by decide +kernel
theorem dL_law_840 : decode cL_law 840 = .ok (.iconst 1, 1) := by decide +kernel
theorem dL_law_841 : decode cL_law 841 = .ok (.goto 4, 3) := by decide +kernel
theorem dL_law_844 : decode cL_law 844 = .ok (.iconst 0, 1) := by decide +kernel
theorem dL_law_845 : decode cL_law 845 = .ok (.invokevirtual 76, 3) := by decide +kernel
theorem dL_law_848 : decode cL_law 848 = .ok (.pop, 1) := by decide +kernel
theorem dL_law_849 : decode cL_law 849 = .ok (.goto 1012, 3) := by decide +kernel
theorem dL_law_852 : decode cL_law 852 = .ok (.aload_n 1, 1) := by decide +kernel
theorem dL_law_853 : decode cL_law 853 = .ok (.aload_n 0, 1) := by decide +kernel
theorem dL_law_854 : decode cL_law 854 = .ok (.iload_n 3, 1) := by decide +kernel
theorem dL_law_855 : decode cL_law 855 = .ok (.iconst 1, 1) := by decide +kernel
theorem dL_law_856 : decode cL_law 856 = .ok (.iadd, 1) := by decide +kernel
theorem dL_law_857 : decode cL_law 857 = .ok (.iaload, 1) := by decide +kernel
theorem dL_law_858 : decode cL_law 858 = .ok (.aload_n 0, 1) := by decide +kernel
theorem dL_law_859 : decode cL_law 859 = .ok (.iload_n 3, 1) := by decide +kernel
theorem dL_law_860 : decode cL_law 860 = .ok (.iconst 2, 1) := by decide +kernel
theorem dL_law_861 : decode cL_law 861 = .ok (.iadd, 1) := by decide +kernel
theorem dL_law_862 : decode cL_law 862 = .ok (.iaload, 1) := by decide +kernel
theorem dL_law_863 : decode cL_law 863 = .ok (.invokevirtual 77, 3) := by decide +kernel
theorem dL_law_866 : decode cL_law 866 = .ok (.pop, 1) := by decide +kernel
theorem dL_law_867 : decode cL_law 867 = .ok (.aload_n 2, 1) := by decide +kernel
theorem dL_law_868 : decode cL_law 868 = .ok (.aload_n 0, 1) := by decide +kernel
theorem dL_law_869 : decode cL_law 869 = .ok (.iload_n 3, 1) := by decide +kernel
theorem dL_law_870 : decode cL_law 870 = .ok (.iconst 1, 1) := by decide +kernel
theorem dL_law_871 : decode cL_law 871 = .ok (.iadd, 1) := by decide +kernel
theorem dL_law_872 : decode cL_law 872 = .ok (.iaload, 1) := by decide +kernel
theorem dL_law_873 : decode cL_law 873 = .ok (.aload_n 0, 1) := by decide +kernel
theorem dL_law_874 : decode cL_law 874 = .ok (.iload_n 3, 1) := by decide +kernel
theorem dL_law_875 : decode cL_law 875 = .ok (.iconst 2, 1) := by decide +kernel
theorem dL_law_876 : decode cL_law 876 = .ok (.iadd, 1) := by decide +kernel
theorem dL_law_877 : decode cL_law 877 = .ok (.iaload, 1) := by decide +kernel
theorem dL_law_878 : decode cL_law 878 = .ok (.invokevirtual 80, 3) := by decide +kernel
theorem dL_law_881 : decode cL_law 881 = .ok (.pop, 1) := by decide +kernel
theorem dL_law_882 : decode cL_law 882 = .ok (.goto 979, 3) := by decide +kernel
theorem dL_law_885 : decode cL_law 885 = .ok (.aload_n 1, 1) := by decide +kernel
theorem dL_law_886 : decode cL_law 886 = .ok (.aload_n 0, 1) := by decide +kernel
theorem dL_law_887 : decode cL_law 887 = .ok (.iload_n 3, 1) := by decide +kernel
theorem dL_law_888 : decode cL_law 888 = .ok (.iconst 1, 1) := by decide +kernel
theorem dL_law_889 : decode cL_law 889 = .ok (.iadd, 1) := by decide +kernel
theorem dL_law_890 : decode cL_law 890 = .ok (.iaload, 1) := by decide +kernel
theorem dL_law_891 : decode cL_law 891 = .ok (.aload_n 0, 1) := by decide +kernel
theorem dL_law_892 : decode cL_law 892 = .ok (.iload_n 3, 1) := by decide +kernel
theorem dL_law_893 : decode cL_law 893 = .ok (.iconst 2, 1) := by decide +kernel
theorem dL_law_894 : decode cL_law 894 = .ok (.iadd, 1) := by decide +kernel
theorem dL_law_895 : decode cL_law 895 = .ok (.iaload, 1) := by decide +kernel
theorem dL_law_896 : decode cL_law 896 = .ok (.invokevirtual 81, 3) := by decide +kernel
theorem dL_law_899 : decode cL_law 899 = .ok (.pop, 1) := by decide +kernel
theorem dL_law_900 : decode cL_law 900 = .ok (.aload_n 2, 1) := by decide +kernel
theorem dL_law_901 : decode cL_law 901 = .ok (.aload_n 0, 1) := by decide +kernel
theorem dL_law_902 : decode cL_law 902 = .ok (.iload_n 3, 1) := by decide +kernel
theorem dL_law_903 : decode cL_law 903 = .ok (.iconst 1, 1) := by decide +kernel
theorem dL_law_904 : decode cL_law 904 = .ok (.iadd, 1) := by decide +kernel
theorem dL_law_905 : decode cL_law 905 = .ok (.iaload, 1) := by decide +kernel
theorem dL_law_906 : decode cL_law 906 = .ok (.aload_n 0, 1) := by decide +kernel
theorem dL_law_907 : decode cL_law 907 = .ok (.iload_n 3, 1) := by decide +kernel
theorem dL_law_908 : decode cL_law 908 = .ok (.iconst 2, 1) := by decide +kernel
theorem dL_law_909 : decode cL_law 909 = .ok (.iadd, 1) := by decide +kernel
theorem dL_law_910 : decode cL_law 910 = .ok (.iaload, 1) := by decide +kernel
theorem dL_law_911 : decode cL_law 911 = .ok (.invokevirtual 84, 3) := by decide +kernel
theorem dL_law_914 : decode cL_law 914 = .ok (.pop, 1) := by decide +kernel
theorem dL_law_915 : decode cL_law 915 = .ok (.goto 946, 3) := by decide +kernel
theorem dL_law_918 : decode cL_law 918 = .ok (.aload_n 1, 1) := by decide +kernel
theorem dL_law_919 : decode cL_law 919 = .ok (.aload_n 0, 1) := by decide +kernel
theorem dL_law_920 : decode cL_law 920 = .ok (.iload_n 3, 1) := by decide +kernel
theorem dL_law_921 : decode cL_law 921 = .ok (.iconst 1, 1) := by decide +kernel
theorem dL_law_922 : decode cL_law 922 = .ok (.iadd, 1) := by decide +kernel
theorem dL_law_923 : decode cL_law 923 = .ok (.iaload, 1) := by decide +kernel
theorem dL_law_924 : decode cL_law 924 = .ok (.aload_n 0, 1) := by decide +kernel
theorem dL_law_925 : decode cL_law 925 = .ok (.iload_n 3, 1) := by decide +kernel
theorem dL_law_926 : decode cL_law 926 = .ok (.iconst 2, 1) := by decide +kernel
theorem dL_law_927 : decode cL_law 927 = .ok (.iadd, 1) := by decide +kernel
theorem dL_law_928 : decode cL_law 928 = .ok (.iaload, 1) := by decide +kernel
theorem dL_law_929 : decode cL_law 929 = .ok (.aload_n 0, 1) := by decide +kernel
theorem dL_law_930 : decode cL_law 930 = .ok (.iload_n 3, 1) := by decide +kernel
theorem dL_law_931 : decode cL_law 931 = .ok (.iconst 3, 1) := by decide +kernel
theorem dL_law_932 : decode cL_law 932 = .ok (.iadd, 1) := by decide +kernel
theorem dL_law_933 : decode cL_law 933 = .ok (.iaload, 1) := by decide +kernel
theorem dL_law_934 : decode cL_law 934 = .ok (.aload_n 0, 1) := by decide +kernel
theorem dL_law_935 : decode cL_law 935 = .ok (.iload_n 3, 1) := by decide +kernel
theorem dL_law_936 : decode cL_law 936 = .ok (.iconst 4, 1) := by decide +kernel
theorem dL_law_937 : decode cL_law 937 = .ok (.iadd, 1) := by decide +kernel
theorem dL_law_938 : decode cL_law 938 = .ok (.iaload, 1) := by decide +kernel
theorem dL_law_939 : decode cL_law 939 = .ok (.ifCond .eq 7, 3) := by decide +kernel
theorem dL_law_942 : decode cL_law 942 = .ok (.iconst 1, 1) := by decide +kernel
theorem dL_law_943 : decode cL_law 943 = .ok (.goto 4, 3) := by decide +kernel
theorem dL_law_946 : decode cL_law 946 = .ok (.iconst 0, 1) := by decide +kernel
theorem dL_law_947 : decode cL_law 947 = .ok (.invokevirtual 85, 3) := by decide +kernel
theorem dL_law_950 : decode cL_law 950 = .ok (.pop, 1) := by decide +kernel
theorem dL_law_951 : decode cL_law 951 = .ok (.aload_n 2, 1) := by decide +kernel
theorem dL_law_952 : decode cL_law 952 = .ok (.aload_n 0, 1) := by decide +kernel
theorem dL_law_953 : decode cL_law 953 = .ok (.iload_n 3, 1) := by decide +kernel
theorem dL_law_954 : decode cL_law 954 = .ok (.iconst 1, 1) := by decide +kernel
theorem dL_law_955 : decode cL_law 955 = .ok (.iadd, 1) := by decide +kernel
theorem dL_law_956 : decode cL_law 956 = .ok (.iaload, 1) := by decide +kernel
theorem dL_law_957 : decode cL_law 957 = .ok (.aload_n 0, 1) := by decide +kernel
theorem dL_law_958 : decode cL_law 958 = .ok (.iload_n 3, 1) := by decide +kernel
theorem dL_law_959 : decode cL_law 959 = .ok (.iconst 2, 1) := by decide +kernel
theorem dL_law_960 : decode cL_law 960 = .ok (.iadd, 1) := by decide +kernel
theorem dL_law_961 : decode cL_law 961 = .ok (.iaload, 1) := by decide +kernel
theorem dL_law_962 : decode cL_law 962 = .ok (.aload_n 0, 1) := by decide +kernel
theorem dL_law_963 : decode cL_law 963 = .ok (.iload_n 3, 1) := by decide +kernel
theorem dL_law_964 : decode cL_law 964 = .ok (.iconst 3, 1) := by decide +kernel
theorem dL_law_965 : decode cL_law 965 = .ok (.iadd, 1) := by decide +kernel
theorem dL_law_966 : decode cL_law 966 = .ok (.iaload, 1) := by decide +kernel
theorem dL_law_967 : decode cL_law 967 = .ok (.aload_n 0, 1) := by decide +kernel
theorem dL_law_968 : decode cL_law 968 = .ok (.iload_n 3, 1) := by decide +kernel
theorem dL_law_969 : decode cL_law 969 = .ok (.iconst 4, 1) := by decide +kernel
theorem dL_law_970 : decode cL_law 970 = .ok (.iadd, 1) := by decide +kernel
theorem dL_law_971 : decode cL_law 971 = .ok (.iaload, 1) := by decide +kernel
theorem dL_law_972 : decode cL_law 972 = .ok (.ifCond .eq 7, 3) := by decide +kernel
theorem dL_law_975 : decode cL_law 975 = .ok (.iconst 1, 1) := by decide +kernel
theorem dL_law_976 : decode cL_law 976 = .ok (.goto 4, 3) := by decide +kernel
theorem dL_law_979 : decode cL_law 979 = .ok (.iconst 0, 1) := by decide +kernel
theorem dL_law_980 : decode cL_law 980 = .ok (.invokevirtual 88, 3) := by decide +kernel
theorem dL_law_983 : decode cL_law 983 = .ok (.pop, 1) := by decide +kernel
theorem dL_law_984 : decode cL_law 984 = .ok (.goto 877, 3) := by decide +kernel
theorem dL_law_987 : decode cL_law 987 = .ok (.aload_n 1, 1) := by decide +kernel
theorem dL_law_988 : decode cL_law 988 = .ok (.aload_n 0, 1) := by decide +kernel
theorem dL_law_989 : decode cL_law 989 = .ok (.iload_n 3, 1) := by decide +kernel
theorem dL_law_990 : decode cL_law 990 = .ok (.iconst 1, 1) := by decide +kernel
theorem dL_law_991 : decode cL_law 991 = .ok (.iadd, 1) := by decide +kernel
theorem dL_law_992 : decode cL_law 992 = .ok (.iaload, 1) := by decide +kernel
theorem dL_law_993 : decode cL_law 993 = .ok (.aload_n 0, 1) := by decide +kernel
theorem dL_law_994 : decode cL_law 994 = .ok (.iload_n 3, 1) := by decide +kernel
theorem dL_law_995 : decode cL_law 995 = .ok (.iconst 2, 1) := by decide +kernel
theorem dL_law_996 : decode cL_law 996 = .ok (.iadd, 1) := by decide +kernel
theorem dL_law_997 : decode cL_law 997 = .ok (.iaload, 1) := by decide +kernel
theorem dL_law_998 : decode cL_law 998 = .ok (.aload_n 0, 1) := by decide +kernel
theorem dL_law_999 : decode cL_law 999 = .ok (.iload_n 3, 1) := by decide +kernel
theorem dL_law_1000 : decode cL_law 1000 = .ok (.iconst 3, 1) := by decide +kernel
theorem dL_law_1001 : decode cL_law 1001 = .ok (.iadd, 1) := by decide +kernel
theorem dL_law_1002 : decode cL_law 1002 = .ok (.iaload, 1) := by decide +kernel
theorem dL_law_1003 : decode cL_law 1003 = .ok (.aload_n 0, 1) := by decide +kernel
theorem dL_law_1004 : decode cL_law 1004 = .ok (.iload_n 3, 1) := by decide +kernel
theorem dL_law_1005 : decode cL_law 1005 = .ok (.iconst 4, 1) := by decide +kernel
theorem dL_law_1006 : decode cL_law 1006 = .ok (.iadd, 1) := by decide +kernel
theorem dL_law_1007 : decode cL_law 1007 = .ok (.iaload, 1) := by decide +kernel
theorem dL_law_1008 : decode cL_law 1008 = .ok (.invokevirtual 89, 3) := by decide +kernel
theorem dL_law_1011 : decode cL_law 1011 = .ok (.pop, 1) := by decide +kernel
theorem dL_law_1012 : decode cL_law 1012 = .ok (.aload_n 2, 1) := by decide +kernel
theorem dL_law_1013 : decode cL_law 1013 = .ok (.aload_n 0, 1) := by decide +kernel
theorem dL_law_1014 : decode cL_law 1014 = .ok (.iload_n 3, 1) := by decide +kernel
theorem dL_law_1015 : decode cL_law 1015 = .ok (.iconst 1, 1) := by decide +kernel
theorem dL_law_1016 : decode cL_law 1016 = .ok (.iadd, 1) := by decide +kernel
theorem dL_law_1017 : decode cL_law 1017 = .ok (.iaload, 1) := by decide +kernel
theorem dL_law_1018 : decode cL_law 1018 = .ok (.aload_n 0, 1) := by decide +kernel
theorem dL_law_1019 : decode cL_law 1019 = .ok (.iload_n 3, 1) := by decide +kernel
theorem dL_law_1020 : decode cL_law 1020 = .ok (.iconst 2, 1) := by decide +kernel
theorem dL_law_1021 : decode cL_law 1021 = .ok (.iadd, 1) := by decide +kernel
theorem dL_law_1022 : decode cL_law 1022 = .ok (.iaload, 1) := by decide +kernel
theorem dL_law_1023 : decode cL_law 1023 = .ok (.aload_n 0, 1) := by decide +kernel
theorem dL_law_1024 : decode cL_law 1024 = .ok (.iload_n 3, 1) := by decide +kernel
theorem dL_law_1025 : decode cL_law 1025 = .ok (.iconst 3, 1) := by decide +kernel
theorem dL_law_1026 : decode cL_law 1026 = .ok (.iadd, 1) := by decide +kernel
theorem dL_law_1027 : decode cL_law 1027 = .ok (.iaload, 1) := by decide +kernel
theorem dL_law_1028 : decode cL_law 1028 = .ok (.aload_n 0, 1) := by decide +kernel
theorem dL_law_1029 : decode cL_law 1029 = .ok (.iload_n 3, 1) := by decide +kernel
theorem dL_law_1030 : decode cL_law 1030 = .ok (.iconst 4, 1) := by decide +kernel
theorem dL_law_1031 : decode cL_law 1031 = .ok (.iadd, 1) := by decide +kernel
theorem dL_law_1032 : decode cL_law 1032 = .ok (.iaload, 1) := by decide +kernel
theorem dL_law_1033 : decode cL_law 1033 = .ok (.invokevirtual 92, 3) := by decide +kernel
theorem dL_law_1036 : decode cL_law 1036 = .ok (.pop, 1) := by decide +kernel
theorem dL_law_1037 : decode cL_law 1037 = .ok (.goto 824, 3) := by decide +kernel
theorem dL_law_1040 : decode cL_law 1040 = .ok (.aload_n 1, 1) := by decide +kernel
theorem dL_law_1041 : decode cL_law 1041 = .ok (.aload_n 0, 1) := by decide +kernel
theorem dL_law_1042 : decode cL_law 1042 = .ok (.iload_n 3, 1) := by decide +kernel
theorem dL_law_1043 : decode cL_law 1043 = .ok (.iconst 1, 1) := by decide +kernel
theorem dL_law_1044 : decode cL_law 1044 = .ok (.iadd, 1) := by decide +kernel
theorem dL_law_1045 : decode cL_law 1045 = .ok (.iaload, 1) := by decide +kernel
theorem dL_law_1046 : decode cL_law 1046 = .ok (.aload_n 0, 1) := by decide +kernel
theorem dL_law_1047 : decode cL_law 1047 = .ok (.iload_n 3, 1) := by decide +kernel
theorem dL_law_1048 : decode cL_law 1048 = .ok (.iconst 2, 1) := by decide +kernel
theorem dL_law_1049 : decode cL_law 1049 = .ok (.iadd, 1) := by decide +kernel
theorem dL_law_1050 : decode cL_law 1050 = .ok (.iaload, 1) := by decide +kernel
theorem dL_law_1051 : decode cL_law 1051 = .ok (.aload_n 0, 1) := by decide +kernel
theorem dL_law_1052 : decode cL_law 1052 = .ok (.iload_n 3, 1) := by decide +kernel
theorem dL_law_1053 : decode cL_law 1053 = .ok (.iconst 3, 1) := by decide +kernel
theorem dL_law_1054 : decode cL_law 1054 = .ok (.iadd, 1) := by decide +kernel
theorem dL_law_1055 : decode cL_law 1055 = .ok (.iaload, 1) := by decide +kernel
theorem dL_law_1056 : decode cL_law 1056 = .ok (.invokevirtual 93, 3) := by decide +kernel
theorem dL_law_1059 : decode cL_law 1059 = .ok (.pop, 1) := by decide +kernel
theorem dL_law_1060 : decode cL_law 1060 = .ok (.aload_n 2, 1) := by decide +kernel
theorem dL_law_1061 : decode cL_law 1061 = .ok (.aload_n 0, 1) := by decide +kernel
theorem dL_law_1062 : decode cL_law 1062 = .ok (.iload_n 3, 1) := by decide +kernel
theorem dL_law_1063 : decode cL_law 1063 = .ok (.iconst 1, 1) := by decide +kernel
theorem dL_law_1064 : decode cL_law 1064 = .ok (.iadd, 1) := by decide +kernel
theorem dL_law_1065 : decode cL_law 1065 = .ok (.iaload, 1) := by decide +kernel
theorem dL_law_1066 : decode cL_law 1066 = .ok (.aload_n 0, 1) := by decide +kernel
theorem dL_law_1067 : decode cL_law 1067 = .ok (.iload_n 3, 1) := by decide +kernel
theorem dL_law_1068 : decode cL_law 1068 = .ok (.iconst 2, 1) := by decide +kernel
theorem dL_law_1069 : decode cL_law 1069 = .ok (.iadd, 1) := by decide +kernel
theorem dL_law_1070 : decode cL_law 1070 = .ok (.iaload, 1) := by decide +kernel
theorem dL_law_1071 : decode cL_law 1071 = .ok (.aload_n 0, 1) := by decide +kernel
theorem dL_law_1072 : decode cL_law 1072 = .ok (.iload_n 3, 1) := by decide +kernel
theorem dL_law_1073 : decode cL_law 1073 = .ok (.iconst 3, 1) := by decide +kernel
theorem dL_law_1074 : decode cL_law 1074 = .ok (.iadd, 1) := by decide +kernel
theorem dL_law_1075 : decode cL_law 1075 = .ok (.iaload, 1) := by decide +kernel
theorem dL_law_1076 : decode cL_law 1076 = .ok (.invokevirtual 96, 3) := by decide +kernel
theorem dL_law_1079 : decode cL_law 1079 = .ok (.pop, 1) := by decide +kernel
theorem dL_law_1080 : decode cL_law 1080 = .ok (.goto 781, 3) := by decide +kernel
theorem dL_law_1083 : decode cL_law 1083 = .ok (.aload_n 1, 1) := by decide +kernel
theorem dL_law_1084 : decode cL_law 1084 = .ok (.aload_n 0, 1) := by decide +kernel
theorem dL_law_1085 : decode cL_law 1085 = .ok (.iload_n 3, 1) := by decide +kernel
theorem dL_law_1086 : decode cL_law 1086 = .ok (.iconst 1, 1) := by decide +kernel
theorem dL_law_1087 : decode cL_law 1087 = .ok (.iadd, 1) := by decide +kernel
theorem dL_law_1088 : decode cL_law 1088 = .ok (.iaload, 1) := by decide +kernel
theorem dL_law_1089 : decode cL_law 1089 = .ok (.aload_n 0, 1) := by decide +kernel
theorem dL_law_1090 : decode cL_law 1090 = .ok (.iload_n 3, 1) := by decide +kernel
theorem dL_law_1091 : decode cL_law 1091 = .ok (.iconst 2, 1) := by decide +kernel
theorem dL_law_1092 : decode cL_law 1092 = .ok (.iadd, 1) := by decide +kernel
theorem dL_law_1093 : decode cL_law 1093 = .ok (.iaload, 1) := by decide +kernel
theorem dL_law_1094 : decode cL_law 1094 = .ok (.invokevirtual 97, 3) := by decide +kernel
theorem dL_law_1097 : decode cL_law 1097 = .ok (.pop, 1) := by decide +kernel
theorem dL_law_1098 : decode cL_law 1098 = .ok (.aload_n 2, 1) := by decide +kernel
theorem dL_law_1099 : decode cL_law 1099 = .ok (.aload_n 0, 1) := by decide +kernel
theorem dL_law_1100 : decode cL_law 1100 = .ok (.iload_n 3, 1) := by decide +kernel
theorem dL_law_1101 : decode cL_law 1101 = .ok (.iconst 1, 1) := by decide +kernel
theorem dL_law_1102 : decode cL_law 1102 = .ok (.iadd, 1) := by decide +kernel
theorem dL_law_1103 : decode cL_law 1103 = .ok (.iaload, 1) := by decide +kernel
theorem dL_law_1104 : decode cL_law 1104 = .ok (.aload_n 0, 1) := by decide +kernel
theorem dL_law_1105 : decode cL_law 1105 = .ok (.iload_n 3, 1) := by decide +kernel
theorem dL_law_1106 : decode cL_law 1106 = .ok (.iconst 2, 1) := by decide +kernel
theorem dL_law_1107 : decode cL_law 1107 = .ok (.iadd, 1) := by decide +kernel
theorem dL_law_1108 : decode cL_law 1108 = .ok (.iaload, 1) := by decide +kernel
theorem dL_law_1109 : decode cL_law 1109 = .ok (.invokevirtual 100, 3) := by decide +kernel
theorem dL_law_1112 : decode cL_law 1112 = .ok (.pop, 1) := by decide +kernel
theorem dL_law_1113 : decode cL_law 1113 = .ok (.goto 748, 3) := by decide +kernel
theorem dL_law_1116 : decode cL_law 1116 = .ok (.aload_n 1, 1) := by decide +kernel
theorem dL_law_1117 : decode cL_law 1117 = .ok (.aload_n 0, 1) := by decide +kernel
theorem dL_law_1118 : decode cL_law 1118 = .ok (.iload_n 3, 1) := by decide +kernel
theorem dL_law_1119 : decode cL_law 1119 = .ok (.iconst 1, 1) := by decide +kernel
theorem dL_law_1120 : decode cL_law 1120 = .ok (.iadd, 1) := by decide +kernel
theorem dL_law_1121 : decode cL_law 1121 = .ok (.iaload, 1) := by decide +kernel
theorem dL_law_1122 : decode cL_law 1122 = .ok (.aload_n 0, 1) := by decide +kernel
theorem dL_law_1123 : decode cL_law 1123 = .ok (.iload_n 3, 1) := by decide +kernel
theorem dL_law_1124 : decode cL_law 1124 = .ok (.iconst 2, 1) := by decide +kernel
theorem dL_law_1125 : decode cL_law 1125 = .ok (.iadd, 1) := by decide +kernel
theorem dL_law_1126 : decode cL_law 1126 = .ok (.iaload, 1) := by decide +kernel
theorem dL_law_1127 : decode cL_law 1127 = .ok (.aload_n 0, 1) := by decide +kernel
theorem dL_law_1128 : decode cL_law 1128 = .ok (.iload_n 3, 1) := by decide +kernel
theorem dL_law_1129 : decode cL_law 1129 = .ok (.iconst 3, 1) := by decide +kernel
theorem dL_law_1130 : decode cL_law 1130 = .ok (.iadd, 1) := by decide +kernel
theorem dL_law_1131 : decode cL_law 1131 = .ok (.iaload, 1) := by decide +kernel
theorem dL_law_1132 : decode cL_law 1132 = .ok (.invokevirtual 101, 3) := by decide +kernel
theorem dL_law_1135 : decode cL_law 1135 = .ok (.pop, 1) := by decide +kernel
theorem dL_law_1136 : decode cL_law 1136 = .ok (.aload_n 2, 1) := by decide +kernel
theorem dL_law_1137 : decode cL_law 1137 = .ok (.aload_n 0, 1) := by decide +kernel
theorem dL_law_1138 : decode cL_law 1138 = .ok (.iload_n 3, 1) := by decide +kernel
theorem dL_law_1139 : decode cL_law 1139 = .ok (.iconst 1, 1) := by decide +kernel
theorem dL_law_1140 : decode cL_law 1140 = .ok (.iadd, 1) := by decide +kernel
theorem dL_law_1141 : decode cL_law 1141 = .ok (.iaload, 1) := by decide +kernel
theorem dL_law_1142 : decode cL_law 1142 = .ok (.aload_n 0, 1) := by decide +kernel
theorem dL_law_1143 : decode cL_law 1143 = .ok (.iload_n 3, 1) := by decide +kernel
theorem dL_law_1144 : decode cL_law 1144 = .ok (.iconst 2, 1) := by decide +kernel
theorem dL_law_1145 : decode cL_law 1145 = .ok (.iadd, 1) := by decide +kernel
theorem dL_law_1146 : decode cL_law 1146 = .ok (.iaload, 1) := by decide +kernel
theorem dL_law_1147 : decode cL_law 1147 = .ok (.aload_n 0, 1) := by decide +kernel
theorem dL_law_1148 : decode cL_law 1148 = .ok (.iload_n 3, 1) := by decide +kernel
theorem dL_law_1149 : decode cL_law 1149 = .ok (.iconst 3, 1) := by decide +kernel
theorem dL_law_1150 : decode cL_law 1150 = .ok (.iadd, 1) := by decide +kernel
theorem dL_law_1151 : decode cL_law 1151 = .ok (.iaload, 1) := by decide +kernel
theorem dL_law_1152 : decode cL_law 1152 = .ok (.invokevirtual 104, 3) := by decide +kernel
theorem dL_law_1155 : decode cL_law 1155 = .ok (.pop, 1) := by decide +kernel
theorem dL_law_1156 : decode cL_law 1156 = .ok (.goto 705, 3) := by decide +kernel
theorem dL_law_1159 : decode cL_law 1159 = .ok (.aload_n 1, 1) := by decide +kernel
theorem dL_law_1160 : decode cL_law 1160 = .ok (.aload_n 0, 1) := by decide +kernel
theorem dL_law_1161 : decode cL_law 1161 = .ok (.iload_n 3, 1) := by decide +kernel
theorem dL_law_1162 : decode cL_law 1162 = .ok (.iconst 1, 1) := by decide +kernel
theorem dL_law_1163 : decode cL_law 1163 = .ok (.iadd, 1) := by decide +kernel
theorem dL_law_1164 : decode cL_law 1164 = .ok (.iaload, 1) := by decide +kernel
theorem dL_law_1165 : decode cL_law 1165 = .ok (.aload_n 0, 1) := by decide +kernel
theorem dL_law_1166 : decode cL_law 1166 = .ok (.iload_n 3, 1) := by decide +kernel
theorem dL_law_1167 : decode cL_law 1167 = .ok (.iconst 2, 1) := by decide +kernel
theorem dL_law_1168 : decode cL_law 1168 = .ok (.iadd, 1) := by decide +kernel
theorem dL_law_1169 : decode cL_law 1169 = .ok (.iaload, 1) := by decide +kernel
theorem dL_law_1170 : decode cL_law 1170 = .ok (.aload_n 0, 1) := by decide +kernel
theorem dL_law_1171 : decode cL_law 1171 = .ok (.iload_n 3, 1) := by decide +kernel
theorem dL_law_1172 : decode cL_law 1172 = .ok (.iconst 3, 1) := by decide +kernel
theorem dL_law_1173 : decode cL_law 1173 = .ok (.iadd, 1) := by decide +kernel
theorem dL_law_1174 : decode cL_law 1174 = .ok (.iaload, 1) := by decide +kernel
theorem dL_law_1175 : decode cL_law 1175 = .ok (.invokevirtual 105, 3) := by decide +kernel
theorem dL_law_1178 : decode cL_law 1178 = .ok (.pop, 1) := by decide +kernel
theorem dL_law_1179 : decode cL_law 1179 = .ok (.aload_n 2, 1) := by decide +kernel
theorem dL_law_1180 : decode cL_law 1180 = .ok (.aload_n 0, 1) := by decide +kernel
theorem dL_law_1181 : decode cL_law 1181 = .ok (.iload_n 3, 1) := by decide +kernel
theorem dL_law_1182 : decode cL_law 1182 = .ok (.iconst 1, 1) := by decide +kernel
theorem dL_law_1183 : decode cL_law 1183 = .ok (.iadd, 1) := by decide +kernel
theorem dL_law_1184 : decode cL_law 1184 = .ok (.iaload, 1) := by decide +kernel
theorem dL_law_1185 : decode cL_law 1185 = .ok (.aload_n 0, 1) := by decide +kernel
theorem dL_law_1186 : decode cL_law 1186 = .ok (.iload_n 3, 1) := by decide +kernel
theorem dL_law_1187 : decode cL_law 1187 = .ok (.iconst 2, 1) := by decide +kernel
theorem dL_law_1188 : decode cL_law 1188 = .ok (.iadd, 1) := by decide +kernel
theorem dL_law_1189 : decode cL_law 1189 = .ok (.iaload, 1) := by decide +kernel
theorem dL_law_1190 : decode cL_law 1190 = .ok (.aload_n 0, 1) := by decide +kernel
theorem dL_law_1191 : decode cL_law 1191 = .ok (.iload_n 3, 1) := by decide +kernel
theorem dL_law_1192 : decode cL_law 1192 = .ok (.iconst 3, 1) := by decide +kernel
theorem dL_law_1193 : decode cL_law 1193 = .ok (.iadd, 1) := by decide +kernel
theorem dL_law_1194 : decode cL_law 1194 = .ok (.iaload, 1) := by decide +kernel
theorem dL_law_1195 : decode cL_law 1195 = .ok (.invokevirtual 108, 3) := by decide +kernel
theorem dL_law_1198 : decode cL_law 1198 = .ok (.pop, 1) := by decide +kernel
theorem dL_law_1199 : decode cL_law 1199 = .ok (.goto 662, 3) := by decide +kernel
theorem dL_law_1202 : decode cL_law 1202 = .ok (.aload_n 1, 1) := by decide +kernel
theorem dL_law_1203 : decode cL_law 1203 = .ok (.aload_n 0, 1) := by decide +kernel
theorem dL_law_1204 : decode cL_law 1204 = .ok (.iload_n 3, 1) := by decide +kernel
theorem dL_law_1205 : decode cL_law 1205 = .ok (.iconst 1, 1) := by decide +kernel
theorem dL_law_1206 : decode cL_law 1206 = .ok (.iadd, 1) := by decide +kernel
theorem dL_law_1207 : decode cL_law 1207 = .ok (.iaload, 1) := by decide +kernel
theorem dL_law_1208 : decode cL_law 1208 = .ok (.aload_n 0, 1) := by decide +kernel
theorem dL_law_1209 : decode cL_law 1209 = .ok (.iload_n 3, 1) := by decide +kernel
theorem dL_law_1210 : decode cL_law 1210 = .ok (.iconst 2, 1) := by decide +kernel
theorem dL_law_1211 : decode cL_law 1211 = .ok (.iadd, 1) := by decide +kernel
theorem dL_law_1212 : decode cL_law 1212 = .ok (.iaload, 1) := by decide +kernel
theorem dL_law_1213 : decode cL_law 1213 = .ok (.aload_n 0, 1) := by decide +kernel
theorem dL_law_1214 : decode cL_law 1214 = .ok (.iload_n 3, 1) := by decide +kernel
theorem dL_law_1215 : decode cL_law 1215 = .ok (.iconst 3, 1) := by decide +kernel
theorem dL_law_1216 : decode cL_law 1216 = .ok (.iadd, 1) := by decide +kernel
theorem dL_law_1217 : decode cL_law 1217 = .ok (.iaload, 1) := by decide +kernel
theorem dL_law_1218 : decode cL_law 1218 = .ok (.invokevirtual 109, 3) := by decide +kernel
theorem dL_law_1221 : decode cL_law 1221 = .ok (.pop, 1) := by decide +kernel
theorem dL_law_1222 : decode cL_law 1222 = .ok (.aload_n 2, 1) := by decide +kernel
theorem dL_law_1223 : decode cL_law 1223 = .ok (.aload_n 0, 1) := by decide +kernel
theorem dL_law_1224 : decode cL_law 1224 = .ok (.iload_n 3, 1) := by decide +kernel
theorem dL_law_1225 : decode cL_law 1225 = .ok (.iconst 1, 1) := by decide +kernel
theorem dL_law_1226 : decode cL_law 1226 = .ok (.iadd, 1) := by decide +kernel
theorem dL_law_1227 : decode cL_law 1227 = .ok (.iaload, 1) := by decide +kernel
theorem dL_law_1228 : decode cL_law 1228 = .ok (.aload_n 0, 1) := by decide +kernel
theorem dL_law_1229 : decode cL_law 1229 = .ok (.iload_n 3, 1) := by decide +kernel
theorem dL_law_1230 : decode cL_law 1230 = .ok (.iconst 2, 1) := by decide +kernel
theorem dL_law_1231 : decode cL_law 1231 = .ok (.iadd, 1) := by decide +kernel
theorem dL_law_1232 : decode cL_law 1232 = .ok (.iaload, 1) := by decide +kernel
theorem dL_law_1233 : decode cL_law 1233 = .ok (.aload_n 0, 1) := by decide +kernel
theorem dL_law_1234 : decode cL_law 1234 = .ok (.iload_n 3, 1) := by decide +kernel
theorem dL_law_1235 : decode cL_law 1235 = .ok (.iconst 3, 1) := by decide +kernel
theorem dL_law_1236 : decode cL_law 1236 = .ok (.iadd, 1) := by decide +kernel
theorem dL_law_1237 : decode cL_law 1237 = .ok (.iaload, 1) := by decide +kernel
theorem dL_law_1238 : decode cL_law 1238 = .ok (.invokevirtual 112, 3) := by decide +kernel
theorem dL_law_1241 : decode cL_law 1241 = .ok (.pop, 1) := by decide +kernel
theorem dL_law_1242 : decode cL_law 1242 = .ok (.goto 619, 3) := by decide +kernel
theorem dL_law_1245 : decode cL_law 1245 = .ok (.aload_n 1, 1) := by decide +kernel
theorem dL_law_1246 : decode cL_law 1246 = .ok (.aload_n 0, 1) := by decide +kernel
theorem dL_law_1247 : decode cL_law 1247 = .ok (.iload_n 3, 1) := by decide +kernel
theorem dL_law_1248 : decode cL_law 1248 = .ok (.iconst 1, 1) := by decide +kernel
theorem dL_law_1249 : decode cL_law 1249 = .ok (.iadd, 1) := by decide +kernel
theorem dL_law_1250 : decode cL_law 1250 = .ok (.iaload, 1) := by decide +kernel
theorem dL_law_1251 : decode cL_law 1251 = .ok (.aload_n 0, 1) := by decide +kernel
theorem dL_law_1252 : decode cL_law 1252 = .ok (.iload_n 3, 1) := by decide +kernel
theorem dL_law_1253 : decode cL_law 1253 = .ok (.iconst 2, 1) := by decide +kernel
theorem dL_law_1254 : decode cL_law 1254 = .ok (.iadd, 1) := by decide +kernel
theorem dL_law_1255 : decode cL_law 1255 = .ok (.iaload, 1) := by decide +kernel
theorem dL_law_1256 : decode cL_law 1256 = .ok (.aload_n 0, 1) := by decide +kernel
theorem dL_law_1257 : decode cL_law 1257 = .ok (.iload_n 3, 1) := by decide +kernel
theorem dL_law_1258 : decode cL_law 1258 = .ok (.iconst 3, 1) := by decide +kernel
theorem dL_law_1259 : decode cL_law 1259 = .ok (.iadd, 1) := by decide +kernel
theorem dL_law_1260 : decode cL_law 1260 = .ok (.iaload, 1) := by decide +kernel
theorem dL_law_1261 : decode cL_law 1261 = .ok (.invokevirtual 113, 3) := by decide +kernel
theorem dL_law_1264 : decode cL_law 1264 = .ok (.pop, 1) := by decide +kernel
theorem dL_law_1265 : decode cL_law 1265 = .ok (.aload_n 2, 1) := by decide +kernel
theorem dL_law_1266 : decode cL_law 1266 = .ok (.aload_n 0, 1) := by decide +kernel
theorem dL_law_1267 : decode cL_law 1267 = .ok (.iload_n 3, 1) := by decide +kernel
theorem dL_law_1268 : decode cL_law 1268 = .ok (.iconst 1, 1) := by decide +kernel
theorem dL_law_1269 : decode cL_law 1269 = .ok (.iadd, 1) := by decide +kernel
theorem dL_law_1270 : decode cL_law 1270 = .ok (.iaload, 1) := by decide +kernel
theorem dL_law_1271 : decode cL_law 1271 = .ok (.aload_n 0, 1) := by decide +kernel
theorem dL_law_1272 : decode cL_law 1272 = .ok (.iload_n 3, 1) := by decide +kernel
theorem dL_law_1273 : decode cL_law 1273 = .ok (.iconst 2, 1) := by decide +kernel
theorem dL_law_1274 : decode cL_law 1274 = .ok (.iadd, 1) := by decide +kernel
theorem dL_law_1275 : decode cL_law 1275 = .ok (.iaload, 1) := by decide +kernel
theorem dL_law_1276 : decode cL_law 1276 = .ok (.aload_n 0, 1) := by decide +kernel
theorem dL_law_1277 : decode cL_law 1277 = .ok (.iload_n 3, 1) := by decide +kernel
theorem dL_law_1278 : decode cL_law 1278 = .ok (.iconst 3, 1) := by decide +kernel
theorem dL_law_1279 : decode cL_law 1279 = .ok (.iadd, 1) := by decide +kernel
theorem dL_law_1280 : decode cL_law 1280 = .ok (.iaload, 1) := by decide +kernel
theorem dL_law_1281 : decode cL_law 1281 = .ok (.invokevirtual 116, 3) := by decide +kernel
theorem dL_law_1284 : decode cL_law 1284 = .ok (.pop, 1) := by decide +kernel
theorem dL_law_1285 : decode cL_law 1285 = .ok (.goto 576, 3) := by decide +kernel
theorem dL_law_1288 : decode cL_law 1288 = .ok (.aload_n 1, 1) := by decide +kernel
theorem dL_law_1289 : decode cL_law 1289 = .ok (.aload_n 0, 1) := by decide +kernel
theorem dL_law_1290 : decode cL_law 1290 = .ok (.iload_n 3, 1) := by decide +kernel
theorem dL_law_1291 : decode cL_law 1291 = .ok (.iconst 1, 1) := by decide +kernel
theorem dL_law_1292 : decode cL_law 1292 = .ok (.iadd, 1) := by decide +kernel
theorem dL_law_1293 : decode cL_law 1293 = .ok (.iaload, 1) := by decide +kernel
theorem dL_law_1294 : decode cL_law 1294 = .ok (.aload_n 0, 1) := by decide +kernel
theorem dL_law_1295 : decode cL_law 1295 = .ok (.iload_n 3, 1) := by decide +kernel
theorem dL_law_1296 : decode cL_law 1296 = .ok (.iconst 2, 1) := by decide +kernel
theorem dL_law_1297 : decode cL_law 1297 = .ok (.iadd, 1) := by decide +kernel
theorem dL_law_1298 : decode cL_law 1298 = .ok (.iaload, 1) := by decide +kernel
theorem dL_law_1299 : decode cL_law 1299 = .ok (.aload_n 0, 1) := by decide +kernel
theorem dL_law_1300 : decode cL_law 1300 = .ok (.iload_n 3, 1) := by decide +kernel
theorem dL_law_1301 : decode cL_law 1301 = .ok (.iconst 3, 1) := by decide +kernel
theorem dL_law_1302 : decode cL_law 1302 = .ok (.iadd, 1) := by decide +kernel
theorem dL_law_1303 : decode cL_law 1303 = .ok (.iaload, 1) := by decide +kernel
theorem dL_law_1304 : decode cL_law 1304 = .ok (.aload_n 0, 1) := by decide +kernel
theorem dL_law_1305 : decode cL_law 1305 = .ok (.iload_n 3, 1) := by decide +kernel
theorem dL_law_1306 : decode cL_law 1306 = .ok (.iconst 4, 1) := by decide +kernel
theorem dL_law_1307 : decode cL_law 1307 = .ok (.iadd, 1) := by decide +kernel
theorem dL_law_1308 : decode cL_law 1308 = .ok (.iaload, 1) := by decide +kernel
theorem dL_law_1309 : decode cL_law 1309 = .ok (.invokevirtual 117, 3) := by decide +kernel
theorem dL_law_1312 : decode cL_law 1312 = .ok (.pop, 1) := by decide +kernel
theorem dL_law_1313 : decode cL_law 1313 = .ok (.aload_n 2, 1) := by decide +kernel
theorem dL_law_1314 : decode cL_law 1314 = .ok (.aload_n 0, 1) := by decide +kernel
theorem dL_law_1315 : decode cL_law 1315 = .ok (.iload_n 3, 1) := by decide +kernel
theorem dL_law_1316 : decode cL_law 1316 = .ok (.iconst 1, 1) := by decide +kernel
theorem dL_law_1317 : decode cL_law 1317 = .ok (.iadd, 1) := by decide +kernel
theorem dL_law_1318 : decode cL_law 1318 = .ok (.iaload, 1) := by decide +kernel
theorem dL_law_1319 : decode cL_law 1319 = .ok (.aload_n 0, 1) := by decide +kernel
theorem dL_law_1320 : decode cL_law 1320 = .ok (.iload_n 3, 1) := by decide +kernel
theorem dL_law_1321 : decode cL_law 1321 = .ok (.iconst 2, 1) := by decide +kernel
theorem dL_law_1322 : decode cL_law 1322 = .ok (.iadd, 1) := by decide +kernel
theorem dL_law_1323 : decode cL_law 1323 = .ok (.iaload, 1) := by decide +kernel
theorem dL_law_1324 : decode cL_law 1324 = .ok (.aload_n 0, 1) := by decide +kernel
theorem dL_law_1325 : decode cL_law 1325 = .ok (.iload_n 3, 1) := by decide +kernel
theorem dL_law_1326 : decode cL_law 1326 = .ok (.iconst 3, 1) := by decide +kernel
theorem dL_law_1327 : decode cL_law 1327 = .ok (.iadd, 1) := by decide +kernel
theorem dL_law_1328 : decode cL_law 1328 = .ok (.iaload, 1) := by decide +kernel
theorem dL_law_1329 : decode cL_law 1329 = .ok (.aload_n 0, 1) := by decide +kernel
theorem dL_law_1330 : decode cL_law 1330 = .ok (.iload_n 3, 1) := by decide +kernel
theorem dL_law_1331 : decode cL_law 1331 = .ok (.iconst 4, 1) := by decide +kernel
theorem dL_law_1332 : decode cL_law 1332 = .ok (.iadd, 1) := by decide +kernel
theorem dL_law_1333 : decode cL_law 1333 = .ok (.iaload, 1) := by decide +kernel
theorem dL_law_1334 : decode cL_law 1334 = .ok (.invokevirtual 120, 3) := by decide +kernel
theorem dL_law_1337 : decode cL_law 1337 = .ok (.pop, 1) := by decide +kernel
theorem dL_law_1338 : decode cL_law 1338 = .ok (.goto 523, 3) := by decide +kernel
theorem dL_law_1341 : decode cL_law 1341 = .ok (.aload_n 1, 1) := by decide +kernel
theorem dL_law_1342 : decode cL_law 1342 = .ok (.aload_n 0, 1) := by decide +kernel
theorem dL_law_1343 : decode cL_law 1343 = .ok (.iload_n 3, 1) := by decide +kernel
theorem dL_law_1344 : decode cL_law 1344 = .ok (.iconst 1, 1) := by decide +kernel
theorem dL_law_1345 : decode cL_law 1345 = .ok (.iadd, 1) := by decide +kernel
theorem dL_law_1346 : decode cL_law 1346 = .ok (.iaload, 1) := by decide +kernel
theorem dL_law_1347 : decode cL_law 1347 = .ok (.aload_n 0, 1) := by decide +kernel
theorem dL_law_1348 : decode cL_law 1348 = .ok (.iload_n 3, 1) := by decide +kernel
theorem dL_law_1349 : decode cL_law 1349 = .ok (.iconst 2, 1) := by decide +kernel
theorem dL_law_1350 : decode cL_law 1350 = .ok (.iadd, 1) := by decide +kernel
theorem dL_law_1351 : decode cL_law 1351 = .ok (.iaload, 1) := by decide +kernel
theorem dL_law_1352 : decode cL_law 1352 = .ok (.aload_n 0, 1) := by decide +kernel
theorem dL_law_1353 : decode cL_law 1353 = .ok (.iload_n 3, 1) := by decide +kernel
theorem dL_law_1354 : decode cL_law 1354 = .ok (.iconst 3, 1) := by decide +kernel
theorem dL_law_1355 : decode cL_law 1355 = .ok (.iadd, 1) := by decide +kernel
theorem dL_law_1356 : decode cL_law 1356 = .ok (.iaload, 1) := by decide +kernel
theorem dL_law_1357 : decode cL_law 1357 = .ok (.invokevirtual 121, 3) := by decide +kernel
theorem dL_law_1360 : decode cL_law 1360 = .ok (.pop, 1) := by decide +kernel
theorem dL_law_1361 : decode cL_law 1361 = .ok (.aload_n 2, 1) := by decide +kernel
theorem dL_law_1362 : decode cL_law 1362 = .ok (.aload_n 0, 1) := by decide +kernel
theorem dL_law_1363 : decode cL_law 1363 = .ok (.iload_n 3, 1) := by decide +kernel
theorem dL_law_1364 : decode cL_law 1364 = .ok (.iconst 1, 1) := by decide +kernel
theorem dL_law_1365 : decode cL_law 1365 = .ok (.iadd, 1) := by decide +kernel
theorem dL_law_1366 : decode cL_law 1366 = .ok (.iaload, 1) := by decide +kernel
theorem dL_law_1367 : decode cL_law 1367 = .ok (.aload_n 0, 1) := by decide +kernel
theorem dL_law_1368 : decode cL_law 1368 = .ok (.iload_n 3, 1) := by decide +kernel
theorem dL_law_1369 : decode cL_law 1369 = .ok (.iconst 2, 1) := by decide +kernel
theorem dL_law_1370 : decode cL_law 1370 = .ok (.iadd, 1) := by decide +kernel
theorem dL_law_1371 : decode cL_law 1371 = .ok (.iaload, 1) := by decide +kernel
theorem dL_law_1372 : decode cL_law 1372 = .ok (.aload_n 0, 1) := by decide +kernel
theorem dL_law_1373 : decode cL_law 1373 = .ok (.iload_n 3, 1) := by decide +kernel
theorem dL_law_1374 : decode cL_law 1374 = .ok (.iconst 3, 1) := by decide +kernel
theorem dL_law_1375 : decode cL_law 1375 = .ok (.iadd, 1) := by decide +kernel
theorem dL_law_1376 : decode cL_law 1376 = .ok (.iaload, 1) := by decide +kernel
theorem dL_law_1377 : decode cL_law 1377 = .ok (.invokevirtual 124, 3) := by decide +kernel
theorem dL_law_1380 : decode cL_law 1380 = .ok (.pop, 1) := by decide +kernel
theorem dL_law_1381 : decode cL_law 1381 = .ok (.goto 480, 3) := by decide +kernel
theorem dL_law_1384 : decode cL_law 1384 = .ok (.aload_n 1, 1) := by decide +kernel
theorem dL_law_1385 : decode cL_law 1385 = .ok (.aload_n 0, 1) := by decide +kernel
theorem dL_law_1386 : decode cL_law 1386 = .ok (.iload_n 3, 1) := by decide +kernel
theorem dL_law_1387 : decode cL_law 1387 = .ok (.iconst 1, 1) := by decide +kernel
theorem dL_law_1388 : decode cL_law 1388 = .ok (.iadd, 1) := by decide +kernel
theorem dL_law_1389 : decode cL_law 1389 = .ok (.iaload, 1) := by decide +kernel
theorem dL_law_1390 : decode cL_law 1390 = .ok (.aload_n 0, 1) := by decide +kernel
theorem dL_law_1391 : decode cL_law 1391 = .ok (.iload_n 3, 1) := by decide +kernel
theorem dL_law_1392 : decode cL_law 1392 = .ok (.iconst 2, 1) := by decide +kernel
theorem dL_law_1393 : decode cL_law 1393 = .ok (.iadd, 1) := by decide +kernel
theorem dL_law_1394 : decode cL_law 1394 = .ok (.iaload, 1) := by decide +kernel
theorem dL_law_1395 : decode cL_law 1395 = .ok (.aload_n 0, 1) := by decide +kernel
theorem dL_law_1396 : decode cL_law 1396 = .ok (.iload_n 3, 1) := by decide +kernel
theorem dL_law_1397 : decode cL_law 1397 = .ok (.iconst 3, 1) := by decide +kernel
theorem dL_law_1398 : decode cL_law 1398 = .ok (.iadd, 1) := by decide +kernel
theorem dL_law_1399 : decode cL_law 1399 = .ok (.iaload, 1) := by decide +kernel
theorem dL_law_1400 : decode cL_law 1400 = .ok (.invokevirtual 125, 3) := by decide +kernel
theorem dL_law_1403 : decode cL_law 1403 = .ok (.pop, 1) := by decide +kernel
theorem dL_law_1404 : decode cL_law 1404 = .ok (.aload_n 2, 1) := by decide +kernel
theorem dL_law_1405 : decode cL_law 1405 = .ok (.aload_n 0, 1) := by decide +kernel
theorem dL_law_1406 : decode cL_law 1406 = .ok (.iload_n 3, 1) := by decide +kernel
theorem dL_law_1407 : decode cL_law 1407 = .ok (.iconst 1, 1) := by decide +kernel
theorem dL_law_1408 : decode cL_law 1408 = .ok (.iadd, 1) := by decide +kernel
theorem dL_law_1409 : decode cL_law 1409 = .ok (.iaload, 1) := by decide +kernel
theorem dL_law_1410 : decode cL_law 1410 = .ok (.aload_n 0, 1) := by decide +kernel
theorem dL_law_1411 : decode cL_law 1411 = .ok (.iload_n 3, 1) := by decide +kernel
theorem dL_law_1412 : decode cL_law 1412 = .ok (.iconst 2, 1) := by decide +kernel
theorem dL_law_1413 : decode cL_law 1413 = .ok (.iadd, 1) := by decide +kernel
theorem dL_law_1414 : decode cL_law 1414 = .ok (.iaload, 1) := by decide +kernel
theorem dL_law_1415 : decode cL_law 1415 = .ok (.aload_n 0, 1) := by decide +kernel
theorem dL_law_1416 : decode cL_law 1416 = .ok (.iload_n 3, 1) := by decide +kernel
theorem dL_law_1417 : decode cL_law 1417 = .ok (.iconst 3, 1) := by decide +kernel
theorem dL_law_1418 : decode cL_law 1418 = .ok (.iadd, 1) := by decide +kernel
theorem dL_law_1419 : decode cL_law 1419 = .ok (.iaload, 1) := by decide +kernel
theorem dL_law_1420 : decode cL_law 1420 = .ok (.invokevirtual 128, 3) := by decide +kernel
theorem dL_law_1423 : decode cL_law 1423 = .ok (.pop, 1) := by decide +kernel
theorem dL_law_1424 : decode cL_law 1424 = .ok (.goto 437, 3) := by decide +kernel
theorem dL_law_1427 : decode cL_law 1427 = .ok (.aload_n 1, 1) := by decide +kernel
theorem dL_law_1428 : decode cL_law 1428 = .ok (.aload_n 0, 1) := by decide +kernel
theorem dL_law_1429 : decode cL_law 1429 = .ok (.iload_n 3, 1) := by decide +kernel
theorem dL_law_1430 : decode cL_law 1430 = .ok (.iconst 1, 1) := by decide +kernel
theorem dL_law_1431 : decode cL_law 1431 = .ok (.iadd, 1) := by decide +kernel
theorem dL_law_1432 : decode cL_law 1432 = .ok (.iaload, 1) := by decide +kernel
theorem dL_law_1433 : decode cL_law 1433 = .ok (.aload_n 0, 1) := by decide +kernel
theorem dL_law_1434 : decode cL_law 1434 = .ok (.iload_n 3, 1) := by decide +kernel
theorem dL_law_1435 : decode cL_law 1435 = .ok (.iconst 2, 1) := by decide +kernel
theorem dL_law_1436 : decode cL_law 1436 = .ok (.iadd, 1) := by decide +kernel
theorem dL_law_1437 : decode cL_law 1437 = .ok (.iaload, 1) := by decide +kernel
theorem dL_law_1438 : decode cL_law 1438 = .ok (.aload_n 0, 1) := by decide +kernel
theorem dL_law_1439 : decode cL_law 1439 = .ok (.iload_n 3, 1) := by decide +kernel
theorem dL_law_1440 : decode cL_law 1440 = .ok (.iconst 3, 1) := by decide +kernel
theorem dL_law_1441 : decode cL_law 1441 = .ok (.iadd, 1) := by decide +kernel
theorem dL_law_1442 : decode cL_law 1442 = .ok (.iaload, 1) := by decide +kernel
theorem dL_law_1443 : decode cL_law 1443 = .ok (.invokevirtual 129, 3) := by decide +kernel
theorem dL_law_1446 : decode cL_law 1446 = .ok (.pop, 1) := by decide +kernel
theorem dL_law_1447 : decode cL_law 1447 = .ok (.aload_n 2, 1) := by decide +kernel
theorem dL_law_1448 : decode cL_law 1448 = .ok (.aload_n 0, 1) := by decide +kernel
theorem dL_law_1449 : decode cL_law 1449 = .ok (.iload_n 3, 1) := by decide +kernel
theorem dL_law_1450 : decode cL_law 1450 = .ok (.iconst 1, 1) := by decide +kernel
theorem dL_law_1451 : decode cL_law 1451 = .ok (.iadd, 1) := by decide +kernel
theorem dL_law_1452 : decode cL_law 1452 = .ok (.iaload, 1) := by decide +kernel
theorem dL_law_1453 : decode cL_law 1453 = .ok (.aload_n 0, 1) := by decide +kernel
theorem dL_law_1454 : decode cL_law 1454 = .ok (.iload_n 3, 1) := by decide +kernel
theorem dL_law_1455 : decode cL_law 1455 = .ok (.iconst 2, 1) := by decide +kernel
theorem dL_law_1456 : decode cL_law 1456 = .ok (.iadd, 1) := by decide +kernel
theorem dL_law_1457 : decode cL_law 1457 = .ok (.iaload, 1) := by decide +kernel
theorem dL_law_1458 : decode cL_law 1458 = .ok (.aload_n 0, 1) := by decide +kernel
theorem dL_law_1459 : decode cL_law 1459 = .ok (.iload_n 3, 1) := by decide +kernel
theorem dL_law_1460 : decode cL_law 1460 = .ok (.iconst 3, 1) := by decide +kernel
theorem dL_law_1461 : decode cL_law 1461 = .ok (.iadd, 1) := by decide +kernel
theorem dL_law_1462 : decode cL_law 1462 = .ok (.iaload, 1) := by decide +kernel
theorem dL_law_1463 : decode cL_law 1463 = .ok (.invokevirtual 132, 3) := by decide +kernel
theorem dL_law_1466 : decode cL_law 1466 = .ok (.pop, 1) := by decide +kernel
theorem dL_law_1467 : decode cL_law 1467 = .ok (.goto 394, 3) := by decide +kernel
theorem dL_law_1470 : decode cL_law 1470 = .ok (.aload_n 1, 1) := by decide +kernel
theorem dL_law_1471 : decode cL_law 1471 = .ok (.aload_n 0, 1) := by decide +kernel
theorem dL_law_1472 : decode cL_law 1472 = .ok (.iload_n 3, 1) := by decide +kernel
theorem dL_law_1473 : decode cL_law 1473 = .ok (.iconst 1, 1) := by decide +kernel
theorem dL_law_1474 : decode cL_law 1474 = .ok (.iadd, 1) := by decide +kernel
theorem dL_law_1475 : decode cL_law 1475 = .ok (.iaload, 1) := by decide +kernel
theorem dL_law_1476 : decode cL_law 1476 = .ok (.aload_n 0, 1) := by decide +kernel
theorem dL_law_1477 : decode cL_law 1477 = .ok (.iload_n 3, 1) := by decide +kernel
theorem dL_law_1478 : decode cL_law 1478 = .ok (.iconst 2, 1) := by decide +kernel
theorem dL_law_1479 : decode cL_law 1479 = .ok (.iadd, 1) := by decide +kernel
theorem dL_law_1480 : decode cL_law 1480 = .ok (.iaload, 1) := by decide +kernel
theorem dL_law_1481 : decode cL_law 1481 = .ok (.aload_n 0, 1) := by decide +kernel
theorem dL_law_1482 : decode cL_law 1482 = .ok (.iload_n 3, 1) := by decide +kernel
theorem dL_law_1483 : decode cL_law 1483 = .ok (.iconst 3, 1) := by decide +kernel
theorem dL_law_1484 : decode cL_law 1484 = .ok (.iadd, 1) := by decide +kernel
theorem dL_law_1485 : decode cL_law 1485 = .ok (.iaload, 1) := by decide +kernel
theorem dL_law_1486 : decode cL_law 1486 = .ok (.aload_n 0, 1) := by decide +kernel
theorem dL_law_1487 : decode cL_law 1487 = .ok (.iload_n 3, 1) := by decide +kernel
theorem dL_law_1488 : decode cL_law 1488 = .ok (.iconst 4, 1) := by decide +kernel
theorem dL_law_1489 : decode cL_law 1489 = .ok (.iadd, 1) := by decide +kernel
theorem dL_law_1490 : decode cL_law 1490 = .ok (.iaload, 1) := by decide +kernel
theorem dL_law_1491 : decode cL_law 1491 = .ok (.ifCond .eq 7, 3) := by decide +kernel
theorem dL_law_1494 : decode cL_law 1494 = .ok (.iconst 1, 1) := by decide +kernel
theorem dL_law_1495 : decode cL_law 1495 = .ok (.goto 4, 3) := by decide +kernel
theorem dL_law_1498 : decode cL_law 1498 = .ok (.iconst 0, 1) := by decide +kernel
theorem dL_law_1499 : decode cL_law 1499 = .ok (.invokevirtual 133, 3) := by decide +kernel
theorem dL_law_1502 : decode cL_law 1502 = .ok (.pop2, 1) := by decide +kernel
theorem dL_law_1503 : decode cL_law 1503 = .ok (.aload_n 2, 1) := by decide +kernel
theorem dL_law_1504 : decode cL_law 1504 = .ok (.aload_n 0, 1) := by decide +kernel
theorem dL_law_1505 : decode cL_law 1505 = .ok (.iload_n 3, 1) := by decide +kernel
theorem dL_law_1506 : decode cL_law 1506 = .ok (.iconst 1, 1) := by decide +kernel
theorem dL_law_1507 : decode cL_law 1507 = .ok (.iadd, 1) := by decide +kernel
theorem dL_law_1508 : decode cL_law 1508 = .ok (.iaload, 1) := by decide +kernel
theorem dL_law_1509 : decode cL_law 1509 = .ok (.aload_n 0, 1) := by decide +kernel
theorem dL_law_1510 : decode cL_law 1510 = .ok (.iload_n 3, 1) := by decide +kernel
theorem dL_law_1511 : decode cL_law 1511 = .ok (.iconst 2, 1) := by decide +kernel
theorem dL_law_1512 : decode cL_law 1512 = .ok (.iadd, 1) := by decide +kernel
theorem dL_law_1513 : decode cL_law 1513 = .ok (.iaload, 1) := by decide +kernel
theorem dL_law_1514 : decode cL_law 1514 = .ok (.aload_n 0, 1) := by decide +kernel
theorem dL_law_1515 : decode cL_law 1515 = .ok (.iload_n 3, 1) := by decide +kernel
theorem dL_law_1516 : decode cL_law 1516 = .ok (.iconst 3, 1) := by decide +kernel
theorem dL_law_1517 : decode cL_law 1517 = .ok (.iadd, 1) := by decide +kernel
theorem dL_law_1518 : decode cL_law 1518 = .ok (.iaload, 1) := by decide +kernel
theorem dL_law_1519 : decode cL_law 1519 = .ok (.aload_n 0, 1) := by decide +kernel
theorem dL_law_1520 : decode cL_law 1520 = .ok (.iload_n 3, 1) := by decide +kernel
theorem dL_law_1521 : decode cL_law 1521 = .ok (.iconst 4, 1) := by decide +kernel
theorem dL_law_1522 : decode cL_law 1522 = .ok (.iadd, 1) := by decide +kernel
theorem dL_law_1523 : decode cL_law 1523 = .ok (.iaload, 1) := by decide +kernel
theorem dL_law_1524 : decode cL_law 1524 = .ok (.ifCond .eq 7, 3) := by decide +kernel
theorem dL_law_1527 : decode cL_law 1527 = .ok (.iconst 1, 1) := by decide +kernel
theorem dL_law_1528 : decode cL_law 1528 = .ok (.goto 4, 3) := by decide +kernel
theorem dL_law_1531 : decode cL_law 1531 = .ok (.iconst 0, 1) := by decide +kernel
theorem dL_law_1532 : decode cL_law 1532 = .ok (.invokevirtual 136, 3) := by decide +kernel
theorem dL_law_1535 : decode cL_law 1535 = .ok (.pop2, 1) := by decide +kernel
theorem dL_law_1536 : decode cL_law 1536 = .ok (.goto 325, 3) := by decide +kernel
theorem dL_law_1539 : decode cL_law 1539 = .ok (.aload_n 1, 1) := by decide +kernel
theorem dL_law_1540 : decode cL_law 1540 = .ok (.aload_n 0, 1) := by decide +kernel
theorem dL_law_1541 : decode cL_law 1541 = .ok (.iload_n 3, 1) := by decide +kernel
theorem dL_law_1542 : decode cL_law 1542 = .ok (.iconst 1, 1) := by decide +kernel
theorem dL_law_1543 : decode cL_law 1543 = .ok (.iadd, 1) := by decide +kernel
theorem dL_law_1544 : decode cL_law 1544 = .ok (.iaload, 1) := by decide +kernel
theorem dL_law_1545 : decode cL_law 1545 = .ok (.aload_n 0, 1) := by decide +kernel
theorem dL_law_1546 : decode cL_law 1546 = .ok (.iload_n 3, 1) := by decide +kernel
theorem dL_law_1547 : decode cL_law 1547 = .ok (.iconst 2, 1) := by decide +kernel
theorem dL_law_1548 : decode cL_law 1548 = .ok (.iadd, 1) := by decide +kernel
theorem dL_law_1549 : decode cL_law 1549 = .ok (.iaload, 1) := by decide +kernel
theorem dL_law_1550 : decode cL_law 1550 = .ok (.aload_n 0, 1) := by decide +kernel
theorem dL_law_1551 : decode cL_law 1551 = .ok (.iload_n 3, 1) := by decide +kernel
theorem dL_law_1552 : decode cL_law 1552 = .ok (.iconst 3, 1) := by decide +kernel
theorem dL_law_1553 : decode cL_law 1553 = .ok (.iadd, 1) := by decide +kernel
theorem dL_law_1554 : decode cL_law 1554 = .ok (.iaload, 1) := by decide +kernel
theorem dL_law_1555 : decode cL_law 1555 = .ok (.aload_n 0, 1) := by decide +kernel
theorem dL_law_1556 : decode cL_law 1556 = .ok (.iload_n 3, 1) := by decide +kernel
theorem dL_law_1557 : decode cL_law 1557 = .ok (.iconst 4, 1) := by decide +kernel
theorem dL_law_1558 : decode cL_law 1558 = .ok (.iadd, 1) := by decide +kernel
theorem dL_law_1559 : decode cL_law 1559 = .ok (.iaload, 1) := by decide +kernel
theorem dL_law_1560 : decode cL_law 1560 = .ok (.ifCond .eq 7, 3) := by decide +kernel
theorem dL_law_1563 : decode cL_law 1563 = .ok (.iconst 1, 1) := by decide +kernel
theorem dL_law_1564 : decode cL_law 1564 = .ok (.goto 4, 3) := by decide +kernel
theorem dL_law_1567 : decode cL_law 1567 = .ok (.iconst 0, 1) := by decide +kernel
theorem dL_law_1568 : decode cL_law 1568 = .ok (.invokevirtual 137, 3) := by decide +kernel
theorem dL_law_1571 : decode cL_law 1571 = .ok (.pop2, 1) := by decide +kernel
theorem dL_law_1572 : decode cL_law 1572 = .ok (.aload_n 2, 1) := by decide +kernel
theorem dL_law_1573 : decode cL_law 1573 = .ok (.aload_n 0, 1) := by decide +kernel
theorem dL_law_1574 : decode cL_law 1574 = .ok (.iload_n 3, 1) := by decide +kernel
theorem dL_law_1575 : decode cL_law 1575 = .ok (.iconst 1, 1) := by decide +kernel
theorem dL_law_1576 : decode cL_law 1576 = .ok (.iadd, 1) := by decide +kernel
theorem dL_law_1577 : decode cL_law 1577 = .ok (.iaload, 1) := by decide +kernel
theorem dL_law_1578 : decode cL_law 1578 = .ok (.aload_n 0, 1) := by decide +kernel
theorem dL_law_1579 : decode cL_law 1579 = .ok (.iload_n 3, 1) := by decide +kernel
theorem dL_law_1580 : decode cL_law 1580 = .ok (.iconst 2, 1) := by decide +kernel
theorem dL_law_1581 : decode cL_law 1581 = .ok (.iadd, 1) := by decide +kernel
theorem dL_law_1582 : decode cL_law 1582 = .ok (.iaload, 1) := by decide +kernel
theorem dL_law_1583 : decode cL_law 1583 = .ok (.aload_n 0, 1) := by decide +kernel
theorem dL_law_1584 : decode cL_law 1584 = .ok (.iload_n 3, 1) := by decide +kernel
theorem dL_law_1585 : decode cL_law 1585 = .ok (.iconst 3, 1) := by decide +kernel
theorem dL_law_1586 : decode cL_law 1586 = .ok (.iadd, 1) := by decide +kernel
theorem dL_law_1587 : decode cL_law 1587 = .ok (.iaload, 1) := by decide +kernel
theorem dL_law_1588 : decode cL_law 1588 = .ok (.aload_n 0, 1) := by decide +kernel
theorem dL_law_1589 : decode cL_law 1589 = .ok (.iload_n 3, 1) := by decide +kernel
theorem dL_law_1590 : decode cL_law 1590 = .ok (.iconst 4, 1) := by decide +kernel
theorem dL_law_1591 : decode cL_law 1591 = .ok (.iadd, 1) := by decide +kernel
theorem dL_law_1592 : decode cL_law 1592 = .ok (.iaload, 1) := by decide +kernel
theorem dL_law_1593 : decode cL_law 1593 = .ok (.ifCond .eq 7, 3) := by decide +kernel
theorem dL_law_1596 : decode cL_law 1596 = .ok (.iconst 1, 1) := by decide +kernel
theorem dL_law_1597 : decode cL_law 1597 = .ok (.goto 4, 3) := by decide +kernel
theorem dL_law_1600 : decode cL_law 1600 = .ok (.iconst 0, 1) := by decide +kernel
theorem dL_law_1601 : decode cL_law 1601 = .ok (.invokevirtual 140, 3) := by decide +kernel
theorem dL_law_1604 : decode cL_law 1604 = .ok (.pop2, 1) := by decide +kernel
theorem dL_law_1605 : decode cL_law 1605 = .ok (.goto 256, 3) := by decide +kernel
theorem dL_law_1608 : decode cL_law 1608 = .ok (.aload_n 1, 1) := by decide +kernel
theorem dL_law_1609 : decode cL_law 1609 = .ok (.aload_n 0, 1) := by decide +kernel
theorem dL_law_1610 : decode cL_law 1610 = .ok (.iload_n 3, 1) := by decide +kernel
theorem dL_law_1611 : decode cL_law 1611 = .ok (.iconst 1, 1) := by decide +kernel
theorem dL_law_1612 : decode cL_law 1612 = .ok (.iadd, 1) := by decide +kernel
theorem dL_law_1613 : decode cL_law 1613 = .ok (.iaload, 1) := by decide +kernel
theorem dL_law_1614 : decode cL_law 1614 = .ok (.aload_n 0, 1) := by decide +kernel
theorem dL_law_1615 : decode cL_law 1615 = .ok (.iload_n 3, 1) := by decide +kernel
theorem dL_law_1616 : decode cL_law 1616 = .ok (.iconst 2, 1) := by decide +kernel
theorem dL_law_1617 : decode cL_law 1617 = .ok (.iadd, 1) := by decide +kernel
theorem dL_law_1618 : decode cL_law 1618 = .ok (.iaload, 1) := by decide +kernel
theorem dL_law_1619 : decode cL_law 1619 = .ok (.invokevirtual 141, 3) := by decide +kernel
theorem dL_law_1622 : decode cL_law 1622 = .ok (.pop, 1) := by decide +kernel
theorem dL_law_1623 : decode cL_law 1623 = .ok (.aload_n 2, 1) := by decide +kernel
theorem dL_law_1624 : decode cL_law 1624 = .ok (.aload_n 0, 1) := by decide +kernel
theorem dL_law_1625 : decode cL_law 1625 = .ok (.iload_n 3, 1) := by decide +kernel
theorem dL_law_1626 : decode cL_law 1626 = .ok (.iconst 1, 1) := by decide +kernel
theorem dL_law_1627 : decode cL_law 1627 = .ok (.iadd, 1) := by decide +kernel
theorem dL_law_1628 : decode cL_law 1628 = .ok (.iaload, 1) := by decide +kernel
theorem dL_law_1629 : decode cL_law 1629 = .ok (.aload_n 0, 1) := by decide +kernel
theorem dL_law_1630 : decode cL_law 1630 = .ok (.iload_n 3, 1) := by decide +kernel
theorem dL_law_1631 : decode cL_law 1631 = .ok (.iconst 2, 1) := by decide +kernel
theorem dL_law_1632 : decode cL_law 1632 = .ok (.iadd, 1) := by decide +kernel
theorem dL_law_1633 : decode cL_law 1633 = .ok (.iaload, 1) := by decide +kernel
theorem dL_law_1634 : decode cL_law 1634 = .ok (.invokevirtual 144, 3) := by decide +kernel
theorem dL_law_1637 : decode cL_law 1637 = .ok (.pop, 1) := by decide +kernel
theorem dL_law_1638 : decode cL_law 1638 = .ok (.goto 223, 3) := by decide +kernel
theorem dL_law_1641 : decode cL_law 1641 = .ok (.aload_n 1, 1) := by decide +kernel
theorem dL_law_1642 : decode cL_law 1642 = .ok (.aload_n 0, 1) := by decide +kernel
theorem dL_law_1643 : decode cL_law 1643 = .ok (.iload_n 3, 1) := by decide +kernel
theorem dL_law_1644 : decode cL_law 1644 = .ok (.iconst 1, 1) := by decide +kernel
theorem dL_law_1645 : decode cL_law 1645 = .ok (.iadd, 1) := by decide +kernel
theorem dL_law_1646 : decode cL_law 1646 = .ok (.iaload, 1) := by decide +kernel
theorem dL_law_1647 : decode cL_law 1647 = .ok (.aload_n 0, 1) := by decide +kernel
theorem dL_law_1648 : decode cL_law 1648 = .ok (.iload_n 3, 1) := by decide +kernel
theorem dL_law_1649 : decode cL_law 1649 = .ok (.iconst 2, 1) := by decide +kernel
theorem dL_law_1650 : decode cL_law 1650 = .ok (.iadd, 1) := by decide +kernel
theorem dL_law_1651 : decode cL_law 1651 = .ok (.iaload, 1) := by decide +kernel
theorem dL_law_1652 : decode cL_law 1652 = .ok (.aload_n 0, 1) := by decide +kernel
theorem dL_law_1653 : decode cL_law 1653 = .ok (.iload_n 3, 1) := by decide +kernel
theorem dL_law_1654 : decode cL_law 1654 = .ok (.iconst 3, 1) := by decide +kernel
theorem dL_law_1655 : decode cL_law 1655 = .ok (.iadd, 1) := by decide +kernel
theorem dL_law_1656 : decode cL_law 1656 = .ok (.iaload, 1) := by decide +kernel
theorem dL_law_1657 : decode cL_law 1657 = .ok (.ifCond .eq 7, 3) := by decide +kernel
theorem dL_law_1660 : decode cL_law 1660 = .ok (.iconst 1, 1) := by decide +kernel
theorem dL_law_1661 : decode cL_law 1661 = .ok (.goto 4, 3) := by decide +kernel
theorem dL_law_1664 : decode cL_law 1664 = .ok (.iconst 0, 1) := by decide +kernel
theorem dL_law_1665 : decode cL_law 1665 = .ok (.invokevirtual 145, 3) := by decide +kernel
theorem dL_law_1668 : decode cL_law 1668 = .ok (.pop, 1) := by decide +kernel
theorem dL_law_1669 : decode cL_law 1669 = .ok (.aload_n 2, 1) := by decide +kernel
theorem dL_law_1670 : decode cL_law 1670 = .ok (.aload_n 0, 1) := by decide +kernel
theorem dL_law_1671 : decode cL_law 1671 = .ok (.iload_n 3, 1) := by decide +kernel
theorem dL_law_1672 : decode cL_law 1672 = .ok (.iconst 1, 1) := by decide +kernel
theorem dL_law_1673 : decode cL_law 1673 = .ok (.iadd, 1) := by decide +kernel
theorem dL_law_1674 : decode cL_law 1674 = .ok (.iaload, 1) := by decide +kernel
theorem dL_law_1675 : decode cL_law 1675 = .ok (.aload_n 0, 1) := by decide +kernel
theorem dL_law_1676 : decode cL_law 1676 = .ok (.iload_n 3, 1) := by decide +kernel
theorem dL_law_1677 : decode cL_law 1677 = .ok (.iconst 2, 1) := by decide +kernel
theorem dL_law_1678 : decode cL_law 1678 = .ok (.iadd, 1) := by decide +kernel
theorem dL_law_1679 : decode cL_law 1679 = .ok (.iaload, 1) := by decide +kernel
theorem dL_law_1680 : decode cL_law 1680 = .ok (.aload_n 0, 1) := by decide +kernel
theorem dL_law_1681 : decode cL_law 1681 = .ok (.iload_n 3, 1) := by decide +kernel
theorem dL_law_1682 : decode cL_law 1682 = .ok (.iconst 3, 1) := by decide +kernel
theorem dL_law_1683 : decode cL_law 1683 = .ok (.iadd, 1) := by decide +kernel
theorem dL_law_1684 : decode cL_law 1684 = .ok (.iaload, 1) := by decide +kernel
theorem dL_law_1685 : decode cL_law 1685 = .ok (.ifCond .eq 7, 3) := by decide +kernel
theorem dL_law_1688 : decode cL_law 1688 = .ok (.iconst 1, 1) := by decide +kernel
theorem dL_law_1689 : decode cL_law 1689 = .ok (.goto 4, 3) := by decide +kernel
theorem dL_law_1692 : decode cL_law 1692 = .ok (.iconst 0, 1) := by decide +kernel
theorem dL_law_1693 : decode cL_law 1693 = .ok (.invokevirtual 148, 3) := by decide +kernel
theorem dL_law_1696 : decode cL_law 1696 = .ok (.pop, 1) := by decide +kernel
theorem dL_law_1697 : decode cL_law 1697 = .ok (.goto 164, 3) := by decide +kernel
theorem dL_law_1700 : decode cL_law 1700 = .ok (.aload_n 1, 1) := by decide +kernel
theorem dL_law_1701 : decode cL_law 1701 = .ok (.aload_n 0, 1) := by decide +kernel
theorem dL_law_1702 : decode cL_law 1702 = .ok (.iload_n 3, 1) := by decide +kernel
theorem dL_law_1703 : decode cL_law 1703 = .ok (.iconst 1, 1) := by decide +kernel
theorem dL_law_1704 : decode cL_law 1704 = .ok (.iadd, 1) := by decide +kernel
theorem dL_law_1705 : decode cL_law 1705 = .ok (.iaload, 1) := by decide +kernel
theorem dL_law_1706 : decode cL_law 1706 = .ok (.aload_n 0, 1) := by decide +kernel
theorem dL_law_1707 : decode cL_law 1707 = .ok (.iload_n 3, 1) := by decide +kernel
theorem dL_law_1708 : decode cL_law 1708 = .ok (.iconst 2, 1) := by decide +kernel
theorem dL_law_1709 : decode cL_law 1709 = .ok (.iadd, 1) := by decide +kernel
theorem dL_law_1710 : decode cL_law 1710 = .ok (.iaload, 1) := by decide +kernel
theorem dL_law_1711 : decode cL_law 1711 = .ok (.invokevirtual 149, 3) := by decide +kernel
theorem dL_law_1714 : decode cL_law 1714 = .ok (.pop, 1) := by decide +kernel
theorem dL_law_1715 : decode cL_law 1715 = .ok (.aload_n 2, 1) := by decide +kernel
theorem dL_law_1716 : decode cL_law 1716 = .ok (.aload_n 0, 1) := by decide +kernel
theorem dL_law_1717 : decode cL_law 1717 = .ok (.iload_n 3, 1) := by decide +kernel
theorem dL_law_1718 : decode cL_law 1718 = .ok (.iconst 1, 1) := by decide +kernel
theorem dL_law_1719 : decode cL_law 1719 = .ok (.iadd, 1) := by decide +kernel
theorem dL_law_1720 : decode cL_law 1720 = .ok (.iaload, 1) := by decide +kernel
theorem dL_law_1721 : decode cL_law 1721 = .ok (.aload_n 0, 1) := by decide +kernel
theorem dL_law_1722 : decode cL_law 1722 = .ok (.iload_n 3, 1) := by decide +kernel
theorem dL_law_1723 : decode cL_law 1723 = .ok (.iconst 2, 1) := by decide +kernel
theorem dL_law_1724 : decode cL_law 1724 = .ok (.iadd, 1) := by decide +kernel
theorem dL_law_1725 : decode cL_law 1725 = .ok (.iaload, 1) := by decide +kernel
theorem dL_law_1726 : decode cL_law 1726 = .ok (.invokevirtual 152, 3) := by decide +kernel
theorem dL_law_1729 : decode cL_law 1729 = .ok (.pop, 1) := by decide +kernel
theorem dL_law_1730 : decode cL_law 1730 = .ok (.goto 131, 3) := by decide +kernel
theorem dL_law_1733 : decode cL_law 1733 = .ok (.aload_n 1, 1) := by decide +kernel
theorem dL_law_1734 : decode cL_law 1734 = .ok (.aload_n 0, 1) := by decide +kernel
theorem dL_law_1735 : decode cL_law 1735 = .ok (.iload_n 3, 1) := by decide +kernel
theorem dL_law_1736 : decode cL_law 1736 = .ok (.iconst 1, 1) := by decide +kernel
theorem dL_law_1737 : decode cL_law 1737 = .ok (.iadd, 1) := by decide +kernel
theorem dL_law_1738 : decode cL_law 1738 = .ok (.iaload, 1) := by decide +kernel
theorem dL_law_1739 : decode cL_law 1739 = .ok (.aload_n 0, 1) := by decide +kernel
theorem dL_law_1740 : decode cL_law 1740 = .ok (.iload_n 3, 1) := by decide +kernel
theorem dL_law_1741 : decode cL_law 1741 = .ok (.iconst 2, 1) := by decide +kernel
theorem dL_law_1742 : decode cL_law 1742 = .ok (.iadd, 1) := by decide +kernel
theorem dL_law_1743 : decode cL_law 1743 = .ok (.iaload, 1) := by decide +kernel
theorem dL_law_1744 : decode cL_law 1744 = .ok (.aload_n 0, 1) := by decide +kernel
theorem dL_law_1745 : decode cL_law 1745 = .ok (.iload_n 3, 1) := by decide +kernel
theorem dL_law_1746 : decode cL_law 1746 = .ok (.iconst 3, 1) := by decide +kernel
theorem dL_law_1747 : decode cL_law 1747 = .ok (.iadd, 1) := by decide +kernel
theorem dL_law_1748 : decode cL_law 1748 = .ok (.iaload, 1) := by decide +kernel
theorem dL_law_1749 : decode cL_law 1749 = .ok (.ifCond .eq 7, 3) := by decide +kernel
theorem dL_law_1752 : decode cL_law 1752 = .ok (.iconst 1, 1) := by decide +kernel
theorem dL_law_1753 : decode cL_law 1753 = .ok (.goto 4, 3) := by decide +kernel
theorem dL_law_1756 : decode cL_law 1756 = .ok (.iconst 0, 1) := by decide +kernel
theorem dL_law_1757 : decode cL_law 1757 = .ok (.invokevirtual 153, 3) := by decide +kernel
theorem dL_law_1760 : decode cL_law 1760 = .ok (.pop, 1) := by decide +kernel
theorem dL_law_1761 : decode cL_law 1761 = .ok (.aload_n 2, 1) := by decide +kernel
theorem dL_law_1762 : decode cL_law 1762 = .ok (.aload_n 0, 1) := by decide +kernel
theorem dL_law_1763 : decode cL_law 1763 = .ok (.iload_n 3, 1) := by decide +kernel
theorem dL_law_1764 : decode cL_law 1764 = .ok (.iconst 1, 1) := by decide +kernel
theorem dL_law_1765 : decode cL_law 1765 = .ok (.iadd, 1) := by decide +kernel
theorem dL_law_1766 : decode cL_law 1766 = .ok (.iaload, 1) := by decide +kernel
theorem dL_law_1767 : decode cL_law 1767 = .ok (.aload_n 0, 1) := by decide +kernel
theorem dL_law_1768 : decode cL_law 1768 = .ok (.iload_n 3, 1) := by decide +kernel
theorem dL_law_1769 : decode cL_law 1769 = .ok (.iconst 2, 1) := by decide +kernel
theorem dL_law_1770 : decode cL_law 1770 = .ok (.iadd, 1) := by decide +kernel
theorem dL_law_1771 : decode cL_law 1771 = .ok (.iaload, 1) := by decide +kernel
theorem dL_law_1772 : decode cL_law 1772 = .ok (.aload_n 0, 1) := by decide +kernel
theorem dL_law_1773 : decode cL_law 1773 = .ok (.iload_n 3, 1) := by decide +kernel
theorem dL_law_1774 : decode cL_law 1774 = .ok (.iconst 3, 1) := by decide +kernel
theorem dL_law_1775 : decode cL_law 1775 = .ok (.iadd, 1) := by decide +kernel
theorem dL_law_1776 : decode cL_law 1776 = .ok (.iaload, 1) := by decide +kernel
theorem dL_law_1777 : decode cL_law 1777 = .ok (.ifCond .eq 7, 3) := by decide +kernel
theorem dL_law_1780 : decode cL_law 1780 = .ok (.iconst 1, 1) := by decide +kernel
theorem dL_law_1781 : decode cL_law 1781 = .ok (.goto 4, 3) := by decide +kernel
theorem dL_law_1784 : decode cL_law 1784 = .ok (.iconst 0, 1) := by decide +kernel
theorem dL_law_1785 : decode cL_law 1785 = .ok (.invokevirtual 156, 3) := by decide +kernel
theorem dL_law_1788 : decode cL_law 1788 = .ok (.pop, 1) := by decide +kernel
theorem dL_law_1789 : decode cL_law 1789 = .ok (.goto 72, 3) := by decide +kernel
theorem dL_law_1792 : decode cL_law 1792 = .ok (.aload_n 1, 1) := by decide +kernel
theorem dL_law_1793 : decode cL_law 1793 = .ok (.aload_n 0, 1) := by decide +kernel
theorem dL_law_1794 : decode cL_law 1794 = .ok (.iload_n 3, 1) := by decide +kernel
theorem dL_law_1795 : decode cL_law 1795 = .ok (.iconst 1, 1) := by decide +kernel
theorem dL_law_1796 : decode cL_law 1796 = .ok (.iadd, 1) := by decide +kernel
theorem dL_law_1797 : decode cL_law 1797 = .ok (.iaload, 1) := by decide +kernel
theorem dL_law_1798 : decode cL_law 1798 = .ok (.invokevirtual 157, 3) := by decide +kernel
theorem dL_law_1801 : decode cL_law 1801 = .ok (.pop, 1) := by decide +kernel
theorem dL_law_1802 : decode cL_law 1802 = .ok (.aload_n 2, 1) := by decide +kernel
theorem dL_law_1803 : decode cL_law 1803 = .ok (.aload_n 0, 1) := by decide +kernel
theorem dL_law_1804 : decode cL_law 1804 = .ok (.iload_n 3, 1) := by decide +kernel
theorem dL_law_1805 : decode cL_law 1805 = .ok (.iconst 1, 1) := by decide +kernel
theorem dL_law_1806 : decode cL_law 1806 = .ok (.iadd, 1) := by decide +kernel
theorem dL_law_1807 : decode cL_law 1807 = .ok (.iaload, 1) := by decide +kernel
theorem dL_law_1808 : decode cL_law 1808 = .ok (.invokevirtual 160, 3) := by decide +kernel
theorem dL_law_1811 : decode cL_law 1811 = .ok (.pop, 1) := by decide +kernel
theorem dL_law_1812 : decode cL_law 1812 = .ok (.goto 49, 3) := by decide +kernel
theorem dL_law_1815 : decode cL_law 1815 = .ok (.aload_n 1, 1) := by decide +kernel
theorem dL_law_1816 : decode cL_law 1816 = .ok (.aload_n 0, 1) := by decide +kernel
theorem dL_law_1817 : decode cL_law 1817 = .ok (.iload_n 3, 1) := by decide +kernel
theorem dL_law_1818 : decode cL_law 1818 = .ok (.iconst 1, 1) := by decide +kernel
theorem dL_law_1819 : decode cL_law 1819 = .ok (.iadd, 1) := by decide +kernel
theorem dL_law_1820 : decode cL_law 1820 = .ok (.iaload, 1) := by decide +kernel
theorem dL_law_1821 : decode cL_law 1821 = .ok (.invokevirtual 161, 3) := by decide +kernel
theorem dL_law_1824 : decode cL_law 1824 = .ok (.pop, 1) := by decide +kernel
theorem dL_law_1825 : decode cL_law 1825 = .ok (.aload_n 2, 1) := by decide +kernel
theorem dL_law_1826 : decode cL_law 1826 = .ok (.aload_n 0, 1) := by decide +kernel
theorem dL_law_1827 : decode cL_law 1827 = .ok (.iload_n 3, 1) := by decide +kernel
theorem dL_law_1828 : decode cL_law 1828 = .ok (.iconst 1, 1) := by decide +kernel
theorem dL_law_1829 : decode cL_law 1829 = .ok (.iadd, 1) := by decide +kernel
theorem dL_law_1830 : decode cL_law 1830 = .ok (.iaload, 1) := by decide +kernel
theorem dL_law_1831 : decode cL_law 1831 = .ok (.invokevirtual 165, 3) := by decide +kernel
theorem dL_law_1834 : decode cL_law 1834 = .ok (.pop, 1) := by decide +kernel
theorem dL_law_1835 : decode cL_law 1835 = .ok (.goto 26, 3) := by decide +kernel
theorem dL_law_1838 : decode cL_law 1838 = .ok (.aload_n 1, 1) := by decide +kernel
theorem dL_law_1839 : decode cL_law 1839 = .ok (.aload_n 0, 1) := by decide +kernel
theorem dL_law_1840 : decode cL_law 1840 = .ok (.iload_n 3, 1) := by decide +kernel
theorem dL_law_1841 : decode cL_law 1841 = .ok (.iconst 1, 1) := by decide +kernel
theorem dL_law_1842 : decode cL_law 1842 = .ok (.iadd, 1) := by decide +kernel
theorem dL_law_1843 : decode cL_law 1843 = .ok (.iaload, 1) := by decide +kernel
theorem dL_law_1844 : decode cL_law 1844 = .ok (.invokevirtual 166, 3) := by decide +kernel
theorem dL_law_1847 : decode cL_law 1847 = .ok (.pop, 1) := by decide +kernel
theorem dL_law_1848 : decode cL_law 1848 = .ok (.aload_n 2, 1) := by decide +kernel
theorem dL_law_1849 : decode cL_law 1849 = .ok (.aload_n 0, 1) := by decide +kernel
theorem dL_law_1850 : decode cL_law 1850 = .ok (.iload_n 3, 1) := by decide +kernel
theorem dL_law_1851 : decode cL_law 1851 = .ok (.iconst 1, 1) := by decide +kernel
theorem dL_law_1852 : decode cL_law 1852 = .ok (.iadd, 1) := by decide +kernel
theorem dL_law_1853 : decode cL_law 1853 = .ok (.iaload, 1) := by decide +kernel
theorem dL_law_1854 : decode cL_law 1854 = .ok (.invokevirtual 169, 3) := by decide +kernel
theorem dL_law_1857 : decode cL_law 1857 = .ok (.pop, 1) := by decide +kernel
theorem dL_law_1858 : decode cL_law 1858 = .ok (.goto 3, 3) := by decide +kernel
theorem dL_law_1861 : decode cL_law 1861 = .ok (.iinc 3 6, 3) := by decide +kernel
theorem dL_law_1864 : decode cL_law 1864 = .ok (.goto (-1846), 3) := by decide +kernel
theorem dL_law_1867 : decode cL_law 1867 = .ok (.iconst 1, 1) := by decide +kernel
theorem dL_law_1868 : decode cL_law 1868 = .ok (.ireturn, 1) := by decide +kernel
def tL_law (g : ax_G) : Nat → ax_O := ax_nd 1015 (ax_nd 586 (ax_nd 377 (ax_nd 268 (ax_nd 216 (ax_nd 32 (ax_nd 17 (ax_nd 8 (ax_nd 3 (ax_nd 0 (ax_lf 0 (ao_new 9 9 600000 7302250)) (ax_lf 3 ao_dup)) (ax_nd 4 (ax_lf 4 (ao_inva g 4 9 0 yX9_init cX9_init 1 none 1 76 600000 1699 7302250)) (ax_nd 7 (ax_lf 7 (ao_as 1 1)) (ax_lf 8 (ao_new 10 59 600000 7302250))))) (ax_nd 12 (ax_nd 11 (ax_lf 11 ao_dup) (ax_lf 12 (ao_inva g 1 10 0 yX10_init cX10_init 1 none 1 25 600000 33406 7302250))) (ax_nd 15 (ax_lf 15 (ao_as 2 1)) (ax_nd 16 (ax_lf 16 (ao_ic (0) 1)) (ax_lf 17 (ao_is 3 1)))))) (ax_nd 23 (ax_nd 19 (ax_nd 18 (ax_lf 18 (ao_il 3 1)) (ax_lf 19 (ao_al 0 1))) (ax_nd 20 (ax_lf 20 (ao_xlen g)) (ax_nd 21 (ax_lf 21 (ao_ic (6) 2)) (ax_lf 23 ao_isub)))) (ax_nd 28 (ax_nd 24 (ax_lf 24 (ao_icmp_gt 1867)) (ax_nd 27 (ax_lf 27 (ao_al 0 1)) (ax_lf 28 (ao_il 3 1)))) (ax_nd 29 (ax_lf 29 (ao_xld g)) (ax_nd 30 (ax_lf 30 (ao_ic (63) 2)) (ax_lf 32 ao_iand)))))) (ax_nd 205 (ax_nd 199 (ax_nd 196 (ax_nd 33 (ax_lf 33 (ao_sw [(0, 196), (1, 259), (2, 282), (3, 315), (4, 338), (5, 371), (6, 414), (7, 457), (8, 516), (9, 549), (10, 602), (11, 671), (12, 724), (13, 783), (14, 852), (15, 885), (16, 918), (17, 987), (18, 1040), (19, 1083), (20, 1116), (21, 1159), (22, 1202), (23, 1245), (24, 1288), (25, 1341), (26, 1384), (27, 1427), (28, 1470), (29, 1539), (30, 1608), (31, 1641), (32, 1700), (33, 1733), (34, 1792), (35, 1815), (36, 1838)] 1861)) (ax_lf 196 (ao_al 1 1))) (ax_nd 197 (ax_lf 197 (ao_al 0 1)) (ax_nd 198 (ax_lf 198 (ao_il 3 1)) (ax_lf 199 (ao_ic (1) 1))))) (ax_nd 202 (ax_nd 200 (ax_lf 200 ao_iadd) (ax_nd 201 (ax_lf 201 (ao_xld g)) (ax_lf 202 (ao_al 0 1)))) (ax_nd 203 (ax_lf 203 (ao_il 3 1)) (ax_nd 204 (ax_lf 204 (ao_ic (2) 1)) (ax_lf 205 ao_iadd))))) (ax_nd 210 (ax_nd 207 (ax_nd 206 (ax_lf 206 (ao_xld g)) (ax_lf 207 (ao_al 0 1))) (ax_nd 208 (ax_lf 208 (ao_il 3 1)) (ax_nd 209 (ax_lf 209 (ao_ic (3) 1)) (ax_lf 210 ao_iadd)))) (ax_nd 213 (ax_nd 211 (ax_lf 211 (ao_xld g)) (ax_nd 212 (ax_lf 212 (ao_al 0 1)) (ax_lf 213 (ao_il 3 1)))) (ax_nd 214 (ax_lf 214 (ao_ic (4) 1)) (ax_nd 215 (ax_lf 215 ao_iadd) (ax_lf 216 (ao_xld g)))))))) (ax_nd 240 (ax_nd 229 (ax_nd 221 (ax_nd 218 (ax_nd 217 (ax_lf 217 (ao_al 0 1)) (ax_lf 218 (ao_il 3 1))) (ax_nd 219 (ax_lf 219 (ao_ic (5) 1)) (ax_nd 220 (ax_lf 220 ao_iadd) (ax_lf 221 (ao_xld g))))) (ax_nd 226 (ax_nd 222 (ax_lf 222 (ao_inva g 2 9 1 yX9_feed cX9_feed 6 (some .int) 6 0 600000 0 7302250)) (ax_nd 225 (ax_lf 225 ao_pop) (ax_lf 226 (ao_al 2 1)))) (ax_nd 227 (ax_lf 227 (ao_al 0 1)) (ax_nd 228 (ax_lf 228 (ao_il 3 1)) (ax_lf 229 (ao_ic (1) 1)))))) (ax_nd 234 (ax_nd 231 (ax_nd 230 (ax_lf 230 ao_iadd) (ax_lf 231 (ao_xld g))) (ax_nd 232 (ax_lf 232 (ao_al 0 1)) (ax_nd 233 (ax_lf 233 (ao_il 3 1)) (ax_lf 234 (ao_ic (2) 1))))) (ax_nd 237 (ax_nd 235 (ax_lf 235 ao_iadd) (ax_nd 236 (ax_lf 236 (ao_xld g)) (ax_lf 237 (ao_al 0 1)))) (ax_nd 238 (ax_lf 238 (ao_il 3 1)) (ax_nd 239 (ax_lf 239 (ao_ic (3) 1)) (ax_lf 240 ao_iadd)))))) (ax_nd 251 (ax_nd 245 (ax_nd 242 (ax_nd 241 (ax_lf 241 (ao_xld g)) (ax_lf 242 (ao_al 0 1))) (ax_nd 243 (ax_lf 243 (ao_il 3 1)) (ax_nd 244 (ax_lf 244 (ao_ic (4) 1)) (ax_lf 245 ao_iadd)))) (ax_nd 248 (ax_nd 246 (ax_lf 246 (ao_xld g)) (ax_nd 247 (ax_lf 247 (ao_al 0 1)) (ax_lf 248 (ao_il 3 1)))) (ax_nd 249 (ax_lf 249 (ao_ic (5) 1)) (ax_nd 250 (ax_lf 250 ao_iadd) (ax_lf 251 (ao_xld g)))))) (ax_nd 260 (ax_nd 255 (ax_nd 252 (ax_lf 252 (ao_inva g 2 10 1 yX10_feed cX10_feed 6 (some .int) 6 0 600000 0 7302250)) (ax_lf 255 ao_pop)) (ax_nd 256 (ax_lf 256 (ao_goto 1861)) (ax_nd 259 (ax_lf 259 (ao_al 1 1)) (ax_lf 260 (ao_al 0 1))))) (ax_nd 263 (ax_nd 261 (ax_lf 261 (ao_il 3 1)) (ax_nd 262 (ax_lf 262 (ao_ic (1) 1)) (ax_lf 263 ao_iadd))) (ax_nd 264 (ax_lf 264 (ao_xld g)) (ax_nd 265 (ax_lf 265 (ao_inva g 1 9 1 yX9_end cX9_end 2 (some .int) 2 0 600000 0 7302250)) (ax_lf 268 (ao_al 2 1))))))))) (ax_nd 321 (ax_nd 293 (ax_nd 282 (ax_nd 273 (ax_nd 270 (ax_nd 269 (ax_lf 269 (ao_al 0 1)) (ax_lf 270 (ao_il 3 1))) (ax_nd 271 (ax_lf 271 (ao_ic (1) 1)) (ax_nd 272 (ax_lf 272 ao_iadd) (ax_lf 273 (ao_xld g))))) (ax_nd 277 (ax_nd 274 (ax_lf 274 (ao_inva g 2 10 1 yX10_end cX10_end 2 (some .int) 2 0 600000 0 7302250)) (ax_lf 277 (ao_icmp_eq 1861))) (ax_nd 280 (ax_lf 280 (ao_ic (0) 1)) (ax_nd 281 (ax_lf 281 (ao_zreta 600000 7302250)) (ax_lf 282 (ao_al 1 1)))))) (ax_nd 287 (ax_nd 284 (ax_nd 283 (ax_lf 283 (ao_al 0 1)) (ax_lf 284 (ao_il 3 1))) (ax_nd 285 (ax_lf 285 (ao_ic (1) 1)) (ax_nd 286 (ax_lf 286 ao_iadd) (ax_lf 287 (ao_xld g))))) (ax_nd 290 (ax_nd 288 (ax_lf 288 (ao_al 0 1)) (ax_nd 289 (ax_lf 289 (ao_il 3 1)) (ax_lf 290 (ao_ic (2) 1)))) (ax_nd 291 (ax_lf 291 ao_iadd) (ax_nd 292 (ax_lf 292 (ao_xld g)) (ax_lf 293 (ao_inva g 10 9 1 yX9_text cX9_text 7 (some .int) 3 0 600000 0 7302250))))))) (ax_nd 306 (ax_nd 300 (ax_nd 297 (ax_nd 296 (ax_lf 296 ao_pop) (ax_lf 297 (ao_al 2 1))) (ax_nd 298 (ax_lf 298 (ao_al 0 1)) (ax_nd 299 (ax_lf 299 (ao_il 3 1)) (ax_lf 300 (ao_ic (1) 1))))) (ax_nd 303 (ax_nd 301 (ax_lf 301 ao_iadd) (ax_nd 302 (ax_lf 302 (ao_xld g)) (ax_lf 303 (ao_al 0 1)))) (ax_nd 304 (ax_lf 304 (ao_il 3 1)) (ax_nd 305 (ax_lf 305 (ao_ic (2) 1)) (ax_lf 306 ao_iadd))))) (ax_nd 315 (ax_nd 308 (ax_nd 307 (ax_lf 307 (ao_xld g)) (ax_lf 308 (ao_inva g 9 10 1 yX10_text cX10_text 4 (some .int) 3 0 600000 0 7302250))) (ax_nd 311 (ax_lf 311 ao_pop) (ax_nd 312 (ax_lf 312 (ao_goto 1861)) (ax_lf 315 (ao_al 1 1))))) (ax_nd 318 (ax_nd 316 (ax_lf 316 (ao_al 0 1)) (ax_nd 317 (ax_lf 317 (ao_il 3 1)) (ax_lf 318 (ao_ic (1) 1)))) (ax_nd 319 (ax_lf 319 ao_iadd) (ax_nd 320 (ax_lf 320 (ao_xld g)) (ax_lf 321 (ao_inva g 1 9 1 yX9_fault cX9_fault 2 (some .int) 2 0 600000 0 7302250)))))))) (ax_nd 349 (ax_nd 338 (ax_nd 328 (ax_nd 325 (ax_nd 324 (ax_lf 324 ao_pop) (ax_lf 325 (ao_al 2 1))) (ax_nd 326 (ax_lf 326 (ao_al 0 1)) (ax_nd 327 (ax_lf 327 (ao_il 3 1)) (ax_lf 328 (ao_ic (1) 1))))) (ax_nd 331 (ax_nd 329 (ax_lf 329 ao_iadd) (ax_nd 330 (ax_lf 330 (ao_xld g)) (ax_lf 331 (ao_inva g 1 10 1 yX10_fault cX10_fault 2 (some .int) 2 0 600000 0 7302250)))) (ax_nd 334 (ax_lf 334 ao_pop) (ax_nd 335 (ax_lf 335 (ao_goto 1861)) (ax_lf 338 (ao_al 1 1)))))) (ax_nd 343 (ax_nd 340 (ax_nd 339 (ax_lf 339 (ao_al 0 1)) (ax_lf 340 (ao_il 3 1))) (ax_nd 341 (ax_lf 341 (ao_ic (1) 1)) (ax_nd 342 (ax_lf 342 ao_iadd) (ax_lf 343 (ao_xld g))))) (ax_nd 346 (ax_nd 344 (ax_lf 344 (ao_al 0 1)) (ax_nd 345 (ax_lf 345 (ao_il 3 1)) (ax_lf 346 (ao_ic (2) 1)))) (ax_nd 347 (ax_lf 347 ao_iadd) (ax_nd 348 (ax_lf 348 (ao_xld g)) (ax_lf 349 (ao_inva g 6 9 1 yX9_republic cX9_republic 4 (some .int) 3 0 600000 0 7302250))))))) (ax_nd 362 (ax_nd 356 (ax_nd 353 (ax_nd 352 (ax_lf 352 ao_pop) (ax_lf 353 (ao_al 2 1))) (ax_nd 354 (ax_lf 354 (ao_al 0 1)) (ax_nd 355 (ax_lf 355 (ao_il 3 1)) (ax_lf 356 (ao_ic (1) 1))))) (ax_nd 359 (ax_nd 357 (ax_lf 357 ao_iadd) (ax_nd 358 (ax_lf 358 (ao_xld g)) (ax_lf 359 (ao_al 0 1)))) (ax_nd 360 (ax_lf 360 (ao_il 3 1)) (ax_nd 361 (ax_lf 361 (ao_ic (2) 1)) (ax_lf 362 ao_iadd))))) (ax_nd 371 (ax_nd 364 (ax_nd 363 (ax_lf 363 (ao_xld g)) (ax_lf 364 (ao_inva g 7 10 1 yX10_republic cX10_republic 3 (some .int) 3 0 600000 0 7302250))) (ax_nd 367 (ax_lf 367 ao_pop) (ax_nd 368 (ax_lf 368 (ao_goto 1861)) (ax_lf 371 (ao_al 1 1))))) (ax_nd 374 (ax_nd 372 (ax_lf 372 (ao_al 0 1)) (ax_nd 373 (ax_lf 373 (ao_il 3 1)) (ax_lf 374 (ao_ic (1) 1)))) (ax_nd 375 (ax_lf 375 ao_iadd) (ax_nd 376 (ax_lf 376 (ao_xld g)) (ax_lf 377 (ao_al 0 1)))))))))) (ax_nd 480 (ax_nd 426 (ax_nd 400 (ax_nd 387 (ax_nd 382 (ax_nd 379 (ax_nd 378 (ax_lf 378 (ao_il 3 1)) (ax_lf 379 (ao_ic (2) 1))) (ax_nd 380 (ax_lf 380 ao_iadd) (ax_nd 381 (ax_lf 381 (ao_xld g)) (ax_lf 382 (ao_al 0 1))))) (ax_nd 384 (ax_nd 383 (ax_lf 383 (ao_il 3 1)) (ax_lf 384 (ao_ic (3) 1))) (ax_nd 385 (ax_lf 385 ao_iadd) (ax_nd 386 (ax_lf 386 (ao_xld g)) (ax_lf 387 (ao_inva g 3 9 1 yX9_person cX9_person 5 (some .int) 4 0 600000 0 7302250)))))) (ax_nd 394 (ax_nd 391 (ax_nd 390 (ax_lf 390 ao_pop) (ax_lf 391 (ao_al 2 1))) (ax_nd 392 (ax_lf 392 (ao_al 0 1)) (ax_nd 393 (ax_lf 393 (ao_il 3 1)) (ax_lf 394 (ao_ic (1) 1))))) (ax_nd 397 (ax_nd 395 (ax_lf 395 ao_iadd) (ax_nd 396 (ax_lf 396 (ao_xld g)) (ax_lf 397 (ao_al 0 1)))) (ax_nd 398 (ax_lf 398 (ao_il 3 1)) (ax_nd 399 (ax_lf 399 (ao_ic (2) 1)) (ax_lf 400 ao_iadd)))))) (ax_nd 415 (ax_nd 405 (ax_nd 402 (ax_nd 401 (ax_lf 401 (ao_xld g)) (ax_lf 402 (ao_al 0 1))) (ax_nd 403 (ax_lf 403 (ao_il 3 1)) (ax_nd 404 (ax_lf 404 (ao_ic (3) 1)) (ax_lf 405 ao_iadd)))) (ax_nd 410 (ax_nd 406 (ax_lf 406 (ao_xld g)) (ax_nd 407 (ax_lf 407 (ao_inva g 8 10 1 yX10_person cX10_person 4 (some .int) 4 0 600000 0 7302250)) (ax_lf 410 ao_pop))) (ax_nd 411 (ax_lf 411 (ao_goto 1861)) (ax_nd 414 (ax_lf 414 (ao_al 1 1)) (ax_lf 415 (ao_al 0 1)))))) (ax_nd 420 (ax_nd 417 (ax_nd 416 (ax_lf 416 (ao_il 3 1)) (ax_lf 417 (ao_ic (1) 1))) (ax_nd 418 (ax_lf 418 ao_iadd) (ax_nd 419 (ax_lf 419 (ao_xld g)) (ax_lf 420 (ao_al 0 1))))) (ax_nd 423 (ax_nd 421 (ax_lf 421 (ao_il 3 1)) (ax_nd 422 (ax_lf 422 (ao_ic (2) 1)) (ax_lf 423 ao_iadd))) (ax_nd 424 (ax_lf 424 (ao_xld g)) (ax_nd 425 (ax_lf 425 (ao_al 0 1)) (ax_lf 426 (ao_il 3 1)))))))) (ax_nd 450 (ax_nd 439 (ax_nd 433 (ax_nd 428 (ax_nd 427 (ax_lf 427 (ao_ic (3) 1)) (ax_lf 428 ao_iadd)) (ax_nd 429 (ax_lf 429 (ao_xld g)) (ax_nd 430 (ax_lf 430 (ao_inva g 6 9 1 yX9_value cX9_value 5 (some .int) 4 0 600000 0 7302250)) (ax_lf 433 ao_pop)))) (ax_nd 436 (ax_nd 434 (ax_lf 434 (ao_al 2 1)) (ax_nd 435 (ax_lf 435 (ao_al 0 1)) (ax_lf 436 (ao_il 3 1)))) (ax_nd 437 (ax_lf 437 (ao_ic (1) 1)) (ax_nd 438 (ax_lf 438 ao_iadd) (ax_lf 439 (ao_xld g)))))) (ax_nd 444 (ax_nd 441 (ax_nd 440 (ax_lf 440 (ao_al 0 1)) (ax_lf 441 (ao_il 3 1))) (ax_nd 442 (ax_lf 442 (ao_ic (2) 1)) (ax_nd 443 (ax_lf 443 ao_iadd) (ax_lf 444 (ao_xld g))))) (ax_nd 447 (ax_nd 445 (ax_lf 445 (ao_al 0 1)) (ax_nd 446 (ax_lf 446 (ao_il 3 1)) (ax_lf 447 (ao_ic (3) 1)))) (ax_nd 448 (ax_lf 448 ao_iadd) (ax_nd 449 (ax_lf 449 (ao_xld g)) (ax_lf 450 (ao_inva g 7 10 1 yX10_value cX10_value 4 (some .int) 4 0 600000 0 7302250))))))) (ax_nd 465 (ax_nd 459 (ax_nd 454 (ax_nd 453 (ax_lf 453 ao_pop) (ax_lf 454 (ao_goto 1861))) (ax_nd 457 (ax_lf 457 (ao_al 1 1)) (ax_nd 458 (ax_lf 458 (ao_al 0 1)) (ax_lf 459 (ao_il 3 1))))) (ax_nd 462 (ax_nd 460 (ax_lf 460 (ao_ic (1) 1)) (ax_nd 461 (ax_lf 461 ao_iadd) (ax_lf 462 (ao_xld g)))) (ax_nd 463 (ax_lf 463 (ao_al 0 1)) (ax_nd 464 (ax_lf 464 (ao_il 3 1)) (ax_lf 465 (ao_ic (2) 1)))))) (ax_nd 470 (ax_nd 467 (ax_nd 466 (ax_lf 466 ao_iadd) (ax_lf 467 (ao_xld g))) (ax_nd 468 (ax_lf 468 (ao_al 0 1)) (ax_nd 469 (ax_lf 469 (ao_il 3 1)) (ax_lf 470 (ao_ic (3) 1))))) (ax_nd 473 (ax_nd 471 (ax_lf 471 ao_iadd) (ax_nd 472 (ax_lf 472 (ao_xld g)) (ax_lf 473 (ao_if_eq 480)))) (ax_nd 476 (ax_lf 476 (ao_ic (1) 1)) (ax_nd 477 (ax_lf 477 (ao_goto 481)) (ax_lf 480 (ao_ic (0) 1))))))))) (ax_nd 536 (ax_nd 508 (ax_nd 493 (ax_nd 487 (ax_nd 484 (ax_nd 481 (ax_lf 481 (ao_inva g 6 9 1 yX9_odds cX9_odds 5 (some .int) 4 0 600000 0 7302250)) (ax_lf 484 ao_pop)) (ax_nd 485 (ax_lf 485 (ao_al 2 1)) (ax_nd 486 (ax_lf 486 (ao_al 0 1)) (ax_lf 487 (ao_il 3 1))))) (ax_nd 490 (ax_nd 488 (ax_lf 488 (ao_ic (1) 1)) (ax_nd 489 (ax_lf 489 ao_iadd) (ax_lf 490 (ao_xld g)))) (ax_nd 491 (ax_lf 491 (ao_al 0 1)) (ax_nd 492 (ax_lf 492 (ao_il 3 1)) (ax_lf 493 (ao_ic (2) 1)))))) (ax_nd 498 (ax_nd 495 (ax_nd 494 (ax_lf 494 ao_iadd) (ax_lf 495 (ao_xld g))) (ax_nd 496 (ax_lf 496 (ao_al 0 1)) (ax_nd 497 (ax_lf 497 (ao_il 3 1)) (ax_lf 498 (ao_ic (3) 1))))) (ax_nd 501 (ax_nd 499 (ax_lf 499 ao_iadd) (ax_nd 500 (ax_lf 500 (ao_xld g)) (ax_lf 501 (ao_if_eq 508)))) (ax_nd 504 (ax_lf 504 (ao_ic (1) 1)) (ax_nd 505 (ax_lf 505 (ao_goto 509)) (ax_lf 508 (ao_ic (0) 1))))))) (ax_nd 523 (ax_nd 517 (ax_nd 512 (ax_nd 509 (ax_lf 509 (ao_inva g 7 10 1 yX10_odds cX10_odds 4 (some .int) 4 0 600000 0 7302250)) (ax_lf 512 ao_pop)) (ax_nd 513 (ax_lf 513 (ao_goto 1861)) (ax_nd 516 (ax_lf 516 (ao_al 1 1)) (ax_lf 517 (ao_al 0 1))))) (ax_nd 520 (ax_nd 518 (ax_lf 518 (ao_il 3 1)) (ax_nd 519 (ax_lf 519 (ao_ic (1) 1)) (ax_lf 520 ao_iadd))) (ax_nd 521 (ax_lf 521 (ao_xld g)) (ax_nd 522 (ax_lf 522 (ao_al 0 1)) (ax_lf 523 (ao_il 3 1)))))) (ax_nd 530 (ax_nd 525 (ax_nd 524 (ax_lf 524 (ao_ic (2) 1)) (ax_lf 525 ao_iadd)) (ax_nd 526 (ax_lf 526 (ao_xld g)) (ax_nd 527 (ax_lf 527 (ao_inva g 3 9 1 yX9_day cX9_day 4 (some .int) 3 0 600000 0 7302250)) (ax_lf 530 ao_pop)))) (ax_nd 533 (ax_nd 531 (ax_lf 531 (ao_al 2 1)) (ax_nd 532 (ax_lf 532 (ao_al 0 1)) (ax_lf 533 (ao_il 3 1)))) (ax_nd 534 (ax_lf 534 (ao_ic (1) 1)) (ax_nd 535 (ax_lf 535 ao_iadd) (ax_lf 536 (ao_xld g)))))))) (ax_nd 562 (ax_nd 551 (ax_nd 541 (ax_nd 538 (ax_nd 537 (ax_lf 537 (ao_al 0 1)) (ax_lf 538 (ao_il 3 1))) (ax_nd 539 (ax_lf 539 (ao_ic (2) 1)) (ax_nd 540 (ax_lf 540 ao_iadd) (ax_lf 541 (ao_xld g))))) (ax_nd 546 (ax_nd 542 (ax_lf 542 (ao_inva g 4 10 1 yX10_day cX10_day 4 (some .int) 3 0 600000 0 7302250)) (ax_nd 545 (ax_lf 545 ao_pop) (ax_lf 546 (ao_goto 1861)))) (ax_nd 549 (ax_lf 549 (ao_al 1 1)) (ax_nd 550 (ax_lf 550 (ao_al 0 1)) (ax_lf 551 (ao_il 3 1)))))) (ax_nd 556 (ax_nd 553 (ax_nd 552 (ax_lf 552 (ao_ic (1) 1)) (ax_lf 553 ao_iadd)) (ax_nd 554 (ax_lf 554 (ao_xld g)) (ax_nd 555 (ax_lf 555 (ao_al 0 1)) (ax_lf 556 (ao_il 3 1))))) (ax_nd 559 (ax_nd 557 (ax_lf 557 (ao_ic (2) 1)) (ax_nd 558 (ax_lf 558 ao_iadd) (ax_lf 559 (ao_xld g)))) (ax_nd 560 (ax_lf 560 (ao_al 0 1)) (ax_nd 561 (ax_lf 561 (ao_il 3 1)) (ax_lf 562 (ao_ic (3) 1))))))) (ax_nd 575 (ax_nd 567 (ax_nd 564 (ax_nd 563 (ax_lf 563 ao_iadd) (ax_lf 564 (ao_xld g))) (ax_nd 565 (ax_lf 565 (ao_al 0 1)) (ax_nd 566 (ax_lf 566 (ao_il 3 1)) (ax_lf 567 (ao_ic (4) 1))))) (ax_nd 570 (ax_nd 568 (ax_lf 568 ao_iadd) (ax_nd 569 (ax_lf 569 (ao_xld g)) (ax_lf 570 (ao_inva g 6 9 1 yX9_purse cX9_purse 8 (some .int) 5 0 600000 0 7302250)))) (ax_nd 573 (ax_lf 573 ao_pop) (ax_nd 574 (ax_lf 574 (ao_al 2 1)) (ax_lf 575 (ao_al 0 1)))))) (ax_nd 580 (ax_nd 577 (ax_nd 576 (ax_lf 576 (ao_il 3 1)) (ax_lf 577 (ao_ic (1) 1))) (ax_nd 578 (ax_lf 578 ao_iadd) (ax_nd 579 (ax_lf 579 (ao_xld g)) (ax_lf 580 (ao_al 0 1))))) (ax_nd 583 (ax_nd 581 (ax_lf 581 (ao_il 3 1)) (ax_nd 582 (ax_lf 582 (ao_ic (2) 1)) (ax_lf 583 ao_iadd))) (ax_nd 584 (ax_lf 584 (ao_xld g)) (ax_nd 585 (ax_lf 585 (ao_al 0 1)) (ax_lf 586 (ao_il 3 1))))))))))) (ax_nd 798 (ax_nd 691 (ax_nd 639 (ax_nd 611 (ax_nd 598 (ax_nd 591 (ax_nd 588 (ax_nd 587 (ax_lf 587 (ao_ic (3) 1)) (ax_lf 588 ao_iadd)) (ax_nd 589 (ax_lf 589 (ao_xld g)) (ax_nd 590 (ax_lf 590 (ao_al 0 1)) (ax_lf 591 (ao_il 3 1))))) (ax_nd 593 (ax_nd 592 (ax_lf 592 (ao_ic (4) 1)) (ax_lf 593 ao_iadd)) (ax_nd 594 (ax_lf 594 (ao_xld g)) (ax_nd 595 (ax_lf 595 (ao_inva g 7 10 1 yX10_purse cX10_purse 5 (some .int) 5 0 600000 0 7302250)) (ax_lf 598 ao_pop))))) (ax_nd 605 (ax_nd 602 (ax_nd 599 (ax_lf 599 (ao_goto 1861)) (ax_lf 602 (ao_al 1 1))) (ax_nd 603 (ax_lf 603 (ao_al 0 1)) (ax_nd 604 (ax_lf 604 (ao_il 3 1)) (ax_lf 605 (ao_ic (1) 1))))) (ax_nd 608 (ax_nd 606 (ax_lf 606 ao_iadd) (ax_nd 607 (ax_lf 607 (ao_xld g)) (ax_lf 608 (ao_al 0 1)))) (ax_nd 609 (ax_lf 609 (ao_il 3 1)) (ax_nd 610 (ax_lf 610 (ao_ic (2) 1)) (ax_lf 611 ao_iadd)))))) (ax_nd 622 (ax_nd 616 (ax_nd 613 (ax_nd 612 (ax_lf 612 (ao_xld g)) (ax_lf 613 (ao_al 0 1))) (ax_nd 614 (ax_lf 614 (ao_il 3 1)) (ax_nd 615 (ax_lf 615 (ao_ic (3) 1)) (ax_lf 616 ao_iadd)))) (ax_nd 619 (ax_nd 617 (ax_lf 617 (ao_xld g)) (ax_nd 618 (ax_lf 618 (ao_al 0 1)) (ax_lf 619 (ao_il 3 1)))) (ax_nd 620 (ax_lf 620 (ao_ic (4) 1)) (ax_nd 621 (ax_lf 621 ao_iadd) (ax_lf 622 (ao_xld g)))))) (ax_nd 631 (ax_nd 626 (ax_nd 623 (ax_lf 623 (ao_if_eq 630)) (ax_lf 626 (ao_ic (1) 1))) (ax_nd 627 (ax_lf 627 (ao_goto 631)) (ax_nd 630 (ax_lf 630 (ao_ic (0) 1)) (ax_lf 631 (ao_inva g 6 9 2 yX9_likely cX9_likely 13 (some .long) 5 0 600000 0 7302250))))) (ax_nd 636 (ax_nd 634 (ax_lf 634 ao_pop2) (ax_nd 635 (ax_lf 635 (ao_al 2 1)) (ax_lf 636 (ao_al 0 1)))) (ax_nd 637 (ax_lf 637 (ao_il 3 1)) (ax_nd 638 (ax_lf 638 (ao_ic (1) 1)) (ax_lf 639 ao_iadd))))))) (ax_nd 667 (ax_nd 650 (ax_nd 644 (ax_nd 641 (ax_nd 640 (ax_lf 640 (ao_xld g)) (ax_lf 641 (ao_al 0 1))) (ax_nd 642 (ax_lf 642 (ao_il 3 1)) (ax_nd 643 (ax_lf 643 (ao_ic (2) 1)) (ax_lf 644 ao_iadd)))) (ax_nd 647 (ax_nd 645 (ax_lf 645 (ao_xld g)) (ax_nd 646 (ax_lf 646 (ao_al 0 1)) (ax_lf 647 (ao_il 3 1)))) (ax_nd 648 (ax_lf 648 (ao_ic (3) 1)) (ax_nd 649 (ax_lf 649 ao_iadd) (ax_lf 650 (ao_xld g)))))) (ax_nd 655 (ax_nd 652 (ax_nd 651 (ax_lf 651 (ao_al 0 1)) (ax_lf 652 (ao_il 3 1))) (ax_nd 653 (ax_lf 653 (ao_ic (4) 1)) (ax_nd 654 (ax_lf 654 ao_iadd) (ax_lf 655 (ao_xld g))))) (ax_nd 660 (ax_nd 656 (ax_lf 656 (ao_if_eq 663)) (ax_nd 659 (ax_lf 659 (ao_ic (1) 1)) (ax_lf 660 (ao_goto 664)))) (ax_nd 663 (ax_lf 663 (ao_ic (0) 1)) (ax_nd 664 (ax_lf 664 (ao_inva g 7 10 2 yX10_likely cX10_likely 5 (some .long) 5 0 600000 0 7302250)) (ax_lf 667 ao_pop2)))))) (ax_nd 680 (ax_nd 674 (ax_nd 671 (ax_nd 668 (ax_lf 668 (ao_goto 1861)) (ax_lf 671 (ao_al 1 1))) (ax_nd 672 (ax_lf 672 (ao_al 0 1)) (ax_nd 673 (ax_lf 673 (ao_il 3 1)) (ax_lf 674 (ao_ic (1) 1))))) (ax_nd 677 (ax_nd 675 (ax_lf 675 ao_iadd) (ax_nd 676 (ax_lf 676 (ao_xld g)) (ax_lf 677 (ao_al 0 1)))) (ax_nd 678 (ax_lf 678 (ao_il 3 1)) (ax_nd 679 (ax_lf 679 (ao_ic (2) 1)) (ax_lf 680 ao_iadd))))) (ax_nd 685 (ax_nd 682 (ax_nd 681 (ax_lf 681 (ao_xld g)) (ax_lf 682 (ao_al 0 1))) (ax_nd 683 (ax_lf 683 (ao_il 3 1)) (ax_nd 684 (ax_lf 684 (ao_ic (3) 1)) (ax_lf 685 ao_iadd)))) (ax_nd 688 (ax_nd 686 (ax_lf 686 (ao_xld g)) (ax_nd 687 (ax_lf 687 (ao_al 0 1)) (ax_lf 688 (ao_il 3 1)))) (ax_nd 689 (ax_lf 689 (ao_ic (4) 1)) (ax_nd 690 (ax_lf 690 ao_iadd) (ax_lf 691 (ao_xld g))))))))) (ax_nd 740 (ax_nd 714 (ax_nd 703 (ax_nd 698 (ax_nd 695 (ax_nd 692 (ax_lf 692 (ao_inva g 6 9 1 yX9_drawn cX9_drawn 11 (some .int) 5 0 600000 0 7302250)) (ax_lf 695 ao_pop)) (ax_nd 696 (ax_lf 696 (ao_al 2 1)) (ax_nd 697 (ax_lf 697 (ao_al 0 1)) (ax_lf 698 (ao_il 3 1))))) (ax_nd 700 (ax_nd 699 (ax_lf 699 (ao_ic (1) 1)) (ax_lf 700 ao_iadd)) (ax_nd 701 (ax_lf 701 (ao_xld g)) (ax_nd 702 (ax_lf 702 (ao_al 0 1)) (ax_lf 703 (ao_il 3 1)))))) (ax_nd 708 (ax_nd 705 (ax_nd 704 (ax_lf 704 (ao_ic (2) 1)) (ax_lf 705 ao_iadd)) (ax_nd 706 (ax_lf 706 (ao_xld g)) (ax_nd 707 (ax_lf 707 (ao_al 0 1)) (ax_lf 708 (ao_il 3 1))))) (ax_nd 711 (ax_nd 709 (ax_lf 709 (ao_ic (3) 1)) (ax_nd 710 (ax_lf 710 ao_iadd) (ax_lf 711 (ao_xld g)))) (ax_nd 712 (ax_lf 712 (ao_al 0 1)) (ax_nd 713 (ax_lf 713 (ao_il 3 1)) (ax_lf 714 (ao_ic (4) 1))))))) (ax_nd 729 (ax_nd 721 (ax_nd 716 (ax_nd 715 (ax_lf 715 ao_iadd) (ax_lf 716 (ao_xld g))) (ax_nd 717 (ax_lf 717 (ao_inva g 7 10 1 yX10_drawn cX10_drawn 7 (some .int) 5 0 600000 0 7302250)) (ax_nd 720 (ax_lf 720 ao_pop) (ax_lf 721 (ao_goto 1861))))) (ax_nd 726 (ax_nd 724 (ax_lf 724 (ao_al 1 1)) (ax_nd 725 (ax_lf 725 (ao_al 0 1)) (ax_lf 726 (ao_il 3 1)))) (ax_nd 727 (ax_lf 727 (ao_ic (1) 1)) (ax_nd 728 (ax_lf 728 ao_iadd) (ax_lf 729 (ao_xld g)))))) (ax_nd 734 (ax_nd 731 (ax_nd 730 (ax_lf 730 (ao_al 0 1)) (ax_lf 731 (ao_il 3 1))) (ax_nd 732 (ax_lf 732 (ao_ic (2) 1)) (ax_nd 733 (ax_lf 733 ao_iadd) (ax_lf 734 (ao_xld g))))) (ax_nd 737 (ax_nd 735 (ax_lf 735 (ao_al 0 1)) (ax_nd 736 (ax_lf 736 (ao_il 3 1)) (ax_lf 737 (ao_ic (3) 1)))) (ax_nd 738 (ax_lf 738 ao_iadd) (ax_nd 739 (ax_lf 739 (ao_xld g)) (ax_lf 740 (ao_if_eq 747)))))))) (ax_nd 768 (ax_nd 757 (ax_nd 751 (ax_nd 744 (ax_nd 743 (ax_lf 743 (ao_ic (1) 1)) (ax_lf 744 (ao_goto 748))) (ax_nd 747 (ax_lf 747 (ao_ic (0) 1)) (ax_nd 748 (ax_lf 748 (ao_inva g 6 9 1 yX9_mean cX9_mean 5 (some .int) 4 0 600000 0 7302250)) (ax_lf 751 ao_pop)))) (ax_nd 754 (ax_nd 752 (ax_lf 752 (ao_al 2 1)) (ax_nd 753 (ax_lf 753 (ao_al 0 1)) (ax_lf 754 (ao_il 3 1)))) (ax_nd 755 (ax_lf 755 (ao_ic (1) 1)) (ax_nd 756 (ax_lf 756 ao_iadd) (ax_lf 757 (ao_xld g)))))) (ax_nd 762 (ax_nd 759 (ax_nd 758 (ax_lf 758 (ao_al 0 1)) (ax_lf 759 (ao_il 3 1))) (ax_nd 760 (ax_lf 760 (ao_ic (2) 1)) (ax_nd 761 (ax_lf 761 ao_iadd) (ax_lf 762 (ao_xld g))))) (ax_nd 765 (ax_nd 763 (ax_lf 763 (ao_al 0 1)) (ax_nd 764 (ax_lf 764 (ao_il 3 1)) (ax_lf 765 (ao_ic (3) 1)))) (ax_nd 766 (ax_lf 766 ao_iadd) (ax_nd 767 (ax_lf 767 (ao_xld g)) (ax_lf 768 (ao_if_eq 775))))))) (ax_nd 787 (ax_nd 779 (ax_nd 772 (ax_nd 771 (ax_lf 771 (ao_ic (1) 1)) (ax_lf 772 (ao_goto 776))) (ax_nd 775 (ax_lf 775 (ao_ic (0) 1)) (ax_nd 776 (ax_lf 776 (ao_inva g 8 10 1 yX10_mean cX10_mean 4 (some .int) 4 0 600000 0 7302250)) (ax_lf 779 ao_pop)))) (ax_nd 784 (ax_nd 780 (ax_lf 780 (ao_goto 1861)) (ax_nd 783 (ax_lf 783 (ao_al 1 1)) (ax_lf 784 (ao_al 0 1)))) (ax_nd 785 (ax_lf 785 (ao_il 3 1)) (ax_nd 786 (ax_lf 786 (ao_ic (1) 1)) (ax_lf 787 ao_iadd))))) (ax_nd 792 (ax_nd 789 (ax_nd 788 (ax_lf 788 (ao_xld g)) (ax_lf 789 (ao_al 0 1))) (ax_nd 790 (ax_lf 790 (ao_il 3 1)) (ax_nd 791 (ax_lf 791 (ao_ic (2) 1)) (ax_lf 792 ao_iadd)))) (ax_nd 795 (ax_nd 793 (ax_lf 793 (ao_xld g)) (ax_nd 794 (ax_lf 794 (ao_al 0 1)) (ax_lf 795 (ao_il 3 1)))) (ax_nd 796 (ax_lf 796 (ao_ic (3) 1)) (ax_nd 797 (ax_lf 797 ao_iadd) (ax_lf 798 (ao_xld g)))))))))) (ax_nd 907 (ax_nd 855 (ax_nd 825 (ax_nd 812 (ax_nd 803 (ax_nd 800 (ax_nd 799 (ax_lf 799 (ao_al 0 1)) (ax_lf 800 (ao_il 3 1))) (ax_nd 801 (ax_lf 801 (ao_ic (4) 1)) (ax_nd 802 (ax_lf 802 ao_iadd) (ax_lf 803 (ao_xld g))))) (ax_nd 807 (ax_nd 804 (ax_lf 804 (ao_if_eq 811)) (ax_lf 807 (ao_ic (1) 1))) (ax_nd 808 (ax_lf 808 (ao_goto 812)) (ax_nd 811 (ax_lf 811 (ao_ic (0) 1)) (ax_lf 812 (ao_inva g 6 9 1 yX9_gain cX9_gain 6 (some .int) 5 0 600000 0 7302250)))))) (ax_nd 819 (ax_nd 816 (ax_nd 815 (ax_lf 815 ao_pop) (ax_lf 816 (ao_al 2 1))) (ax_nd 817 (ax_lf 817 (ao_al 0 1)) (ax_nd 818 (ax_lf 818 (ao_il 3 1)) (ax_lf 819 (ao_ic (1) 1))))) (ax_nd 822 (ax_nd 820 (ax_lf 820 ao_iadd) (ax_nd 821 (ax_lf 821 (ao_xld g)) (ax_lf 822 (ao_al 0 1)))) (ax_nd 823 (ax_lf 823 (ao_il 3 1)) (ax_nd 824 (ax_lf 824 (ao_ic (2) 1)) (ax_lf 825 ao_iadd)))))) (ax_nd 836 (ax_nd 830 (ax_nd 827 (ax_nd 826 (ax_lf 826 (ao_xld g)) (ax_lf 827 (ao_al 0 1))) (ax_nd 828 (ax_lf 828 (ao_il 3 1)) (ax_nd 829 (ax_lf 829 (ao_ic (3) 1)) (ax_lf 830 ao_iadd)))) (ax_nd 833 (ax_nd 831 (ax_lf 831 (ao_xld g)) (ax_nd 832 (ax_lf 832 (ao_al 0 1)) (ax_lf 833 (ao_il 3 1)))) (ax_nd 834 (ax_lf 834 (ao_ic (4) 1)) (ax_nd 835 (ax_lf 835 ao_iadd) (ax_lf 836 (ao_xld g)))))) (ax_nd 845 (ax_nd 840 (ax_nd 837 (ax_lf 837 (ao_if_eq 844)) (ax_lf 840 (ao_ic (1) 1))) (ax_nd 841 (ax_lf 841 (ao_goto 845)) (ax_nd 844 (ax_lf 844 (ao_ic (0) 1)) (ax_lf 845 (ao_inva g 8 10 1 yX10_gain cX10_gain 5 (some .int) 5 0 600000 0 7302250))))) (ax_nd 852 (ax_nd 848 (ax_lf 848 ao_pop) (ax_nd 849 (ax_lf 849 (ao_goto 1861)) (ax_lf 852 (ao_al 1 1)))) (ax_nd 853 (ax_lf 853 (ao_al 0 1)) (ax_nd 854 (ax_lf 854 (ao_il 3 1)) (ax_lf 855 (ao_ic (1) 1)))))))) (ax_nd 881 (ax_nd 868 (ax_nd 860 (ax_nd 857 (ax_nd 856 (ax_lf 856 ao_iadd) (ax_lf 857 (ao_xld g))) (ax_nd 858 (ax_lf 858 (ao_al 0 1)) (ax_nd 859 (ax_lf 859 (ao_il 3 1)) (ax_lf 860 (ao_ic (2) 1))))) (ax_nd 863 (ax_nd 861 (ax_lf 861 ao_iadd) (ax_nd 862 (ax_lf 862 (ao_xld g)) (ax_lf 863 (ao_inva g 6 9 1 yX9_wish cX9_wish 4 (some .int) 3 0 600000 0 7302250)))) (ax_nd 866 (ax_lf 866 ao_pop) (ax_nd 867 (ax_lf 867 (ao_al 2 1)) (ax_lf 868 (ao_al 0 1)))))) (ax_nd 873 (ax_nd 870 (ax_nd 869 (ax_lf 869 (ao_il 3 1)) (ax_lf 870 (ao_ic (1) 1))) (ax_nd 871 (ax_lf 871 ao_iadd) (ax_nd 872 (ax_lf 872 (ao_xld g)) (ax_lf 873 (ao_al 0 1))))) (ax_nd 876 (ax_nd 874 (ax_lf 874 (ao_il 3 1)) (ax_nd 875 (ax_lf 875 (ao_ic (2) 1)) (ax_lf 876 ao_iadd))) (ax_nd 877 (ax_lf 877 (ao_xld g)) (ax_nd 878 (ax_lf 878 (ao_inva g 7 10 1 yX10_wish cX10_wish 3 (some .int) 3 0 600000 0 7302250)) (ax_lf 881 ao_pop)))))) (ax_nd 894 (ax_nd 888 (ax_nd 885 (ax_nd 882 (ax_lf 882 (ao_goto 1861)) (ax_lf 885 (ao_al 1 1))) (ax_nd 886 (ax_lf 886 (ao_al 0 1)) (ax_nd 887 (ax_lf 887 (ao_il 3 1)) (ax_lf 888 (ao_ic (1) 1))))) (ax_nd 891 (ax_nd 889 (ax_lf 889 ao_iadd) (ax_nd 890 (ax_lf 890 (ao_xld g)) (ax_lf 891 (ao_al 0 1)))) (ax_nd 892 (ax_lf 892 (ao_il 3 1)) (ax_nd 893 (ax_lf 893 (ao_ic (2) 1)) (ax_lf 894 ao_iadd))))) (ax_nd 901 (ax_nd 896 (ax_nd 895 (ax_lf 895 (ao_xld g)) (ax_lf 896 (ao_inva g 6 9 1 yX9_buyer cX9_buyer 12 (some .int) 3 0 600000 0 7302250))) (ax_nd 899 (ax_lf 899 ao_pop) (ax_nd 900 (ax_lf 900 (ao_al 2 1)) (ax_lf 901 (ao_al 0 1))))) (ax_nd 904 (ax_nd 902 (ax_lf 902 (ao_il 3 1)) (ax_nd 903 (ax_lf 903 (ao_ic (1) 1)) (ax_lf 904 ao_iadd))) (ax_nd 905 (ax_lf 905 (ao_xld g)) (ax_nd 906 (ax_lf 906 (ao_al 0 1)) (ax_lf 907 (ao_il 3 1))))))))) (ax_nd 961 (ax_nd 933 (ax_nd 922 (ax_nd 914 (ax_nd 909 (ax_nd 908 (ax_lf 908 (ao_ic (2) 1)) (ax_lf 909 ao_iadd)) (ax_nd 910 (ax_lf 910 (ao_xld g)) (ax_nd 911 (ax_lf 911 (ao_inva g 7 10 1 yX10_buyer cX10_buyer 10 (some .int) 3 0 600000 0 7302250)) (ax_lf 914 ao_pop)))) (ax_nd 919 (ax_nd 915 (ax_lf 915 (ao_goto 1861)) (ax_nd 918 (ax_lf 918 (ao_al 1 1)) (ax_lf 919 (ao_al 0 1)))) (ax_nd 920 (ax_lf 920 (ao_il 3 1)) (ax_nd 921 (ax_lf 921 (ao_ic (1) 1)) (ax_lf 922 ao_iadd))))) (ax_nd 927 (ax_nd 924 (ax_nd 923 (ax_lf 923 (ao_xld g)) (ax_lf 924 (ao_al 0 1))) (ax_nd 925 (ax_lf 925 (ao_il 3 1)) (ax_nd 926 (ax_lf 926 (ao_ic (2) 1)) (ax_lf 927 ao_iadd)))) (ax_nd 930 (ax_nd 928 (ax_lf 928 (ao_xld g)) (ax_nd 929 (ax_lf 929 (ao_al 0 1)) (ax_lf 930 (ao_il 3 1)))) (ax_nd 931 (ax_lf 931 (ao_ic (3) 1)) (ax_nd 932 (ax_lf 932 ao_iadd) (ax_lf 933 (ao_xld g))))))) (ax_nd 950 (ax_nd 938 (ax_nd 935 (ax_nd 934 (ax_lf 934 (ao_al 0 1)) (ax_lf 935 (ao_il 3 1))) (ax_nd 936 (ax_lf 936 (ao_ic (4) 1)) (ax_nd 937 (ax_lf 937 ao_iadd) (ax_lf 938 (ao_xld g))))) (ax_nd 943 (ax_nd 939 (ax_lf 939 (ao_if_eq 946)) (ax_nd 942 (ax_lf 942 (ao_ic (1) 1)) (ax_lf 943 (ao_goto 947)))) (ax_nd 946 (ax_lf 946 (ao_ic (0) 1)) (ax_nd 947 (ax_lf 947 (ao_inva g 6 9 1 yX9_promise cX9_promise 10 (some .int) 5 0 600000 0 7302250)) (ax_lf 950 ao_pop))))) (ax_nd 955 (ax_nd 952 (ax_nd 951 (ax_lf 951 (ao_al 2 1)) (ax_lf 952 (ao_al 0 1))) (ax_nd 953 (ax_lf 953 (ao_il 3 1)) (ax_nd 954 (ax_lf 954 (ao_ic (1) 1)) (ax_lf 955 ao_iadd)))) (ax_nd 958 (ax_nd 956 (ax_lf 956 (ao_xld g)) (ax_nd 957 (ax_lf 957 (ao_al 0 1)) (ax_lf 958 (ao_il 3 1)))) (ax_nd 959 (ax_lf 959 (ao_ic (2) 1)) (ax_nd 960 (ax_lf 960 ao_iadd) (ax_lf 961 (ao_xld g)))))))) (ax_nd 991 (ax_nd 972 (ax_nd 966 (ax_nd 963 (ax_nd 962 (ax_lf 962 (ao_al 0 1)) (ax_lf 963 (ao_il 3 1))) (ax_nd 964 (ax_lf 964 (ao_ic (3) 1)) (ax_nd 965 (ax_lf 965 ao_iadd) (ax_lf 966 (ao_xld g))))) (ax_nd 969 (ax_nd 967 (ax_lf 967 (ao_al 0 1)) (ax_nd 968 (ax_lf 968 (ao_il 3 1)) (ax_lf 969 (ao_ic (4) 1)))) (ax_nd 970 (ax_lf 970 ao_iadd) (ax_nd 971 (ax_lf 971 (ao_xld g)) (ax_lf 972 (ao_if_eq 979)))))) (ax_nd 983 (ax_nd 976 (ax_nd 975 (ax_lf 975 (ao_ic (1) 1)) (ax_lf 976 (ao_goto 980))) (ax_nd 979 (ax_lf 979 (ao_ic (0) 1)) (ax_nd 980 (ax_lf 980 (ao_inva g 8 10 1 yX10_promise cX10_promise 8 (some .int) 5 0 600000 0 7302250)) (ax_lf 983 ao_pop)))) (ax_nd 988 (ax_nd 984 (ax_lf 984 (ao_goto 1861)) (ax_nd 987 (ax_lf 987 (ao_al 1 1)) (ax_lf 988 (ao_al 0 1)))) (ax_nd 989 (ax_lf 989 (ao_il 3 1)) (ax_nd 990 (ax_lf 990 (ao_ic (1) 1)) (ax_lf 991 ao_iadd)))))) (ax_nd 1002 (ax_nd 996 (ax_nd 993 (ax_nd 992 (ax_lf 992 (ao_xld g)) (ax_lf 993 (ao_al 0 1))) (ax_nd 994 (ax_lf 994 (ao_il 3 1)) (ax_nd 995 (ax_lf 995 (ao_ic (2) 1)) (ax_lf 996 ao_iadd)))) (ax_nd 999 (ax_nd 997 (ax_lf 997 (ao_xld g)) (ax_nd 998 (ax_lf 998 (ao_al 0 1)) (ax_lf 999 (ao_il 3 1)))) (ax_nd 1000 (ax_lf 1000 (ao_ic (3) 1)) (ax_nd 1001 (ax_lf 1001 ao_iadd) (ax_lf 1002 (ao_xld g)))))) (ax_nd 1007 (ax_nd 1004 (ax_nd 1003 (ax_lf 1003 (ao_al 0 1)) (ax_lf 1004 (ao_il 3 1))) (ax_nd 1005 (ax_lf 1005 (ao_ic (4) 1)) (ax_nd 1006 (ax_lf 1006 ao_iadd) (ax_lf 1007 (ao_xld g))))) (ax_nd 1012 (ax_nd 1008 (ax_lf 1008 (ao_inva g 4 9 1 yX9_two cX9_two 8 (some .int) 5 0 600000 0 7302250)) (ax_nd 1011 (ax_lf 1011 ao_pop) (ax_lf 1012 (ao_al 2 1)))) (ax_nd 1013 (ax_lf 1013 (ao_al 0 1)) (ax_nd 1014 (ax_lf 1014 (ao_il 3 1)) (ax_lf 1015 (ao_ic (1) 1)))))))))))) (ax_nd 1418 (ax_nd 1217 (ax_nd 1118 (ax_nd 1064 (ax_nd 1040 (ax_nd 1025 (ax_nd 1020 (ax_nd 1017 (ax_nd 1016 (ax_lf 1016 ao_iadd) (ax_lf 1017 (ao_xld g))) (ax_nd 1018 (ax_lf 1018 (ao_al 0 1)) (ax_nd 1019 (ax_lf 1019 (ao_il 3 1)) (ax_lf 1020 (ao_ic (2) 1))))) (ax_nd 1022 (ax_nd 1021 (ax_lf 1021 ao_iadd) (ax_lf 1022 (ao_xld g))) (ax_nd 1023 (ax_lf 1023 (ao_al 0 1)) (ax_nd 1024 (ax_lf 1024 (ao_il 3 1)) (ax_lf 1025 (ao_ic (3) 1)))))) (ax_nd 1030 (ax_nd 1027 (ax_nd 1026 (ax_lf 1026 ao_iadd) (ax_lf 1027 (ao_xld g))) (ax_nd 1028 (ax_lf 1028 (ao_al 0 1)) (ax_nd 1029 (ax_lf 1029 (ao_il 3 1)) (ax_lf 1030 (ao_ic (4) 1))))) (ax_nd 1033 (ax_nd 1031 (ax_lf 1031 ao_iadd) (ax_nd 1032 (ax_lf 1032 (ao_xld g)) (ax_lf 1033 (ao_inva g 8 10 1 yX10_two cX10_two 5 (some .int) 5 0 600000 0 7302250)))) (ax_nd 1036 (ax_lf 1036 ao_pop) (ax_nd 1037 (ax_lf 1037 (ao_goto 1861)) (ax_lf 1040 (ao_al 1 1))))))) (ax_nd 1051 (ax_nd 1045 (ax_nd 1042 (ax_nd 1041 (ax_lf 1041 (ao_al 0 1)) (ax_lf 1042 (ao_il 3 1))) (ax_nd 1043 (ax_lf 1043 (ao_ic (1) 1)) (ax_nd 1044 (ax_lf 1044 ao_iadd) (ax_lf 1045 (ao_xld g))))) (ax_nd 1048 (ax_nd 1046 (ax_lf 1046 (ao_al 0 1)) (ax_nd 1047 (ax_lf 1047 (ao_il 3 1)) (ax_lf 1048 (ao_ic (2) 1)))) (ax_nd 1049 (ax_lf 1049 ao_iadd) (ax_nd 1050 (ax_lf 1050 (ao_xld g)) (ax_lf 1051 (ao_al 0 1)))))) (ax_nd 1056 (ax_nd 1053 (ax_nd 1052 (ax_lf 1052 (ao_il 3 1)) (ax_lf 1053 (ao_ic (3) 1))) (ax_nd 1054 (ax_lf 1054 ao_iadd) (ax_nd 1055 (ax_lf 1055 (ao_xld g)) (ax_lf 1056 (ao_inva g 6 9 1 yX9_shift cX9_shift 14 (some .int) 4 0 600000 0 7302250))))) (ax_nd 1061 (ax_nd 1059 (ax_lf 1059 ao_pop) (ax_nd 1060 (ax_lf 1060 (ao_al 2 1)) (ax_lf 1061 (ao_al 0 1)))) (ax_nd 1062 (ax_lf 1062 (ao_il 3 1)) (ax_nd 1063 (ax_lf 1063 (ao_ic (1) 1)) (ax_lf 1064 ao_iadd))))))) (ax_nd 1090 (ax_nd 1075 (ax_nd 1069 (ax_nd 1066 (ax_nd 1065 (ax_lf 1065 (ao_xld g)) (ax_lf 1066 (ao_al 0 1))) (ax_nd 1067 (ax_lf 1067 (ao_il 3 1)) (ax_nd 1068 (ax_lf 1068 (ao_ic (2) 1)) (ax_lf 1069 ao_iadd)))) (ax_nd 1072 (ax_nd 1070 (ax_lf 1070 (ao_xld g)) (ax_nd 1071 (ax_lf 1071 (ao_al 0 1)) (ax_lf 1072 (ao_il 3 1)))) (ax_nd 1073 (ax_lf 1073 (ao_ic (3) 1)) (ax_nd 1074 (ax_lf 1074 ao_iadd) (ax_lf 1075 (ao_xld g)))))) (ax_nd 1084 (ax_nd 1079 (ax_nd 1076 (ax_lf 1076 (ao_inva g 8 10 1 yX10_shift cX10_shift 12 (some .int) 4 0 600000 0 7302250)) (ax_lf 1079 ao_pop)) (ax_nd 1080 (ax_lf 1080 (ao_goto 1861)) (ax_nd 1083 (ax_lf 1083 (ao_al 1 1)) (ax_lf 1084 (ao_al 0 1))))) (ax_nd 1087 (ax_nd 1085 (ax_lf 1085 (ao_il 3 1)) (ax_nd 1086 (ax_lf 1086 (ao_ic (1) 1)) (ax_lf 1087 ao_iadd))) (ax_nd 1088 (ax_lf 1088 (ao_xld g)) (ax_nd 1089 (ax_lf 1089 (ao_al 0 1)) (ax_lf 1090 (ao_il 3 1))))))) (ax_nd 1103 (ax_nd 1097 (ax_nd 1092 (ax_nd 1091 (ax_lf 1091 (ao_ic (2) 1)) (ax_lf 1092 ao_iadd)) (ax_nd 1093 (ax_lf 1093 (ao_xld g)) (ax_nd 1094 (ax_lf 1094 (ao_inva g 6 9 1 yX9_feud cX9_feud 10 (some .int) 3 0 600000 0 7302250)) (ax_lf 1097 ao_pop)))) (ax_nd 1100 (ax_nd 1098 (ax_lf 1098 (ao_al 2 1)) (ax_nd 1099 (ax_lf 1099 (ao_al 0 1)) (ax_lf 1100 (ao_il 3 1)))) (ax_nd 1101 (ax_lf 1101 (ao_ic (1) 1)) (ax_nd 1102 (ax_lf 1102 ao_iadd) (ax_lf 1103 (ao_xld g)))))) (ax_nd 1108 (ax_nd 1105 (ax_nd 1104 (ax_lf 1104 (ao_al 0 1)) (ax_lf 1105 (ao_il 3 1))) (ax_nd 1106 (ax_lf 1106 (ao_ic (2) 1)) (ax_nd 1107 (ax_lf 1107 ao_iadd) (ax_lf 1108 (ao_xld g))))) (ax_nd 1113 (ax_nd 1109 (ax_lf 1109 (ao_inva g 7 10 1 yX10_feud cX10_feud 7 (some .int) 3 0 600000 0 7302250)) (ax_nd 1112 (ax_lf 1112 ao_pop) (ax_lf 1113 (ao_goto 1861)))) (ax_nd 1116 (ax_lf 1116 (ao_al 1 1)) (ax_nd 1117 (ax_lf 1117 (ao_al 0 1)) (ax_lf 1118 (ao_il 3 1))))))))) (ax_nd 1167 (ax_nd 1141 (ax_nd 1128 (ax_nd 1123 (ax_nd 1120 (ax_nd 1119 (ax_lf 1119 (ao_ic (1) 1)) (ax_lf 1120 ao_iadd)) (ax_nd 1121 (ax_lf 1121 (ao_xld g)) (ax_nd 1122 (ax_lf 1122 (ao_al 0 1)) (ax_lf 1123 (ao_il 3 1))))) (ax_nd 1125 (ax_nd 1124 (ax_lf 1124 (ao_ic (2) 1)) (ax_lf 1125 ao_iadd)) (ax_nd 1126 (ax_lf 1126 (ao_xld g)) (ax_nd 1127 (ax_lf 1127 (ao_al 0 1)) (ax_lf 1128 (ao_il 3 1)))))) (ax_nd 1135 (ax_nd 1130 (ax_nd 1129 (ax_lf 1129 (ao_ic (3) 1)) (ax_lf 1130 ao_iadd)) (ax_nd 1131 (ax_lf 1131 (ao_xld g)) (ax_nd 1132 (ax_lf 1132 (ao_inva g 4 9 1 yX9_errand cX9_errand 4 (some .int) 4 0 600000 0 7302250)) (ax_lf 1135 ao_pop)))) (ax_nd 1138 (ax_nd 1136 (ax_lf 1136 (ao_al 2 1)) (ax_nd 1137 (ax_lf 1137 (ao_al 0 1)) (ax_lf 1138 (ao_il 3 1)))) (ax_nd 1139 (ax_lf 1139 (ao_ic (1) 1)) (ax_nd 1140 (ax_lf 1140 ao_iadd) (ax_lf 1141 (ao_xld g))))))) (ax_nd 1152 (ax_nd 1146 (ax_nd 1143 (ax_nd 1142 (ax_lf 1142 (ao_al 0 1)) (ax_lf 1143 (ao_il 3 1))) (ax_nd 1144 (ax_lf 1144 (ao_ic (2) 1)) (ax_nd 1145 (ax_lf 1145 ao_iadd) (ax_lf 1146 (ao_xld g))))) (ax_nd 1149 (ax_nd 1147 (ax_lf 1147 (ao_al 0 1)) (ax_nd 1148 (ax_lf 1148 (ao_il 3 1)) (ax_lf 1149 (ao_ic (3) 1)))) (ax_nd 1150 (ax_lf 1150 ao_iadd) (ax_nd 1151 (ax_lf 1151 (ao_xld g)) (ax_lf 1152 (ao_inva g 4 10 1 yX10_errand cX10_errand 4 (some .int) 4 0 600000 0 7302250)))))) (ax_nd 1161 (ax_nd 1156 (ax_nd 1155 (ax_lf 1155 ao_pop) (ax_lf 1156 (ao_goto 1861))) (ax_nd 1159 (ax_lf 1159 (ao_al 1 1)) (ax_nd 1160 (ax_lf 1160 (ao_al 0 1)) (ax_lf 1161 (ao_il 3 1))))) (ax_nd 1164 (ax_nd 1162 (ax_lf 1162 (ao_ic (1) 1)) (ax_nd 1163 (ax_lf 1163 ao_iadd) (ax_lf 1164 (ao_xld g)))) (ax_nd 1165 (ax_lf 1165 (ao_al 0 1)) (ax_nd 1166 (ax_lf 1166 (ao_il 3 1)) (ax_lf 1167 (ao_ic (2) 1)))))))) (ax_nd 1191 (ax_nd 1180 (ax_nd 1172 (ax_nd 1169 (ax_nd 1168 (ax_lf 1168 ao_iadd) (ax_lf 1169 (ao_xld g))) (ax_nd 1170 (ax_lf 1170 (ao_al 0 1)) (ax_nd 1171 (ax_lf 1171 (ao_il 3 1)) (ax_lf 1172 (ao_ic (3) 1))))) (ax_nd 1175 (ax_nd 1173 (ax_lf 1173 ao_iadd) (ax_nd 1174 (ax_lf 1174 (ao_xld g)) (ax_lf 1175 (ao_inva g 7 9 1 yX9_plan cX9_plan 6 (some .int) 4 0 600000 0 7302250)))) (ax_nd 1178 (ax_lf 1178 ao_pop) (ax_nd 1179 (ax_lf 1179 (ao_al 2 1)) (ax_lf 1180 (ao_al 0 1)))))) (ax_nd 1185 (ax_nd 1182 (ax_nd 1181 (ax_lf 1181 (ao_il 3 1)) (ax_lf 1182 (ao_ic (1) 1))) (ax_nd 1183 (ax_lf 1183 ao_iadd) (ax_nd 1184 (ax_lf 1184 (ao_xld g)) (ax_lf 1185 (ao_al 0 1))))) (ax_nd 1188 (ax_nd 1186 (ax_lf 1186 (ao_il 3 1)) (ax_nd 1187 (ax_lf 1187 (ao_ic (2) 1)) (ax_lf 1188 ao_iadd))) (ax_nd 1189 (ax_lf 1189 (ao_xld g)) (ax_nd 1190 (ax_lf 1190 (ao_al 0 1)) (ax_lf 1191 (ao_il 3 1))))))) (ax_nd 1206 (ax_nd 1198 (ax_nd 1193 (ax_nd 1192 (ax_lf 1192 (ao_ic (3) 1)) (ax_lf 1193 ao_iadd)) (ax_nd 1194 (ax_lf 1194 (ao_xld g)) (ax_nd 1195 (ax_lf 1195 (ao_inva g 15 10 1 yX10_plan cX10_plan 9 (some .int) 4 0 600000 0 7302250)) (ax_lf 1198 ao_pop)))) (ax_nd 1203 (ax_nd 1199 (ax_lf 1199 (ao_goto 1861)) (ax_nd 1202 (ax_lf 1202 (ao_al 1 1)) (ax_lf 1203 (ao_al 0 1)))) (ax_nd 1204 (ax_lf 1204 (ao_il 3 1)) (ax_nd 1205 (ax_lf 1205 (ao_ic (1) 1)) (ax_lf 1206 ao_iadd))))) (ax_nd 1211 (ax_nd 1208 (ax_nd 1207 (ax_lf 1207 (ao_xld g)) (ax_lf 1208 (ao_al 0 1))) (ax_nd 1209 (ax_lf 1209 (ao_il 3 1)) (ax_nd 1210 (ax_lf 1210 (ao_ic (2) 1)) (ax_lf 1211 ao_iadd)))) (ax_nd 1214 (ax_nd 1212 (ax_lf 1212 (ao_xld g)) (ax_nd 1213 (ax_lf 1213 (ao_al 0 1)) (ax_lf 1214 (ao_il 3 1)))) (ax_nd 1215 (ax_lf 1215 (ao_ic (3) 1)) (ax_nd 1216 (ax_lf 1216 ao_iadd) (ax_lf 1217 (ao_xld g)))))))))) (ax_nd 1318 (ax_nd 1268 (ax_nd 1242 (ax_nd 1229 (ax_nd 1224 (ax_nd 1221 (ax_nd 1218 (ax_lf 1218 (ao_inva g 4 9 1 yX9_train cX9_train 4 (some .int) 4 0 600000 0 7302250)) (ax_lf 1221 ao_pop)) (ax_nd 1222 (ax_lf 1222 (ao_al 2 1)) (ax_nd 1223 (ax_lf 1223 (ao_al 0 1)) (ax_lf 1224 (ao_il 3 1))))) (ax_nd 1226 (ax_nd 1225 (ax_lf 1225 (ao_ic (1) 1)) (ax_lf 1226 ao_iadd)) (ax_nd 1227 (ax_lf 1227 (ao_xld g)) (ax_nd 1228 (ax_lf 1228 (ao_al 0 1)) (ax_lf 1229 (ao_il 3 1)))))) (ax_nd 1234 (ax_nd 1231 (ax_nd 1230 (ax_lf 1230 (ao_ic (2) 1)) (ax_lf 1231 ao_iadd)) (ax_nd 1232 (ax_lf 1232 (ao_xld g)) (ax_nd 1233 (ax_lf 1233 (ao_al 0 1)) (ax_lf 1234 (ao_il 3 1))))) (ax_nd 1237 (ax_nd 1235 (ax_lf 1235 (ao_ic (3) 1)) (ax_nd 1236 (ax_lf 1236 ao_iadd) (ax_lf 1237 (ao_xld g)))) (ax_nd 1238 (ax_lf 1238 (ao_inva g 4 10 1 yX10_train cX10_train 4 (some .int) 4 0 600000 0 7302250)) (ax_nd 1241 (ax_lf 1241 ao_pop) (ax_lf 1242 (ao_goto 1861))))))) (ax_nd 1255 (ax_nd 1249 (ax_nd 1246 (ax_nd 1245 (ax_lf 1245 (ao_al 1 1)) (ax_lf 1246 (ao_al 0 1))) (ax_nd 1247 (ax_lf 1247 (ao_il 3 1)) (ax_nd 1248 (ax_lf 1248 (ao_ic (1) 1)) (ax_lf 1249 ao_iadd)))) (ax_nd 1252 (ax_nd 1250 (ax_lf 1250 (ao_xld g)) (ax_nd 1251 (ax_lf 1251 (ao_al 0 1)) (ax_lf 1252 (ao_il 3 1)))) (ax_nd 1253 (ax_lf 1253 (ao_ic (2) 1)) (ax_nd 1254 (ax_lf 1254 ao_iadd) (ax_lf 1255 (ao_xld g)))))) (ax_nd 1260 (ax_nd 1257 (ax_nd 1256 (ax_lf 1256 (ao_al 0 1)) (ax_lf 1257 (ao_il 3 1))) (ax_nd 1258 (ax_lf 1258 (ao_ic (3) 1)) (ax_nd 1259 (ax_lf 1259 ao_iadd) (ax_lf 1260 (ao_xld g))))) (ax_nd 1265 (ax_nd 1261 (ax_lf 1261 (ao_inva g 5 9 1 yX9_holds cX9_holds 8 (some .int) 4 0 600000 0 7302250)) (ax_nd 1264 (ax_lf 1264 ao_pop) (ax_lf 1265 (ao_al 2 1)))) (ax_nd 1266 (ax_lf 1266 (ao_al 0 1)) (ax_nd 1267 (ax_lf 1267 (ao_il 3 1)) (ax_lf 1268 (ao_ic (1) 1)))))))) (ax_nd 1294 (ax_nd 1279 (ax_nd 1273 (ax_nd 1270 (ax_nd 1269 (ax_lf 1269 ao_iadd) (ax_lf 1270 (ao_xld g))) (ax_nd 1271 (ax_lf 1271 (ao_al 0 1)) (ax_nd 1272 (ax_lf 1272 (ao_il 3 1)) (ax_lf 1273 (ao_ic (2) 1))))) (ax_nd 1276 (ax_nd 1274 (ax_lf 1274 ao_iadd) (ax_nd 1275 (ax_lf 1275 (ao_xld g)) (ax_lf 1276 (ao_al 0 1)))) (ax_nd 1277 (ax_lf 1277 (ao_il 3 1)) (ax_nd 1278 (ax_lf 1278 (ao_ic (3) 1)) (ax_lf 1279 ao_iadd))))) (ax_nd 1288 (ax_nd 1281 (ax_nd 1280 (ax_lf 1280 (ao_xld g)) (ax_lf 1281 (ao_inva g 7 10 1 yX10_holds cX10_holds 6 (some .int) 4 0 600000 0 7302250))) (ax_nd 1284 (ax_lf 1284 ao_pop) (ax_nd 1285 (ax_lf 1285 (ao_goto 1861)) (ax_lf 1288 (ao_al 1 1))))) (ax_nd 1291 (ax_nd 1289 (ax_lf 1289 (ao_al 0 1)) (ax_nd 1290 (ax_lf 1290 (ao_il 3 1)) (ax_lf 1291 (ao_ic (1) 1)))) (ax_nd 1292 (ax_lf 1292 ao_iadd) (ax_nd 1293 (ax_lf 1293 (ao_xld g)) (ax_lf 1294 (ao_al 0 1))))))) (ax_nd 1305 (ax_nd 1299 (ax_nd 1296 (ax_nd 1295 (ax_lf 1295 (ao_il 3 1)) (ax_lf 1296 (ao_ic (2) 1))) (ax_nd 1297 (ax_lf 1297 ao_iadd) (ax_nd 1298 (ax_lf 1298 (ao_xld g)) (ax_lf 1299 (ao_al 0 1))))) (ax_nd 1302 (ax_nd 1300 (ax_lf 1300 (ao_il 3 1)) (ax_nd 1301 (ax_lf 1301 (ao_ic (3) 1)) (ax_lf 1302 ao_iadd))) (ax_nd 1303 (ax_lf 1303 (ao_xld g)) (ax_nd 1304 (ax_lf 1304 (ao_al 0 1)) (ax_lf 1305 (ao_il 3 1)))))) (ax_nd 1312 (ax_nd 1307 (ax_nd 1306 (ax_lf 1306 (ao_ic (4) 1)) (ax_lf 1307 ao_iadd)) (ax_nd 1308 (ax_lf 1308 (ao_xld g)) (ax_nd 1309 (ax_lf 1309 (ao_inva g 5 9 1 yX9_clock cX9_clock 8 (some .int) 5 0 600000 0 7302250)) (ax_lf 1312 ao_pop)))) (ax_nd 1315 (ax_nd 1313 (ax_lf 1313 (ao_al 2 1)) (ax_nd 1314 (ax_lf 1314 (ao_al 0 1)) (ax_lf 1315 (ao_il 3 1)))) (ax_nd 1316 (ax_lf 1316 (ao_ic (1) 1)) (ax_nd 1317 (ax_lf 1317 ao_iadd) (ax_lf 1318 (ao_xld g))))))))) (ax_nd 1368 (ax_nd 1344 (ax_nd 1329 (ax_nd 1323 (ax_nd 1320 (ax_nd 1319 (ax_lf 1319 (ao_al 0 1)) (ax_lf 1320 (ao_il 3 1))) (ax_nd 1321 (ax_lf 1321 (ao_ic (2) 1)) (ax_nd 1322 (ax_lf 1322 ao_iadd) (ax_lf 1323 (ao_xld g))))) (ax_nd 1326 (ax_nd 1324 (ax_lf 1324 (ao_al 0 1)) (ax_nd 1325 (ax_lf 1325 (ao_il 3 1)) (ax_lf 1326 (ao_ic (3) 1)))) (ax_nd 1327 (ax_lf 1327 ao_iadd) (ax_nd 1328 (ax_lf 1328 (ao_xld g)) (ax_lf 1329 (ao_al 0 1)))))) (ax_nd 1334 (ax_nd 1331 (ax_nd 1330 (ax_lf 1330 (ao_il 3 1)) (ax_lf 1331 (ao_ic (4) 1))) (ax_nd 1332 (ax_lf 1332 ao_iadd) (ax_nd 1333 (ax_lf 1333 (ao_xld g)) (ax_lf 1334 (ao_inva g 7 10 1 yX10_clock cX10_clock 6 (some .int) 5 0 600000 0 7302250))))) (ax_nd 1341 (ax_nd 1337 (ax_lf 1337 ao_pop) (ax_nd 1338 (ax_lf 1338 (ao_goto 1861)) (ax_lf 1341 (ao_al 1 1)))) (ax_nd 1342 (ax_lf 1342 (ao_al 0 1)) (ax_nd 1343 (ax_lf 1343 (ao_il 3 1)) (ax_lf 1344 (ao_ic (1) 1))))))) (ax_nd 1355 (ax_nd 1349 (ax_nd 1346 (ax_nd 1345 (ax_lf 1345 ao_iadd) (ax_lf 1346 (ao_xld g))) (ax_nd 1347 (ax_lf 1347 (ao_al 0 1)) (ax_nd 1348 (ax_lf 1348 (ao_il 3 1)) (ax_lf 1349 (ao_ic (2) 1))))) (ax_nd 1352 (ax_nd 1350 (ax_lf 1350 ao_iadd) (ax_nd 1351 (ax_lf 1351 (ao_xld g)) (ax_lf 1352 (ao_al 0 1)))) (ax_nd 1353 (ax_lf 1353 (ao_il 3 1)) (ax_nd 1354 (ax_lf 1354 (ao_ic (3) 1)) (ax_lf 1355 ao_iadd))))) (ax_nd 1362 (ax_nd 1357 (ax_nd 1356 (ax_lf 1356 (ao_xld g)) (ax_lf 1357 (ao_inva g 4 9 1 yX9_sight cX9_sight 4 (some .int) 4 0 600000 0 7302250))) (ax_nd 1360 (ax_lf 1360 ao_pop) (ax_nd 1361 (ax_lf 1361 (ao_al 2 1)) (ax_lf 1362 (ao_al 0 1))))) (ax_nd 1365 (ax_nd 1363 (ax_lf 1363 (ao_il 3 1)) (ax_nd 1364 (ax_lf 1364 (ao_ic (1) 1)) (ax_lf 1365 ao_iadd))) (ax_nd 1366 (ax_lf 1366 (ao_xld g)) (ax_nd 1367 (ax_lf 1367 (ao_al 0 1)) (ax_lf 1368 (ao_il 3 1)))))))) (ax_nd 1394 (ax_nd 1381 (ax_nd 1373 (ax_nd 1370 (ax_nd 1369 (ax_lf 1369 (ao_ic (2) 1)) (ax_lf 1370 ao_iadd)) (ax_nd 1371 (ax_lf 1371 (ao_xld g)) (ax_nd 1372 (ax_lf 1372 (ao_al 0 1)) (ax_lf 1373 (ao_il 3 1))))) (ax_nd 1376 (ax_nd 1374 (ax_lf 1374 (ao_ic (3) 1)) (ax_nd 1375 (ax_lf 1375 ao_iadd) (ax_lf 1376 (ao_xld g)))) (ax_nd 1377 (ax_lf 1377 (ao_inva g 4 10 1 yX10_sight cX10_sight 5 (some .int) 4 0 600000 0 7302250)) (ax_nd 1380 (ax_lf 1380 ao_pop) (ax_lf 1381 (ao_goto 1861)))))) (ax_nd 1388 (ax_nd 1385 (ax_nd 1384 (ax_lf 1384 (ao_al 1 1)) (ax_lf 1385 (ao_al 0 1))) (ax_nd 1386 (ax_lf 1386 (ao_il 3 1)) (ax_nd 1387 (ax_lf 1387 (ao_ic (1) 1)) (ax_lf 1388 ao_iadd)))) (ax_nd 1391 (ax_nd 1389 (ax_lf 1389 (ao_xld g)) (ax_nd 1390 (ax_lf 1390 (ao_al 0 1)) (ax_lf 1391 (ao_il 3 1)))) (ax_nd 1392 (ax_lf 1392 (ao_ic (2) 1)) (ax_nd 1393 (ax_lf 1393 ao_iadd) (ax_lf 1394 (ao_xld g))))))) (ax_nd 1407 (ax_nd 1399 (ax_nd 1396 (ax_nd 1395 (ax_lf 1395 (ao_al 0 1)) (ax_lf 1396 (ao_il 3 1))) (ax_nd 1397 (ax_lf 1397 (ao_ic (3) 1)) (ax_nd 1398 (ax_lf 1398 ao_iadd) (ax_lf 1399 (ao_xld g))))) (ax_nd 1404 (ax_nd 1400 (ax_lf 1400 (ao_inva g 14 9 1 yX9_fits cX9_fits 6 (some .int) 4 0 600000 0 7302250)) (ax_nd 1403 (ax_lf 1403 ao_pop) (ax_lf 1404 (ao_al 2 1)))) (ax_nd 1405 (ax_lf 1405 (ao_al 0 1)) (ax_nd 1406 (ax_lf 1406 (ao_il 3 1)) (ax_lf 1407 (ao_ic (1) 1)))))) (ax_nd 1412 (ax_nd 1409 (ax_nd 1408 (ax_lf 1408 ao_iadd) (ax_lf 1409 (ao_xld g))) (ax_nd 1410 (ax_lf 1410 (ao_al 0 1)) (ax_nd 1411 (ax_lf 1411 (ao_il 3 1)) (ax_lf 1412 (ao_ic (2) 1))))) (ax_nd 1415 (ax_nd 1413 (ax_lf 1413 ao_iadd) (ax_nd 1414 (ax_lf 1414 (ao_xld g)) (ax_lf 1415 (ao_al 0 1)))) (ax_nd 1416 (ax_lf 1416 (ao_il 3 1)) (ax_nd 1417 (ax_lf 1417 (ao_ic (3) 1)) (ax_lf 1418 ao_iadd)))))))))) (ax_nd 1633 (ax_nd 1521 (ax_nd 1471 (ax_nd 1443 (ax_nd 1432 (ax_nd 1427 (ax_nd 1420 (ax_nd 1419 (ax_lf 1419 (ao_xld g)) (ax_lf 1420 (ao_inva g 7 10 1 yX10_fits cX10_fits 4 (some .int) 4 0 600000 0 7302250))) (ax_nd 1423 (ax_lf 1423 ao_pop) (ax_nd 1424 (ax_lf 1424 (ao_goto 1861)) (ax_lf 1427 (ao_al 1 1))))) (ax_nd 1429 (ax_nd 1428 (ax_lf 1428 (ao_al 0 1)) (ax_lf 1429 (ao_il 3 1))) (ax_nd 1430 (ax_lf 1430 (ao_ic (1) 1)) (ax_nd 1431 (ax_lf 1431 ao_iadd) (ax_lf 1432 (ao_xld g)))))) (ax_nd 1437 (ax_nd 1434 (ax_nd 1433 (ax_lf 1433 (ao_al 0 1)) (ax_lf 1434 (ao_il 3 1))) (ax_nd 1435 (ax_lf 1435 (ao_ic (2) 1)) (ax_nd 1436 (ax_lf 1436 ao_iadd) (ax_lf 1437 (ao_xld g))))) (ax_nd 1440 (ax_nd 1438 (ax_lf 1438 (ao_al 0 1)) (ax_nd 1439 (ax_lf 1439 (ao_il 3 1)) (ax_lf 1440 (ao_ic (3) 1)))) (ax_nd 1441 (ax_lf 1441 ao_iadd) (ax_nd 1442 (ax_lf 1442 (ao_xld g)) (ax_lf 1443 (ao_inva g 6 9 1 yX9_reign cX9_reign 11 (some .int) 4 0 600000 0 7302250))))))) (ax_nd 1456 (ax_nd 1450 (ax_nd 1447 (ax_nd 1446 (ax_lf 1446 ao_pop) (ax_lf 1447 (ao_al 2 1))) (ax_nd 1448 (ax_lf 1448 (ao_al 0 1)) (ax_nd 1449 (ax_lf 1449 (ao_il 3 1)) (ax_lf 1450 (ao_ic (1) 1))))) (ax_nd 1453 (ax_nd 1451 (ax_lf 1451 ao_iadd) (ax_nd 1452 (ax_lf 1452 (ao_xld g)) (ax_lf 1453 (ao_al 0 1)))) (ax_nd 1454 (ax_lf 1454 (ao_il 3 1)) (ax_nd 1455 (ax_lf 1455 (ao_ic (2) 1)) (ax_lf 1456 ao_iadd))))) (ax_nd 1461 (ax_nd 1458 (ax_nd 1457 (ax_lf 1457 (ao_xld g)) (ax_lf 1458 (ao_al 0 1))) (ax_nd 1459 (ax_lf 1459 (ao_il 3 1)) (ax_nd 1460 (ax_lf 1460 (ao_ic (3) 1)) (ax_lf 1461 ao_iadd)))) (ax_nd 1466 (ax_nd 1462 (ax_lf 1462 (ao_xld g)) (ax_nd 1463 (ax_lf 1463 (ao_inva g 7 10 1 yX10_reign cX10_reign 5 (some .int) 4 0 600000 0 7302250)) (ax_lf 1466 ao_pop))) (ax_nd 1467 (ax_lf 1467 (ao_goto 1861)) (ax_nd 1470 (ax_lf 1470 (ao_al 1 1)) (ax_lf 1471 (ao_al 0 1)))))))) (ax_nd 1495 (ax_nd 1482 (ax_nd 1476 (ax_nd 1473 (ax_nd 1472 (ax_lf 1472 (ao_il 3 1)) (ax_lf 1473 (ao_ic (1) 1))) (ax_nd 1474 (ax_lf 1474 ao_iadd) (ax_nd 1475 (ax_lf 1475 (ao_xld g)) (ax_lf 1476 (ao_al 0 1))))) (ax_nd 1479 (ax_nd 1477 (ax_lf 1477 (ao_il 3 1)) (ax_nd 1478 (ax_lf 1478 (ao_ic (2) 1)) (ax_lf 1479 ao_iadd))) (ax_nd 1480 (ax_lf 1480 (ao_xld g)) (ax_nd 1481 (ax_lf 1481 (ao_al 0 1)) (ax_lf 1482 (ao_il 3 1)))))) (ax_nd 1487 (ax_nd 1484 (ax_nd 1483 (ax_lf 1483 (ao_ic (3) 1)) (ax_lf 1484 ao_iadd)) (ax_nd 1485 (ax_lf 1485 (ao_xld g)) (ax_nd 1486 (ax_lf 1486 (ao_al 0 1)) (ax_lf 1487 (ao_il 3 1))))) (ax_nd 1490 (ax_nd 1488 (ax_lf 1488 (ao_ic (4) 1)) (ax_nd 1489 (ax_lf 1489 ao_iadd) (ax_lf 1490 (ao_xld g)))) (ax_nd 1491 (ax_lf 1491 (ao_if_eq 1498)) (ax_nd 1494 (ax_lf 1494 (ao_ic (1) 1)) (ax_lf 1495 (ao_goto 1499))))))) (ax_nd 1510 (ax_nd 1504 (ax_nd 1499 (ax_nd 1498 (ax_lf 1498 (ao_ic (0) 1)) (ax_lf 1499 (ao_inva g 7 9 2 yX9_hope cX9_hope 5 (some .long) 5 0 600000 0 7302250))) (ax_nd 1502 (ax_lf 1502 ao_pop2) (ax_nd 1503 (ax_lf 1503 (ao_al 2 1)) (ax_lf 1504 (ao_al 0 1))))) (ax_nd 1507 (ax_nd 1505 (ax_lf 1505 (ao_il 3 1)) (ax_nd 1506 (ax_lf 1506 (ao_ic (1) 1)) (ax_lf 1507 ao_iadd))) (ax_nd 1508 (ax_lf 1508 (ao_xld g)) (ax_nd 1509 (ax_lf 1509 (ao_al 0 1)) (ax_lf 1510 (ao_il 3 1)))))) (ax_nd 1515 (ax_nd 1512 (ax_nd 1511 (ax_lf 1511 (ao_ic (2) 1)) (ax_lf 1512 ao_iadd)) (ax_nd 1513 (ax_lf 1513 (ao_xld g)) (ax_nd 1514 (ax_lf 1514 (ao_al 0 1)) (ax_lf 1515 (ao_il 3 1))))) (ax_nd 1518 (ax_nd 1516 (ax_lf 1516 (ao_ic (3) 1)) (ax_nd 1517 (ax_lf 1517 ao_iadd) (ax_lf 1518 (ao_xld g)))) (ax_nd 1519 (ax_lf 1519 (ao_al 0 1)) (ax_nd 1520 (ax_lf 1520 (ao_il 3 1)) (ax_lf 1521 (ao_ic (4) 1))))))))) (ax_nd 1579 (ax_nd 1551 (ax_nd 1540 (ax_nd 1528 (ax_nd 1523 (ax_nd 1522 (ax_lf 1522 ao_iadd) (ax_lf 1523 (ao_xld g))) (ax_nd 1524 (ax_lf 1524 (ao_if_eq 1531)) (ax_nd 1527 (ax_lf 1527 (ao_ic (1) 1)) (ax_lf 1528 (ao_goto 1532))))) (ax_nd 1535 (ax_nd 1531 (ax_lf 1531 (ao_ic (0) 1)) (ax_nd 1532 (ax_lf 1532 (ao_inva g 8 10 2 yX10_hope cX10_hope 5 (some .long) 5 0 600000 0 7302250)) (ax_lf 1535 ao_pop2))) (ax_nd 1536 (ax_lf 1536 (ao_goto 1861)) (ax_nd 1539 (ax_lf 1539 (ao_al 1 1)) (ax_lf 1540 (ao_al 0 1)))))) (ax_nd 1545 (ax_nd 1542 (ax_nd 1541 (ax_lf 1541 (ao_il 3 1)) (ax_lf 1542 (ao_ic (1) 1))) (ax_nd 1543 (ax_lf 1543 ao_iadd) (ax_nd 1544 (ax_lf 1544 (ao_xld g)) (ax_lf 1545 (ao_al 0 1))))) (ax_nd 1548 (ax_nd 1546 (ax_lf 1546 (ao_il 3 1)) (ax_nd 1547 (ax_lf 1547 (ao_ic (2) 1)) (ax_lf 1548 ao_iadd))) (ax_nd 1549 (ax_lf 1549 (ao_xld g)) (ax_nd 1550 (ax_lf 1550 (ao_al 0 1)) (ax_lf 1551 (ao_il 3 1))))))) (ax_nd 1564 (ax_nd 1556 (ax_nd 1553 (ax_nd 1552 (ax_lf 1552 (ao_ic (3) 1)) (ax_lf 1553 ao_iadd)) (ax_nd 1554 (ax_lf 1554 (ao_xld g)) (ax_nd 1555 (ax_lf 1555 (ao_al 0 1)) (ax_lf 1556 (ao_il 3 1))))) (ax_nd 1559 (ax_nd 1557 (ax_lf 1557 (ao_ic (4) 1)) (ax_nd 1558 (ax_lf 1558 ao_iadd) (ax_lf 1559 (ao_xld g)))) (ax_nd 1560 (ax_lf 1560 (ao_if_eq 1567)) (ax_nd 1563 (ax_lf 1563 (ao_ic (1) 1)) (ax_lf 1564 (ao_goto 1568)))))) (ax_nd 1573 (ax_nd 1568 (ax_nd 1567 (ax_lf 1567 (ao_ic (0) 1)) (ax_lf 1568 (ao_inva g 7 9 2 yX9_doom cX9_doom 5 (some .long) 5 0 600000 0 7302250))) (ax_nd 1571 (ax_lf 1571 ao_pop2) (ax_nd 1572 (ax_lf 1572 (ao_al 2 1)) (ax_lf 1573 (ao_al 0 1))))) (ax_nd 1576 (ax_nd 1574 (ax_lf 1574 (ao_il 3 1)) (ax_nd 1575 (ax_lf 1575 (ao_ic (1) 1)) (ax_lf 1576 ao_iadd))) (ax_nd 1577 (ax_lf 1577 (ao_xld g)) (ax_nd 1578 (ax_lf 1578 (ao_al 0 1)) (ax_lf 1579 (ao_il 3 1)))))))) (ax_nd 1609 (ax_nd 1590 (ax_nd 1584 (ax_nd 1581 (ax_nd 1580 (ax_lf 1580 (ao_ic (2) 1)) (ax_lf 1581 ao_iadd)) (ax_nd 1582 (ax_lf 1582 (ao_xld g)) (ax_nd 1583 (ax_lf 1583 (ao_al 0 1)) (ax_lf 1584 (ao_il 3 1))))) (ax_nd 1587 (ax_nd 1585 (ax_lf 1585 (ao_ic (3) 1)) (ax_nd 1586 (ax_lf 1586 ao_iadd) (ax_lf 1587 (ao_xld g)))) (ax_nd 1588 (ax_lf 1588 (ao_al 0 1)) (ax_nd 1589 (ax_lf 1589 (ao_il 3 1)) (ax_lf 1590 (ao_ic (4) 1)))))) (ax_nd 1597 (ax_nd 1592 (ax_nd 1591 (ax_lf 1591 ao_iadd) (ax_lf 1592 (ao_xld g))) (ax_nd 1593 (ax_lf 1593 (ao_if_eq 1600)) (ax_nd 1596 (ax_lf 1596 (ao_ic (1) 1)) (ax_lf 1597 (ao_goto 1601))))) (ax_nd 1604 (ax_nd 1600 (ax_lf 1600 (ao_ic (0) 1)) (ax_nd 1601 (ax_lf 1601 (ao_inva g 8 10 2 yX10_doom cX10_doom 5 (some .long) 5 0 600000 0 7302250)) (ax_lf 1604 ao_pop2))) (ax_nd 1605 (ax_lf 1605 (ao_goto 1861)) (ax_nd 1608 (ax_lf 1608 (ao_al 1 1)) (ax_lf 1609 (ao_al 0 1))))))) (ax_nd 1622 (ax_nd 1614 (ax_nd 1611 (ax_nd 1610 (ax_lf 1610 (ao_il 3 1)) (ax_lf 1611 (ao_ic (1) 1))) (ax_nd 1612 (ax_lf 1612 ao_iadd) (ax_nd 1613 (ax_lf 1613 (ao_xld g)) (ax_lf 1614 (ao_al 0 1))))) (ax_nd 1617 (ax_nd 1615 (ax_lf 1615 (ao_il 3 1)) (ax_nd 1616 (ax_lf 1616 (ao_ic (2) 1)) (ax_lf 1617 ao_iadd))) (ax_nd 1618 (ax_lf 1618 (ao_xld g)) (ax_nd 1619 (ax_lf 1619 (ao_inva g 6 9 1 yX9_ruling cX9_ruling 14 (some .int) 3 0 600000 0 7302250)) (ax_lf 1622 ao_pop))))) (ax_nd 1627 (ax_nd 1624 (ax_nd 1623 (ax_lf 1623 (ao_al 2 1)) (ax_lf 1624 (ao_al 0 1))) (ax_nd 1625 (ax_lf 1625 (ao_il 3 1)) (ax_nd 1626 (ax_lf 1626 (ao_ic (1) 1)) (ax_lf 1627 ao_iadd)))) (ax_nd 1630 (ax_nd 1628 (ax_lf 1628 (ao_xld g)) (ax_nd 1629 (ax_lf 1629 (ao_al 0 1)) (ax_lf 1630 (ao_il 3 1)))) (ax_nd 1631 (ax_lf 1631 (ao_ic (2) 1)) (ax_nd 1632 (ax_lf 1632 ao_iadd) (ax_lf 1633 (ao_xld g)))))))))) (ax_nd 1744 (ax_nd 1688 (ax_nd 1660 (ax_nd 1647 (ax_nd 1642 (ax_nd 1637 (ax_nd 1634 (ax_lf 1634 (ao_inva g 7 10 1 yX10_ruling cX10_ruling 9 (some .int) 3 0 600000 0 7302250)) (ax_lf 1637 ao_pop)) (ax_nd 1638 (ax_lf 1638 (ao_goto 1861)) (ax_nd 1641 (ax_lf 1641 (ao_al 1 1)) (ax_lf 1642 (ao_al 0 1))))) (ax_nd 1644 (ax_nd 1643 (ax_lf 1643 (ao_il 3 1)) (ax_lf 1644 (ao_ic (1) 1))) (ax_nd 1645 (ax_lf 1645 ao_iadd) (ax_nd 1646 (ax_lf 1646 (ao_xld g)) (ax_lf 1647 (ao_al 0 1)))))) (ax_nd 1652 (ax_nd 1649 (ax_nd 1648 (ax_lf 1648 (ao_il 3 1)) (ax_lf 1649 (ao_ic (2) 1))) (ax_nd 1650 (ax_lf 1650 ao_iadd) (ax_nd 1651 (ax_lf 1651 (ao_xld g)) (ax_lf 1652 (ao_al 0 1))))) (ax_nd 1655 (ax_nd 1653 (ax_lf 1653 (ao_il 3 1)) (ax_nd 1654 (ax_lf 1654 (ao_ic (3) 1)) (ax_lf 1655 ao_iadd))) (ax_nd 1656 (ax_lf 1656 (ao_xld g)) (ax_nd 1657 (ax_lf 1657 (ao_if_eq 1664)) (ax_lf 1660 (ao_ic (1) 1))))))) (ax_nd 1675 (ax_nd 1669 (ax_nd 1664 (ax_nd 1661 (ax_lf 1661 (ao_goto 1665)) (ax_lf 1664 (ao_ic (0) 1))) (ax_nd 1665 (ax_lf 1665 (ao_inva g 6 9 1 yX9_trust cX9_trust 9 (some .int) 4 0 600000 0 7302250)) (ax_nd 1668 (ax_lf 1668 ao_pop) (ax_lf 1669 (ao_al 2 1))))) (ax_nd 1672 (ax_nd 1670 (ax_lf 1670 (ao_al 0 1)) (ax_nd 1671 (ax_lf 1671 (ao_il 3 1)) (ax_lf 1672 (ao_ic (1) 1)))) (ax_nd 1673 (ax_lf 1673 ao_iadd) (ax_nd 1674 (ax_lf 1674 (ao_xld g)) (ax_lf 1675 (ao_al 0 1)))))) (ax_nd 1680 (ax_nd 1677 (ax_nd 1676 (ax_lf 1676 (ao_il 3 1)) (ax_lf 1677 (ao_ic (2) 1))) (ax_nd 1678 (ax_lf 1678 ao_iadd) (ax_nd 1679 (ax_lf 1679 (ao_xld g)) (ax_lf 1680 (ao_al 0 1))))) (ax_nd 1683 (ax_nd 1681 (ax_lf 1681 (ao_il 3 1)) (ax_nd 1682 (ax_lf 1682 (ao_ic (3) 1)) (ax_lf 1683 ao_iadd))) (ax_nd 1684 (ax_lf 1684 (ao_xld g)) (ax_nd 1685 (ax_lf 1685 (ao_if_eq 1692)) (ax_lf 1688 (ao_ic (1) 1)))))))) (ax_nd 1718 (ax_nd 1705 (ax_nd 1697 (ax_nd 1692 (ax_nd 1689 (ax_lf 1689 (ao_goto 1693)) (ax_lf 1692 (ao_ic (0) 1))) (ax_nd 1693 (ax_lf 1693 (ao_inva g 7 10 1 yX10_trust cX10_trust 7 (some .int) 4 0 600000 0 7302250)) (ax_nd 1696 (ax_lf 1696 ao_pop) (ax_lf 1697 (ao_goto 1861))))) (ax_nd 1702 (ax_nd 1700 (ax_lf 1700 (ao_al 1 1)) (ax_nd 1701 (ax_lf 1701 (ao_al 0 1)) (ax_lf 1702 (ao_il 3 1)))) (ax_nd 1703 (ax_lf 1703 (ao_ic (1) 1)) (ax_nd 1704 (ax_lf 1704 ao_iadd) (ax_lf 1705 (ao_xld g)))))) (ax_nd 1710 (ax_nd 1707 (ax_nd 1706 (ax_lf 1706 (ao_al 0 1)) (ax_lf 1707 (ao_il 3 1))) (ax_nd 1708 (ax_lf 1708 (ao_ic (2) 1)) (ax_nd 1709 (ax_lf 1709 ao_iadd) (ax_lf 1710 (ao_xld g))))) (ax_nd 1715 (ax_nd 1711 (ax_lf 1711 (ao_inva g 5 9 1 yX9_tight cX9_tight 7 (some .int) 3 0 600000 0 7302250)) (ax_nd 1714 (ax_lf 1714 ao_pop) (ax_lf 1715 (ao_al 2 1)))) (ax_nd 1716 (ax_lf 1716 (ao_al 0 1)) (ax_nd 1717 (ax_lf 1717 (ao_il 3 1)) (ax_lf 1718 (ao_ic (1) 1))))))) (ax_nd 1733 (ax_nd 1723 (ax_nd 1720 (ax_nd 1719 (ax_lf 1719 ao_iadd) (ax_lf 1720 (ao_xld g))) (ax_nd 1721 (ax_lf 1721 (ao_al 0 1)) (ax_nd 1722 (ax_lf 1722 (ao_il 3 1)) (ax_lf 1723 (ao_ic (2) 1))))) (ax_nd 1726 (ax_nd 1724 (ax_lf 1724 ao_iadd) (ax_nd 1725 (ax_lf 1725 (ao_xld g)) (ax_lf 1726 (ao_inva g 7 10 1 yX10_tight cX10_tight 8 (some .int) 3 0 600000 0 7302250)))) (ax_nd 1729 (ax_lf 1729 ao_pop) (ax_nd 1730 (ax_lf 1730 (ao_goto 1861)) (ax_lf 1733 (ao_al 1 1)))))) (ax_nd 1738 (ax_nd 1735 (ax_nd 1734 (ax_lf 1734 (ao_al 0 1)) (ax_lf 1735 (ao_il 3 1))) (ax_nd 1736 (ax_lf 1736 (ao_ic (1) 1)) (ax_nd 1737 (ax_lf 1737 ao_iadd) (ax_lf 1738 (ao_xld g))))) (ax_nd 1741 (ax_nd 1739 (ax_lf 1739 (ao_al 0 1)) (ax_nd 1740 (ax_lf 1740 (ao_il 3 1)) (ax_lf 1741 (ao_ic (2) 1)))) (ax_nd 1742 (ax_lf 1742 ao_iadd) (ax_nd 1743 (ax_lf 1743 (ao_xld g)) (ax_lf 1744 (ao_al 0 1))))))))) (ax_nd 1804 (ax_nd 1772 (ax_nd 1761 (ax_nd 1749 (ax_nd 1746 (ax_nd 1745 (ax_lf 1745 (ao_il 3 1)) (ax_lf 1746 (ao_ic (3) 1))) (ax_nd 1747 (ax_lf 1747 ao_iadd) (ax_nd 1748 (ax_lf 1748 (ao_xld g)) (ax_lf 1749 (ao_if_eq 1756))))) (ax_nd 1756 (ax_nd 1752 (ax_lf 1752 (ao_ic (1) 1)) (ax_nd 1753 (ax_lf 1753 (ao_goto 1757)) (ax_lf 1756 (ao_ic (0) 1)))) (ax_nd 1757 (ax_lf 1757 (ao_inva g 7 9 1 yX9_free cX9_free 6 (some .int) 4 0 600000 0 7302250)) (ax_nd 1760 (ax_lf 1760 ao_pop) (ax_lf 1761 (ao_al 2 1)))))) (ax_nd 1766 (ax_nd 1763 (ax_nd 1762 (ax_lf 1762 (ao_al 0 1)) (ax_lf 1763 (ao_il 3 1))) (ax_nd 1764 (ax_lf 1764 (ao_ic (1) 1)) (ax_nd 1765 (ax_lf 1765 ao_iadd) (ax_lf 1766 (ao_xld g))))) (ax_nd 1769 (ax_nd 1767 (ax_lf 1767 (ao_al 0 1)) (ax_nd 1768 (ax_lf 1768 (ao_il 3 1)) (ax_lf 1769 (ao_ic (2) 1)))) (ax_nd 1770 (ax_lf 1770 ao_iadd) (ax_nd 1771 (ax_lf 1771 (ao_xld g)) (ax_lf 1772 (ao_al 0 1))))))) (ax_nd 1789 (ax_nd 1777 (ax_nd 1774 (ax_nd 1773 (ax_lf 1773 (ao_il 3 1)) (ax_lf 1774 (ao_ic (3) 1))) (ax_nd 1775 (ax_lf 1775 ao_iadd) (ax_nd 1776 (ax_lf 1776 (ao_xld g)) (ax_lf 1777 (ao_if_eq 1784))))) (ax_nd 1784 (ax_nd 1780 (ax_lf 1780 (ao_ic (1) 1)) (ax_nd 1781 (ax_lf 1781 (ao_goto 1785)) (ax_lf 1784 (ao_ic (0) 1)))) (ax_nd 1785 (ax_lf 1785 (ao_inva g 14 10 1 yX10_free cX10_free 8 (some .int) 4 0 600000 0 7302250)) (ax_nd 1788 (ax_lf 1788 ao_pop) (ax_lf 1789 (ao_goto 1861)))))) (ax_nd 1796 (ax_nd 1793 (ax_nd 1792 (ax_lf 1792 (ao_al 1 1)) (ax_lf 1793 (ao_al 0 1))) (ax_nd 1794 (ax_lf 1794 (ao_il 3 1)) (ax_nd 1795 (ax_lf 1795 (ao_ic (1) 1)) (ax_lf 1796 ao_iadd)))) (ax_nd 1801 (ax_nd 1797 (ax_lf 1797 (ao_xld g)) (ax_nd 1798 (ax_lf 1798 (ao_inva g 1 9 1 yX9_count cX9_count 2 (some .int) 2 0 600000 0 7302250)) (ax_lf 1801 ao_pop))) (ax_nd 1802 (ax_lf 1802 (ao_al 2 1)) (ax_nd 1803 (ax_lf 1803 (ao_al 0 1)) (ax_lf 1804 (ao_il 3 1)))))))) (ax_nd 1834 (ax_nd 1819 (ax_nd 1811 (ax_nd 1806 (ax_nd 1805 (ax_lf 1805 (ao_ic (1) 1)) (ax_lf 1806 ao_iadd)) (ax_nd 1807 (ax_lf 1807 (ao_xld g)) (ax_nd 1808 (ax_lf 1808 (ao_inva g 2 10 1 yX10_count cX10_count 2 (some .int) 2 0 600000 0 7302250)) (ax_lf 1811 ao_pop)))) (ax_nd 1816 (ax_nd 1812 (ax_lf 1812 (ao_goto 1861)) (ax_nd 1815 (ax_lf 1815 (ao_al 1 1)) (ax_lf 1816 (ao_al 0 1)))) (ax_nd 1817 (ax_lf 1817 (ao_il 3 1)) (ax_nd 1818 (ax_lf 1818 (ao_ic (1) 1)) (ax_lf 1819 ao_iadd))))) (ax_nd 1826 (ax_nd 1821 (ax_nd 1820 (ax_lf 1820 (ao_xld g)) (ax_lf 1821 (ao_inva g 5 9 1 yX9_image cX9_image 3 (some .boolean) 2 33 600000 1138 7302250))) (ax_nd 1824 (ax_lf 1824 ao_pop) (ax_nd 1825 (ax_lf 1825 (ao_al 2 1)) (ax_lf 1826 (ao_al 0 1))))) (ax_nd 1829 (ax_nd 1827 (ax_lf 1827 (ao_il 3 1)) (ax_nd 1828 (ax_lf 1828 (ao_ic (1) 1)) (ax_lf 1829 ao_iadd))) (ax_nd 1830 (ax_lf 1830 (ao_xld g)) (ax_nd 1831 (ax_lf 1831 (ao_inva g 3 10 1 yX10_image cX10_image 2 (some .boolean) 2 0 600000 0 7302250)) (ax_lf 1834 ao_pop)))))) (ax_nd 1849 (ax_nd 1841 (ax_nd 1838 (ax_nd 1835 (ax_lf 1835 (ao_goto 1861)) (ax_lf 1838 (ao_al 1 1))) (ax_nd 1839 (ax_lf 1839 (ao_al 0 1)) (ax_nd 1840 (ax_lf 1840 (ao_il 3 1)) (ax_lf 1841 (ao_ic (1) 1))))) (ax_nd 1844 (ax_nd 1842 (ax_lf 1842 ao_iadd) (ax_nd 1843 (ax_lf 1843 (ao_xld g)) (ax_lf 1844 (ao_inva g 5 9 1 yX9_again cX9_again 3 (some .boolean) 2 0 600000 0 7302250)))) (ax_nd 1847 (ax_lf 1847 ao_pop) (ax_nd 1848 (ax_lf 1848 (ao_al 2 1)) (ax_lf 1849 (ao_al 0 1)))))) (ax_nd 1854 (ax_nd 1851 (ax_nd 1850 (ax_lf 1850 (ao_il 3 1)) (ax_lf 1851 (ao_ic (1) 1))) (ax_nd 1852 (ax_lf 1852 ao_iadd) (ax_nd 1853 (ax_lf 1853 (ao_xld g)) (ax_lf 1854 (ao_inva g 3 10 1 yX10_again cX10_again 2 (some .boolean) 2 0 600000 0 7302250))))) (ax_nd 1861 (ax_nd 1857 (ax_lf 1857 ao_pop) (ax_nd 1858 (ax_lf 1858 (ao_goto 1861)) (ax_lf 1861 (ao_iinc 3 (6))))) (ax_nd 1864 (ax_lf 1864 (ao_goto 18)) (ax_nd 1867 (ax_lf 1867 (ao_ic (1) 1)) (ax_lf 1868 (ao_zreta 600000 7302250))))))))))))
theorem oL_law (g : ax_G) : ∀ pc, ax_ok g cL_law 4 (some .boolean) RL "law" 2048 600000 7302250 pc (tL_law g pc) := ax_nd_ok (ax_nd_ok (ax_nd_ok (ax_nd_ok (ax_nd_ok (ax_nd_ok (ax_nd_ok (ax_nd_ok (ax_nd_ok (ax_nd_ok (ax_lf_ok (ak_new (by decide) rfl ig_X9 tyX9_ok dv_X9 wd_113 wd_114 wd_96 dL_law_0)) (ax_lf_ok (ak_dup dL_law_3))) (ax_nd_ok (ax_lf_ok (ak_inva (ak_invI (by decide) (by decide) (by decide) wd_115 wd_116 wd_96 wd_117 rfl ⟨by decide, by decide, by decide +kernel⟩ dL_law_4))) (ax_nd_ok (ax_lf_ok (ak_astore_n rfl (by decide) dL_law_7)) (ax_lf_ok (ak_new (by decide) rfl ig_X10 tyX10_ok dv_X10 wd_1047 wd_1048 wd_106 dL_law_8))))) (ax_nd_ok (ax_nd_ok (ax_lf_ok (ak_dup dL_law_11)) (ax_lf_ok (ak_inva (ak_invI (by decide) (by decide) (by decide) wd_1049 wd_1050 wd_106 wd_1051 rfl ⟨by decide, by decide, by decide +kernel⟩ dL_law_12)))) (ax_nd_ok (ax_lf_ok (ak_astore_n rfl (by decide) dL_law_15)) (ax_nd_ok (ax_lf_ok (ak_iconst (by decide) dL_law_16)) (ax_lf_ok (ak_istore_n rfl (by decide) dL_law_17)))))) (ax_nd_ok (ax_nd_ok (ax_nd_ok (ax_lf_ok (ak_iload_n rfl dL_law_18)) (ax_lf_ok (ak_aload_n rfl dL_law_19))) (ax_nd_ok (ax_lf_ok (ak_xlen dL_law_20)) (ax_nd_ok (ax_lf_ok (ak_bipush (by decide) dL_law_21)) (ax_lf_ok (ak_isub dL_law_23))))) (ax_nd_ok (ax_nd_ok (ax_lf_ok (ak_icmp_gt (by decide) dL_law_24)) (ax_nd_ok (ax_lf_ok (ak_aload_n rfl dL_law_27)) (ax_lf_ok (ak_iload_n rfl dL_law_28)))) (ax_nd_ok (ax_lf_ok (ak_xld dL_law_29)) (ax_nd_ok (ax_lf_ok (ak_bipush (by decide) dL_law_30)) (ax_lf_ok (ak_iand dL_law_32))))))) (ax_nd_ok (ax_nd_ok (ax_nd_ok (ax_nd_ok (ax_lf_ok (ak_tsw dL_law_33 (by decide) (by decide) (by decide) (by decide) (by decide +kernel) (by decide))) (ax_lf_ok (ak_aload_n rfl dL_law_196))) (ax_nd_ok (ax_lf_ok (ak_aload_n rfl dL_law_197)) (ax_nd_ok (ax_lf_ok (ak_iload_n rfl dL_law_198)) (ax_lf_ok (ak_iconst (by decide) dL_law_199))))) (ax_nd_ok (ax_nd_ok (ax_lf_ok (ak_iadd dL_law_200)) (ax_nd_ok (ax_lf_ok (ak_xld dL_law_201)) (ax_lf_ok (ak_aload_n rfl dL_law_202)))) (ax_nd_ok (ax_lf_ok (ak_iload_n rfl dL_law_203)) (ax_nd_ok (ax_lf_ok (ak_iconst (by decide) dL_law_204)) (ax_lf_ok (ak_iadd dL_law_205)))))) (ax_nd_ok (ax_nd_ok (ax_nd_ok (ax_lf_ok (ak_xld dL_law_206)) (ax_lf_ok (ak_aload_n rfl dL_law_207))) (ax_nd_ok (ax_lf_ok (ak_iload_n rfl dL_law_208)) (ax_nd_ok (ax_lf_ok (ak_iconst (by decide) dL_law_209)) (ax_lf_ok (ak_iadd dL_law_210))))) (ax_nd_ok (ax_nd_ok (ax_lf_ok (ak_xld dL_law_211)) (ax_nd_ok (ax_lf_ok (ak_aload_n rfl dL_law_212)) (ax_lf_ok (ak_iload_n rfl dL_law_213)))) (ax_nd_ok (ax_lf_ok (ak_iconst (by decide) dL_law_214)) (ax_nd_ok (ax_lf_ok (ak_iadd dL_law_215)) (ax_lf_ok (ak_xld dL_law_216)))))))) (ax_nd_ok (ax_nd_ok (ax_nd_ok (ax_nd_ok (ax_nd_ok (ax_lf_ok (ak_aload_n rfl dL_law_217)) (ax_lf_ok (ak_iload_n rfl dL_law_218))) (ax_nd_ok (ax_lf_ok (ak_iconst (by decide) dL_law_219)) (ax_nd_ok (ax_lf_ok (ak_iadd dL_law_220)) (ax_lf_ok (ak_xld dL_law_221))))) (ax_nd_ok (ax_nd_ok (ax_lf_ok (ak_inva (ak_invV (by decide) (by decide) (by decide) rfl wd_447 wd_448 wd_449 wd_96 wd_450 ⟨by decide, by decide, by decide +kernel⟩ dL_law_222))) (ax_nd_ok (ax_lf_ok (ak_pop dL_law_225)) (ax_lf_ok (ak_aload_n rfl dL_law_226)))) (ax_nd_ok (ax_lf_ok (ak_aload_n rfl dL_law_227)) (ax_nd_ok (ax_lf_ok (ak_iload_n rfl dL_law_228)) (ax_lf_ok (ak_iconst (by decide) dL_law_229)))))) (ax_nd_ok (ax_nd_ok (ax_nd_ok (ax_lf_ok (ak_iadd dL_law_230)) (ax_lf_ok (ak_xld dL_law_231))) (ax_nd_ok (ax_lf_ok (ak_aload_n rfl dL_law_232)) (ax_nd_ok (ax_lf_ok (ak_iload_n rfl dL_law_233)) (ax_lf_ok (ak_iconst (by decide) dL_law_234))))) (ax_nd_ok (ax_nd_ok (ax_lf_ok (ak_iadd dL_law_235)) (ax_nd_ok (ax_lf_ok (ak_xld dL_law_236)) (ax_lf_ok (ak_aload_n rfl dL_law_237)))) (ax_nd_ok (ax_lf_ok (ak_iload_n rfl dL_law_238)) (ax_nd_ok (ax_lf_ok (ak_iconst (by decide) dL_law_239)) (ax_lf_ok (ak_iadd dL_law_240))))))) (ax_nd_ok (ax_nd_ok (ax_nd_ok (ax_nd_ok (ax_lf_ok (ak_xld dL_law_241)) (ax_lf_ok (ak_aload_n rfl dL_law_242))) (ax_nd_ok (ax_lf_ok (ak_iload_n rfl dL_law_243)) (ax_nd_ok (ax_lf_ok (ak_iconst (by decide) dL_law_244)) (ax_lf_ok (ak_iadd dL_law_245))))) (ax_nd_ok (ax_nd_ok (ax_lf_ok (ak_xld dL_law_246)) (ax_nd_ok (ax_lf_ok (ak_aload_n rfl dL_law_247)) (ax_lf_ok (ak_iload_n rfl dL_law_248)))) (ax_nd_ok (ax_lf_ok (ak_iconst (by decide) dL_law_249)) (ax_nd_ok (ax_lf_ok (ak_iadd dL_law_250)) (ax_lf_ok (ak_xld dL_law_251)))))) (ax_nd_ok (ax_nd_ok (ax_nd_ok (ax_lf_ok (ak_inva (ak_invV (by decide) (by decide) (by decide) rfl wd_1232 wd_1233 wd_1234 wd_106 wd_1235 ⟨by decide, by decide, by decide +kernel⟩ dL_law_252))) (ax_lf_ok (ak_pop dL_law_255))) (ax_nd_ok (ax_lf_ok (ak_goto (by decide) dL_law_256)) (ax_nd_ok (ax_lf_ok (ak_aload_n rfl dL_law_259)) (ax_lf_ok (ak_aload_n rfl dL_law_260))))) (ax_nd_ok (ax_nd_ok (ax_lf_ok (ak_iload_n rfl dL_law_261)) (ax_nd_ok (ax_lf_ok (ak_iconst (by decide) dL_law_262)) (ax_lf_ok (ak_iadd dL_law_263)))) (ax_nd_ok (ax_lf_ok (ak_xld dL_law_264)) (ax_nd_ok (ax_lf_ok (ak_inva (ak_invV (by decide) (by decide) (by decide) rfl wd_455 wd_456 wd_457 wd_96 wd_458 ⟨by decide, by decide, by decide +kernel⟩ dL_law_265))) (ax_lf_ok (ak_aload_n rfl dL_law_268))))))))) (ax_nd_ok (ax_nd_ok (ax_nd_ok (ax_nd_ok (ax_nd_ok (ax_nd_ok (ax_lf_ok (ak_aload_n rfl dL_law_269)) (ax_lf_ok (ak_iload_n rfl dL_law_270))) (ax_nd_ok (ax_lf_ok (ak_iconst (by decide) dL_law_271)) (ax_nd_ok (ax_lf_ok (ak_iadd dL_law_272)) (ax_lf_ok (ak_xld dL_law_273))))) (ax_nd_ok (ax_nd_ok (ax_lf_ok (ak_inva (ak_invV (by decide) (by decide) (by decide) rfl wd_1240 wd_1241 wd_1242 wd_106 wd_1243 ⟨by decide, by decide, by decide +kernel⟩ dL_law_274))) (ax_lf_ok (ak_icmp_eq (by decide) dL_law_277))) (ax_nd_ok (ax_lf_ok (ak_iconst (by decide) dL_law_280)) (ax_nd_ok (ax_lf_ok (ak_zreta (ak_zret rfl dL_law_281))) (ax_lf_ok (ak_aload_n rfl dL_law_282)))))) (ax_nd_ok (ax_nd_ok (ax_nd_ok (ax_lf_ok (ak_aload_n rfl dL_law_283)) (ax_lf_ok (ak_iload_n rfl dL_law_284))) (ax_nd_ok (ax_lf_ok (ak_iconst (by decide) dL_law_285)) (ax_nd_ok (ax_lf_ok (ak_iadd dL_law_286)) (ax_lf_ok (ak_xld dL_law_287))))) (ax_nd_ok (ax_nd_ok (ax_lf_ok (ak_aload_n rfl dL_law_288)) (ax_nd_ok (ax_lf_ok (ak_iload_n rfl dL_law_289)) (ax_lf_ok (ak_iconst (by decide) dL_law_290)))) (ax_nd_ok (ax_lf_ok (ak_iadd dL_law_291)) (ax_nd_ok (ax_lf_ok (ak_xld dL_law_292)) (ax_lf_ok (ak_inva (ak_invV (by decide) (by decide) (by decide) rfl wd_459 wd_460 wd_461 wd_96 wd_462 ⟨by decide, by decide, by decide +kernel⟩ dL_law_293)))))))) (ax_nd_ok (ax_nd_ok (ax_nd_ok (ax_nd_ok (ax_lf_ok (ak_pop dL_law_296)) (ax_lf_ok (ak_aload_n rfl dL_law_297))) (ax_nd_ok (ax_lf_ok (ak_aload_n rfl dL_law_298)) (ax_nd_ok (ax_lf_ok (ak_iload_n rfl dL_law_299)) (ax_lf_ok (ak_iconst (by decide) dL_law_300))))) (ax_nd_ok (ax_nd_ok (ax_lf_ok (ak_iadd dL_law_301)) (ax_nd_ok (ax_lf_ok (ak_xld dL_law_302)) (ax_lf_ok (ak_aload_n rfl dL_law_303)))) (ax_nd_ok (ax_lf_ok (ak_iload_n rfl dL_law_304)) (ax_nd_ok (ax_lf_ok (ak_iconst (by decide) dL_law_305)) (ax_lf_ok (ak_iadd dL_law_306)))))) (ax_nd_ok (ax_nd_ok (ax_nd_ok (ax_lf_ok (ak_xld dL_law_307)) (ax_lf_ok (ak_inva (ak_invV (by decide) (by decide) (by decide) rfl wd_1247 wd_1248 wd_1249 wd_106 wd_1250 ⟨by decide, by decide, by decide +kernel⟩ dL_law_308)))) (ax_nd_ok (ax_lf_ok (ak_pop dL_law_311)) (ax_nd_ok (ax_lf_ok (ak_goto (by decide) dL_law_312)) (ax_lf_ok (ak_aload_n rfl dL_law_315))))) (ax_nd_ok (ax_nd_ok (ax_lf_ok (ak_aload_n rfl dL_law_316)) (ax_nd_ok (ax_lf_ok (ak_iload_n rfl dL_law_317)) (ax_lf_ok (ak_iconst (by decide) dL_law_318)))) (ax_nd_ok (ax_lf_ok (ak_iadd dL_law_319)) (ax_nd_ok (ax_lf_ok (ak_xld dL_law_320)) (ax_lf_ok (ak_inva (ak_invV (by decide) (by decide) (by decide) rfl wd_637 wd_638 wd_639 wd_96 wd_640 ⟨by decide, by decide, by decide +kernel⟩ dL_law_321))))))))) (ax_nd_ok (ax_nd_ok (ax_nd_ok (ax_nd_ok (ax_nd_ok (ax_lf_ok (ak_pop dL_law_324)) (ax_lf_ok (ak_aload_n rfl dL_law_325))) (ax_nd_ok (ax_lf_ok (ak_aload_n rfl dL_law_326)) (ax_nd_ok (ax_lf_ok (ak_iload_n rfl dL_law_327)) (ax_lf_ok (ak_iconst (by decide) dL_law_328))))) (ax_nd_ok (ax_nd_ok (ax_lf_ok (ak_iadd dL_law_329)) (ax_nd_ok (ax_lf_ok (ak_xld dL_law_330)) (ax_lf_ok (ak_inva (ak_invV (by decide) (by decide) (by decide) rfl wd_1348 wd_1349 wd_1350 wd_106 wd_1351 ⟨by decide, by decide, by decide +kernel⟩ dL_law_331))))) (ax_nd_ok (ax_lf_ok (ak_pop dL_law_334)) (ax_nd_ok (ax_lf_ok (ak_goto (by decide) dL_law_335)) (ax_lf_ok (ak_aload_n rfl dL_law_338)))))) (ax_nd_ok (ax_nd_ok (ax_nd_ok (ax_lf_ok (ak_aload_n rfl dL_law_339)) (ax_lf_ok (ak_iload_n rfl dL_law_340))) (ax_nd_ok (ax_lf_ok (ak_iconst (by decide) dL_law_341)) (ax_nd_ok (ax_lf_ok (ak_iadd dL_law_342)) (ax_lf_ok (ak_xld dL_law_343))))) (ax_nd_ok (ax_nd_ok (ax_lf_ok (ak_aload_n rfl dL_law_344)) (ax_nd_ok (ax_lf_ok (ak_iload_n rfl dL_law_345)) (ax_lf_ok (ak_iconst (by decide) dL_law_346)))) (ax_nd_ok (ax_lf_ok (ak_iadd dL_law_347)) (ax_nd_ok (ax_lf_ok (ak_xld dL_law_348)) (ax_lf_ok (ak_inva (ak_invV (by decide) (by decide) (by decide) rfl wd_641 wd_642 wd_643 wd_96 wd_644 ⟨by decide, by decide, by decide +kernel⟩ dL_law_349)))))))) (ax_nd_ok (ax_nd_ok (ax_nd_ok (ax_nd_ok (ax_lf_ok (ak_pop dL_law_352)) (ax_lf_ok (ak_aload_n rfl dL_law_353))) (ax_nd_ok (ax_lf_ok (ak_aload_n rfl dL_law_354)) (ax_nd_ok (ax_lf_ok (ak_iload_n rfl dL_law_355)) (ax_lf_ok (ak_iconst (by decide) dL_law_356))))) (ax_nd_ok (ax_nd_ok (ax_lf_ok (ak_iadd dL_law_357)) (ax_nd_ok (ax_lf_ok (ak_xld dL_law_358)) (ax_lf_ok (ak_aload_n rfl dL_law_359)))) (ax_nd_ok (ax_lf_ok (ak_iload_n rfl dL_law_360)) (ax_nd_ok (ax_lf_ok (ak_iconst (by decide) dL_law_361)) (ax_lf_ok (ak_iadd dL_law_362)))))) (ax_nd_ok (ax_nd_ok (ax_nd_ok (ax_lf_ok (ak_xld dL_law_363)) (ax_lf_ok (ak_inva (ak_invV (by decide) (by decide) (by decide) rfl wd_1352 wd_1353 wd_1354 wd_106 wd_1355 ⟨by decide, by decide, by decide +kernel⟩ dL_law_364)))) (ax_nd_ok (ax_lf_ok (ak_pop dL_law_367)) (ax_nd_ok (ax_lf_ok (ak_goto (by decide) dL_law_368)) (ax_lf_ok (ak_aload_n rfl dL_law_371))))) (ax_nd_ok (ax_nd_ok (ax_lf_ok (ak_aload_n rfl dL_law_372)) (ax_nd_ok (ax_lf_ok (ak_iload_n rfl dL_law_373)) (ax_lf_ok (ak_iconst (by decide) dL_law_374)))) (ax_nd_ok (ax_lf_ok (ak_iadd dL_law_375)) (ax_nd_ok (ax_lf_ok (ak_xld dL_law_376)) (ax_lf_ok (ak_aload_n rfl dL_law_377)))))))))) (ax_nd_ok (ax_nd_ok (ax_nd_ok (ax_nd_ok (ax_nd_ok (ax_nd_ok (ax_nd_ok (ax_lf_ok (ak_iload_n rfl dL_law_378)) (ax_lf_ok (ak_iconst (by decide) dL_law_379))) (ax_nd_ok (ax_lf_ok (ak_iadd dL_law_380)) (ax_nd_ok (ax_lf_ok (ak_xld dL_law_381)) (ax_lf_ok (ak_aload_n rfl dL_law_382))))) (ax_nd_ok (ax_nd_ok (ax_lf_ok (ak_iload_n rfl dL_law_383)) (ax_lf_ok (ak_iconst (by decide) dL_law_384))) (ax_nd_ok (ax_lf_ok (ak_iadd dL_law_385)) (ax_nd_ok (ax_lf_ok (ak_xld dL_law_386)) (ax_lf_ok (ak_inva (ak_invV (by decide) (by decide) (by decide) rfl wd_704 wd_705 wd_706 wd_96 wd_707 ⟨by decide, by decide, by decide +kernel⟩ dL_law_387))))))) (ax_nd_ok (ax_nd_ok (ax_nd_ok (ax_lf_ok (ak_pop dL_law_390)) (ax_lf_ok (ak_aload_n rfl dL_law_391))) (ax_nd_ok (ax_lf_ok (ak_aload_n rfl dL_law_392)) (ax_nd_ok (ax_lf_ok (ak_iload_n rfl dL_law_393)) (ax_lf_ok (ak_iconst (by decide) dL_law_394))))) (ax_nd_ok (ax_nd_ok (ax_lf_ok (ak_iadd dL_law_395)) (ax_nd_ok (ax_lf_ok (ak_xld dL_law_396)) (ax_lf_ok (ak_aload_n rfl dL_law_397)))) (ax_nd_ok (ax_lf_ok (ak_iload_n rfl dL_law_398)) (ax_nd_ok (ax_lf_ok (ak_iconst (by decide) dL_law_399)) (ax_lf_ok (ak_iadd dL_law_400))))))) (ax_nd_ok (ax_nd_ok (ax_nd_ok (ax_nd_ok (ax_lf_ok (ak_xld dL_law_401)) (ax_lf_ok (ak_aload_n rfl dL_law_402))) (ax_nd_ok (ax_lf_ok (ak_iload_n rfl dL_law_403)) (ax_nd_ok (ax_lf_ok (ak_iconst (by decide) dL_law_404)) (ax_lf_ok (ak_iadd dL_law_405))))) (ax_nd_ok (ax_nd_ok (ax_lf_ok (ak_xld dL_law_406)) (ax_nd_ok (ax_lf_ok (ak_inva (ak_invV (by decide) (by decide) (by decide) rfl wd_1387 wd_1388 wd_1389 wd_106 wd_1390 ⟨by decide, by decide, by decide +kernel⟩ dL_law_407))) (ax_lf_ok (ak_pop dL_law_410)))) (ax_nd_ok (ax_lf_ok (ak_goto (by decide) dL_law_411)) (ax_nd_ok (ax_lf_ok (ak_aload_n rfl dL_law_414)) (ax_lf_ok (ak_aload_n rfl dL_law_415)))))) (ax_nd_ok (ax_nd_ok (ax_nd_ok (ax_lf_ok (ak_iload_n rfl dL_law_416)) (ax_lf_ok (ak_iconst (by decide) dL_law_417))) (ax_nd_ok (ax_lf_ok (ak_iadd dL_law_418)) (ax_nd_ok (ax_lf_ok (ak_xld dL_law_419)) (ax_lf_ok (ak_aload_n rfl dL_law_420))))) (ax_nd_ok (ax_nd_ok (ax_lf_ok (ak_iload_n rfl dL_law_421)) (ax_nd_ok (ax_lf_ok (ak_iconst (by decide) dL_law_422)) (ax_lf_ok (ak_iadd dL_law_423)))) (ax_nd_ok (ax_lf_ok (ak_xld dL_law_424)) (ax_nd_ok (ax_lf_ok (ak_aload_n rfl dL_law_425)) (ax_lf_ok (ak_iload_n rfl dL_law_426)))))))) (ax_nd_ok (ax_nd_ok (ax_nd_ok (ax_nd_ok (ax_nd_ok (ax_lf_ok (ak_iconst (by decide) dL_law_427)) (ax_lf_ok (ak_iadd dL_law_428))) (ax_nd_ok (ax_lf_ok (ak_xld dL_law_429)) (ax_nd_ok (ax_lf_ok (ak_inva (ak_invV (by decide) (by decide) (by decide) rfl wd_711 wd_712 wd_713 wd_96 wd_714 ⟨by decide, by decide, by decide +kernel⟩ dL_law_430))) (ax_lf_ok (ak_pop dL_law_433))))) (ax_nd_ok (ax_nd_ok (ax_lf_ok (ak_aload_n rfl dL_law_434)) (ax_nd_ok (ax_lf_ok (ak_aload_n rfl dL_law_435)) (ax_lf_ok (ak_iload_n rfl dL_law_436)))) (ax_nd_ok (ax_lf_ok (ak_iconst (by decide) dL_law_437)) (ax_nd_ok (ax_lf_ok (ak_iadd dL_law_438)) (ax_lf_ok (ak_xld dL_law_439)))))) (ax_nd_ok (ax_nd_ok (ax_nd_ok (ax_lf_ok (ak_aload_n rfl dL_law_440)) (ax_lf_ok (ak_iload_n rfl dL_law_441))) (ax_nd_ok (ax_lf_ok (ak_iconst (by decide) dL_law_442)) (ax_nd_ok (ax_lf_ok (ak_iadd dL_law_443)) (ax_lf_ok (ak_xld dL_law_444))))) (ax_nd_ok (ax_nd_ok (ax_lf_ok (ak_aload_n rfl dL_law_445)) (ax_nd_ok (ax_lf_ok (ak_iload_n rfl dL_law_446)) (ax_lf_ok (ak_iconst (by decide) dL_law_447)))) (ax_nd_ok (ax_lf_ok (ak_iadd dL_law_448)) (ax_nd_ok (ax_lf_ok (ak_xld dL_law_449)) (ax_lf_ok (ak_inva (ak_invV (by decide) (by decide) (by decide) rfl wd_1399 wd_1400 wd_1401 wd_106 wd_1402 ⟨by decide, by decide, by decide +kernel⟩ dL_law_450)))))))) (ax_nd_ok (ax_nd_ok (ax_nd_ok (ax_nd_ok (ax_lf_ok (ak_pop dL_law_453)) (ax_lf_ok (ak_goto (by decide) dL_law_454))) (ax_nd_ok (ax_lf_ok (ak_aload_n rfl dL_law_457)) (ax_nd_ok (ax_lf_ok (ak_aload_n rfl dL_law_458)) (ax_lf_ok (ak_iload_n rfl dL_law_459))))) (ax_nd_ok (ax_nd_ok (ax_lf_ok (ak_iconst (by decide) dL_law_460)) (ax_nd_ok (ax_lf_ok (ak_iadd dL_law_461)) (ax_lf_ok (ak_xld dL_law_462)))) (ax_nd_ok (ax_lf_ok (ak_aload_n rfl dL_law_463)) (ax_nd_ok (ax_lf_ok (ak_iload_n rfl dL_law_464)) (ax_lf_ok (ak_iconst (by decide) dL_law_465)))))) (ax_nd_ok (ax_nd_ok (ax_nd_ok (ax_lf_ok (ak_iadd dL_law_466)) (ax_lf_ok (ak_xld dL_law_467))) (ax_nd_ok (ax_lf_ok (ak_aload_n rfl dL_law_468)) (ax_nd_ok (ax_lf_ok (ak_iload_n rfl dL_law_469)) (ax_lf_ok (ak_iconst (by decide) dL_law_470))))) (ax_nd_ok (ax_nd_ok (ax_lf_ok (ak_iadd dL_law_471)) (ax_nd_ok (ax_lf_ok (ak_xld dL_law_472)) (ax_lf_ok (ak_if_eq (by decide) dL_law_473)))) (ax_nd_ok (ax_lf_ok (ak_iconst (by decide) dL_law_476)) (ax_nd_ok (ax_lf_ok (ak_goto (by decide) dL_law_477)) (ax_lf_ok (ak_iconst (by decide) dL_law_480))))))))) (ax_nd_ok (ax_nd_ok (ax_nd_ok (ax_nd_ok (ax_nd_ok (ax_nd_ok (ax_lf_ok (ak_inva (ak_invV (by decide) (by decide) (by decide) rfl wd_725 wd_726 wd_727 wd_96 wd_728 ⟨by decide, by decide, by decide +kernel⟩ dL_law_481))) (ax_lf_ok (ak_pop dL_law_484))) (ax_nd_ok (ax_lf_ok (ak_aload_n rfl dL_law_485)) (ax_nd_ok (ax_lf_ok (ak_aload_n rfl dL_law_486)) (ax_lf_ok (ak_iload_n rfl dL_law_487))))) (ax_nd_ok (ax_nd_ok (ax_lf_ok (ak_iconst (by decide) dL_law_488)) (ax_nd_ok (ax_lf_ok (ak_iadd dL_law_489)) (ax_lf_ok (ak_xld dL_law_490)))) (ax_nd_ok (ax_lf_ok (ak_aload_n rfl dL_law_491)) (ax_nd_ok (ax_lf_ok (ak_iload_n rfl dL_law_492)) (ax_lf_ok (ak_iconst (by decide) dL_law_493)))))) (ax_nd_ok (ax_nd_ok (ax_nd_ok (ax_lf_ok (ak_iadd dL_law_494)) (ax_lf_ok (ak_xld dL_law_495))) (ax_nd_ok (ax_lf_ok (ak_aload_n rfl dL_law_496)) (ax_nd_ok (ax_lf_ok (ak_iload_n rfl dL_law_497)) (ax_lf_ok (ak_iconst (by decide) dL_law_498))))) (ax_nd_ok (ax_nd_ok (ax_lf_ok (ak_iadd dL_law_499)) (ax_nd_ok (ax_lf_ok (ak_xld dL_law_500)) (ax_lf_ok (ak_if_eq (by decide) dL_law_501)))) (ax_nd_ok (ax_lf_ok (ak_iconst (by decide) dL_law_504)) (ax_nd_ok (ax_lf_ok (ak_goto (by decide) dL_law_505)) (ax_lf_ok (ak_iconst (by decide) dL_law_508))))))) (ax_nd_ok (ax_nd_ok (ax_nd_ok (ax_nd_ok (ax_lf_ok (ak_inva (ak_invV (by decide) (by decide) (by decide) rfl wd_1412 wd_1413 wd_1414 wd_106 wd_1415 ⟨by decide, by decide, by decide +kernel⟩ dL_law_509))) (ax_lf_ok (ak_pop dL_law_512))) (ax_nd_ok (ax_lf_ok (ak_goto (by decide) dL_law_513)) (ax_nd_ok (ax_lf_ok (ak_aload_n rfl dL_law_516)) (ax_lf_ok (ak_aload_n rfl dL_law_517))))) (ax_nd_ok (ax_nd_ok (ax_lf_ok (ak_iload_n rfl dL_law_518)) (ax_nd_ok (ax_lf_ok (ak_iconst (by decide) dL_law_519)) (ax_lf_ok (ak_iadd dL_law_520)))) (ax_nd_ok (ax_lf_ok (ak_xld dL_law_521)) (ax_nd_ok (ax_lf_ok (ak_aload_n rfl dL_law_522)) (ax_lf_ok (ak_iload_n rfl dL_law_523)))))) (ax_nd_ok (ax_nd_ok (ax_nd_ok (ax_lf_ok (ak_iconst (by decide) dL_law_524)) (ax_lf_ok (ak_iadd dL_law_525))) (ax_nd_ok (ax_lf_ok (ak_xld dL_law_526)) (ax_nd_ok (ax_lf_ok (ak_inva (ak_invV (by decide) (by decide) (by decide) rfl wd_741 wd_742 wd_743 wd_96 wd_744 ⟨by decide, by decide, by decide +kernel⟩ dL_law_527))) (ax_lf_ok (ak_pop dL_law_530))))) (ax_nd_ok (ax_nd_ok (ax_lf_ok (ak_aload_n rfl dL_law_531)) (ax_nd_ok (ax_lf_ok (ak_aload_n rfl dL_law_532)) (ax_lf_ok (ak_iload_n rfl dL_law_533)))) (ax_nd_ok (ax_lf_ok (ak_iconst (by decide) dL_law_534)) (ax_nd_ok (ax_lf_ok (ak_iadd dL_law_535)) (ax_lf_ok (ak_xld dL_law_536)))))))) (ax_nd_ok (ax_nd_ok (ax_nd_ok (ax_nd_ok (ax_nd_ok (ax_lf_ok (ak_aload_n rfl dL_law_537)) (ax_lf_ok (ak_iload_n rfl dL_law_538))) (ax_nd_ok (ax_lf_ok (ak_iconst (by decide) dL_law_539)) (ax_nd_ok (ax_lf_ok (ak_iadd dL_law_540)) (ax_lf_ok (ak_xld dL_law_541))))) (ax_nd_ok (ax_nd_ok (ax_lf_ok (ak_inva (ak_invV (by decide) (by decide) (by decide) rfl wd_1422 wd_1423 wd_1424 wd_106 wd_1425 ⟨by decide, by decide, by decide +kernel⟩ dL_law_542))) (ax_nd_ok (ax_lf_ok (ak_pop dL_law_545)) (ax_lf_ok (ak_goto (by decide) dL_law_546)))) (ax_nd_ok (ax_lf_ok (ak_aload_n rfl dL_law_549)) (ax_nd_ok (ax_lf_ok (ak_aload_n rfl dL_law_550)) (ax_lf_ok (ak_iload_n rfl dL_law_551)))))) (ax_nd_ok (ax_nd_ok (ax_nd_ok (ax_lf_ok (ak_iconst (by decide) dL_law_552)) (ax_lf_ok (ak_iadd dL_law_553))) (ax_nd_ok (ax_lf_ok (ak_xld dL_law_554)) (ax_nd_ok (ax_lf_ok (ak_aload_n rfl dL_law_555)) (ax_lf_ok (ak_iload_n rfl dL_law_556))))) (ax_nd_ok (ax_nd_ok (ax_lf_ok (ak_iconst (by decide) dL_law_557)) (ax_nd_ok (ax_lf_ok (ak_iadd dL_law_558)) (ax_lf_ok (ak_xld dL_law_559)))) (ax_nd_ok (ax_lf_ok (ak_aload_n rfl dL_law_560)) (ax_nd_ok (ax_lf_ok (ak_iload_n rfl dL_law_561)) (ax_lf_ok (ak_iconst (by decide) dL_law_562))))))) (ax_nd_ok (ax_nd_ok (ax_nd_ok (ax_nd_ok (ax_lf_ok (ak_iadd dL_law_563)) (ax_lf_ok (ak_xld dL_law_564))) (ax_nd_ok (ax_lf_ok (ak_aload_n rfl dL_law_565)) (ax_nd_ok (ax_lf_ok (ak_iload_n rfl dL_law_566)) (ax_lf_ok (ak_iconst (by decide) dL_law_567))))) (ax_nd_ok (ax_nd_ok (ax_lf_ok (ak_iadd dL_law_568)) (ax_nd_ok (ax_lf_ok (ak_xld dL_law_569)) (ax_lf_ok (ak_inva (ak_invV (by decide) (by decide) (by decide) rfl wd_758 wd_759 wd_760 wd_96 wd_761 ⟨by decide, by decide, by decide +kernel⟩ dL_law_570))))) (ax_nd_ok (ax_lf_ok (ak_pop dL_law_573)) (ax_nd_ok (ax_lf_ok (ak_aload_n rfl dL_law_574)) (ax_lf_ok (ak_aload_n rfl dL_law_575)))))) (ax_nd_ok (ax_nd_ok (ax_nd_ok (ax_lf_ok (ak_iload_n rfl dL_law_576)) (ax_lf_ok (ak_iconst (by decide) dL_law_577))) (ax_nd_ok (ax_lf_ok (ak_iadd dL_law_578)) (ax_nd_ok (ax_lf_ok (ak_xld dL_law_579)) (ax_lf_ok (ak_aload_n rfl dL_law_580))))) (ax_nd_ok (ax_nd_ok (ax_lf_ok (ak_iload_n rfl dL_law_581)) (ax_nd_ok (ax_lf_ok (ak_iconst (by decide) dL_law_582)) (ax_lf_ok (ak_iadd dL_law_583)))) (ax_nd_ok (ax_lf_ok (ak_xld dL_law_584)) (ax_nd_ok (ax_lf_ok (ak_aload_n rfl dL_law_585)) (ax_lf_ok (ak_iload_n rfl dL_law_586))))))))))) (ax_nd_ok (ax_nd_ok (ax_nd_ok (ax_nd_ok (ax_nd_ok (ax_nd_ok (ax_nd_ok (ax_nd_ok (ax_lf_ok (ak_iconst (by decide) dL_law_587)) (ax_lf_ok (ak_iadd dL_law_588))) (ax_nd_ok (ax_lf_ok (ak_xld dL_law_589)) (ax_nd_ok (ax_lf_ok (ak_aload_n rfl dL_law_590)) (ax_lf_ok (ak_iload_n rfl dL_law_591))))) (ax_nd_ok (ax_nd_ok (ax_lf_ok (ak_iconst (by decide) dL_law_592)) (ax_lf_ok (ak_iadd dL_law_593))) (ax_nd_ok (ax_lf_ok (ak_xld dL_law_594)) (ax_nd_ok (ax_lf_ok (ak_inva (ak_invV (by decide) (by decide) (by decide) rfl wd_1434 wd_1435 wd_1436 wd_106 wd_1437 ⟨by decide, by decide, by decide +kernel⟩ dL_law_595))) (ax_lf_ok (ak_pop dL_law_598)))))) (ax_nd_ok (ax_nd_ok (ax_nd_ok (ax_lf_ok (ak_goto (by decide) dL_law_599)) (ax_lf_ok (ak_aload_n rfl dL_law_602))) (ax_nd_ok (ax_lf_ok (ak_aload_n rfl dL_law_603)) (ax_nd_ok (ax_lf_ok (ak_iload_n rfl dL_law_604)) (ax_lf_ok (ak_iconst (by decide) dL_law_605))))) (ax_nd_ok (ax_nd_ok (ax_lf_ok (ak_iadd dL_law_606)) (ax_nd_ok (ax_lf_ok (ak_xld dL_law_607)) (ax_lf_ok (ak_aload_n rfl dL_law_608)))) (ax_nd_ok (ax_lf_ok (ak_iload_n rfl dL_law_609)) (ax_nd_ok (ax_lf_ok (ak_iconst (by decide) dL_law_610)) (ax_lf_ok (ak_iadd dL_law_611))))))) (ax_nd_ok (ax_nd_ok (ax_nd_ok (ax_nd_ok (ax_lf_ok (ak_xld dL_law_612)) (ax_lf_ok (ak_aload_n rfl dL_law_613))) (ax_nd_ok (ax_lf_ok (ak_iload_n rfl dL_law_614)) (ax_nd_ok (ax_lf_ok (ak_iconst (by decide) dL_law_615)) (ax_lf_ok (ak_iadd dL_law_616))))) (ax_nd_ok (ax_nd_ok (ax_lf_ok (ak_xld dL_law_617)) (ax_nd_ok (ax_lf_ok (ak_aload_n rfl dL_law_618)) (ax_lf_ok (ak_iload_n rfl dL_law_619)))) (ax_nd_ok (ax_lf_ok (ak_iconst (by decide) dL_law_620)) (ax_nd_ok (ax_lf_ok (ak_iadd dL_law_621)) (ax_lf_ok (ak_xld dL_law_622)))))) (ax_nd_ok (ax_nd_ok (ax_nd_ok (ax_lf_ok (ak_if_eq (by decide) dL_law_623)) (ax_lf_ok (ak_iconst (by decide) dL_law_626))) (ax_nd_ok (ax_lf_ok (ak_goto (by decide) dL_law_627)) (ax_nd_ok (ax_lf_ok (ak_iconst (by decide) dL_law_630)) (ax_lf_ok (ak_inva (ak_invV (by decide) (by decide) (by decide) rfl wd_770 wd_771 wd_772 wd_96 wd_773 ⟨by decide, by decide, by decide +kernel⟩ dL_law_631)))))) (ax_nd_ok (ax_nd_ok (ax_lf_ok (ak_pop2 dL_law_634)) (ax_nd_ok (ax_lf_ok (ak_aload_n rfl dL_law_635)) (ax_lf_ok (ak_aload_n rfl dL_law_636)))) (ax_nd_ok (ax_lf_ok (ak_iload_n rfl dL_law_637)) (ax_nd_ok (ax_lf_ok (ak_iconst (by decide) dL_law_638)) (ax_lf_ok (ak_iadd dL_law_639)))))))) (ax_nd_ok (ax_nd_ok (ax_nd_ok (ax_nd_ok (ax_nd_ok (ax_lf_ok (ak_xld dL_law_640)) (ax_lf_ok (ak_aload_n rfl dL_law_641))) (ax_nd_ok (ax_lf_ok (ak_iload_n rfl dL_law_642)) (ax_nd_ok (ax_lf_ok (ak_iconst (by decide) dL_law_643)) (ax_lf_ok (ak_iadd dL_law_644))))) (ax_nd_ok (ax_nd_ok (ax_lf_ok (ak_xld dL_law_645)) (ax_nd_ok (ax_lf_ok (ak_aload_n rfl dL_law_646)) (ax_lf_ok (ak_iload_n rfl dL_law_647)))) (ax_nd_ok (ax_lf_ok (ak_iconst (by decide) dL_law_648)) (ax_nd_ok (ax_lf_ok (ak_iadd dL_law_649)) (ax_lf_ok (ak_xld dL_law_650)))))) (ax_nd_ok (ax_nd_ok (ax_nd_ok (ax_lf_ok (ak_aload_n rfl dL_law_651)) (ax_lf_ok (ak_iload_n rfl dL_law_652))) (ax_nd_ok (ax_lf_ok (ak_iconst (by decide) dL_law_653)) (ax_nd_ok (ax_lf_ok (ak_iadd dL_law_654)) (ax_lf_ok (ak_xld dL_law_655))))) (ax_nd_ok (ax_nd_ok (ax_lf_ok (ak_if_eq (by decide) dL_law_656)) (ax_nd_ok (ax_lf_ok (ak_iconst (by decide) dL_law_659)) (ax_lf_ok (ak_goto (by decide) dL_law_660)))) (ax_nd_ok (ax_lf_ok (ak_iconst (by decide) dL_law_663)) (ax_nd_ok (ax_lf_ok (ak_inva (ak_invV (by decide) (by decide) (by decide) rfl wd_1446 wd_1447 wd_1448 wd_106 wd_1449 ⟨by decide, by decide, by decide +kernel⟩ dL_law_664))) (ax_lf_ok (ak_pop2 dL_law_667))))))) (ax_nd_ok (ax_nd_ok (ax_nd_ok (ax_nd_ok (ax_lf_ok (ak_goto (by decide) dL_law_668)) (ax_lf_ok (ak_aload_n rfl dL_law_671))) (ax_nd_ok (ax_lf_ok (ak_aload_n rfl dL_law_672)) (ax_nd_ok (ax_lf_ok (ak_iload_n rfl dL_law_673)) (ax_lf_ok (ak_iconst (by decide) dL_law_674))))) (ax_nd_ok (ax_nd_ok (ax_lf_ok (ak_iadd dL_law_675)) (ax_nd_ok (ax_lf_ok (ak_xld dL_law_676)) (ax_lf_ok (ak_aload_n rfl dL_law_677)))) (ax_nd_ok (ax_lf_ok (ak_iload_n rfl dL_law_678)) (ax_nd_ok (ax_lf_ok (ak_iconst (by decide) dL_law_679)) (ax_lf_ok (ak_iadd dL_law_680)))))) (ax_nd_ok (ax_nd_ok (ax_nd_ok (ax_lf_ok (ak_xld dL_law_681)) (ax_lf_ok (ak_aload_n rfl dL_law_682))) (ax_nd_ok (ax_lf_ok (ak_iload_n rfl dL_law_683)) (ax_nd_ok (ax_lf_ok (ak_iconst (by decide) dL_law_684)) (ax_lf_ok (ak_iadd dL_law_685))))) (ax_nd_ok (ax_nd_ok (ax_lf_ok (ak_xld dL_law_686)) (ax_nd_ok (ax_lf_ok (ak_aload_n rfl dL_law_687)) (ax_lf_ok (ak_iload_n rfl dL_law_688)))) (ax_nd_ok (ax_lf_ok (ak_iconst (by decide) dL_law_689)) (ax_nd_ok (ax_lf_ok (ak_iadd dL_law_690)) (ax_lf_ok (ak_xld dL_law_691))))))))) (ax_nd_ok (ax_nd_ok (ax_nd_ok (ax_nd_ok (ax_nd_ok (ax_nd_ok (ax_lf_ok (ak_inva (ak_invV (by decide) (by decide) (by decide) rfl wd_775 wd_776 wd_777 wd_96 wd_778 ⟨by decide, by decide, by decide +kernel⟩ dL_law_692))) (ax_lf_ok (ak_pop dL_law_695))) (ax_nd_ok (ax_lf_ok (ak_aload_n rfl dL_law_696)) (ax_nd_ok (ax_lf_ok (ak_aload_n rfl dL_law_697)) (ax_lf_ok (ak_iload_n rfl dL_law_698))))) (ax_nd_ok (ax_nd_ok (ax_lf_ok (ak_iconst (by decide) dL_law_699)) (ax_lf_ok (ak_iadd dL_law_700))) (ax_nd_ok (ax_lf_ok (ak_xld dL_law_701)) (ax_nd_ok (ax_lf_ok (ak_aload_n rfl dL_law_702)) (ax_lf_ok (ak_iload_n rfl dL_law_703)))))) (ax_nd_ok (ax_nd_ok (ax_nd_ok (ax_lf_ok (ak_iconst (by decide) dL_law_704)) (ax_lf_ok (ak_iadd dL_law_705))) (ax_nd_ok (ax_lf_ok (ak_xld dL_law_706)) (ax_nd_ok (ax_lf_ok (ak_aload_n rfl dL_law_707)) (ax_lf_ok (ak_iload_n rfl dL_law_708))))) (ax_nd_ok (ax_nd_ok (ax_lf_ok (ak_iconst (by decide) dL_law_709)) (ax_nd_ok (ax_lf_ok (ak_iadd dL_law_710)) (ax_lf_ok (ak_xld dL_law_711)))) (ax_nd_ok (ax_lf_ok (ak_aload_n rfl dL_law_712)) (ax_nd_ok (ax_lf_ok (ak_iload_n rfl dL_law_713)) (ax_lf_ok (ak_iconst (by decide) dL_law_714))))))) (ax_nd_ok (ax_nd_ok (ax_nd_ok (ax_nd_ok (ax_lf_ok (ak_iadd dL_law_715)) (ax_lf_ok (ak_xld dL_law_716))) (ax_nd_ok (ax_lf_ok (ak_inva (ak_invV (by decide) (by decide) (by decide) rfl wd_1451 wd_1452 wd_1453 wd_106 wd_1454 ⟨by decide, by decide, by decide +kernel⟩ dL_law_717))) (ax_nd_ok (ax_lf_ok (ak_pop dL_law_720)) (ax_lf_ok (ak_goto (by decide) dL_law_721))))) (ax_nd_ok (ax_nd_ok (ax_lf_ok (ak_aload_n rfl dL_law_724)) (ax_nd_ok (ax_lf_ok (ak_aload_n rfl dL_law_725)) (ax_lf_ok (ak_iload_n rfl dL_law_726)))) (ax_nd_ok (ax_lf_ok (ak_iconst (by decide) dL_law_727)) (ax_nd_ok (ax_lf_ok (ak_iadd dL_law_728)) (ax_lf_ok (ak_xld dL_law_729)))))) (ax_nd_ok (ax_nd_ok (ax_nd_ok (ax_lf_ok (ak_aload_n rfl dL_law_730)) (ax_lf_ok (ak_iload_n rfl dL_law_731))) (ax_nd_ok (ax_lf_ok (ak_iconst (by decide) dL_law_732)) (ax_nd_ok (ax_lf_ok (ak_iadd dL_law_733)) (ax_lf_ok (ak_xld dL_law_734))))) (ax_nd_ok (ax_nd_ok (ax_lf_ok (ak_aload_n rfl dL_law_735)) (ax_nd_ok (ax_lf_ok (ak_iload_n rfl dL_law_736)) (ax_lf_ok (ak_iconst (by decide) dL_law_737)))) (ax_nd_ok (ax_lf_ok (ak_iadd dL_law_738)) (ax_nd_ok (ax_lf_ok (ak_xld dL_law_739)) (ax_lf_ok (ak_if_eq (by decide) dL_law_740)))))))) (ax_nd_ok (ax_nd_ok (ax_nd_ok (ax_nd_ok (ax_nd_ok (ax_lf_ok (ak_iconst (by decide) dL_law_743)) (ax_lf_ok (ak_goto (by decide) dL_law_744))) (ax_nd_ok (ax_lf_ok (ak_iconst (by decide) dL_law_747)) (ax_nd_ok (ax_lf_ok (ak_inva (ak_invV (by decide) (by decide) (by decide) rfl wd_784 wd_785 wd_786 wd_96 wd_787 ⟨by decide, by decide, by decide +kernel⟩ dL_law_748))) (ax_lf_ok (ak_pop dL_law_751))))) (ax_nd_ok (ax_nd_ok (ax_lf_ok (ak_aload_n rfl dL_law_752)) (ax_nd_ok (ax_lf_ok (ak_aload_n rfl dL_law_753)) (ax_lf_ok (ak_iload_n rfl dL_law_754)))) (ax_nd_ok (ax_lf_ok (ak_iconst (by decide) dL_law_755)) (ax_nd_ok (ax_lf_ok (ak_iadd dL_law_756)) (ax_lf_ok (ak_xld dL_law_757)))))) (ax_nd_ok (ax_nd_ok (ax_nd_ok (ax_lf_ok (ak_aload_n rfl dL_law_758)) (ax_lf_ok (ak_iload_n rfl dL_law_759))) (ax_nd_ok (ax_lf_ok (ak_iconst (by decide) dL_law_760)) (ax_nd_ok (ax_lf_ok (ak_iadd dL_law_761)) (ax_lf_ok (ak_xld dL_law_762))))) (ax_nd_ok (ax_nd_ok (ax_lf_ok (ak_aload_n rfl dL_law_763)) (ax_nd_ok (ax_lf_ok (ak_iload_n rfl dL_law_764)) (ax_lf_ok (ak_iconst (by decide) dL_law_765)))) (ax_nd_ok (ax_lf_ok (ak_iadd dL_law_766)) (ax_nd_ok (ax_lf_ok (ak_xld dL_law_767)) (ax_lf_ok (ak_if_eq (by decide) dL_law_768))))))) (ax_nd_ok (ax_nd_ok (ax_nd_ok (ax_nd_ok (ax_lf_ok (ak_iconst (by decide) dL_law_771)) (ax_lf_ok (ak_goto (by decide) dL_law_772))) (ax_nd_ok (ax_lf_ok (ak_iconst (by decide) dL_law_775)) (ax_nd_ok (ax_lf_ok (ak_inva (ak_invV (by decide) (by decide) (by decide) rfl wd_1464 wd_1465 wd_1466 wd_106 wd_1467 ⟨by decide, by decide, by decide +kernel⟩ dL_law_776))) (ax_lf_ok (ak_pop dL_law_779))))) (ax_nd_ok (ax_nd_ok (ax_lf_ok (ak_goto (by decide) dL_law_780)) (ax_nd_ok (ax_lf_ok (ak_aload_n rfl dL_law_783)) (ax_lf_ok (ak_aload_n rfl dL_law_784)))) (ax_nd_ok (ax_lf_ok (ak_iload_n rfl dL_law_785)) (ax_nd_ok (ax_lf_ok (ak_iconst (by decide) dL_law_786)) (ax_lf_ok (ak_iadd dL_law_787)))))) (ax_nd_ok (ax_nd_ok (ax_nd_ok (ax_lf_ok (ak_xld dL_law_788)) (ax_lf_ok (ak_aload_n rfl dL_law_789))) (ax_nd_ok (ax_lf_ok (ak_iload_n rfl dL_law_790)) (ax_nd_ok (ax_lf_ok (ak_iconst (by decide) dL_law_791)) (ax_lf_ok (ak_iadd dL_law_792))))) (ax_nd_ok (ax_nd_ok (ax_lf_ok (ak_xld dL_law_793)) (ax_nd_ok (ax_lf_ok (ak_aload_n rfl dL_law_794)) (ax_lf_ok (ak_iload_n rfl dL_law_795)))) (ax_nd_ok (ax_lf_ok (ak_iconst (by decide) dL_law_796)) (ax_nd_ok (ax_lf_ok (ak_iadd dL_law_797)) (ax_lf_ok (ak_xld dL_law_798)))))))))) (ax_nd_ok (ax_nd_ok (ax_nd_ok (ax_nd_ok (ax_nd_ok (ax_nd_ok (ax_nd_ok (ax_lf_ok (ak_aload_n rfl dL_law_799)) (ax_lf_ok (ak_iload_n rfl dL_law_800))) (ax_nd_ok (ax_lf_ok (ak_iconst (by decide) dL_law_801)) (ax_nd_ok (ax_lf_ok (ak_iadd dL_law_802)) (ax_lf_ok (ak_xld dL_law_803))))) (ax_nd_ok (ax_nd_ok (ax_lf_ok (ak_if_eq (by decide) dL_law_804)) (ax_lf_ok (ak_iconst (by decide) dL_law_807))) (ax_nd_ok (ax_lf_ok (ak_goto (by decide) dL_law_808)) (ax_nd_ok (ax_lf_ok (ak_iconst (by decide) dL_law_811)) (ax_lf_ok (ak_inva (ak_invV (by decide) (by decide) (by decide) rfl wd_792 wd_793 wd_794 wd_96 wd_795 ⟨by decide, by decide, by decide +kernel⟩ dL_law_812))))))) (ax_nd_ok (ax_nd_ok (ax_nd_ok (ax_lf_ok (ak_pop dL_law_815)) (ax_lf_ok (ak_aload_n rfl dL_law_816))) (ax_nd_ok (ax_lf_ok (ak_aload_n rfl dL_law_817)) (ax_nd_ok (ax_lf_ok (ak_iload_n rfl dL_law_818)) (ax_lf_ok (ak_iconst (by decide) dL_law_819))))) (ax_nd_ok (ax_nd_ok (ax_lf_ok (ak_iadd dL_law_820)) (ax_nd_ok (ax_lf_ok (ak_xld dL_law_821)) (ax_lf_ok (ak_aload_n rfl dL_law_822)))) (ax_nd_ok (ax_lf_ok (ak_iload_n rfl dL_law_823)) (ax_nd_ok (ax_lf_ok (ak_iconst (by decide) dL_law_824)) (ax_lf_ok (ak_iadd dL_law_825))))))) (ax_nd_ok (ax_nd_ok (ax_nd_ok (ax_nd_ok (ax_lf_ok (ak_xld dL_law_826)) (ax_lf_ok (ak_aload_n rfl dL_law_827))) (ax_nd_ok (ax_lf_ok (ak_iload_n rfl dL_law_828)) (ax_nd_ok (ax_lf_ok (ak_iconst (by decide) dL_law_829)) (ax_lf_ok (ak_iadd dL_law_830))))) (ax_nd_ok (ax_nd_ok (ax_lf_ok (ak_xld dL_law_831)) (ax_nd_ok (ax_lf_ok (ak_aload_n rfl dL_law_832)) (ax_lf_ok (ak_iload_n rfl dL_law_833)))) (ax_nd_ok (ax_lf_ok (ak_iconst (by decide) dL_law_834)) (ax_nd_ok (ax_lf_ok (ak_iadd dL_law_835)) (ax_lf_ok (ak_xld dL_law_836)))))) (ax_nd_ok (ax_nd_ok (ax_nd_ok (ax_lf_ok (ak_if_eq (by decide) dL_law_837)) (ax_lf_ok (ak_iconst (by decide) dL_law_840))) (ax_nd_ok (ax_lf_ok (ak_goto (by decide) dL_law_841)) (ax_nd_ok (ax_lf_ok (ak_iconst (by decide) dL_law_844)) (ax_lf_ok (ak_inva (ak_invV (by decide) (by decide) (by decide) rfl wd_1472 wd_1473 wd_1474 wd_106 wd_1475 ⟨by decide, by decide, by decide +kernel⟩ dL_law_845)))))) (ax_nd_ok (ax_nd_ok (ax_lf_ok (ak_pop dL_law_848)) (ax_nd_ok (ax_lf_ok (ak_goto (by decide) dL_law_849)) (ax_lf_ok (ak_aload_n rfl dL_law_852)))) (ax_nd_ok (ax_lf_ok (ak_aload_n rfl dL_law_853)) (ax_nd_ok (ax_lf_ok (ak_iload_n rfl dL_law_854)) (ax_lf_ok (ak_iconst (by decide) dL_law_855)))))))) (ax_nd_ok (ax_nd_ok (ax_nd_ok (ax_nd_ok (ax_nd_ok (ax_lf_ok (ak_iadd dL_law_856)) (ax_lf_ok (ak_xld dL_law_857))) (ax_nd_ok (ax_lf_ok (ak_aload_n rfl dL_law_858)) (ax_nd_ok (ax_lf_ok (ak_iload_n rfl dL_law_859)) (ax_lf_ok (ak_iconst (by decide) dL_law_860))))) (ax_nd_ok (ax_nd_ok (ax_lf_ok (ak_iadd dL_law_861)) (ax_nd_ok (ax_lf_ok (ak_xld dL_law_862)) (ax_lf_ok (ak_inva (ak_invV (by decide) (by decide) (by decide) rfl wd_800 wd_801 wd_802 wd_96 wd_803 ⟨by decide, by decide, by decide +kernel⟩ dL_law_863))))) (ax_nd_ok (ax_lf_ok (ak_pop dL_law_866)) (ax_nd_ok (ax_lf_ok (ak_aload_n rfl dL_law_867)) (ax_lf_ok (ak_aload_n rfl dL_law_868)))))) (ax_nd_ok (ax_nd_ok (ax_nd_ok (ax_lf_ok (ak_iload_n rfl dL_law_869)) (ax_lf_ok (ak_iconst (by decide) dL_law_870))) (ax_nd_ok (ax_lf_ok (ak_iadd dL_law_871)) (ax_nd_ok (ax_lf_ok (ak_xld dL_law_872)) (ax_lf_ok (ak_aload_n rfl dL_law_873))))) (ax_nd_ok (ax_nd_ok (ax_lf_ok (ak_iload_n rfl dL_law_874)) (ax_nd_ok (ax_lf_ok (ak_iconst (by decide) dL_law_875)) (ax_lf_ok (ak_iadd dL_law_876)))) (ax_nd_ok (ax_lf_ok (ak_xld dL_law_877)) (ax_nd_ok (ax_lf_ok (ak_inva (ak_invV (by decide) (by decide) (by decide) rfl wd_1480 wd_1481 wd_1482 wd_106 wd_1483 ⟨by decide, by decide, by decide +kernel⟩ dL_law_878))) (ax_lf_ok (ak_pop dL_law_881))))))) (ax_nd_ok (ax_nd_ok (ax_nd_ok (ax_nd_ok (ax_lf_ok (ak_goto (by decide) dL_law_882)) (ax_lf_ok (ak_aload_n rfl dL_law_885))) (ax_nd_ok (ax_lf_ok (ak_aload_n rfl dL_law_886)) (ax_nd_ok (ax_lf_ok (ak_iload_n rfl dL_law_887)) (ax_lf_ok (ak_iconst (by decide) dL_law_888))))) (ax_nd_ok (ax_nd_ok (ax_lf_ok (ak_iadd dL_law_889)) (ax_nd_ok (ax_lf_ok (ak_xld dL_law_890)) (ax_lf_ok (ak_aload_n rfl dL_law_891)))) (ax_nd_ok (ax_lf_ok (ak_iload_n rfl dL_law_892)) (ax_nd_ok (ax_lf_ok (ak_iconst (by decide) dL_law_893)) (ax_lf_ok (ak_iadd dL_law_894)))))) (ax_nd_ok (ax_nd_ok (ax_nd_ok (ax_lf_ok (ak_xld dL_law_895)) (ax_lf_ok (ak_inva (ak_invV (by decide) (by decide) (by decide) rfl wd_808 wd_809 wd_810 wd_96 wd_811 ⟨by decide, by decide, by decide +kernel⟩ dL_law_896)))) (ax_nd_ok (ax_lf_ok (ak_pop dL_law_899)) (ax_nd_ok (ax_lf_ok (ak_aload_n rfl dL_law_900)) (ax_lf_ok (ak_aload_n rfl dL_law_901))))) (ax_nd_ok (ax_nd_ok (ax_lf_ok (ak_iload_n rfl dL_law_902)) (ax_nd_ok (ax_lf_ok (ak_iconst (by decide) dL_law_903)) (ax_lf_ok (ak_iadd dL_law_904)))) (ax_nd_ok (ax_lf_ok (ak_xld dL_law_905)) (ax_nd_ok (ax_lf_ok (ak_aload_n rfl dL_law_906)) (ax_lf_ok (ak_iload_n rfl dL_law_907))))))))) (ax_nd_ok (ax_nd_ok (ax_nd_ok (ax_nd_ok (ax_nd_ok (ax_nd_ok (ax_lf_ok (ak_iconst (by decide) dL_law_908)) (ax_lf_ok (ak_iadd dL_law_909))) (ax_nd_ok (ax_lf_ok (ak_xld dL_law_910)) (ax_nd_ok (ax_lf_ok (ak_inva (ak_invV (by decide) (by decide) (by decide) rfl wd_1492 wd_1493 wd_1494 wd_106 wd_1495 ⟨by decide, by decide, by decide +kernel⟩ dL_law_911))) (ax_lf_ok (ak_pop dL_law_914))))) (ax_nd_ok (ax_nd_ok (ax_lf_ok (ak_goto (by decide) dL_law_915)) (ax_nd_ok (ax_lf_ok (ak_aload_n rfl dL_law_918)) (ax_lf_ok (ak_aload_n rfl dL_law_919)))) (ax_nd_ok (ax_lf_ok (ak_iload_n rfl dL_law_920)) (ax_nd_ok (ax_lf_ok (ak_iconst (by decide) dL_law_921)) (ax_lf_ok (ak_iadd dL_law_922)))))) (ax_nd_ok (ax_nd_ok (ax_nd_ok (ax_lf_ok (ak_xld dL_law_923)) (ax_lf_ok (ak_aload_n rfl dL_law_924))) (ax_nd_ok (ax_lf_ok (ak_iload_n rfl dL_law_925)) (ax_nd_ok (ax_lf_ok (ak_iconst (by decide) dL_law_926)) (ax_lf_ok (ak_iadd dL_law_927))))) (ax_nd_ok (ax_nd_ok (ax_lf_ok (ak_xld dL_law_928)) (ax_nd_ok (ax_lf_ok (ak_aload_n rfl dL_law_929)) (ax_lf_ok (ak_iload_n rfl dL_law_930)))) (ax_nd_ok (ax_lf_ok (ak_iconst (by decide) dL_law_931)) (ax_nd_ok (ax_lf_ok (ak_iadd dL_law_932)) (ax_lf_ok (ak_xld dL_law_933))))))) (ax_nd_ok (ax_nd_ok (ax_nd_ok (ax_nd_ok (ax_lf_ok (ak_aload_n rfl dL_law_934)) (ax_lf_ok (ak_iload_n rfl dL_law_935))) (ax_nd_ok (ax_lf_ok (ak_iconst (by decide) dL_law_936)) (ax_nd_ok (ax_lf_ok (ak_iadd dL_law_937)) (ax_lf_ok (ak_xld dL_law_938))))) (ax_nd_ok (ax_nd_ok (ax_lf_ok (ak_if_eq (by decide) dL_law_939)) (ax_nd_ok (ax_lf_ok (ak_iconst (by decide) dL_law_942)) (ax_lf_ok (ak_goto (by decide) dL_law_943)))) (ax_nd_ok (ax_lf_ok (ak_iconst (by decide) dL_law_946)) (ax_nd_ok (ax_lf_ok (ak_inva (ak_invV (by decide) (by decide) (by decide) rfl wd_813 wd_814 wd_815 wd_96 wd_816 ⟨by decide, by decide, by decide +kernel⟩ dL_law_947))) (ax_lf_ok (ak_pop dL_law_950)))))) (ax_nd_ok (ax_nd_ok (ax_nd_ok (ax_lf_ok (ak_aload_n rfl dL_law_951)) (ax_lf_ok (ak_aload_n rfl dL_law_952))) (ax_nd_ok (ax_lf_ok (ak_iload_n rfl dL_law_953)) (ax_nd_ok (ax_lf_ok (ak_iconst (by decide) dL_law_954)) (ax_lf_ok (ak_iadd dL_law_955))))) (ax_nd_ok (ax_nd_ok (ax_lf_ok (ak_xld dL_law_956)) (ax_nd_ok (ax_lf_ok (ak_aload_n rfl dL_law_957)) (ax_lf_ok (ak_iload_n rfl dL_law_958)))) (ax_nd_ok (ax_lf_ok (ak_iconst (by decide) dL_law_959)) (ax_nd_ok (ax_lf_ok (ak_iadd dL_law_960)) (ax_lf_ok (ak_xld dL_law_961)))))))) (ax_nd_ok (ax_nd_ok (ax_nd_ok (ax_nd_ok (ax_nd_ok (ax_lf_ok (ak_aload_n rfl dL_law_962)) (ax_lf_ok (ak_iload_n rfl dL_law_963))) (ax_nd_ok (ax_lf_ok (ak_iconst (by decide) dL_law_964)) (ax_nd_ok (ax_lf_ok (ak_iadd dL_law_965)) (ax_lf_ok (ak_xld dL_law_966))))) (ax_nd_ok (ax_nd_ok (ax_lf_ok (ak_aload_n rfl dL_law_967)) (ax_nd_ok (ax_lf_ok (ak_iload_n rfl dL_law_968)) (ax_lf_ok (ak_iconst (by decide) dL_law_969)))) (ax_nd_ok (ax_lf_ok (ak_iadd dL_law_970)) (ax_nd_ok (ax_lf_ok (ak_xld dL_law_971)) (ax_lf_ok (ak_if_eq (by decide) dL_law_972)))))) (ax_nd_ok (ax_nd_ok (ax_nd_ok (ax_lf_ok (ak_iconst (by decide) dL_law_975)) (ax_lf_ok (ak_goto (by decide) dL_law_976))) (ax_nd_ok (ax_lf_ok (ak_iconst (by decide) dL_law_979)) (ax_nd_ok (ax_lf_ok (ak_inva (ak_invV (by decide) (by decide) (by decide) rfl wd_1496 wd_1497 wd_1498 wd_106 wd_1499 ⟨by decide, by decide, by decide +kernel⟩ dL_law_980))) (ax_lf_ok (ak_pop dL_law_983))))) (ax_nd_ok (ax_nd_ok (ax_lf_ok (ak_goto (by decide) dL_law_984)) (ax_nd_ok (ax_lf_ok (ak_aload_n rfl dL_law_987)) (ax_lf_ok (ak_aload_n rfl dL_law_988)))) (ax_nd_ok (ax_lf_ok (ak_iload_n rfl dL_law_989)) (ax_nd_ok (ax_lf_ok (ak_iconst (by decide) dL_law_990)) (ax_lf_ok (ak_iadd dL_law_991))))))) (ax_nd_ok (ax_nd_ok (ax_nd_ok (ax_nd_ok (ax_lf_ok (ak_xld dL_law_992)) (ax_lf_ok (ak_aload_n rfl dL_law_993))) (ax_nd_ok (ax_lf_ok (ak_iload_n rfl dL_law_994)) (ax_nd_ok (ax_lf_ok (ak_iconst (by decide) dL_law_995)) (ax_lf_ok (ak_iadd dL_law_996))))) (ax_nd_ok (ax_nd_ok (ax_lf_ok (ak_xld dL_law_997)) (ax_nd_ok (ax_lf_ok (ak_aload_n rfl dL_law_998)) (ax_lf_ok (ak_iload_n rfl dL_law_999)))) (ax_nd_ok (ax_lf_ok (ak_iconst (by decide) dL_law_1000)) (ax_nd_ok (ax_lf_ok (ak_iadd dL_law_1001)) (ax_lf_ok (ak_xld dL_law_1002)))))) (ax_nd_ok (ax_nd_ok (ax_nd_ok (ax_lf_ok (ak_aload_n rfl dL_law_1003)) (ax_lf_ok (ak_iload_n rfl dL_law_1004))) (ax_nd_ok (ax_lf_ok (ak_iconst (by decide) dL_law_1005)) (ax_nd_ok (ax_lf_ok (ak_iadd dL_law_1006)) (ax_lf_ok (ak_xld dL_law_1007))))) (ax_nd_ok (ax_nd_ok (ax_lf_ok (ak_inva (ak_invV (by decide) (by decide) (by decide) rfl wd_818 wd_819 wd_820 wd_96 wd_821 ⟨by decide, by decide, by decide +kernel⟩ dL_law_1008))) (ax_nd_ok (ax_lf_ok (ak_pop dL_law_1011)) (ax_lf_ok (ak_aload_n rfl dL_law_1012)))) (ax_nd_ok (ax_lf_ok (ak_aload_n rfl dL_law_1013)) (ax_nd_ok (ax_lf_ok (ak_iload_n rfl dL_law_1014)) (ax_lf_ok (ak_iconst (by decide) dL_law_1015)))))))))))) (ax_nd_ok (ax_nd_ok (ax_nd_ok (ax_nd_ok (ax_nd_ok (ax_nd_ok (ax_nd_ok (ax_nd_ok (ax_nd_ok (ax_lf_ok (ak_iadd dL_law_1016)) (ax_lf_ok (ak_xld dL_law_1017))) (ax_nd_ok (ax_lf_ok (ak_aload_n rfl dL_law_1018)) (ax_nd_ok (ax_lf_ok (ak_iload_n rfl dL_law_1019)) (ax_lf_ok (ak_iconst (by decide) dL_law_1020))))) (ax_nd_ok (ax_nd_ok (ax_lf_ok (ak_iadd dL_law_1021)) (ax_lf_ok (ak_xld dL_law_1022))) (ax_nd_ok (ax_lf_ok (ak_aload_n rfl dL_law_1023)) (ax_nd_ok (ax_lf_ok (ak_iload_n rfl dL_law_1024)) (ax_lf_ok (ak_iconst (by decide) dL_law_1025)))))) (ax_nd_ok (ax_nd_ok (ax_nd_ok (ax_lf_ok (ak_iadd dL_law_1026)) (ax_lf_ok (ak_xld dL_law_1027))) (ax_nd_ok (ax_lf_ok (ak_aload_n rfl dL_law_1028)) (ax_nd_ok (ax_lf_ok (ak_iload_n rfl dL_law_1029)) (ax_lf_ok (ak_iconst (by decide) dL_law_1030))))) (ax_nd_ok (ax_nd_ok (ax_lf_ok (ak_iadd dL_law_1031)) (ax_nd_ok (ax_lf_ok (ak_xld dL_law_1032)) (ax_lf_ok (ak_inva (ak_invV (by decide) (by decide) (by decide) rfl wd_1500 wd_1501 wd_1502 wd_106 wd_1503 ⟨by decide, by decide, by decide +kernel⟩ dL_law_1033))))) (ax_nd_ok (ax_lf_ok (ak_pop dL_law_1036)) (ax_nd_ok (ax_lf_ok (ak_goto (by decide) dL_law_1037)) (ax_lf_ok (ak_aload_n rfl dL_law_1040))))))) (ax_nd_ok (ax_nd_ok (ax_nd_ok (ax_nd_ok (ax_lf_ok (ak_aload_n rfl dL_law_1041)) (ax_lf_ok (ak_iload_n rfl dL_law_1042))) (ax_nd_ok (ax_lf_ok (ak_iconst (by decide) dL_law_1043)) (ax_nd_ok (ax_lf_ok (ak_iadd dL_law_1044)) (ax_lf_ok (ak_xld dL_law_1045))))) (ax_nd_ok (ax_nd_ok (ax_lf_ok (ak_aload_n rfl dL_law_1046)) (ax_nd_ok (ax_lf_ok (ak_iload_n rfl dL_law_1047)) (ax_lf_ok (ak_iconst (by decide) dL_law_1048)))) (ax_nd_ok (ax_lf_ok (ak_iadd dL_law_1049)) (ax_nd_ok (ax_lf_ok (ak_xld dL_law_1050)) (ax_lf_ok (ak_aload_n rfl dL_law_1051)))))) (ax_nd_ok (ax_nd_ok (ax_nd_ok (ax_lf_ok (ak_iload_n rfl dL_law_1052)) (ax_lf_ok (ak_iconst (by decide) dL_law_1053))) (ax_nd_ok (ax_lf_ok (ak_iadd dL_law_1054)) (ax_nd_ok (ax_lf_ok (ak_xld dL_law_1055)) (ax_lf_ok (ak_inva (ak_invV (by decide) (by decide) (by decide) rfl wd_823 wd_824 wd_825 wd_96 wd_826 ⟨by decide, by decide, by decide +kernel⟩ dL_law_1056)))))) (ax_nd_ok (ax_nd_ok (ax_lf_ok (ak_pop dL_law_1059)) (ax_nd_ok (ax_lf_ok (ak_aload_n rfl dL_law_1060)) (ax_lf_ok (ak_aload_n rfl dL_law_1061)))) (ax_nd_ok (ax_lf_ok (ak_iload_n rfl dL_law_1062)) (ax_nd_ok (ax_lf_ok (ak_iconst (by decide) dL_law_1063)) (ax_lf_ok (ak_iadd dL_law_1064)))))))) (ax_nd_ok (ax_nd_ok (ax_nd_ok (ax_nd_ok (ax_nd_ok (ax_lf_ok (ak_xld dL_law_1065)) (ax_lf_ok (ak_aload_n rfl dL_law_1066))) (ax_nd_ok (ax_lf_ok (ak_iload_n rfl dL_law_1067)) (ax_nd_ok (ax_lf_ok (ak_iconst (by decide) dL_law_1068)) (ax_lf_ok (ak_iadd dL_law_1069))))) (ax_nd_ok (ax_nd_ok (ax_lf_ok (ak_xld dL_law_1070)) (ax_nd_ok (ax_lf_ok (ak_aload_n rfl dL_law_1071)) (ax_lf_ok (ak_iload_n rfl dL_law_1072)))) (ax_nd_ok (ax_lf_ok (ak_iconst (by decide) dL_law_1073)) (ax_nd_ok (ax_lf_ok (ak_iadd dL_law_1074)) (ax_lf_ok (ak_xld dL_law_1075)))))) (ax_nd_ok (ax_nd_ok (ax_nd_ok (ax_lf_ok (ak_inva (ak_invV (by decide) (by decide) (by decide) rfl wd_1504 wd_1505 wd_1506 wd_106 wd_1507 ⟨by decide, by decide, by decide +kernel⟩ dL_law_1076))) (ax_lf_ok (ak_pop dL_law_1079))) (ax_nd_ok (ax_lf_ok (ak_goto (by decide) dL_law_1080)) (ax_nd_ok (ax_lf_ok (ak_aload_n rfl dL_law_1083)) (ax_lf_ok (ak_aload_n rfl dL_law_1084))))) (ax_nd_ok (ax_nd_ok (ax_lf_ok (ak_iload_n rfl dL_law_1085)) (ax_nd_ok (ax_lf_ok (ak_iconst (by decide) dL_law_1086)) (ax_lf_ok (ak_iadd dL_law_1087)))) (ax_nd_ok (ax_lf_ok (ak_xld dL_law_1088)) (ax_nd_ok (ax_lf_ok (ak_aload_n rfl dL_law_1089)) (ax_lf_ok (ak_iload_n rfl dL_law_1090))))))) (ax_nd_ok (ax_nd_ok (ax_nd_ok (ax_nd_ok (ax_lf_ok (ak_iconst (by decide) dL_law_1091)) (ax_lf_ok (ak_iadd dL_law_1092))) (ax_nd_ok (ax_lf_ok (ak_xld dL_law_1093)) (ax_nd_ok (ax_lf_ok (ak_inva (ak_invV (by decide) (by decide) (by decide) rfl wd_827 wd_828 wd_829 wd_96 wd_830 ⟨by decide, by decide, by decide +kernel⟩ dL_law_1094))) (ax_lf_ok (ak_pop dL_law_1097))))) (ax_nd_ok (ax_nd_ok (ax_lf_ok (ak_aload_n rfl dL_law_1098)) (ax_nd_ok (ax_lf_ok (ak_aload_n rfl dL_law_1099)) (ax_lf_ok (ak_iload_n rfl dL_law_1100)))) (ax_nd_ok (ax_lf_ok (ak_iconst (by decide) dL_law_1101)) (ax_nd_ok (ax_lf_ok (ak_iadd dL_law_1102)) (ax_lf_ok (ak_xld dL_law_1103)))))) (ax_nd_ok (ax_nd_ok (ax_nd_ok (ax_lf_ok (ak_aload_n rfl dL_law_1104)) (ax_lf_ok (ak_iload_n rfl dL_law_1105))) (ax_nd_ok (ax_lf_ok (ak_iconst (by decide) dL_law_1106)) (ax_nd_ok (ax_lf_ok (ak_iadd dL_law_1107)) (ax_lf_ok (ak_xld dL_law_1108))))) (ax_nd_ok (ax_nd_ok (ax_lf_ok (ak_inva (ak_invV (by decide) (by decide) (by decide) rfl wd_1512 wd_1513 wd_1514 wd_106 wd_1515 ⟨by decide, by decide, by decide +kernel⟩ dL_law_1109))) (ax_nd_ok (ax_lf_ok (ak_pop dL_law_1112)) (ax_lf_ok (ak_goto (by decide) dL_law_1113)))) (ax_nd_ok (ax_lf_ok (ak_aload_n rfl dL_law_1116)) (ax_nd_ok (ax_lf_ok (ak_aload_n rfl dL_law_1117)) (ax_lf_ok (ak_iload_n rfl dL_law_1118))))))))) (ax_nd_ok (ax_nd_ok (ax_nd_ok (ax_nd_ok (ax_nd_ok (ax_nd_ok (ax_lf_ok (ak_iconst (by decide) dL_law_1119)) (ax_lf_ok (ak_iadd dL_law_1120))) (ax_nd_ok (ax_lf_ok (ak_xld dL_law_1121)) (ax_nd_ok (ax_lf_ok (ak_aload_n rfl dL_law_1122)) (ax_lf_ok (ak_iload_n rfl dL_law_1123))))) (ax_nd_ok (ax_nd_ok (ax_lf_ok (ak_iconst (by decide) dL_law_1124)) (ax_lf_ok (ak_iadd dL_law_1125))) (ax_nd_ok (ax_lf_ok (ak_xld dL_law_1126)) (ax_nd_ok (ax_lf_ok (ak_aload_n rfl dL_law_1127)) (ax_lf_ok (ak_iload_n rfl dL_law_1128)))))) (ax_nd_ok (ax_nd_ok (ax_nd_ok (ax_lf_ok (ak_iconst (by decide) dL_law_1129)) (ax_lf_ok (ak_iadd dL_law_1130))) (ax_nd_ok (ax_lf_ok (ak_xld dL_law_1131)) (ax_nd_ok (ax_lf_ok (ak_inva (ak_invV (by decide) (by decide) (by decide) rfl wd_838 wd_839 wd_840 wd_96 wd_841 ⟨by decide, by decide, by decide +kernel⟩ dL_law_1132))) (ax_lf_ok (ak_pop dL_law_1135))))) (ax_nd_ok (ax_nd_ok (ax_lf_ok (ak_aload_n rfl dL_law_1136)) (ax_nd_ok (ax_lf_ok (ak_aload_n rfl dL_law_1137)) (ax_lf_ok (ak_iload_n rfl dL_law_1138)))) (ax_nd_ok (ax_lf_ok (ak_iconst (by decide) dL_law_1139)) (ax_nd_ok (ax_lf_ok (ak_iadd dL_law_1140)) (ax_lf_ok (ak_xld dL_law_1141))))))) (ax_nd_ok (ax_nd_ok (ax_nd_ok (ax_nd_ok (ax_lf_ok (ak_aload_n rfl dL_law_1142)) (ax_lf_ok (ak_iload_n rfl dL_law_1143))) (ax_nd_ok (ax_lf_ok (ak_iconst (by decide) dL_law_1144)) (ax_nd_ok (ax_lf_ok (ak_iadd dL_law_1145)) (ax_lf_ok (ak_xld dL_law_1146))))) (ax_nd_ok (ax_nd_ok (ax_lf_ok (ak_aload_n rfl dL_law_1147)) (ax_nd_ok (ax_lf_ok (ak_iload_n rfl dL_law_1148)) (ax_lf_ok (ak_iconst (by decide) dL_law_1149)))) (ax_nd_ok (ax_lf_ok (ak_iadd dL_law_1150)) (ax_nd_ok (ax_lf_ok (ak_xld dL_law_1151)) (ax_lf_ok (ak_inva (ak_invV (by decide) (by decide) (by decide) rfl wd_1520 wd_1521 wd_1522 wd_106 wd_1523 ⟨by decide, by decide, by decide +kernel⟩ dL_law_1152))))))) (ax_nd_ok (ax_nd_ok (ax_nd_ok (ax_lf_ok (ak_pop dL_law_1155)) (ax_lf_ok (ak_goto (by decide) dL_law_1156))) (ax_nd_ok (ax_lf_ok (ak_aload_n rfl dL_law_1159)) (ax_nd_ok (ax_lf_ok (ak_aload_n rfl dL_law_1160)) (ax_lf_ok (ak_iload_n rfl dL_law_1161))))) (ax_nd_ok (ax_nd_ok (ax_lf_ok (ak_iconst (by decide) dL_law_1162)) (ax_nd_ok (ax_lf_ok (ak_iadd dL_law_1163)) (ax_lf_ok (ak_xld dL_law_1164)))) (ax_nd_ok (ax_lf_ok (ak_aload_n rfl dL_law_1165)) (ax_nd_ok (ax_lf_ok (ak_iload_n rfl dL_law_1166)) (ax_lf_ok (ak_iconst (by decide) dL_law_1167)))))))) (ax_nd_ok (ax_nd_ok (ax_nd_ok (ax_nd_ok (ax_nd_ok (ax_lf_ok (ak_iadd dL_law_1168)) (ax_lf_ok (ak_xld dL_law_1169))) (ax_nd_ok (ax_lf_ok (ak_aload_n rfl dL_law_1170)) (ax_nd_ok (ax_lf_ok (ak_iload_n rfl dL_law_1171)) (ax_lf_ok (ak_iconst (by decide) dL_law_1172))))) (ax_nd_ok (ax_nd_ok (ax_lf_ok (ak_iadd dL_law_1173)) (ax_nd_ok (ax_lf_ok (ak_xld dL_law_1174)) (ax_lf_ok (ak_inva (ak_invV (by decide) (by decide) (by decide) rfl wd_849 wd_850 wd_851 wd_96 wd_852 ⟨by decide, by decide, by decide +kernel⟩ dL_law_1175))))) (ax_nd_ok (ax_lf_ok (ak_pop dL_law_1178)) (ax_nd_ok (ax_lf_ok (ak_aload_n rfl dL_law_1179)) (ax_lf_ok (ak_aload_n rfl dL_law_1180)))))) (ax_nd_ok (ax_nd_ok (ax_nd_ok (ax_lf_ok (ak_iload_n rfl dL_law_1181)) (ax_lf_ok (ak_iconst (by decide) dL_law_1182))) (ax_nd_ok (ax_lf_ok (ak_iadd dL_law_1183)) (ax_nd_ok (ax_lf_ok (ak_xld dL_law_1184)) (ax_lf_ok (ak_aload_n rfl dL_law_1185))))) (ax_nd_ok (ax_nd_ok (ax_lf_ok (ak_iload_n rfl dL_law_1186)) (ax_nd_ok (ax_lf_ok (ak_iconst (by decide) dL_law_1187)) (ax_lf_ok (ak_iadd dL_law_1188)))) (ax_nd_ok (ax_lf_ok (ak_xld dL_law_1189)) (ax_nd_ok (ax_lf_ok (ak_aload_n rfl dL_law_1190)) (ax_lf_ok (ak_iload_n rfl dL_law_1191))))))) (ax_nd_ok (ax_nd_ok (ax_nd_ok (ax_nd_ok (ax_lf_ok (ak_iconst (by decide) dL_law_1192)) (ax_lf_ok (ak_iadd dL_law_1193))) (ax_nd_ok (ax_lf_ok (ak_xld dL_law_1194)) (ax_nd_ok (ax_lf_ok (ak_inva (ak_invV (by decide) (by decide) (by decide) rfl wd_1532 wd_1533 wd_1534 wd_106 wd_1535 ⟨by decide, by decide, by decide +kernel⟩ dL_law_1195))) (ax_lf_ok (ak_pop dL_law_1198))))) (ax_nd_ok (ax_nd_ok (ax_lf_ok (ak_goto (by decide) dL_law_1199)) (ax_nd_ok (ax_lf_ok (ak_aload_n rfl dL_law_1202)) (ax_lf_ok (ak_aload_n rfl dL_law_1203)))) (ax_nd_ok (ax_lf_ok (ak_iload_n rfl dL_law_1204)) (ax_nd_ok (ax_lf_ok (ak_iconst (by decide) dL_law_1205)) (ax_lf_ok (ak_iadd dL_law_1206)))))) (ax_nd_ok (ax_nd_ok (ax_nd_ok (ax_lf_ok (ak_xld dL_law_1207)) (ax_lf_ok (ak_aload_n rfl dL_law_1208))) (ax_nd_ok (ax_lf_ok (ak_iload_n rfl dL_law_1209)) (ax_nd_ok (ax_lf_ok (ak_iconst (by decide) dL_law_1210)) (ax_lf_ok (ak_iadd dL_law_1211))))) (ax_nd_ok (ax_nd_ok (ax_lf_ok (ak_xld dL_law_1212)) (ax_nd_ok (ax_lf_ok (ak_aload_n rfl dL_law_1213)) (ax_lf_ok (ak_iload_n rfl dL_law_1214)))) (ax_nd_ok (ax_lf_ok (ak_iconst (by decide) dL_law_1215)) (ax_nd_ok (ax_lf_ok (ak_iadd dL_law_1216)) (ax_lf_ok (ak_xld dL_law_1217)))))))))) (ax_nd_ok (ax_nd_ok (ax_nd_ok (ax_nd_ok (ax_nd_ok (ax_nd_ok (ax_nd_ok (ax_lf_ok (ak_inva (ak_invV (by decide) (by decide) (by decide) rfl wd_895 wd_896 wd_897 wd_96 wd_898 ⟨by decide, by decide, by decide +kernel⟩ dL_law_1218))) (ax_lf_ok (ak_pop dL_law_1221))) (ax_nd_ok (ax_lf_ok (ak_aload_n rfl dL_law_1222)) (ax_nd_ok (ax_lf_ok (ak_aload_n rfl dL_law_1223)) (ax_lf_ok (ak_iload_n rfl dL_law_1224))))) (ax_nd_ok (ax_nd_ok (ax_lf_ok (ak_iconst (by decide) dL_law_1225)) (ax_lf_ok (ak_iadd dL_law_1226))) (ax_nd_ok (ax_lf_ok (ak_xld dL_law_1227)) (ax_nd_ok (ax_lf_ok (ak_aload_n rfl dL_law_1228)) (ax_lf_ok (ak_iload_n rfl dL_law_1229)))))) (ax_nd_ok (ax_nd_ok (ax_nd_ok (ax_lf_ok (ak_iconst (by decide) dL_law_1230)) (ax_lf_ok (ak_iadd dL_law_1231))) (ax_nd_ok (ax_lf_ok (ak_xld dL_law_1232)) (ax_nd_ok (ax_lf_ok (ak_aload_n rfl dL_law_1233)) (ax_lf_ok (ak_iload_n rfl dL_law_1234))))) (ax_nd_ok (ax_nd_ok (ax_lf_ok (ak_iconst (by decide) dL_law_1235)) (ax_nd_ok (ax_lf_ok (ak_iadd dL_law_1236)) (ax_lf_ok (ak_xld dL_law_1237)))) (ax_nd_ok (ax_lf_ok (ak_inva (ak_invV (by decide) (by decide) (by decide) rfl wd_1572 wd_1573 wd_1574 wd_106 wd_1575 ⟨by decide, by decide, by decide +kernel⟩ dL_law_1238))) (ax_nd_ok (ax_lf_ok (ak_pop dL_law_1241)) (ax_lf_ok (ak_goto (by decide) dL_law_1242))))))) (ax_nd_ok (ax_nd_ok (ax_nd_ok (ax_nd_ok (ax_lf_ok (ak_aload_n rfl dL_law_1245)) (ax_lf_ok (ak_aload_n rfl dL_law_1246))) (ax_nd_ok (ax_lf_ok (ak_iload_n rfl dL_law_1247)) (ax_nd_ok (ax_lf_ok (ak_iconst (by decide) dL_law_1248)) (ax_lf_ok (ak_iadd dL_law_1249))))) (ax_nd_ok (ax_nd_ok (ax_lf_ok (ak_xld dL_law_1250)) (ax_nd_ok (ax_lf_ok (ak_aload_n rfl dL_law_1251)) (ax_lf_ok (ak_iload_n rfl dL_law_1252)))) (ax_nd_ok (ax_lf_ok (ak_iconst (by decide) dL_law_1253)) (ax_nd_ok (ax_lf_ok (ak_iadd dL_law_1254)) (ax_lf_ok (ak_xld dL_law_1255)))))) (ax_nd_ok (ax_nd_ok (ax_nd_ok (ax_lf_ok (ak_aload_n rfl dL_law_1256)) (ax_lf_ok (ak_iload_n rfl dL_law_1257))) (ax_nd_ok (ax_lf_ok (ak_iconst (by decide) dL_law_1258)) (ax_nd_ok (ax_lf_ok (ak_iadd dL_law_1259)) (ax_lf_ok (ak_xld dL_law_1260))))) (ax_nd_ok (ax_nd_ok (ax_lf_ok (ak_inva (ak_invV (by decide) (by decide) (by decide) rfl wd_899 wd_900 wd_901 wd_96 wd_902 ⟨by decide, by decide, by decide +kernel⟩ dL_law_1261))) (ax_nd_ok (ax_lf_ok (ak_pop dL_law_1264)) (ax_lf_ok (ak_aload_n rfl dL_law_1265)))) (ax_nd_ok (ax_lf_ok (ak_aload_n rfl dL_law_1266)) (ax_nd_ok (ax_lf_ok (ak_iload_n rfl dL_law_1267)) (ax_lf_ok (ak_iconst (by decide) dL_law_1268)))))))) (ax_nd_ok (ax_nd_ok (ax_nd_ok (ax_nd_ok (ax_nd_ok (ax_lf_ok (ak_iadd dL_law_1269)) (ax_lf_ok (ak_xld dL_law_1270))) (ax_nd_ok (ax_lf_ok (ak_aload_n rfl dL_law_1271)) (ax_nd_ok (ax_lf_ok (ak_iload_n rfl dL_law_1272)) (ax_lf_ok (ak_iconst (by decide) dL_law_1273))))) (ax_nd_ok (ax_nd_ok (ax_lf_ok (ak_iadd dL_law_1274)) (ax_nd_ok (ax_lf_ok (ak_xld dL_law_1275)) (ax_lf_ok (ak_aload_n rfl dL_law_1276)))) (ax_nd_ok (ax_lf_ok (ak_iload_n rfl dL_law_1277)) (ax_nd_ok (ax_lf_ok (ak_iconst (by decide) dL_law_1278)) (ax_lf_ok (ak_iadd dL_law_1279)))))) (ax_nd_ok (ax_nd_ok (ax_nd_ok (ax_lf_ok (ak_xld dL_law_1280)) (ax_lf_ok (ak_inva (ak_invV (by decide) (by decide) (by decide) rfl wd_1588 wd_1589 wd_1590 wd_106 wd_1591 ⟨by decide, by decide, by decide +kernel⟩ dL_law_1281)))) (ax_nd_ok (ax_lf_ok (ak_pop dL_law_1284)) (ax_nd_ok (ax_lf_ok (ak_goto (by decide) dL_law_1285)) (ax_lf_ok (ak_aload_n rfl dL_law_1288))))) (ax_nd_ok (ax_nd_ok (ax_lf_ok (ak_aload_n rfl dL_law_1289)) (ax_nd_ok (ax_lf_ok (ak_iload_n rfl dL_law_1290)) (ax_lf_ok (ak_iconst (by decide) dL_law_1291)))) (ax_nd_ok (ax_lf_ok (ak_iadd dL_law_1292)) (ax_nd_ok (ax_lf_ok (ak_xld dL_law_1293)) (ax_lf_ok (ak_aload_n rfl dL_law_1294))))))) (ax_nd_ok (ax_nd_ok (ax_nd_ok (ax_nd_ok (ax_lf_ok (ak_iload_n rfl dL_law_1295)) (ax_lf_ok (ak_iconst (by decide) dL_law_1296))) (ax_nd_ok (ax_lf_ok (ak_iadd dL_law_1297)) (ax_nd_ok (ax_lf_ok (ak_xld dL_law_1298)) (ax_lf_ok (ak_aload_n rfl dL_law_1299))))) (ax_nd_ok (ax_nd_ok (ax_lf_ok (ak_iload_n rfl dL_law_1300)) (ax_nd_ok (ax_lf_ok (ak_iconst (by decide) dL_law_1301)) (ax_lf_ok (ak_iadd dL_law_1302)))) (ax_nd_ok (ax_lf_ok (ak_xld dL_law_1303)) (ax_nd_ok (ax_lf_ok (ak_aload_n rfl dL_law_1304)) (ax_lf_ok (ak_iload_n rfl dL_law_1305)))))) (ax_nd_ok (ax_nd_ok (ax_nd_ok (ax_lf_ok (ak_iconst (by decide) dL_law_1306)) (ax_lf_ok (ak_iadd dL_law_1307))) (ax_nd_ok (ax_lf_ok (ak_xld dL_law_1308)) (ax_nd_ok (ax_lf_ok (ak_inva (ak_invV (by decide) (by decide) (by decide) rfl wd_919 wd_920 wd_921 wd_96 wd_922 ⟨by decide, by decide, by decide +kernel⟩ dL_law_1309))) (ax_lf_ok (ak_pop dL_law_1312))))) (ax_nd_ok (ax_nd_ok (ax_lf_ok (ak_aload_n rfl dL_law_1313)) (ax_nd_ok (ax_lf_ok (ak_aload_n rfl dL_law_1314)) (ax_lf_ok (ak_iload_n rfl dL_law_1315)))) (ax_nd_ok (ax_lf_ok (ak_iconst (by decide) dL_law_1316)) (ax_nd_ok (ax_lf_ok (ak_iadd dL_law_1317)) (ax_lf_ok (ak_xld dL_law_1318))))))))) (ax_nd_ok (ax_nd_ok (ax_nd_ok (ax_nd_ok (ax_nd_ok (ax_nd_ok (ax_lf_ok (ak_aload_n rfl dL_law_1319)) (ax_lf_ok (ak_iload_n rfl dL_law_1320))) (ax_nd_ok (ax_lf_ok (ak_iconst (by decide) dL_law_1321)) (ax_nd_ok (ax_lf_ok (ak_iadd dL_law_1322)) (ax_lf_ok (ak_xld dL_law_1323))))) (ax_nd_ok (ax_nd_ok (ax_lf_ok (ak_aload_n rfl dL_law_1324)) (ax_nd_ok (ax_lf_ok (ak_iload_n rfl dL_law_1325)) (ax_lf_ok (ak_iconst (by decide) dL_law_1326)))) (ax_nd_ok (ax_lf_ok (ak_iadd dL_law_1327)) (ax_nd_ok (ax_lf_ok (ak_xld dL_law_1328)) (ax_lf_ok (ak_aload_n rfl dL_law_1329)))))) (ax_nd_ok (ax_nd_ok (ax_nd_ok (ax_lf_ok (ak_iload_n rfl dL_law_1330)) (ax_lf_ok (ak_iconst (by decide) dL_law_1331))) (ax_nd_ok (ax_lf_ok (ak_iadd dL_law_1332)) (ax_nd_ok (ax_lf_ok (ak_xld dL_law_1333)) (ax_lf_ok (ak_inva (ak_invV (by decide) (by decide) (by decide) rfl wd_1602 wd_1603 wd_1604 wd_106 wd_1605 ⟨by decide, by decide, by decide +kernel⟩ dL_law_1334)))))) (ax_nd_ok (ax_nd_ok (ax_lf_ok (ak_pop dL_law_1337)) (ax_nd_ok (ax_lf_ok (ak_goto (by decide) dL_law_1338)) (ax_lf_ok (ak_aload_n rfl dL_law_1341)))) (ax_nd_ok (ax_lf_ok (ak_aload_n rfl dL_law_1342)) (ax_nd_ok (ax_lf_ok (ak_iload_n rfl dL_law_1343)) (ax_lf_ok (ak_iconst (by decide) dL_law_1344))))))) (ax_nd_ok (ax_nd_ok (ax_nd_ok (ax_nd_ok (ax_lf_ok (ak_iadd dL_law_1345)) (ax_lf_ok (ak_xld dL_law_1346))) (ax_nd_ok (ax_lf_ok (ak_aload_n rfl dL_law_1347)) (ax_nd_ok (ax_lf_ok (ak_iload_n rfl dL_law_1348)) (ax_lf_ok (ak_iconst (by decide) dL_law_1349))))) (ax_nd_ok (ax_nd_ok (ax_lf_ok (ak_iadd dL_law_1350)) (ax_nd_ok (ax_lf_ok (ak_xld dL_law_1351)) (ax_lf_ok (ak_aload_n rfl dL_law_1352)))) (ax_nd_ok (ax_lf_ok (ak_iload_n rfl dL_law_1353)) (ax_nd_ok (ax_lf_ok (ak_iconst (by decide) dL_law_1354)) (ax_lf_ok (ak_iadd dL_law_1355)))))) (ax_nd_ok (ax_nd_ok (ax_nd_ok (ax_lf_ok (ak_xld dL_law_1356)) (ax_lf_ok (ak_inva (ak_invV (by decide) (by decide) (by decide) rfl wd_929 wd_930 wd_931 wd_96 wd_932 ⟨by decide, by decide, by decide +kernel⟩ dL_law_1357)))) (ax_nd_ok (ax_lf_ok (ak_pop dL_law_1360)) (ax_nd_ok (ax_lf_ok (ak_aload_n rfl dL_law_1361)) (ax_lf_ok (ak_aload_n rfl dL_law_1362))))) (ax_nd_ok (ax_nd_ok (ax_lf_ok (ak_iload_n rfl dL_law_1363)) (ax_nd_ok (ax_lf_ok (ak_iconst (by decide) dL_law_1364)) (ax_lf_ok (ak_iadd dL_law_1365)))) (ax_nd_ok (ax_lf_ok (ak_xld dL_law_1366)) (ax_nd_ok (ax_lf_ok (ak_aload_n rfl dL_law_1367)) (ax_lf_ok (ak_iload_n rfl dL_law_1368)))))))) (ax_nd_ok (ax_nd_ok (ax_nd_ok (ax_nd_ok (ax_nd_ok (ax_lf_ok (ak_iconst (by decide) dL_law_1369)) (ax_lf_ok (ak_iadd dL_law_1370))) (ax_nd_ok (ax_lf_ok (ak_xld dL_law_1371)) (ax_nd_ok (ax_lf_ok (ak_aload_n rfl dL_law_1372)) (ax_lf_ok (ak_iload_n rfl dL_law_1373))))) (ax_nd_ok (ax_nd_ok (ax_lf_ok (ak_iconst (by decide) dL_law_1374)) (ax_nd_ok (ax_lf_ok (ak_iadd dL_law_1375)) (ax_lf_ok (ak_xld dL_law_1376)))) (ax_nd_ok (ax_lf_ok (ak_inva (ak_invV (by decide) (by decide) (by decide) rfl wd_1614 wd_1615 wd_1616 wd_106 wd_1617 ⟨by decide, by decide, by decide +kernel⟩ dL_law_1377))) (ax_nd_ok (ax_lf_ok (ak_pop dL_law_1380)) (ax_lf_ok (ak_goto (by decide) dL_law_1381)))))) (ax_nd_ok (ax_nd_ok (ax_nd_ok (ax_lf_ok (ak_aload_n rfl dL_law_1384)) (ax_lf_ok (ak_aload_n rfl dL_law_1385))) (ax_nd_ok (ax_lf_ok (ak_iload_n rfl dL_law_1386)) (ax_nd_ok (ax_lf_ok (ak_iconst (by decide) dL_law_1387)) (ax_lf_ok (ak_iadd dL_law_1388))))) (ax_nd_ok (ax_nd_ok (ax_lf_ok (ak_xld dL_law_1389)) (ax_nd_ok (ax_lf_ok (ak_aload_n rfl dL_law_1390)) (ax_lf_ok (ak_iload_n rfl dL_law_1391)))) (ax_nd_ok (ax_lf_ok (ak_iconst (by decide) dL_law_1392)) (ax_nd_ok (ax_lf_ok (ak_iadd dL_law_1393)) (ax_lf_ok (ak_xld dL_law_1394))))))) (ax_nd_ok (ax_nd_ok (ax_nd_ok (ax_nd_ok (ax_lf_ok (ak_aload_n rfl dL_law_1395)) (ax_lf_ok (ak_iload_n rfl dL_law_1396))) (ax_nd_ok (ax_lf_ok (ak_iconst (by decide) dL_law_1397)) (ax_nd_ok (ax_lf_ok (ak_iadd dL_law_1398)) (ax_lf_ok (ak_xld dL_law_1399))))) (ax_nd_ok (ax_nd_ok (ax_lf_ok (ak_inva (ak_invV (by decide) (by decide) (by decide) rfl wd_933 wd_934 wd_935 wd_96 wd_936 ⟨by decide, by decide, by decide +kernel⟩ dL_law_1400))) (ax_nd_ok (ax_lf_ok (ak_pop dL_law_1403)) (ax_lf_ok (ak_aload_n rfl dL_law_1404)))) (ax_nd_ok (ax_lf_ok (ak_aload_n rfl dL_law_1405)) (ax_nd_ok (ax_lf_ok (ak_iload_n rfl dL_law_1406)) (ax_lf_ok (ak_iconst (by decide) dL_law_1407)))))) (ax_nd_ok (ax_nd_ok (ax_nd_ok (ax_lf_ok (ak_iadd dL_law_1408)) (ax_lf_ok (ak_xld dL_law_1409))) (ax_nd_ok (ax_lf_ok (ak_aload_n rfl dL_law_1410)) (ax_nd_ok (ax_lf_ok (ak_iload_n rfl dL_law_1411)) (ax_lf_ok (ak_iconst (by decide) dL_law_1412))))) (ax_nd_ok (ax_nd_ok (ax_lf_ok (ak_iadd dL_law_1413)) (ax_nd_ok (ax_lf_ok (ak_xld dL_law_1414)) (ax_lf_ok (ak_aload_n rfl dL_law_1415)))) (ax_nd_ok (ax_lf_ok (ak_iload_n rfl dL_law_1416)) (ax_nd_ok (ax_lf_ok (ak_iconst (by decide) dL_law_1417)) (ax_lf_ok (ak_iadd dL_law_1418))))))))))) (ax_nd_ok (ax_nd_ok (ax_nd_ok (ax_nd_ok (ax_nd_ok (ax_nd_ok (ax_nd_ok (ax_nd_ok (ax_lf_ok (ak_xld dL_law_1419)) (ax_lf_ok (ak_inva (ak_invV (by decide) (by decide) (by decide) rfl wd_1626 wd_1627 wd_1628 wd_106 wd_1629 ⟨by decide, by decide, by decide +kernel⟩ dL_law_1420)))) (ax_nd_ok (ax_lf_ok (ak_pop dL_law_1423)) (ax_nd_ok (ax_lf_ok (ak_goto (by decide) dL_law_1424)) (ax_lf_ok (ak_aload_n rfl dL_law_1427))))) (ax_nd_ok (ax_nd_ok (ax_lf_ok (ak_aload_n rfl dL_law_1428)) (ax_lf_ok (ak_iload_n rfl dL_law_1429))) (ax_nd_ok (ax_lf_ok (ak_iconst (by decide) dL_law_1430)) (ax_nd_ok (ax_lf_ok (ak_iadd dL_law_1431)) (ax_lf_ok (ak_xld dL_law_1432)))))) (ax_nd_ok (ax_nd_ok (ax_nd_ok (ax_lf_ok (ak_aload_n rfl dL_law_1433)) (ax_lf_ok (ak_iload_n rfl dL_law_1434))) (ax_nd_ok (ax_lf_ok (ak_iconst (by decide) dL_law_1435)) (ax_nd_ok (ax_lf_ok (ak_iadd dL_law_1436)) (ax_lf_ok (ak_xld dL_law_1437))))) (ax_nd_ok (ax_nd_ok (ax_lf_ok (ak_aload_n rfl dL_law_1438)) (ax_nd_ok (ax_lf_ok (ak_iload_n rfl dL_law_1439)) (ax_lf_ok (ak_iconst (by decide) dL_law_1440)))) (ax_nd_ok (ax_lf_ok (ak_iadd dL_law_1441)) (ax_nd_ok (ax_lf_ok (ak_xld dL_law_1442)) (ax_lf_ok (ak_inva (ak_invV (by decide) (by decide) (by decide) rfl wd_967 wd_968 wd_969 wd_96 wd_970 ⟨by decide, by decide, by decide +kernel⟩ dL_law_1443)))))))) (ax_nd_ok (ax_nd_ok (ax_nd_ok (ax_nd_ok (ax_lf_ok (ak_pop dL_law_1446)) (ax_lf_ok (ak_aload_n rfl dL_law_1447))) (ax_nd_ok (ax_lf_ok (ak_aload_n rfl dL_law_1448)) (ax_nd_ok (ax_lf_ok (ak_iload_n rfl dL_law_1449)) (ax_lf_ok (ak_iconst (by decide) dL_law_1450))))) (ax_nd_ok (ax_nd_ok (ax_lf_ok (ak_iadd dL_law_1451)) (ax_nd_ok (ax_lf_ok (ak_xld dL_law_1452)) (ax_lf_ok (ak_aload_n rfl dL_law_1453)))) (ax_nd_ok (ax_lf_ok (ak_iload_n rfl dL_law_1454)) (ax_nd_ok (ax_lf_ok (ak_iconst (by decide) dL_law_1455)) (ax_lf_ok (ak_iadd dL_law_1456)))))) (ax_nd_ok (ax_nd_ok (ax_nd_ok (ax_lf_ok (ak_xld dL_law_1457)) (ax_lf_ok (ak_aload_n rfl dL_law_1458))) (ax_nd_ok (ax_lf_ok (ak_iload_n rfl dL_law_1459)) (ax_nd_ok (ax_lf_ok (ak_iconst (by decide) dL_law_1460)) (ax_lf_ok (ak_iadd dL_law_1461))))) (ax_nd_ok (ax_nd_ok (ax_lf_ok (ak_xld dL_law_1462)) (ax_nd_ok (ax_lf_ok (ak_inva (ak_invV (by decide) (by decide) (by decide) rfl wd_1646 wd_1647 wd_1648 wd_106 wd_1649 ⟨by decide, by decide, by decide +kernel⟩ dL_law_1463))) (ax_lf_ok (ak_pop dL_law_1466)))) (ax_nd_ok (ax_lf_ok (ak_goto (by decide) dL_law_1467)) (ax_nd_ok (ax_lf_ok (ak_aload_n rfl dL_law_1470)) (ax_lf_ok (ak_aload_n rfl dL_law_1471)))))))) (ax_nd_ok (ax_nd_ok (ax_nd_ok (ax_nd_ok (ax_nd_ok (ax_lf_ok (ak_iload_n rfl dL_law_1472)) (ax_lf_ok (ak_iconst (by decide) dL_law_1473))) (ax_nd_ok (ax_lf_ok (ak_iadd dL_law_1474)) (ax_nd_ok (ax_lf_ok (ak_xld dL_law_1475)) (ax_lf_ok (ak_aload_n rfl dL_law_1476))))) (ax_nd_ok (ax_nd_ok (ax_lf_ok (ak_iload_n rfl dL_law_1477)) (ax_nd_ok (ax_lf_ok (ak_iconst (by decide) dL_law_1478)) (ax_lf_ok (ak_iadd dL_law_1479)))) (ax_nd_ok (ax_lf_ok (ak_xld dL_law_1480)) (ax_nd_ok (ax_lf_ok (ak_aload_n rfl dL_law_1481)) (ax_lf_ok (ak_iload_n rfl dL_law_1482)))))) (ax_nd_ok (ax_nd_ok (ax_nd_ok (ax_lf_ok (ak_iconst (by decide) dL_law_1483)) (ax_lf_ok (ak_iadd dL_law_1484))) (ax_nd_ok (ax_lf_ok (ak_xld dL_law_1485)) (ax_nd_ok (ax_lf_ok (ak_aload_n rfl dL_law_1486)) (ax_lf_ok (ak_iload_n rfl dL_law_1487))))) (ax_nd_ok (ax_nd_ok (ax_lf_ok (ak_iconst (by decide) dL_law_1488)) (ax_nd_ok (ax_lf_ok (ak_iadd dL_law_1489)) (ax_lf_ok (ak_xld dL_law_1490)))) (ax_nd_ok (ax_lf_ok (ak_if_eq (by decide) dL_law_1491)) (ax_nd_ok (ax_lf_ok (ak_iconst (by decide) dL_law_1494)) (ax_lf_ok (ak_goto (by decide) dL_law_1495))))))) (ax_nd_ok (ax_nd_ok (ax_nd_ok (ax_nd_ok (ax_lf_ok (ak_iconst (by decide) dL_law_1498)) (ax_lf_ok (ak_inva (ak_invV (by decide) (by decide) (by decide) rfl wd_971 wd_972 wd_973 wd_96 wd_974 ⟨by decide, by decide, by decide +kernel⟩ dL_law_1499)))) (ax_nd_ok (ax_lf_ok (ak_pop2 dL_law_1502)) (ax_nd_ok (ax_lf_ok (ak_aload_n rfl dL_law_1503)) (ax_lf_ok (ak_aload_n rfl dL_law_1504))))) (ax_nd_ok (ax_nd_ok (ax_lf_ok (ak_iload_n rfl dL_law_1505)) (ax_nd_ok (ax_lf_ok (ak_iconst (by decide) dL_law_1506)) (ax_lf_ok (ak_iadd dL_law_1507)))) (ax_nd_ok (ax_lf_ok (ak_xld dL_law_1508)) (ax_nd_ok (ax_lf_ok (ak_aload_n rfl dL_law_1509)) (ax_lf_ok (ak_iload_n rfl dL_law_1510)))))) (ax_nd_ok (ax_nd_ok (ax_nd_ok (ax_lf_ok (ak_iconst (by decide) dL_law_1511)) (ax_lf_ok (ak_iadd dL_law_1512))) (ax_nd_ok (ax_lf_ok (ak_xld dL_law_1513)) (ax_nd_ok (ax_lf_ok (ak_aload_n rfl dL_law_1514)) (ax_lf_ok (ak_iload_n rfl dL_law_1515))))) (ax_nd_ok (ax_nd_ok (ax_lf_ok (ak_iconst (by decide) dL_law_1516)) (ax_nd_ok (ax_lf_ok (ak_iadd dL_law_1517)) (ax_lf_ok (ak_xld dL_law_1518)))) (ax_nd_ok (ax_lf_ok (ak_aload_n rfl dL_law_1519)) (ax_nd_ok (ax_lf_ok (ak_iload_n rfl dL_law_1520)) (ax_lf_ok (ak_iconst (by decide) dL_law_1521))))))))) (ax_nd_ok (ax_nd_ok (ax_nd_ok (ax_nd_ok (ax_nd_ok (ax_nd_ok (ax_lf_ok (ak_iadd dL_law_1522)) (ax_lf_ok (ak_xld dL_law_1523))) (ax_nd_ok (ax_lf_ok (ak_if_eq (by decide) dL_law_1524)) (ax_nd_ok (ax_lf_ok (ak_iconst (by decide) dL_law_1527)) (ax_lf_ok (ak_goto (by decide) dL_law_1528))))) (ax_nd_ok (ax_nd_ok (ax_lf_ok (ak_iconst (by decide) dL_law_1531)) (ax_nd_ok (ax_lf_ok (ak_inva (ak_invV (by decide) (by decide) (by decide) rfl wd_1654 wd_1655 wd_1656 wd_106 wd_1657 ⟨by decide, by decide, by decide +kernel⟩ dL_law_1532))) (ax_lf_ok (ak_pop2 dL_law_1535)))) (ax_nd_ok (ax_lf_ok (ak_goto (by decide) dL_law_1536)) (ax_nd_ok (ax_lf_ok (ak_aload_n rfl dL_law_1539)) (ax_lf_ok (ak_aload_n rfl dL_law_1540)))))) (ax_nd_ok (ax_nd_ok (ax_nd_ok (ax_lf_ok (ak_iload_n rfl dL_law_1541)) (ax_lf_ok (ak_iconst (by decide) dL_law_1542))) (ax_nd_ok (ax_lf_ok (ak_iadd dL_law_1543)) (ax_nd_ok (ax_lf_ok (ak_xld dL_law_1544)) (ax_lf_ok (ak_aload_n rfl dL_law_1545))))) (ax_nd_ok (ax_nd_ok (ax_lf_ok (ak_iload_n rfl dL_law_1546)) (ax_nd_ok (ax_lf_ok (ak_iconst (by decide) dL_law_1547)) (ax_lf_ok (ak_iadd dL_law_1548)))) (ax_nd_ok (ax_lf_ok (ak_xld dL_law_1549)) (ax_nd_ok (ax_lf_ok (ak_aload_n rfl dL_law_1550)) (ax_lf_ok (ak_iload_n rfl dL_law_1551))))))) (ax_nd_ok (ax_nd_ok (ax_nd_ok (ax_nd_ok (ax_lf_ok (ak_iconst (by decide) dL_law_1552)) (ax_lf_ok (ak_iadd dL_law_1553))) (ax_nd_ok (ax_lf_ok (ak_xld dL_law_1554)) (ax_nd_ok (ax_lf_ok (ak_aload_n rfl dL_law_1555)) (ax_lf_ok (ak_iload_n rfl dL_law_1556))))) (ax_nd_ok (ax_nd_ok (ax_lf_ok (ak_iconst (by decide) dL_law_1557)) (ax_nd_ok (ax_lf_ok (ak_iadd dL_law_1558)) (ax_lf_ok (ak_xld dL_law_1559)))) (ax_nd_ok (ax_lf_ok (ak_if_eq (by decide) dL_law_1560)) (ax_nd_ok (ax_lf_ok (ak_iconst (by decide) dL_law_1563)) (ax_lf_ok (ak_goto (by decide) dL_law_1564)))))) (ax_nd_ok (ax_nd_ok (ax_nd_ok (ax_lf_ok (ak_iconst (by decide) dL_law_1567)) (ax_lf_ok (ak_inva (ak_invV (by decide) (by decide) (by decide) rfl wd_1004 wd_1005 wd_1006 wd_96 wd_1007 ⟨by decide, by decide, by decide +kernel⟩ dL_law_1568)))) (ax_nd_ok (ax_lf_ok (ak_pop2 dL_law_1571)) (ax_nd_ok (ax_lf_ok (ak_aload_n rfl dL_law_1572)) (ax_lf_ok (ak_aload_n rfl dL_law_1573))))) (ax_nd_ok (ax_nd_ok (ax_lf_ok (ak_iload_n rfl dL_law_1574)) (ax_nd_ok (ax_lf_ok (ak_iconst (by decide) dL_law_1575)) (ax_lf_ok (ak_iadd dL_law_1576)))) (ax_nd_ok (ax_lf_ok (ak_xld dL_law_1577)) (ax_nd_ok (ax_lf_ok (ak_aload_n rfl dL_law_1578)) (ax_lf_ok (ak_iload_n rfl dL_law_1579)))))))) (ax_nd_ok (ax_nd_ok (ax_nd_ok (ax_nd_ok (ax_nd_ok (ax_lf_ok (ak_iconst (by decide) dL_law_1580)) (ax_lf_ok (ak_iadd dL_law_1581))) (ax_nd_ok (ax_lf_ok (ak_xld dL_law_1582)) (ax_nd_ok (ax_lf_ok (ak_aload_n rfl dL_law_1583)) (ax_lf_ok (ak_iload_n rfl dL_law_1584))))) (ax_nd_ok (ax_nd_ok (ax_lf_ok (ak_iconst (by decide) dL_law_1585)) (ax_nd_ok (ax_lf_ok (ak_iadd dL_law_1586)) (ax_lf_ok (ak_xld dL_law_1587)))) (ax_nd_ok (ax_lf_ok (ak_aload_n rfl dL_law_1588)) (ax_nd_ok (ax_lf_ok (ak_iload_n rfl dL_law_1589)) (ax_lf_ok (ak_iconst (by decide) dL_law_1590)))))) (ax_nd_ok (ax_nd_ok (ax_nd_ok (ax_lf_ok (ak_iadd dL_law_1591)) (ax_lf_ok (ak_xld dL_law_1592))) (ax_nd_ok (ax_lf_ok (ak_if_eq (by decide) dL_law_1593)) (ax_nd_ok (ax_lf_ok (ak_iconst (by decide) dL_law_1596)) (ax_lf_ok (ak_goto (by decide) dL_law_1597))))) (ax_nd_ok (ax_nd_ok (ax_lf_ok (ak_iconst (by decide) dL_law_1600)) (ax_nd_ok (ax_lf_ok (ak_inva (ak_invV (by decide) (by decide) (by decide) rfl wd_1671 wd_1672 wd_1673 wd_106 wd_1674 ⟨by decide, by decide, by decide +kernel⟩ dL_law_1601))) (ax_lf_ok (ak_pop2 dL_law_1604)))) (ax_nd_ok (ax_lf_ok (ak_goto (by decide) dL_law_1605)) (ax_nd_ok (ax_lf_ok (ak_aload_n rfl dL_law_1608)) (ax_lf_ok (ak_aload_n rfl dL_law_1609))))))) (ax_nd_ok (ax_nd_ok (ax_nd_ok (ax_nd_ok (ax_lf_ok (ak_iload_n rfl dL_law_1610)) (ax_lf_ok (ak_iconst (by decide) dL_law_1611))) (ax_nd_ok (ax_lf_ok (ak_iadd dL_law_1612)) (ax_nd_ok (ax_lf_ok (ak_xld dL_law_1613)) (ax_lf_ok (ak_aload_n rfl dL_law_1614))))) (ax_nd_ok (ax_nd_ok (ax_lf_ok (ak_iload_n rfl dL_law_1615)) (ax_nd_ok (ax_lf_ok (ak_iconst (by decide) dL_law_1616)) (ax_lf_ok (ak_iadd dL_law_1617)))) (ax_nd_ok (ax_lf_ok (ak_xld dL_law_1618)) (ax_nd_ok (ax_lf_ok (ak_inva (ak_invV (by decide) (by decide) (by decide) rfl wd_1008 wd_1009 wd_1010 wd_96 wd_1011 ⟨by decide, by decide, by decide +kernel⟩ dL_law_1619))) (ax_lf_ok (ak_pop dL_law_1622)))))) (ax_nd_ok (ax_nd_ok (ax_nd_ok (ax_lf_ok (ak_aload_n rfl dL_law_1623)) (ax_lf_ok (ak_aload_n rfl dL_law_1624))) (ax_nd_ok (ax_lf_ok (ak_iload_n rfl dL_law_1625)) (ax_nd_ok (ax_lf_ok (ak_iconst (by decide) dL_law_1626)) (ax_lf_ok (ak_iadd dL_law_1627))))) (ax_nd_ok (ax_nd_ok (ax_lf_ok (ak_xld dL_law_1628)) (ax_nd_ok (ax_lf_ok (ak_aload_n rfl dL_law_1629)) (ax_lf_ok (ak_iload_n rfl dL_law_1630)))) (ax_nd_ok (ax_lf_ok (ak_iconst (by decide) dL_law_1631)) (ax_nd_ok (ax_lf_ok (ak_iadd dL_law_1632)) (ax_lf_ok (ak_xld dL_law_1633)))))))))) (ax_nd_ok (ax_nd_ok (ax_nd_ok (ax_nd_ok (ax_nd_ok (ax_nd_ok (ax_nd_ok (ax_lf_ok (ak_inva (ak_invV (by decide) (by decide) (by decide) rfl wd_1675 wd_1676 wd_1677 wd_106 wd_1678 ⟨by decide, by decide, by decide +kernel⟩ dL_law_1634))) (ax_lf_ok (ak_pop dL_law_1637))) (ax_nd_ok (ax_lf_ok (ak_goto (by decide) dL_law_1638)) (ax_nd_ok (ax_lf_ok (ak_aload_n rfl dL_law_1641)) (ax_lf_ok (ak_aload_n rfl dL_law_1642))))) (ax_nd_ok (ax_nd_ok (ax_lf_ok (ak_iload_n rfl dL_law_1643)) (ax_lf_ok (ak_iconst (by decide) dL_law_1644))) (ax_nd_ok (ax_lf_ok (ak_iadd dL_law_1645)) (ax_nd_ok (ax_lf_ok (ak_xld dL_law_1646)) (ax_lf_ok (ak_aload_n rfl dL_law_1647)))))) (ax_nd_ok (ax_nd_ok (ax_nd_ok (ax_lf_ok (ak_iload_n rfl dL_law_1648)) (ax_lf_ok (ak_iconst (by decide) dL_law_1649))) (ax_nd_ok (ax_lf_ok (ak_iadd dL_law_1650)) (ax_nd_ok (ax_lf_ok (ak_xld dL_law_1651)) (ax_lf_ok (ak_aload_n rfl dL_law_1652))))) (ax_nd_ok (ax_nd_ok (ax_lf_ok (ak_iload_n rfl dL_law_1653)) (ax_nd_ok (ax_lf_ok (ak_iconst (by decide) dL_law_1654)) (ax_lf_ok (ak_iadd dL_law_1655)))) (ax_nd_ok (ax_lf_ok (ak_xld dL_law_1656)) (ax_nd_ok (ax_lf_ok (ak_if_eq (by decide) dL_law_1657)) (ax_lf_ok (ak_iconst (by decide) dL_law_1660))))))) (ax_nd_ok (ax_nd_ok (ax_nd_ok (ax_nd_ok (ax_lf_ok (ak_goto (by decide) dL_law_1661)) (ax_lf_ok (ak_iconst (by decide) dL_law_1664))) (ax_nd_ok (ax_lf_ok (ak_inva (ak_invV (by decide) (by decide) (by decide) rfl wd_1017 wd_1018 wd_1019 wd_96 wd_1020 ⟨by decide, by decide, by decide +kernel⟩ dL_law_1665))) (ax_nd_ok (ax_lf_ok (ak_pop dL_law_1668)) (ax_lf_ok (ak_aload_n rfl dL_law_1669))))) (ax_nd_ok (ax_nd_ok (ax_lf_ok (ak_aload_n rfl dL_law_1670)) (ax_nd_ok (ax_lf_ok (ak_iload_n rfl dL_law_1671)) (ax_lf_ok (ak_iconst (by decide) dL_law_1672)))) (ax_nd_ok (ax_lf_ok (ak_iadd dL_law_1673)) (ax_nd_ok (ax_lf_ok (ak_xld dL_law_1674)) (ax_lf_ok (ak_aload_n rfl dL_law_1675)))))) (ax_nd_ok (ax_nd_ok (ax_nd_ok (ax_lf_ok (ak_iload_n rfl dL_law_1676)) (ax_lf_ok (ak_iconst (by decide) dL_law_1677))) (ax_nd_ok (ax_lf_ok (ak_iadd dL_law_1678)) (ax_nd_ok (ax_lf_ok (ak_xld dL_law_1679)) (ax_lf_ok (ak_aload_n rfl dL_law_1680))))) (ax_nd_ok (ax_nd_ok (ax_lf_ok (ak_iload_n rfl dL_law_1681)) (ax_nd_ok (ax_lf_ok (ak_iconst (by decide) dL_law_1682)) (ax_lf_ok (ak_iadd dL_law_1683)))) (ax_nd_ok (ax_lf_ok (ak_xld dL_law_1684)) (ax_nd_ok (ax_lf_ok (ak_if_eq (by decide) dL_law_1685)) (ax_lf_ok (ak_iconst (by decide) dL_law_1688)))))))) (ax_nd_ok (ax_nd_ok (ax_nd_ok (ax_nd_ok (ax_nd_ok (ax_lf_ok (ak_goto (by decide) dL_law_1689)) (ax_lf_ok (ak_iconst (by decide) dL_law_1692))) (ax_nd_ok (ax_lf_ok (ak_inva (ak_invV (by decide) (by decide) (by decide) rfl wd_1683 wd_1684 wd_1685 wd_106 wd_1686 ⟨by decide, by decide, by decide +kernel⟩ dL_law_1693))) (ax_nd_ok (ax_lf_ok (ak_pop dL_law_1696)) (ax_lf_ok (ak_goto (by decide) dL_law_1697))))) (ax_nd_ok (ax_nd_ok (ax_lf_ok (ak_aload_n rfl dL_law_1700)) (ax_nd_ok (ax_lf_ok (ak_aload_n rfl dL_law_1701)) (ax_lf_ok (ak_iload_n rfl dL_law_1702)))) (ax_nd_ok (ax_lf_ok (ak_iconst (by decide) dL_law_1703)) (ax_nd_ok (ax_lf_ok (ak_iadd dL_law_1704)) (ax_lf_ok (ak_xld dL_law_1705)))))) (ax_nd_ok (ax_nd_ok (ax_nd_ok (ax_lf_ok (ak_aload_n rfl dL_law_1706)) (ax_lf_ok (ak_iload_n rfl dL_law_1707))) (ax_nd_ok (ax_lf_ok (ak_iconst (by decide) dL_law_1708)) (ax_nd_ok (ax_lf_ok (ak_iadd dL_law_1709)) (ax_lf_ok (ak_xld dL_law_1710))))) (ax_nd_ok (ax_nd_ok (ax_lf_ok (ak_inva (ak_invV (by decide) (by decide) (by decide) rfl wd_1021 wd_1022 wd_1023 wd_96 wd_1024 ⟨by decide, by decide, by decide +kernel⟩ dL_law_1711))) (ax_nd_ok (ax_lf_ok (ak_pop dL_law_1714)) (ax_lf_ok (ak_aload_n rfl dL_law_1715)))) (ax_nd_ok (ax_lf_ok (ak_aload_n rfl dL_law_1716)) (ax_nd_ok (ax_lf_ok (ak_iload_n rfl dL_law_1717)) (ax_lf_ok (ak_iconst (by decide) dL_law_1718))))))) (ax_nd_ok (ax_nd_ok (ax_nd_ok (ax_nd_ok (ax_lf_ok (ak_iadd dL_law_1719)) (ax_lf_ok (ak_xld dL_law_1720))) (ax_nd_ok (ax_lf_ok (ak_aload_n rfl dL_law_1721)) (ax_nd_ok (ax_lf_ok (ak_iload_n rfl dL_law_1722)) (ax_lf_ok (ak_iconst (by decide) dL_law_1723))))) (ax_nd_ok (ax_nd_ok (ax_lf_ok (ak_iadd dL_law_1724)) (ax_nd_ok (ax_lf_ok (ak_xld dL_law_1725)) (ax_lf_ok (ak_inva (ak_invV (by decide) (by decide) (by decide) rfl wd_1687 wd_1688 wd_1689 wd_106 wd_1690 ⟨by decide, by decide, by decide +kernel⟩ dL_law_1726))))) (ax_nd_ok (ax_lf_ok (ak_pop dL_law_1729)) (ax_nd_ok (ax_lf_ok (ak_goto (by decide) dL_law_1730)) (ax_lf_ok (ak_aload_n rfl dL_law_1733)))))) (ax_nd_ok (ax_nd_ok (ax_nd_ok (ax_lf_ok (ak_aload_n rfl dL_law_1734)) (ax_lf_ok (ak_iload_n rfl dL_law_1735))) (ax_nd_ok (ax_lf_ok (ak_iconst (by decide) dL_law_1736)) (ax_nd_ok (ax_lf_ok (ak_iadd dL_law_1737)) (ax_lf_ok (ak_xld dL_law_1738))))) (ax_nd_ok (ax_nd_ok (ax_lf_ok (ak_aload_n rfl dL_law_1739)) (ax_nd_ok (ax_lf_ok (ak_iload_n rfl dL_law_1740)) (ax_lf_ok (ak_iconst (by decide) dL_law_1741)))) (ax_nd_ok (ax_lf_ok (ak_iadd dL_law_1742)) (ax_nd_ok (ax_lf_ok (ak_xld dL_law_1743)) (ax_lf_ok (ak_aload_n rfl dL_law_1744))))))))) (ax_nd_ok (ax_nd_ok (ax_nd_ok (ax_nd_ok (ax_nd_ok (ax_nd_ok (ax_lf_ok (ak_iload_n rfl dL_law_1745)) (ax_lf_ok (ak_iconst (by decide) dL_law_1746))) (ax_nd_ok (ax_lf_ok (ak_iadd dL_law_1747)) (ax_nd_ok (ax_lf_ok (ak_xld dL_law_1748)) (ax_lf_ok (ak_if_eq (by decide) dL_law_1749))))) (ax_nd_ok (ax_nd_ok (ax_lf_ok (ak_iconst (by decide) dL_law_1752)) (ax_nd_ok (ax_lf_ok (ak_goto (by decide) dL_law_1753)) (ax_lf_ok (ak_iconst (by decide) dL_law_1756)))) (ax_nd_ok (ax_lf_ok (ak_inva (ak_invV (by decide) (by decide) (by decide) rfl wd_1025 wd_1026 wd_1027 wd_96 wd_1028 ⟨by decide, by decide, by decide +kernel⟩ dL_law_1757))) (ax_nd_ok (ax_lf_ok (ak_pop dL_law_1760)) (ax_lf_ok (ak_aload_n rfl dL_law_1761)))))) (ax_nd_ok (ax_nd_ok (ax_nd_ok (ax_lf_ok (ak_aload_n rfl dL_law_1762)) (ax_lf_ok (ak_iload_n rfl dL_law_1763))) (ax_nd_ok (ax_lf_ok (ak_iconst (by decide) dL_law_1764)) (ax_nd_ok (ax_lf_ok (ak_iadd dL_law_1765)) (ax_lf_ok (ak_xld dL_law_1766))))) (ax_nd_ok (ax_nd_ok (ax_lf_ok (ak_aload_n rfl dL_law_1767)) (ax_nd_ok (ax_lf_ok (ak_iload_n rfl dL_law_1768)) (ax_lf_ok (ak_iconst (by decide) dL_law_1769)))) (ax_nd_ok (ax_lf_ok (ak_iadd dL_law_1770)) (ax_nd_ok (ax_lf_ok (ak_xld dL_law_1771)) (ax_lf_ok (ak_aload_n rfl dL_law_1772))))))) (ax_nd_ok (ax_nd_ok (ax_nd_ok (ax_nd_ok (ax_lf_ok (ak_iload_n rfl dL_law_1773)) (ax_lf_ok (ak_iconst (by decide) dL_law_1774))) (ax_nd_ok (ax_lf_ok (ak_iadd dL_law_1775)) (ax_nd_ok (ax_lf_ok (ak_xld dL_law_1776)) (ax_lf_ok (ak_if_eq (by decide) dL_law_1777))))) (ax_nd_ok (ax_nd_ok (ax_lf_ok (ak_iconst (by decide) dL_law_1780)) (ax_nd_ok (ax_lf_ok (ak_goto (by decide) dL_law_1781)) (ax_lf_ok (ak_iconst (by decide) dL_law_1784)))) (ax_nd_ok (ax_lf_ok (ak_inva (ak_invV (by decide) (by decide) (by decide) rfl wd_1691 wd_1692 wd_1693 wd_106 wd_1694 ⟨by decide, by decide, by decide +kernel⟩ dL_law_1785))) (ax_nd_ok (ax_lf_ok (ak_pop dL_law_1788)) (ax_lf_ok (ak_goto (by decide) dL_law_1789)))))) (ax_nd_ok (ax_nd_ok (ax_nd_ok (ax_lf_ok (ak_aload_n rfl dL_law_1792)) (ax_lf_ok (ak_aload_n rfl dL_law_1793))) (ax_nd_ok (ax_lf_ok (ak_iload_n rfl dL_law_1794)) (ax_nd_ok (ax_lf_ok (ak_iconst (by decide) dL_law_1795)) (ax_lf_ok (ak_iadd dL_law_1796))))) (ax_nd_ok (ax_nd_ok (ax_lf_ok (ak_xld dL_law_1797)) (ax_nd_ok (ax_lf_ok (ak_inva (ak_invV (by decide) (by decide) (by decide) rfl wd_1030 wd_1031 wd_1032 wd_96 wd_1033 ⟨by decide, by decide, by decide +kernel⟩ dL_law_1798))) (ax_lf_ok (ak_pop dL_law_1801)))) (ax_nd_ok (ax_lf_ok (ak_aload_n rfl dL_law_1802)) (ax_nd_ok (ax_lf_ok (ak_aload_n rfl dL_law_1803)) (ax_lf_ok (ak_iload_n rfl dL_law_1804)))))))) (ax_nd_ok (ax_nd_ok (ax_nd_ok (ax_nd_ok (ax_nd_ok (ax_lf_ok (ak_iconst (by decide) dL_law_1805)) (ax_lf_ok (ak_iadd dL_law_1806))) (ax_nd_ok (ax_lf_ok (ak_xld dL_law_1807)) (ax_nd_ok (ax_lf_ok (ak_inva (ak_invV (by decide) (by decide) (by decide) rfl wd_1695 wd_1696 wd_1697 wd_106 wd_1698 ⟨by decide, by decide, by decide +kernel⟩ dL_law_1808))) (ax_lf_ok (ak_pop dL_law_1811))))) (ax_nd_ok (ax_nd_ok (ax_lf_ok (ak_goto (by decide) dL_law_1812)) (ax_nd_ok (ax_lf_ok (ak_aload_n rfl dL_law_1815)) (ax_lf_ok (ak_aload_n rfl dL_law_1816)))) (ax_nd_ok (ax_lf_ok (ak_iload_n rfl dL_law_1817)) (ax_nd_ok (ax_lf_ok (ak_iconst (by decide) dL_law_1818)) (ax_lf_ok (ak_iadd dL_law_1819)))))) (ax_nd_ok (ax_nd_ok (ax_nd_ok (ax_lf_ok (ak_xld dL_law_1820)) (ax_lf_ok (ak_inva (ak_invV (by decide) (by decide) (by decide) rfl wd_1034 wd_1035 wd_1036 wd_96 wd_1037 ⟨by decide, by decide, by decide +kernel⟩ dL_law_1821)))) (ax_nd_ok (ax_lf_ok (ak_pop dL_law_1824)) (ax_nd_ok (ax_lf_ok (ak_aload_n rfl dL_law_1825)) (ax_lf_ok (ak_aload_n rfl dL_law_1826))))) (ax_nd_ok (ax_nd_ok (ax_lf_ok (ak_iload_n rfl dL_law_1827)) (ax_nd_ok (ax_lf_ok (ak_iconst (by decide) dL_law_1828)) (ax_lf_ok (ak_iadd dL_law_1829)))) (ax_nd_ok (ax_lf_ok (ak_xld dL_law_1830)) (ax_nd_ok (ax_lf_ok (ak_inva (ak_invV (by decide) (by decide) (by decide) rfl wd_1699 wd_1700 wd_1701 wd_106 wd_1702 ⟨by decide, by decide, by decide +kernel⟩ dL_law_1831))) (ax_lf_ok (ak_pop dL_law_1834))))))) (ax_nd_ok (ax_nd_ok (ax_nd_ok (ax_nd_ok (ax_lf_ok (ak_goto (by decide) dL_law_1835)) (ax_lf_ok (ak_aload_n rfl dL_law_1838))) (ax_nd_ok (ax_lf_ok (ak_aload_n rfl dL_law_1839)) (ax_nd_ok (ax_lf_ok (ak_iload_n rfl dL_law_1840)) (ax_lf_ok (ak_iconst (by decide) dL_law_1841))))) (ax_nd_ok (ax_nd_ok (ax_lf_ok (ak_iadd dL_law_1842)) (ax_nd_ok (ax_lf_ok (ak_xld dL_law_1843)) (ax_lf_ok (ak_inva (ak_invV (by decide) (by decide) (by decide) rfl wd_1043 wd_1044 wd_1045 wd_96 wd_1046 ⟨by decide, by decide, by decide +kernel⟩ dL_law_1844))))) (ax_nd_ok (ax_lf_ok (ak_pop dL_law_1847)) (ax_nd_ok (ax_lf_ok (ak_aload_n rfl dL_law_1848)) (ax_lf_ok (ak_aload_n rfl dL_law_1849)))))) (ax_nd_ok (ax_nd_ok (ax_nd_ok (ax_lf_ok (ak_iload_n rfl dL_law_1850)) (ax_lf_ok (ak_iconst (by decide) dL_law_1851))) (ax_nd_ok (ax_lf_ok (ak_iadd dL_law_1852)) (ax_nd_ok (ax_lf_ok (ak_xld dL_law_1853)) (ax_lf_ok (ak_inva (ak_invV (by decide) (by decide) (by decide) rfl wd_1710 wd_1711 wd_1712 wd_106 wd_1713 ⟨by decide, by decide, by decide +kernel⟩ dL_law_1854)))))) (ax_nd_ok (ax_nd_ok (ax_lf_ok (ak_pop dL_law_1857)) (ax_nd_ok (ax_lf_ok (ak_goto (by decide) dL_law_1858)) (ax_lf_ok (ak_iinc (by decide) (by decide) dL_law_1861)))) (ax_nd_ok (ax_lf_ok (ak_goto (by decide) dL_law_1864)) (ax_nd_ok (ax_lf_ok (ak_iconst (by decide) dL_law_1867)) (ax_lf_ok (ak_zreta (ak_zret rfl dL_law_1868)))))))))))))
abbrev mL_law (g : ax_G) (as : List Value) (h : ax_H) (Ret : Option Value → ax_H → Prop) : Prop := ax_M g 2048 600000 7302250 yL_law cL_law 4 (some .boolean) as h Ret
end
