theorem dL_undo_6 : decode cL_undo 6 = .ok (.i2l, 1) := by decide +kernel
theorem dL_undo_7 : decode cL_undo 7 = .ok (.lastore, 1) := by decide +kernel
theorem dL_undo_8 : decode cL_undo 8 = .ok (.goto 6, 3) := by decide +kernel
theorem dL_undo_11 : decode cL_undo 11 = .ok (.astore_n 2, 1) := by decide +kernel
theorem dL_undo_12 : decode cL_undo 12 = .ok (.iconst 1, 1) := by decide +kernel
theorem dL_undo_13 : decode cL_undo 13 = .ok (.ireturn, 1) := by decide +kernel
theorem dL_undo_14 : decode cL_undo 14 = .ok (.iconst 0, 1) := by decide +kernel
theorem dL_undo_15 : decode cL_undo 15 = .ok (.ireturn, 1) := by decide +kernel
theorem dL_law_0 : decode cL_law 0 = .ok (.new 8, 3) := by decide +kernel
theorem dL_law_3 : decode cL_law 3 = .ok (.dup, 1) := by decide +kernel
theorem dL_law_4 : decode cL_law 4 = .ok (.invokespecial 103, 3) := by decide +kernel
theorem dL_law_7 : decode cL_law 7 = .ok (.astore_n 1, 1) := by decide +kernel
theorem dL_law_8 : decode cL_law 8 = .ok (.new 104, 3) := by decide +kernel
theorem dL_law_11 : decode cL_law 11 = .ok (.dup, 1) := by decide +kernel
theorem dL_law_12 : decode cL_law 12 = .ok (.invokespecial 106, 3) := by decide +kernel
theorem dL_law_15 : decode cL_law 15 = .ok (.astore_n 2, 1) := by decide +kernel
theorem dL_law_16 : decode cL_law 16 = .ok (.iconst 1, 1) := by decide +kernel
theorem dL_law_17 : decode cL_law 17 = .ok (.newarray .long, 2) := by decide +kernel
theorem dL_law_19 : decode cL_law 19 = .ok (.astore_n 3, 1) := by decide +kernel
theorem dL_law_20 : decode cL_law 20 = .ok (.iconst 0, 1) := by decide +kernel
theorem dL_law_21 : decode cL_law 21 = .ok (.istore 4, 2) := by decide +kernel
theorem dL_law_23 : decode cL_law 23 = .ok (.iload 4, 2) := by decide +kernel
theorem dL_law_25 : decode cL_law 25 = .ok (.aload_n 0, 1) := by decide +kernel
theorem dL_law_26 : decode cL_law 26 = .ok (.arraylength, 1) := by decide +kernel
theorem dL_law_27 : decode cL_law 27 = .ok (.iconst 4, 1) := by decide +kernel
theorem dL_law_28 : decode cL_law 28 = .ok (.isub, 1) := by decide +kernel
theorem dL_law_29 : decode cL_law 29 = .ok (.if_icmp .gt 1923, 3) := by decide +kernel
theorem dL_law_32 : decode cL_law 32 = .ok (.aload_n 0, 1) := by decide +kernel
theorem dL_law_33 : decode cL_law 33 = .ok (.iload 4, 2) := by decide +kernel
theorem dL_law_35 : decode cL_law 35 = .ok (.iaload, 1) := by decide +kernel
theorem dL_law_36 : decode cL_law 36 = .ok (.bipush 31, 2) := by decide +kernel
theorem dL_law_38 : decode cL_law 38 = .ok (.iand, 1) := by decide +kernel
theorem dL_law_39 : decode cL_law 39 = .ok (.tableswitch 1907 0 29 #[133, 177, 257, 337, 350, 363, 431, 499, 555, 611, 679, 735, 791, 847, 915, 971, 1027, 1095, 1151, 1207, 1263, 1359, 1415, 1478, 1558, 1633, 1713, 1793, 1849, 1893], 133) := by decide +kernel
theorem dL_law_172 : decode cL_law 172 = .ok (.aload_n 1, 1) := by decide +kernel
theorem dL_law_173 : decode cL_law 173 = .ok (.aload_n 3, 1) := by decide +kernel
theorem dL_law_174 : decode cL_law 174 = .ok (.invokestatic 107, 3) := by decide +kernel
theorem dL_law_177 : decode cL_law 177 = .ok (.istore 5, 2) := by decide +kernel
theorem dL_law_179 : decode cL_law 179 = .ok (.aload_n 2, 1) := by decide +kernel
theorem dL_law_180 : decode cL_law 180 = .ok (.invokevirtual 112, 3) := by decide +kernel
theorem dL_law_183 : decode cL_law 183 = .ok (.istore 6, 2) := by decide +kernel
theorem dL_law_185 : decode cL_law 185 = .ok (.aload_n 2, 1) := by decide +kernel
theorem dL_law_186 : decode cL_law 186 = .ok (.invokevirtual 113, 3) := by decide +kernel
theorem dL_law_189 : decode cL_law 189 = .ok (.iload 5, 2) := by decide +kernel
theorem dL_law_191 : decode cL_law 191 = .ok (.if_icmp .eq 5, 3) := by decide +kernel
theorem dL_law_194 : decode cL_law 194 = .ok (.iconst 0, 1) := by decide +kernel
theorem dL_law_195 : decode cL_law 195 = .ok (.ireturn, 1) := by decide +kernel
theorem dL_law_196 : decode cL_law 196 = .ok (.iload 5, 2) := by decide +kernel
theorem dL_law_198 : decode cL_law 198 = .ok (.ifCond .ne 15, 3) := by decide +kernel
theorem dL_law_201 : decode cL_law 201 = .ok (.aload_n 3, 1) := by decide +kernel
theorem dL_law_202 : decode cL_law 202 = .ok (.iconst 0, 1) := by decide +kernel
theorem dL_law_203 : decode cL_law 203 = .ok (.laload, 1) := by decide +kernel
theorem dL_law_204 : decode cL_law 204 = .ok (.iload 6, 2) := by decide +kernel
theorem dL_law_206 : decode cL_law 206 = .ok (.i2l, 1) := by decide +kernel
theorem dL_law_207 : decode cL_law 207 = .ok (.lcmp, 1) := by decide +kernel
theorem dL_law_208 : decode cL_law 208 = .ok (.ifCond .eq 5, 3) := by decide +kernel
theorem dL_law_211 : decode cL_law 211 = .ok (.iconst 0, 1) := by decide +kernel
theorem dL_law_212 : decode cL_law 212 = .ok (.ireturn, 1) := by decide +kernel
theorem dL_law_213 : decode cL_law 213 = .ok (.goto 1733, 3) := by decide +kernel
theorem dL_law_216 : decode cL_law 216 = .ok (.aload_n 1, 1) := by decide +kernel
theorem dL_law_217 : decode cL_law 217 = .ok (.aload_n 0, 1) := by decide +kernel
theorem dL_law_218 : decode cL_law 218 = .ok (.iload 4, 2) := by decide +kernel
theorem dL_law_220 : decode cL_law 220 = .ok (.iconst 1, 1) := by decide +kernel
theorem dL_law_221 : decode cL_law 221 = .ok (.iadd, 1) := by decide +kernel
theorem dL_law_222 : decode cL_law 222 = .ok (.iaload, 1) := by decide +kernel
theorem dL_law_223 : decode cL_law 223 = .ok (.aload_n 0, 1) := by decide +kernel
theorem dL_law_224 : decode cL_law 224 = .ok (.iload 4, 2) := by decide +kernel
theorem dL_law_226 : decode cL_law 226 = .ok (.iconst 2, 1) := by decide +kernel
theorem dL_law_227 : decode cL_law 227 = .ok (.iadd, 1) := by decide +kernel
theorem dL_law_228 : decode cL_law 228 = .ok (.iaload, 1) := by decide +kernel
theorem dL_law_229 : decode cL_law 229 = .ok (.aload_n 0, 1) := by decide +kernel
theorem dL_law_230 : decode cL_law 230 = .ok (.iload 4, 2) := by decide +kernel
theorem dL_law_232 : decode cL_law 232 = .ok (.iconst 3, 1) := by decide +kernel
theorem dL_law_233 : decode cL_law 233 = .ok (.iadd, 1) := by decide +kernel
theorem dL_law_234 : decode cL_law 234 = .ok (.iaload, 1) := by decide +kernel
theorem dL_law_235 : decode cL_law 235 = .ok (.aload_n 3, 1) := by decide +kernel
theorem dL_law_236 : decode cL_law 236 = .ok (.invokestatic 116, 3) := by decide +kernel
theorem dL_law_239 : decode cL_law 239 = .ok (.istore 5, 2) := by decide +kernel
theorem dL_law_241 : decode cL_law 241 = .ok (.aload_n 2, 1) := by decide +kernel
theorem dL_law_242 : decode cL_law 242 = .ok (.aload_n 0, 1) := by decide +kernel
theorem dL_law_243 : decode cL_law 243 = .ok (.iload 4, 2) := by decide +kernel
theorem dL_law_245 : decode cL_law 245 = .ok (.iconst 1, 1) := by decide +kernel
theorem dL_law_246 : decode cL_law 246 = .ok (.iadd, 1) := by decide +kernel
theorem dL_law_247 : decode cL_law 247 = .ok (.iaload, 1) := by decide +kernel
theorem dL_law_248 : decode cL_law 248 = .ok (.aload_n 0, 1) := by decide +kernel
theorem dL_law_249 : decode cL_law 249 = .ok (.iload 4, 2) := by decide +kernel
theorem dL_law_251 : decode cL_law 251 = .ok (.iconst 2, 1) := by decide +kernel
theorem dL_law_252 : decode cL_law 252 = .ok (.iadd, 1) := by decide +kernel
theorem dL_law_253 : decode cL_law 253 = .ok (.iaload, 1) := by decide +kernel
theorem dL_law_254 : decode cL_law 254 = .ok (.aload_n 0, 1) := by decide +kernel
theorem dL_law_255 : decode cL_law 255 = .ok (.iload 4, 2) := by decide +kernel
theorem dL_law_257 : decode cL_law 257 = .ok (.iconst 3, 1) := by decide +kernel
theorem dL_law_258 : decode cL_law 258 = .ok (.iadd, 1) := by decide +kernel
theorem dL_law_259 : decode cL_law 259 = .ok (.iaload, 1) := by decide +kernel
theorem dL_law_260 : decode cL_law 260 = .ok (.invokevirtual 119, 3) := by decide +kernel
theorem dL_law_263 : decode cL_law 263 = .ok (.istore 6, 2) := by decide +kernel
theorem dL_law_265 : decode cL_law 265 = .ok (.aload_n 2, 1) := by decide +kernel
theorem dL_law_266 : decode cL_law 266 = .ok (.invokevirtual 113, 3) := by decide +kernel
theorem dL_law_269 : decode cL_law 269 = .ok (.iload 5, 2) := by decide +kernel
theorem dL_law_271 : decode cL_law 271 = .ok (.if_icmp .eq 5, 3) := by decide +kernel
theorem dL_law_274 : decode cL_law 274 = .ok (.iconst 0, 1) := by decide +kernel
theorem dL_law_275 : decode cL_law 275 = .ok (.ireturn, 1) := by decide +kernel
theorem dL_law_276 : decode cL_law 276 = .ok (.iload 5, 2) := by decide +kernel
theorem dL_law_278 : decode cL_law 278 = .ok (.ifCond .ne 15, 3) := by decide +kernel
theorem dL_law_281 : decode cL_law 281 = .ok (.aload_n 3, 1) := by decide +kernel
theorem dL_law_282 : decode cL_law 282 = .ok (.iconst 0, 1) := by decide +kernel
theorem dL_law_283 : decode cL_law 283 = .ok (.laload, 1) := by decide +kernel
theorem dL_law_284 : decode cL_law 284 = .ok (.iload 6, 2) := by decide +kernel
theorem dL_law_286 : decode cL_law 286 = .ok (.i2l, 1) := by decide +kernel
theorem dL_law_287 : decode cL_law 287 = .ok (.lcmp, 1) := by decide +kernel
theorem dL_law_288 : decode cL_law 288 = .ok (.ifCond .eq 5, 3) := by decide +kernel
theorem dL_law_291 : decode cL_law 291 = .ok (.iconst 0, 1) := by decide +kernel
theorem dL_law_292 : decode cL_law 292 = .ok (.ireturn, 1) := by decide +kernel
theorem dL_law_293 : decode cL_law 293 = .ok (.goto 1653, 3) := by decide +kernel
theorem dL_law_296 : decode cL_law 296 = .ok (.aload_n 1, 1) := by decide +kernel
theorem dL_law_297 : decode cL_law 297 = .ok (.aload_n 0, 1) := by decide +kernel
theorem dL_law_298 : decode cL_law 298 = .ok (.iload 4, 2) := by decide +kernel
theorem dL_law_300 : decode cL_law 300 = .ok (.iconst 1, 1) := by decide +kernel
theorem dL_law_301 : decode cL_law 301 = .ok (.iadd, 1) := by decide +kernel
theorem dL_law_302 : decode cL_law 302 = .ok (.iaload, 1) := by decide +kernel
theorem dL_law_303 : decode cL_law 303 = .ok (.aload_n 0, 1) := by decide +kernel
theorem dL_law_304 : decode cL_law 304 = .ok (.iload 4, 2) := by decide +kernel
theorem dL_law_306 : decode cL_law 306 = .ok (.iconst 2, 1) := by decide +kernel
theorem dL_law_307 : decode cL_law 307 = .ok (.iadd, 1) := by decide +kernel
theorem dL_law_308 : decode cL_law 308 = .ok (.iaload, 1) := by decide +kernel
theorem dL_law_309 : decode cL_law 309 = .ok (.aload_n 0, 1) := by decide +kernel
theorem dL_law_310 : decode cL_law 310 = .ok (.iload 4, 2) := by decide +kernel
theorem dL_law_312 : decode cL_law 312 = .ok (.iconst 3, 1) := by decide +kernel
theorem dL_law_313 : decode cL_law 313 = .ok (.iadd, 1) := by decide +kernel
theorem dL_law_314 : decode cL_law 314 = .ok (.iaload, 1) := by decide +kernel
theorem dL_law_315 : decode cL_law 315 = .ok (.aload_n 3, 1) := by decide +kernel
theorem dL_law_316 : decode cL_law 316 = .ok (.invokestatic 120, 3) := by decide +kernel
theorem dL_law_319 : decode cL_law 319 = .ok (.istore 5, 2) := by decide +kernel
theorem dL_law_321 : decode cL_law 321 = .ok (.aload_n 2, 1) := by decide +kernel
theorem dL_law_322 : decode cL_law 322 = .ok (.aload_n 0, 1) := by decide +kernel
theorem dL_law_323 : decode cL_law 323 = .ok (.iload 4, 2) := by decide +kernel
theorem dL_law_325 : decode cL_law 325 = .ok (.iconst 1, 1) := by decide +kernel
theorem dL_law_326 : decode cL_law 326 = .ok (.iadd, 1) := by decide +kernel
theorem dL_law_327 : decode cL_law 327 = .ok (.iaload, 1) := by decide +kernel
theorem dL_law_328 : decode cL_law 328 = .ok (.aload_n 0, 1) := by decide +kernel
theorem dL_law_329 : decode cL_law 329 = .ok (.iload 4, 2) := by decide +kernel
theorem dL_law_331 : decode cL_law 331 = .ok (.iconst 2, 1) := by decide +kernel
theorem dL_law_332 : decode cL_law 332 = .ok (.iadd, 1) := by decide +kernel
theorem dL_law_333 : decode cL_law 333 = .ok (.iaload, 1) := by decide +kernel
theorem dL_law_334 : decode cL_law 334 = .ok (.aload_n 0, 1) := by decide +kernel
theorem dL_law_335 : decode cL_law 335 = .ok (.iload 4, 2) := by decide +kernel
theorem dL_law_337 : decode cL_law 337 = .ok (.iconst 3, 1) := by decide +kernel
theorem dL_law_338 : decode cL_law 338 = .ok (.iadd, 1) := by decide +kernel
theorem dL_law_339 : decode cL_law 339 = .ok (.iaload, 1) := by decide +kernel
theorem dL_law_340 : decode cL_law 340 = .ok (.invokevirtual 122, 3) := by decide +kernel
theorem dL_law_343 : decode cL_law 343 = .ok (.istore 6, 2) := by decide +kernel
theorem dL_law_345 : decode cL_law 345 = .ok (.aload_n 2, 1) := by decide +kernel
theorem dL_law_346 : decode cL_law 346 = .ok (.invokevirtual 113, 3) := by decide +kernel
theorem dL_law_349 : decode cL_law 349 = .ok (.iload 5, 2) := by decide +kernel
theorem dL_law_351 : decode cL_law 351 = .ok (.if_icmp .eq 5, 3) := by decide +kernel
theorem dL_law_354 : decode cL_law 354 = .ok (.iconst 0, 1) := by decide +kernel
theorem dL_law_355 : decode cL_law 355 = .ok (.ireturn, 1) := by decide +kernel
theorem dL_law_356 : decode cL_law 356 = .ok (.iload 5, 2) := by decide +kernel
theorem dL_law_358 : decode cL_law 358 = .ok (.ifCond .ne 15, 3) := by decide +kernel
theorem dL_law_361 : decode cL_law 361 = .ok (.aload_n 3, 1) := by decide +kernel
theorem dL_law_362 : decode cL_law 362 = .ok (.iconst 0, 1) := by decide +kernel
theorem dL_law_363 : decode cL_law 363 = .ok (.laload, 1) := by decide +kernel
theorem dL_law_364 : decode cL_law 364 = .ok (.iload 6, 2) := by decide +kernel
theorem dL_law_366 : decode cL_law 366 = .ok (.i2l, 1) := by decide +kernel
theorem dL_law_367 : decode cL_law 367 = .ok (.lcmp, 1) := by decide +kernel
theorem dL_law_368 : decode cL_law 368 = .ok (.ifCond .eq 5, 3) := by decide +kernel
theorem dL_law_371 : decode cL_law 371 = .ok (.iconst 0, 1) := by decide +kernel
theorem dL_law_372 : decode cL_law 372 = .ok (.ireturn, 1) := by decide +kernel
theorem dL_law_373 : decode cL_law 373 = .ok (.goto 1573, 3) := by decide +kernel
theorem dL_law_376 : decode cL_law 376 = .ok (.aload_n 1, 1) := by decide +kernel
theorem dL_law_377 : decode cL_law 377 = .ok (.invokevirtual 123, 3) := by decide +kernel
theorem dL_law_380 : decode cL_law 380 = .ok (.aload_n 2, 1) := by decide +kernel
theorem dL_law_381 : decode cL_law 381 = .ok (.invokevirtual 126, 3) := by decide +kernel
theorem dL_law_384 : decode cL_law 384 = .ok (.if_icmp .eq 1562, 3) := by decide +kernel
theorem dL_law_387 : decode cL_law 387 = .ok (.iconst 0, 1) := by decide +kernel
theorem dL_law_388 : decode cL_law 388 = .ok (.ireturn, 1) := by decide +kernel
theorem dL_law_389 : decode cL_law 389 = .ok (.aload_n 1, 1) := by decide +kernel
theorem dL_law_390 : decode cL_law 390 = .ok (.invokevirtual 127, 3) := by decide +kernel
theorem dL_law_393 : decode cL_law 393 = .ok (.aload_n 2, 1) := by decide +kernel
theorem dL_law_394 : decode cL_law 394 = .ok (.invokevirtual 130, 3) := by decide +kernel
theorem dL_law_397 : decode cL_law 397 = .ok (.if_icmp .eq 1549, 3) := by decide +kernel
theorem dL_law_400 : decode cL_law 400 = .ok (.iconst 0, 1) := by decide +kernel
theorem dL_law_401 : decode cL_law 401 = .ok (.ireturn, 1) := by decide +kernel
theorem dL_law_402 : decode cL_law 402 = .ok (.aload_n 1, 1) := by decide +kernel
theorem dL_law_403 : decode cL_law 403 = .ok (.aload_n 0, 1) := by decide +kernel
theorem dL_law_404 : decode cL_law 404 = .ok (.iload 4, 2) := by decide +kernel
theorem dL_law_406 : decode cL_law 406 = .ok (.iconst 1, 1) := by decide +kernel
theorem dL_law_407 : decode cL_law 407 = .ok (.iadd, 1) := by decide +kernel
theorem dL_law_408 : decode cL_law 408 = .ok (.iaload, 1) := by decide +kernel
theorem dL_law_409 : decode cL_law 409 = .ok (.aload_n 0, 1) := by decide +kernel
theorem dL_law_410 : decode cL_law 410 = .ok (.iload 4, 2) := by decide +kernel
theorem dL_law_412 : decode cL_law 412 = .ok (.iconst 2, 1) := by decide +kernel
theorem dL_law_413 : decode cL_law 413 = .ok (.iadd, 1) := by decide +kernel
theorem dL_law_414 : decode cL_law 414 = .ok (.iaload, 1) := by decide +kernel
theorem dL_law_415 : decode cL_law 415 = .ok (.aload_n 3, 1) := by decide +kernel
theorem dL_law_416 : decode cL_law 416 = .ok (.invokestatic 131, 3) := by decide +kernel
theorem dL_law_419 : decode cL_law 419 = .ok (.istore 5, 2) := by decide +kernel
theorem dL_law_421 : decode cL_law 421 = .ok (.aload_n 2, 1) := by decide +kernel
theorem dL_law_422 : decode cL_law 422 = .ok (.aload_n 0, 1) := by decide +kernel
theorem dL_law_423 : decode cL_law 423 = .ok (.iload 4, 2) := by decide +kernel
theorem dL_law_425 : decode cL_law 425 = .ok (.iconst 1, 1) := by decide +kernel
theorem dL_law_426 : decode cL_law 426 = .ok (.iadd, 1) := by decide +kernel
theorem dL_law_427 : decode cL_law 427 = .ok (.iaload, 1) := by decide +kernel
theorem dL_law_428 : decode cL_law 428 = .ok (.aload_n 0, 1) := by decide +kernel
theorem dL_law_429 : decode cL_law 429 = .ok (.iload 4, 2) := by decide +kernel
theorem dL_law_431 : decode cL_law 431 = .ok (.iconst 2, 1) := by decide +kernel
theorem dL_law_432 : decode cL_law 432 = .ok (.iadd, 1) := by decide +kernel
theorem dL_law_433 : decode cL_law 433 = .ok (.iaload, 1) := by decide +kernel
theorem dL_law_434 : decode cL_law 434 = .ok (.invokevirtual 134, 3) := by decide +kernel
theorem dL_law_437 : decode cL_law 437 = .ok (.istore 6, 2) := by decide +kernel
theorem dL_law_439 : decode cL_law 439 = .ok (.aload_n 2, 1) := by decide +kernel
theorem dL_law_440 : decode cL_law 440 = .ok (.invokevirtual 113, 3) := by decide +kernel
theorem dL_law_443 : decode cL_law 443 = .ok (.iload 5, 2) := by decide +kernel
theorem dL_law_445 : decode cL_law 445 = .ok (.if_icmp .eq 5, 3) := by decide +kernel
theorem dL_law_448 : decode cL_law 448 = .ok (.iconst 0, 1) := by decide +kernel
theorem dL_law_449 : decode cL_law 449 = .ok (.ireturn, 1) := by decide +kernel
theorem dL_law_450 : decode cL_law 450 = .ok (.iload 5, 2) := by decide +kernel
theorem dL_law_452 : decode cL_law 452 = .ok (.ifCond .ne 15, 3) := by decide +kernel
theorem dL_law_455 : decode cL_law 455 = .ok (.aload_n 3, 1) := by decide +kernel
theorem dL_law_456 : decode cL_law 456 = .ok (.iconst 0, 1) := by decide +kernel
theorem dL_law_457 : decode cL_law 457 = .ok (.laload, 1) := by decide +kernel
theorem dL_law_458 : decode cL_law 458 = .ok (.iload 6, 2) := by decide +kernel
theorem dL_law_460 : decode cL_law 460 = .ok (.i2l, 1) := by decide +kernel
theorem dL_law_461 : decode cL_law 461 = .ok (.lcmp, 1) := by decide +kernel
theorem dL_law_462 : decode cL_law 462 = .ok (.ifCond .eq 5, 3) := by decide +kernel
theorem dL_law_465 : decode cL_law 465 = .ok (.iconst 0, 1) := by decide +kernel
theorem dL_law_466 : decode cL_law 466 = .ok (.ireturn, 1) := by decide +kernel
theorem dL_law_467 : decode cL_law 467 = .ok (.goto 1479, 3) := by decide +kernel
theorem dL_law_470 : decode cL_law 470 = .ok (.aload_n 1, 1) := by decide +kernel
theorem dL_law_471 : decode cL_law 471 = .ok (.aload_n 0, 1) := by decide +kernel
theorem dL_law_472 : decode cL_law 472 = .ok (.iload 4, 2) := by decide +kernel
theorem dL_law_474 : decode cL_law 474 = .ok (.iconst 1, 1) := by decide +kernel
theorem dL_law_475 : decode cL_law 475 = .ok (.iadd, 1) := by decide +kernel
theorem dL_law_476 : decode cL_law 476 = .ok (.iaload, 1) := by decide +kernel
theorem dL_law_477 : decode cL_law 477 = .ok (.aload_n 0, 1) := by decide +kernel
theorem dL_law_478 : decode cL_law 478 = .ok (.iload 4, 2) := by decide +kernel
theorem dL_law_480 : decode cL_law 480 = .ok (.iconst 2, 1) := by decide +kernel
theorem dL_law_481 : decode cL_law 481 = .ok (.iadd, 1) := by decide +kernel
theorem dL_law_482 : decode cL_law 482 = .ok (.iaload, 1) := by decide +kernel
theorem dL_law_483 : decode cL_law 483 = .ok (.aload_n 3, 1) := by decide +kernel
theorem dL_law_484 : decode cL_law 484 = .ok (.invokestatic 135, 3) := by decide +kernel
theorem dL_law_487 : decode cL_law 487 = .ok (.istore 5, 2) := by decide +kernel
theorem dL_law_489 : decode cL_law 489 = .ok (.aload_n 2, 1) := by decide +kernel
theorem dL_law_490 : decode cL_law 490 = .ok (.aload_n 0, 1) := by decide +kernel
theorem dL_law_491 : decode cL_law 491 = .ok (.iload 4, 2) := by decide +kernel
theorem dL_law_493 : decode cL_law 493 = .ok (.iconst 1, 1) := by decide +kernel
theorem dL_law_494 : decode cL_law 494 = .ok (.iadd, 1) := by decide +kernel
theorem dL_law_495 : decode cL_law 495 = .ok (.iaload, 1) := by decide +kernel
theorem dL_law_496 : decode cL_law 496 = .ok (.aload_n 0, 1) := by decide +kernel
theorem dL_law_497 : decode cL_law 497 = .ok (.iload 4, 2) := by decide +kernel
theorem dL_law_499 : decode cL_law 499 = .ok (.iconst 2, 1) := by decide +kernel
theorem dL_law_500 : decode cL_law 500 = .ok (.iadd, 1) := by decide +kernel
theorem dL_law_501 : decode cL_law 501 = .ok (.iaload, 1) := by decide +kernel
theorem dL_law_502 : decode cL_law 502 = .ok (.invokevirtual 137, 3) := by decide +kernel
theorem dL_law_505 : decode cL_law 505 = .ok (.istore 6, 2) := by decide +kernel
theorem dL_law_507 : decode cL_law 507 = .ok (.aload_n 2, 1) := by decide +kernel
theorem dL_law_508 : decode cL_law 508 = .ok (.invokevirtual 113, 3) := by decide +kernel
theorem dL_law_511 : decode cL_law 511 = .ok (.iload 5, 2) := by decide +kernel
theorem dL_law_513 : decode cL_law 513 = .ok (.if_icmp .eq 5, 3) := by decide +kernel
theorem dL_law_516 : decode cL_law 516 = .ok (.iconst 0, 1) := by decide +kernel
theorem dL_law_517 : decode cL_law 517 = .ok (.ireturn, 1) := by decide +kernel
theorem dL_law_518 : decode cL_law 518 = .ok (.iload 5, 2) := by decide +kernel
theorem dL_law_520 : decode cL_law 520 = .ok (.ifCond .ne 15, 3) := by decide +kernel
theorem dL_law_523 : decode cL_law 523 = .ok (.aload_n 3, 1) := by decide +kernel
theorem dL_law_524 : decode cL_law 524 = .ok (.iconst 0, 1) := by decide +kernel
theorem dL_law_525 : decode cL_law 525 = .ok (.laload, 1) := by decide +kernel
theorem dL_law_526 : decode cL_law 526 = .ok (.iload 6, 2) := by decide +kernel
theorem dL_law_528 : decode cL_law 528 = .ok (.i2l, 1) := by decide +kernel
theorem dL_law_529 : decode cL_law 529 = .ok (.lcmp, 1) := by decide +kernel
theorem dL_law_530 : decode cL_law 530 = .ok (.ifCond .eq 5, 3) := by decide +kernel
theorem dL_law_533 : decode cL_law 533 = .ok (.iconst 0, 1) := by decide +kernel
theorem dL_law_534 : decode cL_law 534 = .ok (.ireturn, 1) := by decide +kernel
theorem dL_law_535 : decode cL_law 535 = .ok (.goto 1411, 3) := by decide +kernel
theorem dL_law_538 : decode cL_law 538 = .ok (.aload_n 1, 1) := by decide +kernel
theorem dL_law_539 : decode cL_law 539 = .ok (.aload_n 0, 1) := by decide +kernel
theorem dL_law_540 : decode cL_law 540 = .ok (.iload 4, 2) := by decide +kernel
theorem dL_law_542 : decode cL_law 542 = .ok (.iconst 1, 1) := by decide +kernel
theorem dL_law_543 : decode cL_law 543 = .ok (.iadd, 1) := by decide +kernel
theorem dL_law_544 : decode cL_law 544 = .ok (.iaload, 1) := by decide +kernel
theorem dL_law_545 : decode cL_law 545 = .ok (.aload_n 3, 1) := by decide +kernel
theorem dL_law_546 : decode cL_law 546 = .ok (.invokestatic 138, 3) := by decide +kernel
theorem dL_law_549 : decode cL_law 549 = .ok (.istore 5, 2) := by decide +kernel
theorem dL_law_551 : decode cL_law 551 = .ok (.aload_n 2, 1) := by decide +kernel
theorem dL_law_552 : decode cL_law 552 = .ok (.aload_n 0, 1) := by decide +kernel
theorem dL_law_553 : decode cL_law 553 = .ok (.iload 4, 2) := by decide +kernel
theorem dL_law_555 : decode cL_law 555 = .ok (.iconst 1, 1) := by decide +kernel
theorem dL_law_556 : decode cL_law 556 = .ok (.iadd, 1) := by decide +kernel
theorem dL_law_557 : decode cL_law 557 = .ok (.iaload, 1) := by decide +kernel
theorem dL_law_558 : decode cL_law 558 = .ok (.invokevirtual 141, 3) := by decide +kernel
theorem dL_law_561 : decode cL_law 561 = .ok (.istore 6, 2) := by decide +kernel
theorem dL_law_563 : decode cL_law 563 = .ok (.aload_n 2, 1) := by decide +kernel
theorem dL_law_564 : decode cL_law 564 = .ok (.invokevirtual 113, 3) := by decide +kernel
theorem dL_law_567 : decode cL_law 567 = .ok (.iload 5, 2) := by decide +kernel
theorem dL_law_569 : decode cL_law 569 = .ok (.if_icmp .eq 5, 3) := by decide +kernel
theorem dL_law_572 : decode cL_law 572 = .ok (.iconst 0, 1) := by decide +kernel
theorem dL_law_573 : decode cL_law 573 = .ok (.ireturn, 1) := by decide +kernel
theorem dL_law_574 : decode cL_law 574 = .ok (.iload 5, 2) := by decide +kernel
theorem dL_law_576 : decode cL_law 576 = .ok (.ifCond .ne 15, 3) := by decide +kernel
theorem dL_law_579 : decode cL_law 579 = .ok (.aload_n 3, 1) := by decide +kernel
theorem dL_law_580 : decode cL_law 580 = .ok (.iconst 0, 1) := by decide +kernel
theorem dL_law_581 : decode cL_law 581 = .ok (.laload, 1) := by decide +kernel
theorem dL_law_582 : decode cL_law 582 = .ok (.iload 6, 2) := by decide +kernel
theorem dL_law_584 : decode cL_law 584 = .ok (.i2l, 1) := by decide +kernel
theorem dL_law_585 : decode cL_law 585 = .ok (.lcmp, 1) := by decide +kernel
theorem dL_law_586 : decode cL_law 586 = .ok (.ifCond .eq 5, 3) := by decide +kernel
theorem dL_law_589 : decode cL_law 589 = .ok (.iconst 0, 1) := by decide +kernel
theorem dL_law_590 : decode cL_law 590 = .ok (.ireturn, 1) := by decide +kernel
theorem dL_law_591 : decode cL_law 591 = .ok (.goto 1355, 3) := by decide +kernel
theorem dL_law_594 : decode cL_law 594 = .ok (.aload_n 1, 1) := by decide +kernel
theorem dL_law_595 : decode cL_law 595 = .ok (.aload_n 0, 1) := by decide +kernel
theorem dL_law_596 : decode cL_law 596 = .ok (.iload 4, 2) := by decide +kernel
theorem dL_law_598 : decode cL_law 598 = .ok (.iconst 1, 1) := by decide +kernel
theorem dL_law_599 : decode cL_law 599 = .ok (.iadd, 1) := by decide +kernel
theorem dL_law_600 : decode cL_law 600 = .ok (.iaload, 1) := by decide +kernel
theorem dL_law_601 : decode cL_law 601 = .ok (.aload_n 3, 1) := by decide +kernel
theorem dL_law_602 : decode cL_law 602 = .ok (.invokestatic 142, 3) := by decide +kernel
theorem dL_law_605 : decode cL_law 605 = .ok (.istore 5, 2) := by decide +kernel
theorem dL_law_607 : decode cL_law 607 = .ok (.aload_n 2, 1) := by decide +kernel
theorem dL_law_608 : decode cL_law 608 = .ok (.aload_n 0, 1) := by decide +kernel
theorem dL_law_609 : decode cL_law 609 = .ok (.iload 4, 2) := by decide +kernel
theorem dL_law_611 : decode cL_law 611 = .ok (.iconst 1, 1) := by decide +kernel
theorem dL_law_612 : decode cL_law 612 = .ok (.iadd, 1) := by decide +kernel
theorem dL_law_613 : decode cL_law 613 = .ok (.iaload, 1) := by decide +kernel
theorem dL_law_614 : decode cL_law 614 = .ok (.invokevirtual 144, 3) := by decide +kernel
theorem dL_law_617 : decode cL_law 617 = .ok (.istore 6, 2) := by decide +kernel
theorem dL_law_619 : decode cL_law 619 = .ok (.aload_n 2, 1) := by decide +kernel
theorem dL_law_620 : decode cL_law 620 = .ok (.invokevirtual 113, 3) := by decide +kernel
theorem dL_law_623 : decode cL_law 623 = .ok (.iload 5, 2) := by decide +kernel
theorem dL_law_625 : decode cL_law 625 = .ok (.if_icmp .eq 5, 3) := by decide +kernel
theorem dL_law_628 : decode cL_law 628 = .ok (.iconst 0, 1) := by decide +kernel
theorem dL_law_629 : decode cL_law 629 = .ok (.ireturn, 1) := by decide +kernel
theorem dL_law_630 : decode cL_law 630 = .ok (.iload 5, 2) := by decide +kernel
theorem dL_law_632 : decode cL_law 632 = .ok (.ifCond .ne 15, 3) := by decide +kernel
theorem dL_law_635 : decode cL_law 635 = .ok (.aload_n 3, 1) := by decide +kernel
theorem dL_law_636 : decode cL_law 636 = .ok (.iconst 0, 1) := by decide +kernel
theorem dL_law_637 : decode cL_law 637 = .ok (.laload, 1) := by decide +kernel
theorem dL_law_638 : decode cL_law 638 = .ok (.iload 6, 2) := by decide +kernel
theorem dL_law_640 : decode cL_law 640 = .ok (.i2l, 1) := by decide +kernel
theorem dL_law_641 : decode cL_law 641 = .ok (.lcmp, 1) := by decide +kernel
theorem dL_law_642 : decode cL_law 642 = .ok (.ifCond .eq 5, 3) := by decide +kernel
theorem dL_law_645 : decode cL_law 645 = .ok (.iconst 0, 1) := by decide +kernel
theorem dL_law_646 : decode cL_law 646 = .ok (.ireturn, 1) := by decide +kernel
theorem dL_law_647 : decode cL_law 647 = .ok (.goto 1299, 3) := by decide +kernel
theorem dL_law_650 : decode cL_law 650 = .ok (.aload_n 1, 1) := by decide +kernel
theorem dL_law_651 : decode cL_law 651 = .ok (.aload_n 0, 1) := by decide +kernel
theorem dL_law_652 : decode cL_law 652 = .ok (.iload 4, 2) := by decide +kernel
theorem dL_law_654 : decode cL_law 654 = .ok (.iconst 1, 1) := by decide +kernel
theorem dL_law_655 : decode cL_law 655 = .ok (.iadd, 1) := by decide +kernel
theorem dL_law_656 : decode cL_law 656 = .ok (.iaload, 1) := by decide +kernel
theorem dL_law_657 : decode cL_law 657 = .ok (.aload_n 0, 1) := by decide +kernel
theorem dL_law_658 : decode cL_law 658 = .ok (.iload 4, 2) := by decide +kernel
theorem dL_law_660 : decode cL_law 660 = .ok (.iconst 2, 1) := by decide +kernel
theorem dL_law_661 : decode cL_law 661 = .ok (.iadd, 1) := by decide +kernel
theorem dL_law_662 : decode cL_law 662 = .ok (.iaload, 1) := by decide +kernel
theorem dL_law_663 : decode cL_law 663 = .ok (.aload_n 3, 1) := by decide +kernel
theorem dL_law_664 : decode cL_law 664 = .ok (.invokestatic 145, 3) := by decide +kernel
theorem dL_law_667 : decode cL_law 667 = .ok (.istore 5, 2) := by decide +kernel
theorem dL_law_669 : decode cL_law 669 = .ok (.aload_n 2, 1) := by decide +kernel
theorem dL_law_670 : decode cL_law 670 = .ok (.aload_n 0, 1) := by decide +kernel
theorem dL_law_671 : decode cL_law 671 = .ok (.iload 4, 2) := by decide +kernel
theorem dL_law_673 : decode cL_law 673 = .ok (.iconst 1, 1) := by decide +kernel
theorem dL_law_674 : decode cL_law 674 = .ok (.iadd, 1) := by decide +kernel
theorem dL_law_675 : decode cL_law 675 = .ok (.iaload, 1) := by decide +kernel
theorem dL_law_676 : decode cL_law 676 = .ok (.aload_n 0, 1) := by decide +kernel
theorem dL_law_677 : decode cL_law 677 = .ok (.iload 4, 2) := by decide +kernel
theorem dL_law_679 : decode cL_law 679 = .ok (.iconst 2, 1) := by decide +kernel
theorem dL_law_680 : decode cL_law 680 = .ok (.iadd, 1) := by decide +kernel
theorem dL_law_681 : decode cL_law 681 = .ok (.iaload, 1) := by decide +kernel
theorem dL_law_682 : decode cL_law 682 = .ok (.invokevirtual 147, 3) := by decide +kernel
theorem dL_law_685 : decode cL_law 685 = .ok (.istore 6, 2) := by decide +kernel
theorem dL_law_687 : decode cL_law 687 = .ok (.aload_n 2, 1) := by decide +kernel
theorem dL_law_688 : decode cL_law 688 = .ok (.invokevirtual 113, 3) := by decide +kernel
theorem dL_law_691 : decode cL_law 691 = .ok (.iload 5, 2) := by decide +kernel
theorem dL_law_693 : decode cL_law 693 = .ok (.if_icmp .eq 5, 3) := by decide +kernel
theorem dL_law_696 : decode cL_law 696 = .ok (.iconst 0, 1) := by decide +kernel
theorem dL_law_697 : decode cL_law 697 = .ok (.ireturn, 1) := by decide +kernel
theorem dL_law_698 : decode cL_law 698 = .ok (.iload 5, 2) := by decide +kernel
theorem dL_law_700 : decode cL_law 700 = .ok (.ifCond .ne 15, 3) := by decide +kernel
theorem dL_law_703 : decode cL_law 703 = .ok (.aload_n 3, 1) := by decide +kernel
theorem dL_law_704 : decode cL_law 704 = .ok (.iconst 0, 1) := by decide +kernel
theorem dL_law_705 : decode cL_law 705 = .ok (.laload, 1) := by decide +kernel
theorem dL_law_706 : decode cL_law 706 = .ok (.iload 6, 2) := by decide +kernel
theorem dL_law_708 : decode cL_law 708 = .ok (.i2l, 1) := by decide +kernel
theorem dL_law_709 : decode cL_law 709 = .ok (.lcmp, 1) := by decide +kernel
theorem dL_law_710 : decode cL_law 710 = .ok (.ifCond .eq 5, 3) := by decide +kernel
theorem dL_law_713 : decode cL_law 713 = .ok (.iconst 0, 1) := by decide +kernel
theorem dL_law_714 : decode cL_law 714 = .ok (.ireturn, 1) := by decide +kernel
theorem dL_law_715 : decode cL_law 715 = .ok (.goto 1231, 3) := by decide +kernel
theorem dL_law_718 : decode cL_law 718 = .ok (.aload_n 1, 1) := by decide +kernel
theorem dL_law_719 : decode cL_law 719 = .ok (.aload_n 0, 1) := by decide +kernel
theorem dL_law_720 : decode cL_law 720 = .ok (.iload 4, 2) := by decide +kernel
theorem dL_law_722 : decode cL_law 722 = .ok (.iconst 1, 1) := by decide +kernel
theorem dL_law_723 : decode cL_law 723 = .ok (.iadd, 1) := by decide +kernel
theorem dL_law_724 : decode cL_law 724 = .ok (.iaload, 1) := by decide +kernel
theorem dL_law_725 : decode cL_law 725 = .ok (.aload_n 3, 1) := by decide +kernel
theorem dL_law_726 : decode cL_law 726 = .ok (.invokestatic 148, 3) := by decide +kernel
theorem dL_law_729 : decode cL_law 729 = .ok (.istore 5, 2) := by decide +kernel
theorem dL_law_731 : decode cL_law 731 = .ok (.aload_n 2, 1) := by decide +kernel
theorem dL_law_732 : decode cL_law 732 = .ok (.aload_n 0, 1) := by decide +kernel
theorem dL_law_733 : decode cL_law 733 = .ok (.iload 4, 2) := by decide +kernel
theorem dL_law_735 : decode cL_law 735 = .ok (.iconst 1, 1) := by decide +kernel
theorem dL_law_736 : decode cL_law 736 = .ok (.iadd, 1) := by decide +kernel
theorem dL_law_737 : decode cL_law 737 = .ok (.iaload, 1) := by decide +kernel
theorem dL_law_738 : decode cL_law 738 = .ok (.invokevirtual 150, 3) := by decide +kernel
theorem dL_law_741 : decode cL_law 741 = .ok (.istore 6, 2) := by decide +kernel
theorem dL_law_743 : decode cL_law 743 = .ok (.aload_n 2, 1) := by decide +kernel
theorem dL_law_744 : decode cL_law 744 = .ok (.invokevirtual 113, 3) := by decide +kernel
theorem dL_law_747 : decode cL_law 747 = .ok (.iload 5, 2) := by decide +kernel
theorem dL_law_749 : decode cL_law 749 = .ok (.if_icmp .eq 5, 3) := by decide +kernel
theorem dL_law_752 : decode cL_law 752 = .ok (.iconst 0, 1) := by decide +kernel
theorem dL_law_753 : decode cL_law 753 = .ok (.ireturn, 1) := by decide +kernel
theorem dL_law_754 : decode cL_law 754 = .ok (.iload 5, 2) := by decide +kernel
theorem dL_law_756 : decode cL_law 756 = .ok (.ifCond .ne 15, 3) := by decide +kernel
theorem dL_law_759 : decode cL_law 759 = .ok (.aload_n 3, 1) := by decide +kernel
theorem dL_law_760 : decode cL_law 760 = .ok (.iconst 0, 1) := by decide +kernel
theorem dL_law_761 : decode cL_law 761 = .ok (.laload, 1) := by decide +kernel
theorem dL_law_762 : decode cL_law 762 = .ok (.iload 6, 2) := by decide +kernel
theorem dL_law_764 : decode cL_law 764 = .ok (.i2l, 1) := by decide +kernel
theorem dL_law_765 : decode cL_law 765 = .ok (.lcmp, 1) := by decide +kernel
theorem dL_law_766 : decode cL_law 766 = .ok (.ifCond .eq 5, 3) := by decide +kernel
theorem dL_law_769 : decode cL_law 769 = .ok (.iconst 0, 1) := by decide +kernel
theorem dL_law_770 : decode cL_law 770 = .ok (.ireturn, 1) := by decide +kernel
theorem dL_law_771 : decode cL_law 771 = .ok (.goto 1175, 3) := by decide +kernel
theorem dL_law_774 : decode cL_law 774 = .ok (.aload_n 1, 1) := by decide +kernel
theorem dL_law_775 : decode cL_law 775 = .ok (.aload_n 0, 1) := by decide +kernel
theorem dL_law_776 : decode cL_law 776 = .ok (.iload 4, 2) := by decide +kernel
theorem dL_law_778 : decode cL_law 778 = .ok (.iconst 1, 1) := by decide +kernel
theorem dL_law_779 : decode cL_law 779 = .ok (.iadd, 1) := by decide +kernel
theorem dL_law_780 : decode cL_law 780 = .ok (.iaload, 1) := by decide +kernel
theorem dL_law_781 : decode cL_law 781 = .ok (.aload_n 3, 1) := by decide +kernel
theorem dL_law_782 : decode cL_law 782 = .ok (.invokestatic 151, 3) := by decide +kernel
theorem dL_law_785 : decode cL_law 785 = .ok (.istore 5, 2) := by decide +kernel
theorem dL_law_787 : decode cL_law 787 = .ok (.aload_n 2, 1) := by decide +kernel
theorem dL_law_788 : decode cL_law 788 = .ok (.aload_n 0, 1) := by decide +kernel
theorem dL_law_789 : decode cL_law 789 = .ok (.iload 4, 2) := by decide +kernel
theorem dL_law_791 : decode cL_law 791 = .ok (.iconst 1, 1) := by decide +kernel
theorem dL_law_792 : decode cL_law 792 = .ok (.iadd, 1) := by decide +kernel
theorem dL_law_793 : decode cL_law 793 = .ok (.iaload, 1) := by decide +kernel
theorem dL_law_794 : decode cL_law 794 = .ok (.invokevirtual 153, 3) := by decide +kernel
theorem dL_law_797 : decode cL_law 797 = .ok (.istore 6, 2) := by decide +kernel
theorem dL_law_799 : decode cL_law 799 = .ok (.aload_n 2, 1) := by decide +kernel
theorem dL_law_800 : decode cL_law 800 = .ok (.invokevirtual 113, 3) := by decide +kernel
theorem dL_law_803 : decode cL_law 803 = .ok (.iload 5, 2) := by decide +kernel
theorem dL_law_805 : decode cL_law 805 = .ok (.if_icmp .eq 5, 3) := by decide +kernel
theorem dL_law_808 : decode cL_law 808 = .ok (.iconst 0, 1) := by decide +kernel
theorem dL_law_809 : decode cL_law 809 = .ok (.ireturn, 1) := by decide +kernel
theorem dL_law_810 : decode cL_law 810 = .ok (.iload 5, 2) := by decide +kernel
theorem dL_law_812 : decode cL_law 812 = .ok (.ifCond .ne 15, 3) := by decide +kernel
theorem dL_law_815 : decode cL_law 815 = .ok (.aload_n 3, 1) := by decide +kernel
theorem dL_law_816 : decode cL_law 816 = .ok (.iconst 0, 1) := by decide +kernel
theorem dL_law_817 : decode cL_law 817 = .ok (.laload, 1) := by decide +kernel
theorem dL_law_818 : decode cL_law 818 = .ok (.iload 6, 2) := by decide +kernel
theorem dL_law_820 : decode cL_law 820 = .ok (.i2l, 1) := by decide +kernel
theorem dL_law_821 : decode cL_law 821 = .ok (.lcmp, 1) := by decide +kernel
theorem dL_law_822 : decode cL_law 822 = .ok (.ifCond .eq 5, 3) := by decide +kernel
theorem dL_law_825 : decode cL_law 825 = .ok (.iconst 0, 1) := by decide +kernel
theorem dL_law_826 : decode cL_law 826 = .ok (.ireturn, 1) := by decide +kernel
theorem dL_law_827 : decode cL_law 827 = .ok (.goto 1119, 3) := by decide +kernel
theorem dL_law_830 : decode cL_law 830 = .ok (.aload_n 1, 1) := by decide +kernel
theorem dL_law_831 : decode cL_law 831 = .ok (.aload_n 0, 1) := by decide +kernel
theorem dL_law_832 : decode cL_law 832 = .ok (.iload 4, 2) := by decide +kernel
theorem dL_law_834 : decode cL_law 834 = .ok (.iconst 1, 1) := by decide +kernel
theorem dL_law_835 : decode cL_law 835 = .ok (.iadd, 1) := by decide +kernel
theorem dL_law_836 : decode cL_law 836 = .ok (.iaload, 1) := by decide +kernel
theorem dL_law_837 : decode cL_law 837 = .ok (.aload_n 3, 1) := by decide +kernel
theorem dL_law_838 : decode cL_law 838 = .ok (.invokestatic 154, 3) := by decide +kernel
theorem dL_law_841 : decode cL_law 841 = .ok (.istore 5, 2) := by decide +kernel
theorem dL_law_843 : decode cL_law 843 = .ok (.aload_n 2, 1) := by decide +kernel
theorem dL_law_844 : decode cL_law 844 = .ok (.aload_n 0, 1) := by decide +kernel
theorem dL_law_845 : decode cL_law 845 = .ok (.iload 4, 2) := by decide +kernel
theorem dL_law_847 : decode cL_law 847 = .ok (.iconst 1, 1) := by decide +kernel
theorem dL_law_848 : decode cL_law 848 = .ok (.iadd, 1) := by decide +kernel
theorem dL_law_849 : decode cL_law 849 = .ok (.iaload, 1) := by decide +kernel
theorem dL_law_850 : decode cL_law 850 = .ok (.invokevirtual 156, 3) := by decide +kernel
theorem dL_law_853 : decode cL_law 853 = .ok (.istore 6, 2) := by decide +kernel
theorem dL_law_855 : decode cL_law 855 = .ok (.aload_n 2, 1) := by decide +kernel
theorem dL_law_856 : decode cL_law 856 = .ok (.invokevirtual 113, 3) := by decide +kernel
theorem dL_law_859 : decode cL_law 859 = .ok (.iload 5, 2) := by decide +kernel
theorem dL_law_861 : decode cL_law 861 = .ok (.if_icmp .eq 5, 3) := by decide +kernel
theorem dL_law_864 : decode cL_law 864 = .ok (.iconst 0, 1) := by decide +kernel
theorem dL_law_865 : decode cL_law 865 = .ok (.ireturn, 1) := by decide +kernel
theorem dL_law_866 : decode cL_law 866 = .ok (.iload 5, 2) := by decide +kernel
theorem dL_law_868 : decode cL_law 868 = .ok (.ifCond .ne 15, 3) := by decide +kernel
theorem dL_law_871 : decode cL_law 871 = .ok (.aload_n 3, 1) := by decide +kernel
theorem dL_law_872 : decode cL_law 872 = .ok (.iconst 0, 1) := by decide +kernel
theorem dL_law_873 : decode cL_law 873 = .ok (.laload, 1) := by decide +kernel
theorem dL_law_874 : decode cL_law 874 = .ok (.iload 6, 2) := by decide +kernel
theorem dL_law_876 : decode cL_law 876 = .ok (.i2l, 1) := by decide +kernel
theorem dL_law_877 : decode cL_law 877 = .ok (.lcmp, 1) := by decide +kernel
theorem dL_law_878 : decode cL_law 878 = .ok (.ifCond .eq 5, 3) := by decide +kernel
theorem dL_law_881 : decode cL_law 881 = .ok (.iconst 0, 1) := by decide +kernel
theorem dL_law_882 : decode cL_law 882 = .ok (.ireturn, 1) := by decide +kernel
theorem dL_law_883 : decode cL_law 883 = .ok (.goto 1063, 3) := by decide +kernel
theorem dL_law_886 : decode cL_law 886 = .ok (.aload_n 1, 1) := by decide +kernel
theorem dL_law_887 : decode cL_law 887 = .ok (.aload_n 0, 1) := by decide +kernel
theorem dL_law_888 : decode cL_law 888 = .ok (.iload 4, 2) := by decide +kernel
theorem dL_law_890 : decode cL_law 890 = .ok (.iconst 1, 1) := by decide +kernel
theorem dL_law_891 : decode cL_law 891 = .ok (.iadd, 1) := by decide +kernel
theorem dL_law_892 : decode cL_law 892 = .ok (.iaload, 1) := by decide +kernel
theorem dL_law_893 : decode cL_law 893 = .ok (.aload_n 0, 1) := by decide +kernel
theorem dL_law_894 : decode cL_law 894 = .ok (.iload 4, 2) := by decide +kernel
theorem dL_law_896 : decode cL_law 896 = .ok (.iconst 2, 1) := by decide +kernel
theorem dL_law_897 : decode cL_law 897 = .ok (.iadd, 1) := by decide +kernel
theorem dL_law_898 : decode cL_law 898 = .ok (.iaload, 1) := by decide +kernel
theorem dL_law_899 : decode cL_law 899 = .ok (.aload_n 3, 1) := by decide +kernel
theorem dL_law_900 : decode cL_law 900 = .ok (.invokestatic 157, 3) := by decide +kernel
theorem dL_law_903 : decode cL_law 903 = .ok (.istore 5, 2) := by decide +kernel
theorem dL_law_905 : decode cL_law 905 = .ok (.aload_n 2, 1) := by decide +kernel
theorem dL_law_906 : decode cL_law 906 = .ok (.aload_n 0, 1) := by decide +kernel
theorem dL_law_907 : decode cL_law 907 = .ok (.iload 4, 2) := by decide +kernel
theorem dL_law_909 : decode cL_law 909 = .ok (.iconst 1, 1) := by decide +kernel
theorem dL_law_910 : decode cL_law 910 = .ok (.iadd, 1) := by decide +kernel
theorem dL_law_911 : decode cL_law 911 = .ok (.iaload, 1) := by decide +kernel
theorem dL_law_912 : decode cL_law 912 = .ok (.aload_n 0, 1) := by decide +kernel
theorem dL_law_913 : decode cL_law 913 = .ok (.iload 4, 2) := by decide +kernel
theorem dL_law_915 : decode cL_law 915 = .ok (.iconst 2, 1) := by decide +kernel
theorem dL_law_916 : decode cL_law 916 = .ok (.iadd, 1) := by decide +kernel
theorem dL_law_917 : decode cL_law 917 = .ok (.iaload, 1) := by decide +kernel
theorem dL_law_918 : decode cL_law 918 = .ok (.invokevirtual 159, 3) := by decide +kernel
theorem dL_law_921 : decode cL_law 921 = .ok (.istore 6, 2) := by decide +kernel
theorem dL_law_923 : decode cL_law 923 = .ok (.aload_n 2, 1) := by decide +kernel
theorem dL_law_924 : decode cL_law 924 = .ok (.invokevirtual 113, 3) := by decide +kernel
theorem dL_law_927 : decode cL_law 927 = .ok (.iload 5, 2) := by decide +kernel
theorem dL_law_929 : decode cL_law 929 = .ok (.if_icmp .eq 5, 3) := by decide +kernel
theorem dL_law_932 : decode cL_law 932 = .ok (.iconst 0, 1) := by decide +kernel
theorem dL_law_933 : decode cL_law 933 = .ok (.ireturn, 1) := by decide +kernel
theorem dL_law_934 : decode cL_law 934 = .ok (.iload 5, 2) := by decide +kernel
theorem dL_law_936 : decode cL_law 936 = .ok (.ifCond .ne 15, 3) := by decide +kernel
theorem dL_law_939 : decode cL_law 939 = .ok (.aload_n 3, 1) := by decide +kernel
theorem dL_law_940 : decode cL_law 940 = .ok (.iconst 0, 1) := by decide +kernel
theorem dL_law_941 : decode cL_law 941 = .ok (.laload, 1) := by decide +kernel
theorem dL_law_942 : decode cL_law 942 = .ok (.iload 6, 2) := by decide +kernel
theorem dL_law_944 : decode cL_law 944 = .ok (.i2l, 1) := by decide +kernel
theorem dL_law_945 : decode cL_law 945 = .ok (.lcmp, 1) := by decide +kernel
theorem dL_law_946 : decode cL_law 946 = .ok (.ifCond .eq 5, 3) := by decide +kernel
theorem dL_law_949 : decode cL_law 949 = .ok (.iconst 0, 1) := by decide +kernel
theorem dL_law_950 : decode cL_law 950 = .ok (.ireturn, 1) := by decide +kernel
theorem dL_law_951 : decode cL_law 951 = .ok (.goto 995, 3) := by decide +kernel
theorem dL_law_954 : decode cL_law 954 = .ok (.aload_n 1, 1) := by decide +kernel
theorem dL_law_955 : decode cL_law 955 = .ok (.aload_n 0, 1) := by decide +kernel
theorem dL_law_956 : decode cL_law 956 = .ok (.iload 4, 2) := by decide +kernel
theorem dL_law_958 : decode cL_law 958 = .ok (.iconst 1, 1) := by decide +kernel
theorem dL_law_959 : decode cL_law 959 = .ok (.iadd, 1) := by decide +kernel
theorem dL_law_960 : decode cL_law 960 = .ok (.iaload, 1) := by decide +kernel
theorem dL_law_961 : decode cL_law 961 = .ok (.aload_n 3, 1) := by decide +kernel
theorem dL_law_962 : decode cL_law 962 = .ok (.invokestatic 160, 3) := by decide +kernel
theorem dL_law_965 : decode cL_law 965 = .ok (.istore 5, 2) := by decide +kernel
theorem dL_law_967 : decode cL_law 967 = .ok (.aload_n 2, 1) := by decide +kernel
theorem dL_law_968 : decode cL_law 968 = .ok (.aload_n 0, 1) := by decide +kernel
theorem dL_law_969 : decode cL_law 969 = .ok (.iload 4, 2) := by decide +kernel
theorem dL_law_971 : decode cL_law 971 = .ok (.iconst 1, 1) := by decide +kernel
theorem dL_law_972 : decode cL_law 972 = .ok (.iadd, 1) := by decide +kernel
theorem dL_law_973 : decode cL_law 973 = .ok (.iaload, 1) := by decide +kernel
theorem dL_law_974 : decode cL_law 974 = .ok (.invokevirtual 162, 3) := by decide +kernel
theorem dL_law_977 : decode cL_law 977 = .ok (.istore 6, 2) := by decide +kernel
theorem dL_law_979 : decode cL_law 979 = .ok (.aload_n 2, 1) := by decide +kernel
theorem dL_law_980 : decode cL_law 980 = .ok (.invokevirtual 113, 3) := by decide +kernel
theorem dL_law_983 : decode cL_law 983 = .ok (.iload 5, 2) := by decide +kernel
theorem dL_law_985 : decode cL_law 985 = .ok (.if_icmp .eq 5, 3) := by decide +kernel
theorem dL_law_988 : decode cL_law 988 = .ok (.iconst 0, 1) := by decide +kernel
theorem dL_law_989 : decode cL_law 989 = .ok (.ireturn, 1) := by decide +kernel
theorem dL_law_990 : decode cL_law 990 = .ok (.iload 5, 2) := by decide +kernel
theorem dL_law_992 : decode cL_law 992 = .ok (.ifCond .ne 15, 3) := by decide +kernel
theorem dL_law_995 : decode cL_law 995 = .ok (.aload_n 3, 1) := by decide +kernel
theorem dL_law_996 : decode cL_law 996 = .ok (.iconst 0, 1) := by decide +kernel
theorem dL_law_997 : decode cL_law 997 = .ok (.laload, 1) := by decide +kernel
theorem dL_law_998 : decode cL_law 998 = .ok (.iload 6, 2) := by decide +kernel
theorem dL_law_1000 : decode cL_law 1000 = .ok (.i2l, 1) := by decide +kernel
theorem dL_law_1001 : decode cL_law 1001 = .ok (.lcmp, 1) := by decide +kernel
theorem dL_law_1002 : decode cL_law 1002 = .ok (.ifCond .eq 5, 3) := by decide +kernel
theorem dL_law_1005 : decode cL_law 1005 = .ok (.iconst 0, 1) := by decide +kernel
theorem dL_law_1006 : decode cL_law 1006 = .ok (.ireturn, 1) := by decide +kernel
theorem dL_law_1007 : decode cL_law 1007 = .ok (.goto 939, 3) := by decide +kernel
theorem dL_law_1010 : decode cL_law 1010 = .ok (.aload_n 1, 1) := by decide +kernel
theorem dL_law_1011 : decode cL_law 1011 = .ok (.aload_n 0, 1) := by decide +kernel
theorem dL_law_1012 : decode cL_law 1012 = .ok (.iload 4, 2) := by decide +kernel
theorem dL_law_1014 : decode cL_law 1014 = .ok (.iconst 1, 1) := by decide +kernel
theorem dL_law_1015 : decode cL_law 1015 = .ok (.iadd, 1) := by decide +kernel
theorem dL_law_1016 : decode cL_law 1016 = .ok (.iaload, 1) := by decide +kernel
theorem dL_law_1017 : decode cL_law 1017 = .ok (.aload_n 3, 1) := by decide +kernel
theorem dL_law_1018 : decode cL_law 1018 = .ok (.invokestatic 163, 3) := by decide +kernel
theorem dL_law_1021 : decode cL_law 1021 = .ok (.istore 5, 2) := by decide +kernel
theorem dL_law_1023 : decode cL_law 1023 = .ok (.aload_n 2, 1) := by decide +kernel
theorem dL_law_1024 : decode cL_law 1024 = .ok (.aload_n 0, 1) := by decide +kernel
theorem dL_law_1025 : decode cL_law 1025 = .ok (.iload 4, 2) := by decide +kernel
theorem dL_law_1027 : decode cL_law 1027 = .ok (.iconst 1, 1) := by decide +kernel
theorem dL_law_1028 : decode cL_law 1028 = .ok (.iadd, 1) := by decide +kernel
theorem dL_law_1029 : decode cL_law 1029 = .ok (.iaload, 1) := by decide +kernel
theorem dL_law_1030 : decode cL_law 1030 = .ok (.invokevirtual 165, 3) := by decide +kernel
theorem dL_law_1033 : decode cL_law 1033 = .ok (.istore 6, 2) := by decide +kernel
theorem dL_law_1035 : decode cL_law 1035 = .ok (.aload_n 2, 1) := by decide +kernel
theorem dL_law_1036 : decode cL_law 1036 = .ok (.invokevirtual 113, 3) := by decide +kernel
theorem dL_law_1039 : decode cL_law 1039 = .ok (.iload 5, 2) := by decide +kernel
theorem dL_law_1041 : decode cL_law 1041 = .ok (.if_icmp .eq 5, 3) := by decide +kernel
theorem dL_law_1044 : decode cL_law 1044 = .ok (.iconst 0, 1) := by decide +kernel
theorem dL_law_1045 : decode cL_law 1045 = .ok (.ireturn, 1) := by decide +kernel
theorem dL_law_1046 : decode cL_law 1046 = .ok (.iload 5, 2) := by decide +kernel
theorem dL_law_1048 : decode cL_law 1048 = .ok (.ifCond .ne 15, 3) := by decide +kernel
theorem dL_law_1051 : decode cL_law 1051 = .ok (.aload_n 3, 1) := by decide +kernel
theorem dL_law_1052 : decode cL_law 1052 = .ok (.iconst 0, 1) := by decide +kernel
theorem dL_law_1053 : decode cL_law 1053 = .ok (.laload, 1) := by decide +kernel
theorem dL_law_1054 : decode cL_law 1054 = .ok (.iload 6, 2) := by decide +kernel
theorem dL_law_1056 : decode cL_law 1056 = .ok (.i2l, 1) := by decide +kernel
theorem dL_law_1057 : decode cL_law 1057 = .ok (.lcmp, 1) := by decide +kernel
theorem dL_law_1058 : decode cL_law 1058 = .ok (.ifCond .eq 5, 3) := by decide +kernel
theorem dL_law_1061 : decode cL_law 1061 = .ok (.iconst 0, 1) := by decide +kernel
theorem dL_law_1062 : decode cL_law 1062 = .ok (.ireturn, 1) := by decide +kernel
theorem dL_law_1063 : decode cL_law 1063 = .ok (.goto 883, 3) := by decide +kernel
theorem dL_law_1066 : decode cL_law 1066 = .ok (.aload_n 1, 1) := by decide +kernel
theorem dL_law_1067 : decode cL_law 1067 = .ok (.aload_n 0, 1) := by decide +kernel
theorem dL_law_1068 : decode cL_law 1068 = .ok (.iload 4, 2) := by decide +kernel
theorem dL_law_1070 : decode cL_law 1070 = .ok (.iconst 1, 1) := by decide +kernel
theorem dL_law_1071 : decode cL_law 1071 = .ok (.iadd, 1) := by decide +kernel
theorem dL_law_1072 : decode cL_law 1072 = .ok (.iaload, 1) := by decide +kernel
theorem dL_law_1073 : decode cL_law 1073 = .ok (.aload_n 0, 1) := by decide +kernel
theorem dL_law_1074 : decode cL_law 1074 = .ok (.iload 4, 2) := by decide +kernel
theorem dL_law_1076 : decode cL_law 1076 = .ok (.iconst 2, 1) := by decide +kernel
theorem dL_law_1077 : decode cL_law 1077 = .ok (.iadd, 1) := by decide +kernel
theorem dL_law_1078 : decode cL_law 1078 = .ok (.iaload, 1) := by decide +kernel
theorem dL_law_1079 : decode cL_law 1079 = .ok (.aload_n 3, 1) := by decide +kernel
theorem dL_law_1080 : decode cL_law 1080 = .ok (.invokestatic 166, 3) := by decide +kernel
theorem dL_law_1083 : decode cL_law 1083 = .ok (.istore 5, 2) := by decide +kernel
theorem dL_law_1085 : decode cL_law 1085 = .ok (.aload_n 2, 1) := by decide +kernel
theorem dL_law_1086 : decode cL_law 1086 = .ok (.aload_n 0, 1) := by decide +kernel
theorem dL_law_1087 : decode cL_law 1087 = .ok (.iload 4, 2) := by decide +kernel
theorem dL_law_1089 : decode cL_law 1089 = .ok (.iconst 1, 1) := by decide +kernel
theorem dL_law_1090 : decode cL_law 1090 = .ok (.iadd, 1) := by decide +kernel
theorem dL_law_1091 : decode cL_law 1091 = .ok (.iaload, 1) := by decide +kernel
theorem dL_law_1092 : decode cL_law 1092 = .ok (.aload_n 0, 1) := by decide +kernel
theorem dL_law_1093 : decode cL_law 1093 = .ok (.iload 4, 2) := by decide +kernel
theorem dL_law_1095 : decode cL_law 1095 = .ok (.iconst 2, 1) := by decide +kernel
theorem dL_law_1096 : decode cL_law 1096 = .ok (.iadd, 1) := by decide +kernel
theorem dL_law_1097 : decode cL_law 1097 = .ok (.iaload, 1) := by decide +kernel
theorem dL_law_1098 : decode cL_law 1098 = .ok (.invokevirtual 168, 3) := by decide +kernel
theorem dL_law_1101 : decode cL_law 1101 = .ok (.istore 6, 2) := by decide +kernel
theorem dL_law_1103 : decode cL_law 1103 = .ok (.aload_n 2, 1) := by decide +kernel
theorem dL_law_1104 : decode cL_law 1104 = .ok (.invokevirtual 113, 3) := by decide +kernel
theorem dL_law_1107 : decode cL_law 1107 = .ok (.iload 5, 2) := by decide +kernel
theorem dL_law_1109 : decode cL_law 1109 = .ok (.if_icmp .eq 5, 3) := by decide +kernel
theorem dL_law_1112 : decode cL_law 1112 = .ok (.iconst 0, 1) := by decide +kernel
theorem dL_law_1113 : decode cL_law 1113 = .ok (.ireturn, 1) := by decide +kernel
theorem dL_law_1114 : decode cL_law 1114 = .ok (.iload 5, 2) := by decide +kernel
theorem dL_law_1116 : decode cL_law 1116 = .ok (.ifCond .ne 15, 3) := by decide +kernel
theorem dL_law_1119 : decode cL_law 1119 = .ok (.aload_n 3, 1) := by decide +kernel
theorem dL_law_1120 : decode cL_law 1120 = .ok (.iconst 0, 1) := by decide +kernel
theorem dL_law_1121 : decode cL_law 1121 = .ok (.laload, 1) := by decide +kernel
theorem dL_law_1122 : decode cL_law 1122 = .ok (.iload 6, 2) := by decide +kernel
theorem dL_law_1124 : decode cL_law 1124 = .ok (.i2l, 1) := by decide +kernel
theorem dL_law_1125 : decode cL_law 1125 = .ok (.lcmp, 1) := by decide +kernel
theorem dL_law_1126 : decode cL_law 1126 = .ok (.ifCond .eq 5, 3) := by decide +kernel
theorem dL_law_1129 : decode cL_law 1129 = .ok (.iconst 0, 1) := by decide +kernel
theorem dL_law_1130 : decode cL_law 1130 = .ok (.ireturn, 1) := by decide +kernel
theorem dL_law_1131 : decode cL_law 1131 = .ok (.goto 815, 3) := by decide +kernel
theorem dL_law_1134 : decode cL_law 1134 = .ok (.aload_n 1, 1) := by decide +kernel
theorem dL_law_1135 : decode cL_law 1135 = .ok (.aload_n 0, 1) := by decide +kernel
theorem dL_law_1136 : decode cL_law 1136 = .ok (.iload 4, 2) := by decide +kernel
theorem dL_law_1138 : decode cL_law 1138 = .ok (.iconst 1, 1) := by decide +kernel
theorem dL_law_1139 : decode cL_law 1139 = .ok (.iadd, 1) := by decide +kernel
theorem dL_law_1140 : decode cL_law 1140 = .ok (.iaload, 1) := by decide +kernel
theorem dL_law_1141 : decode cL_law 1141 = .ok (.aload_n 3, 1) := by decide +kernel
theorem dL_law_1142 : decode cL_law 1142 = .ok (.invokestatic 169, 3) := by decide +kernel
theorem dL_law_1145 : decode cL_law 1145 = .ok (.istore 5, 2) := by decide +kernel
theorem dL_law_1147 : decode cL_law 1147 = .ok (.aload_n 2, 1) := by decide +kernel
theorem dL_law_1148 : decode cL_law 1148 = .ok (.aload_n 0, 1) := by decide +kernel
theorem dL_law_1149 : decode cL_law 1149 = .ok (.iload 4, 2) := by decide +kernel
theorem dL_law_1151 : decode cL_law 1151 = .ok (.iconst 1, 1) := by decide +kernel
theorem dL_law_1152 : decode cL_law 1152 = .ok (.iadd, 1) := by decide +kernel
theorem dL_law_1153 : decode cL_law 1153 = .ok (.iaload, 1) := by decide +kernel
theorem dL_law_1154 : decode cL_law 1154 = .ok (.invokevirtual 171, 3) := by decide +kernel
theorem dL_law_1157 : decode cL_law 1157 = .ok (.istore 6, 2) := by decide +kernel
theorem dL_law_1159 : decode cL_law 1159 = .ok (.aload_n 2, 1) := by decide +kernel
theorem dL_law_1160 : decode cL_law 1160 = .ok (.invokevirtual 113, 3) := by decide +kernel
theorem dL_law_1163 : decode cL_law 1163 = .ok (.iload 5, 2) := by decide +kernel
theorem dL_law_1165 : decode cL_law 1165 = .ok (.if_icmp .eq 5, 3) := by decide +kernel
theorem dL_law_1168 : decode cL_law 1168 = .ok (.iconst 0, 1) := by decide +kernel
theorem dL_law_1169 : decode cL_law 1169 = .ok (.ireturn, 1) := by decide +kernel
theorem dL_law_1170 : decode cL_law 1170 = .ok (.iload 5, 2) := by decide +kernel
theorem dL_law_1172 : decode cL_law 1172 = .ok (.ifCond .ne 15, 3) := by decide +kernel
theorem dL_law_1175 : decode cL_law 1175 = .ok (.aload_n 3, 1) := by decide +kernel
theorem dL_law_1176 : decode cL_law 1176 = .ok (.iconst 0, 1) := by decide +kernel
theorem dL_law_1177 : decode cL_law 1177 = .ok (.laload, 1) := by decide +kernel
theorem dL_law_1178 : decode cL_law 1178 = .ok (.iload 6, 2) := by decide +kernel
theorem dL_law_1180 : decode cL_law 1180 = .ok (.i2l, 1) := by decide +kernel
theorem dL_law_1181 : decode cL_law 1181 = .ok (.lcmp, 1) := by decide +kernel
theorem dL_law_1182 : decode cL_law 1182 = .ok (.ifCond .eq 5, 3) := by decide +kernel
theorem dL_law_1185 : decode cL_law 1185 = .ok (.iconst 0, 1) := by decide +kernel
theorem dL_law_1186 : decode cL_law 1186 = .ok (.ireturn, 1) := by decide +kernel
theorem dL_law_1187 : decode cL_law 1187 = .ok (.goto 759, 3) := by decide +kernel
theorem dL_law_1190 : decode cL_law 1190 = .ok (.aload_n 1, 1) := by decide +kernel
theorem dL_law_1191 : decode cL_law 1191 = .ok (.aload_n 0, 1) := by decide +kernel
theorem dL_law_1192 : decode cL_law 1192 = .ok (.iload 4, 2) := by decide +kernel
theorem dL_law_1194 : decode cL_law 1194 = .ok (.iconst 1, 1) := by decide +kernel
theorem dL_law_1195 : decode cL_law 1195 = .ok (.iadd, 1) := by decide +kernel
theorem dL_law_1196 : decode cL_law 1196 = .ok (.iaload, 1) := by decide +kernel
theorem dL_law_1197 : decode cL_law 1197 = .ok (.aload_n 3, 1) := by decide +kernel
theorem dL_law_1198 : decode cL_law 1198 = .ok (.invokestatic 172, 3) := by decide +kernel
theorem dL_law_1201 : decode cL_law 1201 = .ok (.istore 5, 2) := by decide +kernel
theorem dL_law_1203 : decode cL_law 1203 = .ok (.aload_n 2, 1) := by decide +kernel
theorem dL_law_1204 : decode cL_law 1204 = .ok (.aload_n 0, 1) := by decide +kernel
theorem dL_law_1205 : decode cL_law 1205 = .ok (.iload 4, 2) := by decide +kernel
theorem dL_law_1207 : decode cL_law 1207 = .ok (.iconst 1, 1) := by decide +kernel
theorem dL_law_1208 : decode cL_law 1208 = .ok (.iadd, 1) := by decide +kernel
theorem dL_law_1209 : decode cL_law 1209 = .ok (.iaload, 1) := by decide +kernel
theorem dL_law_1210 : decode cL_law 1210 = .ok (.invokevirtual 174, 3) := by decide +kernel
theorem dL_law_1213 : decode cL_law 1213 = .ok (.istore 6, 2) := by decide +kernel
theorem dL_law_1215 : decode cL_law 1215 = .ok (.aload_n 2, 1) := by decide +kernel
theorem dL_law_1216 : decode cL_law 1216 = .ok (.invokevirtual 113, 3) := by decide +kernel
theorem dL_law_1219 : decode cL_law 1219 = .ok (.iload 5, 2) := by decide +kernel
theorem dL_law_1221 : decode cL_law 1221 = .ok (.if_icmp .eq 5, 3) := by decide +kernel
theorem dL_law_1224 : decode cL_law 1224 = .ok (.iconst 0, 1) := by decide +kernel
theorem dL_law_1225 : decode cL_law 1225 = .ok (.ireturn, 1) := by decide +kernel
theorem dL_law_1226 : decode cL_law 1226 = .ok (.iload 5, 2) := by decide +kernel
theorem dL_law_1228 : decode cL_law 1228 = .ok (.ifCond .ne 15, 3) := by decide +kernel
theorem dL_law_1231 : decode cL_law 1231 = .ok (.aload_n 3, 1) := by decide +kernel
theorem dL_law_1232 : decode cL_law 1232 = .ok (.iconst 0, 1) := by decide +kernel
theorem dL_law_1233 : decode cL_law 1233 = .ok (.laload, 1) := by decide +kernel
theorem dL_law_1234 : decode cL_law 1234 = .ok (.iload 6, 2) := by decide +kernel
theorem dL_law_1236 : decode cL_law 1236 = .ok (.i2l, 1) := by decide +kernel
theorem dL_law_1237 : decode cL_law 1237 = .ok (.lcmp, 1) := by decide +kernel
theorem dL_law_1238 : decode cL_law 1238 = .ok (.ifCond .eq 5, 3) := by decide +kernel
theorem dL_law_1241 : decode cL_law 1241 = .ok (.iconst 0, 1) := by decide +kernel
theorem dL_law_1242 : decode cL_law 1242 = .ok (.ireturn, 1) := by decide +kernel
theorem dL_law_1243 : decode cL_law 1243 = .ok (.goto 703, 3) := by decide +kernel
theorem dL_law_1246 : decode cL_law 1246 = .ok (.aload_n 1, 1) := by decide +kernel
theorem dL_law_1247 : decode cL_law 1247 = .ok (.aload_n 0, 1) := by decide +kernel
theorem dL_law_1248 : decode cL_law 1248 = .ok (.iload 4, 2) := by decide +kernel
theorem dL_law_1250 : decode cL_law 1250 = .ok (.iconst 1, 1) := by decide +kernel
theorem dL_law_1251 : decode cL_law 1251 = .ok (.iadd, 1) := by decide +kernel
theorem dL_law_1252 : decode cL_law 1252 = .ok (.iaload, 1) := by decide +kernel
theorem dL_law_1253 : decode cL_law 1253 = .ok (.aload_n 3, 1) := by decide +kernel
theorem dL_law_1254 : decode cL_law 1254 = .ok (.invokestatic 175, 3) := by decide +kernel
theorem dL_law_1257 : decode cL_law 1257 = .ok (.istore 5, 2) := by decide +kernel
theorem dL_law_1259 : decode cL_law 1259 = .ok (.aload_n 2, 1) := by decide +kernel
theorem dL_law_1260 : decode cL_law 1260 = .ok (.aload_n 0, 1) := by decide +kernel
theorem dL_law_1261 : decode cL_law 1261 = .ok (.iload 4, 2) := by decide +kernel
theorem dL_law_1263 : decode cL_law 1263 = .ok (.iconst 1, 1) := by decide +kernel
theorem dL_law_1264 : decode cL_law 1264 = .ok (.iadd, 1) := by decide +kernel
theorem dL_law_1265 : decode cL_law 1265 = .ok (.iaload, 1) := by decide +kernel
theorem dL_law_1266 : decode cL_law 1266 = .ok (.invokevirtual 177, 3) := by decide +kernel
theorem dL_law_1269 : decode cL_law 1269 = .ok (.istore 6, 2) := by decide +kernel
theorem dL_law_1271 : decode cL_law 1271 = .ok (.aload_n 2, 1) := by decide +kernel
theorem dL_law_1272 : decode cL_law 1272 = .ok (.invokevirtual 113, 3) := by decide +kernel
theorem dL_law_1275 : decode cL_law 1275 = .ok (.iload 5, 2) := by decide +kernel
theorem dL_law_1277 : decode cL_law 1277 = .ok (.if_icmp .eq 5, 3) := by decide +kernel
theorem dL_law_1280 : decode cL_law 1280 = .ok (.iconst 0, 1) := by decide +kernel
theorem dL_law_1281 : decode cL_law 1281 = .ok (.ireturn, 1) := by decide +kernel
theorem dL_law_1282 : decode cL_law 1282 = .ok (.iload 5, 2) := by decide +kernel
theorem dL_law_1284 : decode cL_law 1284 = .ok (.ifCond .ne 15, 3) := by decide +kernel
theorem dL_law_1287 : decode cL_law 1287 = .ok (.aload_n 3, 1) := by decide +kernel
theorem dL_law_1288 : decode cL_law 1288 = .ok (.iconst 0, 1) := by decide +kernel
theorem dL_law_1289 : decode cL_law 1289 = .ok (.laload, 1) := by decide +kernel
theorem dL_law_1290 : decode cL_law 1290 = .ok (.iload 6, 2) := by decide +kernel
theorem dL_law_1292 : decode cL_law 1292 = .ok (.i2l, 1) := by decide +kernel
theorem dL_law_1293 : decode cL_law 1293 = .ok (.lcmp, 1) := by decide +kernel
theorem dL_law_1294 : decode cL_law 1294 = .ok (.ifCond .eq 5, 3) := by decide +kernel
theorem dL_law_1297 : decode cL_law 1297 = .ok (.iconst 0, 1) := by decide +kernel
theorem dL_law_1298 : decode cL_law 1298 = .ok (.ireturn, 1) := by decide +kernel
theorem dL_law_1299 : decode cL_law 1299 = .ok (.goto 647, 3) := by decide +kernel
theorem dL_law_1302 : decode cL_law 1302 = .ok (.aload_n 1, 1) := by decide +kernel
theorem dL_law_1303 : decode cL_law 1303 = .ok (.aload_n 0, 1) := by decide +kernel
theorem dL_law_1304 : decode cL_law 1304 = .ok (.iload 4, 2) := by decide +kernel
theorem dL_law_1306 : decode cL_law 1306 = .ok (.iconst 1, 1) := by decide +kernel
theorem dL_law_1307 : decode cL_law 1307 = .ok (.iadd, 1) := by decide +kernel
theorem dL_law_1308 : decode cL_law 1308 = .ok (.iaload, 1) := by decide +kernel
theorem dL_law_1309 : decode cL_law 1309 = .ok (.aload_n 0, 1) := by decide +kernel
theorem dL_law_1310 : decode cL_law 1310 = .ok (.iload 4, 2) := by decide +kernel
theorem dL_law_1312 : decode cL_law 1312 = .ok (.iconst 2, 1) := by decide +kernel
theorem dL_law_1313 : decode cL_law 1313 = .ok (.iadd, 1) := by decide +kernel
theorem dL_law_1314 : decode cL_law 1314 = .ok (.iaload, 1) := by decide +kernel
theorem dL_law_1315 : decode cL_law 1315 = .ok (.aload_n 0, 1) := by decide +kernel
theorem dL_law_1316 : decode cL_law 1316 = .ok (.iload 4, 2) := by decide +kernel
theorem dL_law_1318 : decode cL_law 1318 = .ok (.iconst 3, 1) := by decide +kernel
theorem dL_law_1319 : decode cL_law 1319 = .ok (.iadd, 1) := by decide +kernel
theorem dL_law_1320 : decode cL_law 1320 = .ok (.iaload, 1) := by decide +kernel
theorem dL_law_1321 : decode cL_law 1321 = .ok (.ifCond .eq 7, 3) := by decide +kernel
theorem dL_law_1324 : decode cL_law 1324 = .ok (.iconst 1, 1) := by decide +kernel
theorem dL_law_1325 : decode cL_law 1325 = .ok (.goto 4, 3) := by decide +kernel
theorem dL_law_1328 : decode cL_law 1328 = .ok (.iconst 0, 1) := by decide +kernel
theorem dL_law_1329 : decode cL_law 1329 = .ok (.aload_n 3, 1) := by decide +kernel
theorem dL_law_1330 : decode cL_law 1330 = .ok (.invokestatic 178, 3) := by decide +kernel
theorem dL_law_1333 : decode cL_law 1333 = .ok (.istore 5, 2) := by decide +kernel
theorem dL_law_1335 : decode cL_law 1335 = .ok (.aload_n 2, 1) := by decide +kernel
theorem dL_law_1336 : decode cL_law 1336 = .ok (.aload_n 0, 1) := by decide +kernel
theorem dL_law_1337 : decode cL_law 1337 = .ok (.iload 4, 2) := by decide +kernel
theorem dL_law_1339 : decode cL_law 1339 = .ok (.iconst 1, 1) := by decide +kernel
theorem dL_law_1340 : decode cL_law 1340 = .ok (.iadd, 1) := by decide +kernel
theorem dL_law_1341 : decode cL_law 1341 = .ok (.iaload, 1) := by decide +kernel
theorem dL_law_1342 : decode cL_law 1342 = .ok (.aload_n 0, 1) := by decide +kernel
theorem dL_law_1343 : decode cL_law 1343 = .ok (.iload 4, 2) := by decide +kernel
theorem dL_law_1345 : decode cL_law 1345 = .ok (.iconst 2, 1) := by decide +kernel
theorem dL_law_1346 : decode cL_law 1346 = .ok (.iadd, 1) := by decide +kernel
theorem dL_law_1347 : decode cL_law 1347 = .ok (.iaload, 1) := by decide +kernel
theorem dL_law_1348 : decode cL_law 1348 = .ok (.aload_n 0, 1) := by decide +kernel
theorem dL_law_1349 : decode cL_law 1349 = .ok (.iload 4, 2) := by decide +kernel
theorem dL_law_1351 : decode cL_law 1351 = .ok (.iconst 3, 1) := by decide +kernel
theorem dL_law_1352 : decode cL_law 1352 = .ok (.iadd, 1) := by decide +kernel
theorem dL_law_1353 : decode cL_law 1353 = .ok (.iaload, 1) := by decide +kernel
theorem dL_law_1354 : decode cL_law 1354 = .ok (.ifCond .eq 7, 3) := by decide +kernel
theorem dL_law_1357 : decode cL_law 1357 = .ok (.iconst 1, 1) := by decide +kernel
theorem dL_law_1358 : decode cL_law 1358 = .ok (.goto 4, 3) := by decide +kernel
theorem dL_law_1361 : decode cL_law 1361 = .ok (.iconst 0, 1) := by decide +kernel
theorem dL_law_1362 : decode cL_law 1362 = .ok (.invokevirtual 181, 3) := by decide +kernel
theorem dL_law_1365 : decode cL_law 1365 = .ok (.istore 6, 2) := by decide +kernel
theorem dL_law_1367 : decode cL_law 1367 = .ok (.aload_n 2, 1) := by decide +kernel
theorem dL_law_1368 : decode cL_law 1368 = .ok (.invokevirtual 113, 3) := by decide +kernel
theorem dL_law_1371 : decode cL_law 1371 = .ok (.iload 5, 2) := by decide +kernel
theorem dL_law_1373 : decode cL_law 1373 = .ok (.if_icmp .eq 5, 3) := by decide +kernel
theorem dL_law_1376 : decode cL_law 1376 = .ok (.iconst 0, 1) := by decide +kernel
theorem dL_law_1377 : decode cL_law 1377 = .ok (.ireturn, 1) := by decide +kernel
theorem dL_law_1378 : decode cL_law 1378 = .ok (.iload 5, 2) := by decide +kernel
theorem dL_law_1380 : decode cL_law 1380 = .ok (.ifCond .ne 15, 3) := by decide +kernel
theorem dL_law_1383 : decode cL_law 1383 = .ok (.aload_n 3, 1) := by decide +kernel
theorem dL_law_1384 : decode cL_law 1384 = .ok (.iconst 0, 1) := by decide +kernel
theorem dL_law_1385 : decode cL_law 1385 = .ok (.laload, 1) := by decide +kernel
theorem dL_law_1386 : decode cL_law 1386 = .ok (.iload 6, 2) := by decide +kernel
theorem dL_law_1388 : decode cL_law 1388 = .ok (.i2l, 1) := by decide +kernel
theorem dL_law_1389 : decode cL_law 1389 = .ok (.lcmp, 1) := by decide +kernel
theorem dL_law_1390 : decode cL_law 1390 = .ok (.ifCond .eq 5, 3) := by decide +kernel
theorem dL_law_1393 : decode cL_law 1393 = .ok (.iconst 0, 1) := by decide +kernel
theorem dL_law_1394 : decode cL_law 1394 = .ok (.ireturn, 1) := by decide +kernel
theorem dL_law_1395 : decode cL_law 1395 = .ok (.goto 551, 3) := by decide +kernel
theorem dL_law_1398 : decode cL_law 1398 = .ok (.aload_n 1, 1) := by decide +kernel
theorem dL_law_1399 : decode cL_law 1399 = .ok (.aload_n 0, 1) := by decide +kernel
theorem dL_law_1400 : decode cL_law 1400 = .ok (.iload 4, 2) := by decide +kernel
theorem dL_law_1402 : decode cL_law 1402 = .ok (.iconst 1, 1) := by decide +kernel
theorem dL_law_1403 : decode cL_law 1403 = .ok (.iadd, 1) := by decide +kernel
theorem dL_law_1404 : decode cL_law 1404 = .ok (.iaload, 1) := by decide +kernel
theorem dL_law_1405 : decode cL_law 1405 = .ok (.aload_n 3, 1) := by decide +kernel
theorem dL_law_1406 : decode cL_law 1406 = .ok (.invokestatic 182, 3) := by decide +kernel
theorem dL_law_1409 : decode cL_law 1409 = .ok (.istore 5, 2) := by decide +kernel
theorem dL_law_1411 : decode cL_law 1411 = .ok (.aload_n 2, 1) := by decide +kernel
theorem dL_law_1412 : decode cL_law 1412 = .ok (.aload_n 0, 1) := by decide +kernel
theorem dL_law_1413 : decode cL_law 1413 = .ok (.iload 4, 2) := by decide +kernel
theorem dL_law_1415 : decode cL_law 1415 = .ok (.iconst 1, 1) := by decide +kernel
theorem dL_law_1416 : decode cL_law 1416 = .ok (.iadd, 1) := by decide +kernel
theorem dL_law_1417 : decode cL_law 1417 = .ok (.iaload, 1) := by decide +kernel
theorem dL_law_1418 : decode cL_law 1418 = .ok (.invokevirtual 184, 3) := by decide +kernel
theorem dL_law_1421 : decode cL_law 1421 = .ok (.istore 6, 2) := by decide +kernel
theorem dL_law_1423 : decode cL_law 1423 = .ok (.aload_n 2, 1) := by decide +kernel
theorem dL_law_1424 : decode cL_law 1424 = .ok (.invokevirtual 113, 3) := by decide +kernel
theorem dL_law_1427 : decode cL_law 1427 = .ok (.iload 5, 2) := by decide +kernel
theorem dL_law_1429 : decode cL_law 1429 = .ok (.if_icmp .eq 5, 3) := by decide +kernel
theorem dL_law_1432 : decode cL_law 1432 = .ok (.iconst 0, 1) := by decide +kernel
theorem dL_law_1433 : decode cL_law 1433 = .ok (.ireturn, 1) := by decide +kernel
theorem dL_law_1434 : decode cL_law 1434 = .ok (.iload 5, 2) := by decide +kernel
theorem dL_law_1436 : decode cL_law 1436 = .ok (.ifCond .ne 15, 3) := by decide +kernel
theorem dL_law_1439 : decode cL_law 1439 = .ok (.aload_n 3, 1) := by decide +kernel
theorem dL_law_1440 : decode cL_law 1440 = .ok (.iconst 0, 1) := by decide +kernel
theorem dL_law_1441 : decode cL_law 1441 = .ok (.laload, 1) := by decide +kernel
theorem dL_law_1442 : decode cL_law 1442 = .ok (.iload 6, 2) := by decide +kernel
theorem dL_law_1444 : decode cL_law 1444 = .ok (.i2l, 1) := by decide +kernel
theorem dL_law_1445 : decode cL_law 1445 = .ok (.lcmp, 1) := by decide +kernel
theorem dL_law_1446 : decode cL_law 1446 = .ok (.ifCond .eq 5, 3) := by decide +kernel
theorem dL_law_1449 : decode cL_law 1449 = .ok (.iconst 0, 1) := by decide +kernel
theorem dL_law_1450 : decode cL_law 1450 = .ok (.ireturn, 1) := by decide +kernel
theorem dL_law_1451 : decode cL_law 1451 = .ok (.goto 495, 3) := by decide +kernel
theorem dL_law_1454 : decode cL_law 1454 = .ok (.aload_n 1, 1) := by decide +kernel
theorem dL_law_1455 : decode cL_law 1455 = .ok (.aload_n 0, 1) := by decide +kernel
theorem dL_law_1456 : decode cL_law 1456 = .ok (.iload 4, 2) := by decide +kernel
theorem dL_law_1458 : decode cL_law 1458 = .ok (.iconst 1, 1) := by decide +kernel
theorem dL_law_1459 : decode cL_law 1459 = .ok (.iadd, 1) := by decide +kernel
theorem dL_law_1460 : decode cL_law 1460 = .ok (.iaload, 1) := by decide +kernel
theorem dL_law_1461 : decode cL_law 1461 = .ok (.aload_n 3, 1) := by decide +kernel
theorem dL_law_1462 : decode cL_law 1462 = .ok (.invokestatic 185, 3) := by decide +kernel
theorem dL_law_1465 : decode cL_law 1465 = .ok (.istore 5, 2) := by decide +kernel
theorem dL_law_1467 : decode cL_law 1467 = .ok (.aload_n 2, 1) := by decide +kernel
theorem dL_law_1468 : decode cL_law 1468 = .ok (.aload_n 0, 1) := by decide +kernel
theorem dL_law_1469 : decode cL_law 1469 = .ok (.iload 4, 2) := by decide +kernel
theorem dL_law_1471 : decode cL_law 1471 = .ok (.iconst 1, 1) := by decide +kernel
theorem dL_law_1472 : decode cL_law 1472 = .ok (.iadd, 1) := by decide +kernel
theorem dL_law_1473 : decode cL_law 1473 = .ok (.iaload, 1) := by decide +kernel
theorem dL_law_1474 : decode cL_law 1474 = .ok (.invokevirtual 187, 3) := by decide +kernel
theorem dL_law_1477 : decode cL_law 1477 = .ok (.istore 6, 2) := by decide +kernel
theorem dL_law_1479 : decode cL_law 1479 = .ok (.aload_n 2, 1) := by decide +kernel
theorem dL_law_1480 : decode cL_law 1480 = .ok (.invokevirtual 113, 3) := by decide +kernel
theorem dL_law_1483 : decode cL_law 1483 = .ok (.iload 5, 2) := by decide +kernel
theorem dL_law_1485 : decode cL_law 1485 = .ok (.if_icmp .eq 5, 3) := by decide +kernel
theorem dL_law_1488 : decode cL_law 1488 = .ok (.iconst 0, 1) := by decide +kernel
theorem dL_law_1489 : decode cL_law 1489 = .ok (.ireturn, 1) := by decide +kernel
theorem dL_law_1490 : decode cL_law 1490 = .ok (.iload 5, 2) := by decide +kernel
theorem dL_law_1492 : decode cL_law 1492 = .ok (.ifCond .ne 22, 3) := by decide +kernel
theorem dL_law_1495 : decode cL_law 1495 = .ok (.aload_n 3, 1) := by decide +kernel
theorem dL_law_1496 : decode cL_law 1496 = .ok (.iconst 0, 1) := by decide +kernel
theorem dL_law_1497 : decode cL_law 1497 = .ok (.laload, 1) := by decide +kernel
theorem dL_law_1498 : decode cL_law 1498 = .ok (.iload 6, 2) := by decide +kernel
theorem dL_law_1500 : decode cL_law 1500 = .ok (.ifCond .eq 7, 3) := by decide +kernel
theorem dL_law_1503 : decode cL_law 1503 = .ok (.lconst 1, 1) := by decide +kernel
theorem dL_law_1504 : decode cL_law 1504 = .ok (.goto 4, 3) := by decide +kernel
theorem dL_law_1507 : decode cL_law 1507 = .ok (.lconst 0, 1) := by decide +kernel
theorem dL_law_1508 : decode cL_law 1508 = .ok (.lcmp, 1) := by decide +kernel
theorem dL_law_1509 : decode cL_law 1509 = .ok (.ifCond .eq 5, 3) := by decide +kernel
theorem dL_law_1512 : decode cL_law 1512 = .ok (.iconst 0, 1) := by decide +kernel
theorem dL_law_1513 : decode cL_law 1513 = .ok (.ireturn, 1) := by decide +kernel
theorem dL_law_1514 : decode cL_law 1514 = .ok (.goto 432, 3) := by decide +kernel
theorem dL_law_1517 : decode cL_law 1517 = .ok (.aload_n 1, 1) := by decide +kernel
theorem dL_law_1518 : decode cL_law 1518 = .ok (.aload_n 0, 1) := by decide +kernel
theorem dL_law_1519 : decode cL_law 1519 = .ok (.iload 4, 2) := by decide +kernel
theorem dL_law_1521 : decode cL_law 1521 = .ok (.iconst 1, 1) := by decide +kernel
theorem dL_law_1522 : decode cL_law 1522 = .ok (.iadd, 1) := by decide +kernel
theorem dL_law_1523 : decode cL_law 1523 = .ok (.iaload, 1) := by decide +kernel
theorem dL_law_1524 : decode cL_law 1524 = .ok (.aload_n 0, 1) := by decide +kernel
theorem dL_law_1525 : decode cL_law 1525 = .ok (.iload 4, 2) := by decide +kernel
theorem dL_law_1527 : decode cL_law 1527 = .ok (.iconst 2, 1) := by decide +kernel
theorem dL_law_1528 : decode cL_law 1528 = .ok (.iadd, 1) := by decide +kernel
theorem dL_law_1529 : decode cL_law 1529 = .ok (.iaload, 1) := by decide +kernel
theorem dL_law_1530 : decode cL_law 1530 = .ok (.aload_n 0, 1) := by decide +kernel
theorem dL_law_1531 : decode cL_law 1531 = .ok (.iload 4, 2) := by decide +kernel
theorem dL_law_1533 : decode cL_law 1533 = .ok (.iconst 3, 1) := by decide +kernel
theorem dL_law_1534 : decode cL_law 1534 = .ok (.iadd, 1) := by decide +kernel
theorem dL_law_1535 : decode cL_law 1535 = .ok (.iaload, 1) := by decide +kernel
theorem dL_law_1536 : decode cL_law 1536 = .ok (.aload_n 3, 1) := by decide +kernel
theorem dL_law_1537 : decode cL_law 1537 = .ok (.invokestatic 188, 3) := by decide +kernel
theorem dL_law_1540 : decode cL_law 1540 = .ok (.istore 5, 2) := by decide +kernel
theorem dL_law_1542 : decode cL_law 1542 = .ok (.aload_n 2, 1) := by decide +kernel
theorem dL_law_1543 : decode cL_law 1543 = .ok (.aload_n 0, 1) := by decide +kernel
theorem dL_law_1544 : decode cL_law 1544 = .ok (.iload 4, 2) := by decide +kernel
theorem dL_law_1546 : decode cL_law 1546 = .ok (.iconst 1, 1) := by decide +kernel
theorem dL_law_1547 : decode cL_law 1547 = .ok (.iadd, 1) := by decide +kernel
theorem dL_law_1548 : decode cL_law 1548 = .ok (.iaload, 1) := by decide +kernel
theorem dL_law_1549 : decode cL_law 1549 = .ok (.aload_n 0, 1) := by decide +kernel
theorem dL_law_1550 : decode cL_law 1550 = .ok (.iload 4, 2) := by decide +kernel
theorem dL_law_1552 : decode cL_law 1552 = .ok (.iconst 2, 1) := by decide +kernel
theorem dL_law_1553 : decode cL_law 1553 = .ok (.iadd, 1) := by decide +kernel
theorem dL_law_1554 : decode cL_law 1554 = .ok (.iaload, 1) := by decide +kernel
theorem dL_law_1555 : decode cL_law 1555 = .ok (.aload_n 0, 1) := by decide +kernel
theorem dL_law_1556 : decode cL_law 1556 = .ok (.iload 4, 2) := by decide +kernel
theorem dL_law_1558 : decode cL_law 1558 = .ok (.iconst 3, 1) := by decide +kernel
theorem dL_law_1559 : decode cL_law 1559 = .ok (.iadd, 1) := by decide +kernel
theorem dL_law_1560 : decode cL_law 1560 = .ok (.iaload, 1) := by decide +kernel
theorem dL_law_1561 : decode cL_law 1561 = .ok (.invokevirtual 190, 3) := by decide +kernel
theorem dL_law_1564 : decode cL_law 1564 = .ok (.istore 6, 2) := by decide +kernel
theorem dL_law_1566 : decode cL_law 1566 = .ok (.aload_n 2, 1) := by decide +kernel
theorem dL_law_1567 : decode cL_law 1567 = .ok (.invokevirtual 113, 3) := by decide +kernel
theorem dL_law_1570 : decode cL_law 1570 = .ok (.iload 5, 2) := by decide +kernel
theorem dL_law_1572 : decode cL_law 1572 = .ok (.if_icmp .eq 5, 3) := by decide +kernel
theorem dL_law_1575 : decode cL_law 1575 = .ok (.iconst 0, 1) := by decide +kernel
theorem dL_law_1576 : decode cL_law 1576 = .ok (.ireturn, 1) := by decide +kernel
theorem dL_law_1577 : decode cL_law 1577 = .ok (.iload 5, 2) := by decide +kernel
theorem dL_law_1579 : decode cL_law 1579 = .ok (.ifCond .ne 15, 3) := by decide +kernel
theorem dL_law_1582 : decode cL_law 1582 = .ok (.aload_n 3, 1) := by decide +kernel
theorem dL_law_1583 : decode cL_law 1583 = .ok (.iconst 0, 1) := by decide +kernel
theorem dL_law_1584 : decode cL_law 1584 = .ok (.laload, 1) := by decide +kernel
theorem dL_law_1585 : decode cL_law 1585 = .ok (.iload 6, 2) := by decide +kernel
theorem dL_law_1587 : decode cL_law 1587 = .ok (.i2l, 1) := by decide +kernel
theorem dL_law_1588 : decode cL_law 1588 = .ok (.lcmp, 1) := by decide +kernel
theorem dL_law_1589 : decode cL_law 1589 = .ok (.ifCond .eq 5, 3) := by decide +kernel
theorem dL_law_1592 : decode cL_law 1592 = .ok (.iconst 0, 1) := by decide +kernel
theorem dL_law_1593 : decode cL_law 1593 = .ok (.ireturn, 1) := by decide +kernel
theorem dL_law_1594 : decode cL_law 1594 = .ok (.goto 352, 3) := by decide +kernel
theorem dL_law_1597 : decode cL_law 1597 = .ok (.aload_n 1, 1) := by decide +kernel
theorem dL_law_1598 : decode cL_law 1598 = .ok (.aload_n 0, 1) := by decide +kernel
theorem dL_law_1599 : decode cL_law 1599 = .ok (.iload 4, 2) := by decide +kernel
theorem dL_law_1601 : decode cL_law 1601 = .ok (.iconst 1, 1) := by decide +kernel
theorem dL_law_1602 : decode cL_law 1602 = .ok (.iadd, 1) := by decide +kernel
theorem dL_law_1603 : decode cL_law 1603 = .ok (.iaload, 1) := by decide +kernel
theorem dL_law_1604 : decode cL_law 1604 = .ok (.aload_n 0, 1) := by decide +kernel
theorem dL_law_1605 : decode cL_law 1605 = .ok (.iload 4, 2) := by decide +kernel
theorem dL_law_1607 : decode cL_law 1607 = .ok (.iconst 2, 1) := by decide +kernel
theorem dL_law_1608 : decode cL_law 1608 = .ok (.iadd, 1) := by decide +kernel
theorem dL_law_1609 : decode cL_law 1609 = .ok (.iaload, 1) := by decide +kernel
theorem dL_law_1610 : decode cL_law 1610 = .ok (.aload_n 3, 1) := by decide +kernel
theorem dL_law_1611 : decode cL_law 1611 = .ok (.invokestatic 191, 3) := by decide +kernel
theorem dL_law_1614 : decode cL_law 1614 = .ok (.istore 5, 2) := by decide +kernel
theorem dL_law_1616 : decode cL_law 1616 = .ok (.aload_n 2, 1) := by decide +kernel
theorem dL_law_1617 : decode cL_law 1617 = .ok (.aload_n 0, 1) := by decide +kernel
theorem dL_law_1618 : decode cL_law 1618 = .ok (.iload 4, 2) := by decide +kernel
theorem dL_law_1620 : decode cL_law 1620 = .ok (.iconst 1, 1) := by decide +kernel
theorem dL_law_1621 : decode cL_law 1621 = .ok (.iadd, 1) := by decide +kernel
theorem dL_law_1622 : decode cL_law 1622 = .ok (.iaload, 1) := by decide +kernel
theorem dL_law_1623 : decode cL_law 1623 = .ok (.aload_n 0, 1) := by decide +kernel
theorem dL_law_1624 : decode cL_law 1624 = .ok (.iload 4, 2) := by decide +kernel
theorem dL_law_1626 : decode cL_law 1626 = .ok (.iconst 2, 1) := by decide +kernel
theorem dL_law_1627 : decode cL_law 1627 = .ok (.iadd, 1) := by decide +kernel
theorem dL_law_1628 : decode cL_law 1628 = .ok (.iaload, 1) := by decide +kernel
theorem dL_law_1629 : decode cL_law 1629 = .ok (.invokevirtual 193, 3) := by decide +kernel
theorem dL_law_1632 : decode cL_law 1632 = .ok (.istore 6, 2) := by decide +kernel
theorem dL_law_1634 : decode cL_law 1634 = .ok (.aload_n 2, 1) := by decide +kernel
theorem dL_law_1635 : decode cL_law 1635 = .ok (.invokevirtual 113, 3) := by decide +kernel
theorem dL_law_1638 : decode cL_law 1638 = .ok (.iload 5, 2) := by decide +kernel
theorem dL_law_1640 : decode cL_law 1640 = .ok (.if_icmp .eq 5, 3) := by decide +kernel
theorem dL_law_1643 : decode cL_law 1643 = .ok (.iconst 0, 1) := by decide +kernel
theorem dL_law_1644 : decode cL_law 1644 = .ok (.ireturn, 1) := by decide +kernel
theorem dL_law_1645 : decode cL_law 1645 = .ok (.iload 5, 2) := by decide +kernel
theorem dL_law_1647 : decode cL_law 1647 = .ok (.ifCond .ne 22, 3) := by decide +kernel
theorem dL_law_1650 : decode cL_law 1650 = .ok (.aload_n 3, 1) := by decide +kernel
theorem dL_law_1651 : decode cL_law 1651 = .ok (.iconst 0, 1) := by decide +kernel
theorem dL_law_1652 : decode cL_law 1652 = .ok (.laload, 1) := by decide +kernel
theorem dL_law_1653 : decode cL_law 1653 = .ok (.iload 6, 2) := by decide +kernel
theorem dL_law_1655 : decode cL_law 1655 = .ok (.ifCond .eq 7, 3) := by decide +kernel
theorem dL_law_1658 : decode cL_law 1658 = .ok (.lconst 1, 1) := by decide +kernel
theorem dL_law_1659 : decode cL_law 1659 = .ok (.goto 4, 3) := by decide +kernel
theorem dL_law_1662 : decode cL_law 1662 = .ok (.lconst 0, 1) := by decide +kernel
theorem dL_law_1663 : decode cL_law 1663 = .ok (.lcmp, 1) := by decide +kernel
theorem dL_law_1664 : decode cL_law 1664 = .ok (.ifCond .eq 5, 3) := by decide +kernel
theorem dL_law_1667 : decode cL_law 1667 = .ok (.iconst 0, 1) := by decide +kernel
theorem dL_law_1668 : decode cL_law 1668 = .ok (.ireturn, 1) := by decide +kernel
theorem dL_law_1669 : decode cL_law 1669 = .ok (.goto 277, 3) := by decide +kernel
theorem dL_law_1672 : decode cL_law 1672 = .ok (.aload_n 1, 1) := by decide +kernel
theorem dL_law_1673 : decode cL_law 1673 = .ok (.aload_n 0, 1) := by decide +kernel
theorem dL_law_1674 : decode cL_law 1674 = .ok (.iload 4, 2) := by decide +kernel
theorem dL_law_1676 : decode cL_law 1676 = .ok (.iconst 1, 1) := by decide +kernel
theorem dL_law_1677 : decode cL_law 1677 = .ok (.iadd, 1) := by decide +kernel
theorem dL_law_1678 : decode cL_law 1678 = .ok (.iaload, 1) := by decide +kernel
theorem dL_law_1679 : decode cL_law 1679 = .ok (.aload_n 0, 1) := by decide +kernel
theorem dL_law_1680 : decode cL_law 1680 = .ok (.iload 4, 2) := by decide +kernel
theorem dL_law_1682 : decode cL_law 1682 = .ok (.iconst 2, 1) := by decide +kernel
theorem dL_law_1683 : decode cL_law 1683 = .ok (.iadd, 1) := by decide +kernel
theorem dL_law_1684 : decode cL_law 1684 = .ok (.iaload, 1) := by decide +kernel
theorem dL_law_1685 : decode cL_law 1685 = .ok (.aload_n 0, 1) := by decide +kernel
theorem dL_law_1686 : decode cL_law 1686 = .ok (.iload 4, 2) := by decide +kernel
theorem dL_law_1688 : decode cL_law 1688 = .ok (.iconst 3, 1) := by decide +kernel
theorem dL_law_1689 : decode cL_law 1689 = .ok (.iadd, 1) := by decide +kernel
theorem dL_law_1690 : decode cL_law 1690 = .ok (.iaload, 1) := by decide +kernel
theorem dL_law_1691 : decode cL_law 1691 = .ok (.aload_n 3, 1) := by decide +kernel
theorem dL_law_1692 : decode cL_law 1692 = .ok (.invokestatic 194, 3) := by decide +kernel
theorem dL_law_1695 : decode cL_law 1695 = .ok (.istore 5, 2) := by decide +kernel
theorem dL_law_1697 : decode cL_law 1697 = .ok (.aload_n 2, 1) := by decide +kernel
theorem dL_law_1698 : decode cL_law 1698 = .ok (.aload_n 0, 1) := by decide +kernel
theorem dL_law_1699 : decode cL_law 1699 = .ok (.iload 4, 2) := by decide +kernel
theorem dL_law_1701 : decode cL_law 1701 = .ok (.iconst 1, 1) := by decide +kernel
theorem dL_law_1702 : decode cL_law 1702 = .ok (.iadd, 1) := by decide +kernel
theorem dL_law_1703 : decode cL_law 1703 = .ok (.iaload, 1) := by decide +kernel
theorem dL_law_1704 : decode cL_law 1704 = .ok (.aload_n 0, 1) := by decide +kernel
theorem dL_law_1705 : decode cL_law 1705 = .ok (.iload 4, 2) := by decide +kernel
theorem dL_law_1707 : decode cL_law 1707 = .ok (.iconst 2, 1) := by decide +kernel
theorem dL_law_1708 : decode cL_law 1708 = .ok (.iadd, 1) := by decide +kernel
theorem dL_law_1709 : decode cL_law 1709 = .ok (.iaload, 1) := by decide +kernel
theorem dL_law_1710 : decode cL_law 1710 = .ok (.aload_n 0, 1) := by decide +kernel
theorem dL_law_1711 : decode cL_law 1711 = .ok (.iload 4, 2) := by decide +kernel
theorem dL_law_1713 : decode cL_law 1713 = .ok (.iconst 3, 1) := by decide +kernel
theorem dL_law_1714 : decode cL_law 1714 = .ok (.iadd, 1) := by decide +kernel
theorem dL_law_1715 : decode cL_law 1715 = .ok (.iaload, 1) := by decide +kernel
theorem dL_law_1716 : decode cL_law 1716 = .ok (.invokevirtual 196, 3) := by decide +kernel
theorem dL_law_1719 : decode cL_law 1719 = .ok (.istore 6, 2) := by decide +kernel
theorem dL_law_1721 : decode cL_law 1721 = .ok (.aload_n 2, 1) := by decide +kernel
theorem dL_law_1722 : decode cL_law 1722 = .ok (.invokevirtual 113, 3) := by decide +kernel
theorem dL_law_1725 : decode cL_law 1725 = .ok (.iload 5, 2) := by decide +kernel
theorem dL_law_1727 : decode cL_law 1727 = .ok (.if_icmp .eq 5, 3) := by decide +kernel
theorem dL_law_1730 : decode cL_law 1730 = .ok (.iconst 0, 1) := by decide +kernel
theorem dL_law_1731 : decode cL_law 1731 = .ok (.ireturn, 1) := by decide +kernel
theorem dL_law_1732 : decode cL_law 1732 = .ok (.iload 5, 2) := by decide +kernel
theorem dL_law_1734 : decode cL_law 1734 = .ok (.ifCond .ne 15, 3) := by decide +kernel
theorem dL_law_1737 : decode cL_law 1737 = .ok (.aload_n 3, 1) := by decide +kernel
theorem dL_law_1738 : decode cL_law 1738 = .ok (.iconst 0, 1) := by decide +kernel
theorem dL_law_1739 : decode cL_law 1739 = .ok (.laload, 1) := by decide +kernel
theorem dL_law_1740 : decode cL_law 1740 = .ok (.iload 6, 2) := by decide +kernel
theorem dL_law_1742 : decode cL_law 1742 = .ok (.i2l, 1) := by decide +kernel
theorem dL_law_1743 : decode cL_law 1743 = .ok (.lcmp, 1) := by decide +kernel
theorem dL_law_1744 : decode cL_law 1744 = .ok (.ifCond .eq 5, 3) := by decide +kernel
theorem dL_law_1747 : decode cL_law 1747 = .ok (.iconst 0, 1) := by decide +kernel
theorem dL_law_1748 : decode cL_law 1748 = .ok (.ireturn, 1) := by decide +kernel
theorem dL_law_1749 : decode cL_law 1749 = .ok (.goto 197, 3) := by decide +kernel
theorem dL_law_1752 : decode cL_law 1752 = .ok (.aload_n 1, 1) := by decide +kernel
theorem dL_law_1753 : decode cL_law 1753 = .ok (.aload_n 0, 1) := by decide +kernel
theorem dL_law_1754 : decode cL_law 1754 = .ok (.iload 4, 2) := by decide +kernel
theorem dL_law_1756 : decode cL_law 1756 = .ok (.iconst 1, 1) := by decide +kernel
theorem dL_law_1757 : decode cL_law 1757 = .ok (.iadd, 1) := by decide +kernel
theorem dL_law_1758 : decode cL_law 1758 = .ok (.iaload, 1) := by decide +kernel
theorem dL_law_1759 : decode cL_law 1759 = .ok (.aload_n 0, 1) := by decide +kernel
theorem dL_law_1760 : decode cL_law 1760 = .ok (.iload 4, 2) := by decide +kernel
theorem dL_law_1762 : decode cL_law 1762 = .ok (.iconst 2, 1) := by decide +kernel
theorem dL_law_1763 : decode cL_law 1763 = .ok (.iadd, 1) := by decide +kernel
theorem dL_law_1764 : decode cL_law 1764 = .ok (.iaload, 1) := by decide +kernel
theorem dL_law_1765 : decode cL_law 1765 = .ok (.aload_n 0, 1) := by decide +kernel
theorem dL_law_1766 : decode cL_law 1766 = .ok (.iload 4, 2) := by decide +kernel
theorem dL_law_1768 : decode cL_law 1768 = .ok (.iconst 3, 1) := by decide +kernel
theorem dL_law_1769 : decode cL_law 1769 = .ok (.iadd, 1) := by decide +kernel
theorem dL_law_1770 : decode cL_law 1770 = .ok (.iaload, 1) := by decide +kernel
theorem dL_law_1771 : decode cL_law 1771 = .ok (.aload_n 3, 1) := by decide +kernel
theorem dL_law_1772 : decode cL_law 1772 = .ok (.invokestatic 197, 3) := by decide +kernel
theorem dL_law_1775 : decode cL_law 1775 = .ok (.istore 5, 2) := by decide +kernel
theorem dL_law_1777 : decode cL_law 1777 = .ok (.aload_n 2, 1) := by decide +kernel
theorem dL_law_1778 : decode cL_law 1778 = .ok (.aload_n 0, 1) := by decide +kernel
theorem dL_law_1779 : decode cL_law 1779 = .ok (.iload 4, 2) := by decide +kernel
theorem dL_law_1781 : decode cL_law 1781 = .ok (.iconst 1, 1) := by decide +kernel
theorem dL_law_1782 : decode cL_law 1782 = .ok (.iadd, 1) := by decide +kernel
theorem dL_law_1783 : decode cL_law 1783 = .ok (.iaload, 1) := by decide +kernel
theorem dL_law_1784 : decode cL_law 1784 = .ok (.aload_n 0, 1) := by decide +kernel
theorem dL_law_1785 : decode cL_law 1785 = .ok (.iload 4, 2) := by decide +kernel
theorem dL_law_1787 : decode cL_law 1787 = .ok (.iconst 2, 1) := by decide +kernel
theorem dL_law_1788 : decode cL_law 1788 = .ok (.iadd, 1) := by decide +kernel
theorem dL_law_1789 : decode cL_law 1789 = .ok (.iaload, 1) := by decide +kernel
theorem dL_law_1790 : decode cL_law 1790 = .ok (.aload_n 0, 1) := by decide +kernel
theorem dL_law_1791 : decode cL_law 1791 = .ok (.iload 4, 2) := by decide +kernel
theorem dL_law_1793 : decode cL_law 1793 = .ok (.iconst 3, 1) := by decide +kernel
theorem dL_law_1794 : decode cL_law 1794 = .ok (.iadd, 1) := by decide +kernel
theorem dL_law_1795 : decode cL_law 1795 = .ok (.iaload, 1) := by decide +kernel
theorem dL_law_1796 : decode cL_law 1796 = .ok (.invokevirtual 199, 3) := by decide +kernel
theorem dL_law_1799 : decode cL_law 1799 = .ok (.istore 6, 2) := by decide +kernel
theorem dL_law_1801 : decode cL_law 1801 = .ok (.aload_n 2, 1) := by decide +kernel
theorem dL_law_1802 : decode cL_law 1802 = .ok (.invokevirtual 113, 3) := by decide +kernel
theorem dL_law_1805 : decode cL_law 1805 = .ok (.iload 5, 2) := by decide +kernel
theorem dL_law_1807 : decode cL_law 1807 = .ok (.if_icmp .eq 5, 3) := by decide +kernel
theorem dL_law_1810 : decode cL_law 1810 = .ok (.iconst 0, 1) := by decide +kernel
theorem dL_law_1811 : decode cL_law 1811 = .ok (.ireturn, 1) := by decide +kernel
theorem dL_law_1812 : decode cL_law 1812 = .ok (.iload 5, 2) := by decide +kernel
theorem dL_law_1814 : decode cL_law 1814 = .ok (.ifCond .ne 15, 3) := by decide +kernel
theorem dL_law_1817 : decode cL_law 1817 = .ok (.aload_n 3, 1) := by decide +kernel
theorem dL_law_1818 : decode cL_law 1818 = .ok (.iconst 0, 1) := by decide +kernel
theorem dL_law_1819 : decode cL_law 1819 = .ok (.laload, 1) := by decide +kernel
theorem dL_law_1820 : decode cL_law 1820 = .ok (.iload 6, 2) := by decide +kernel
theorem dL_law_1822 : decode cL_law 1822 = .ok (.i2l, 1) := by decide +kernel
theorem dL_law_1823 : decode cL_law 1823 = .ok (.lcmp, 1) := by decide +kernel
theorem dL_law_1824 : decode cL_law 1824 = .ok (.ifCond .eq 5, 3) := by decide +kernel
theorem dL_law_1827 : decode cL_law 1827 = .ok (.iconst 0, 1) := by decide +kernel
theorem dL_law_1828 : decode cL_law 1828 = .ok (.ireturn, 1) := by decide +kernel
theorem dL_law_1829 : decode cL_law 1829 = .ok (.goto 117, 3) := by decide +kernel
theorem dL_law_1832 : decode cL_law 1832 = .ok (.aload_n 1, 1) := by decide +kernel
theorem dL_law_1833 : decode cL_law 1833 = .ok (.aload_n 0, 1) := by decide +kernel
theorem dL_law_1834 : decode cL_law 1834 = .ok (.iload 4, 2) := by decide +kernel
theorem dL_law_1836 : decode cL_law 1836 = .ok (.iconst 1, 1) := by decide +kernel
theorem dL_law_1837 : decode cL_law 1837 = .ok (.iadd, 1) := by decide +kernel
theorem dL_law_1838 : decode cL_law 1838 = .ok (.iaload, 1) := by decide +kernel
theorem dL_law_1839 : decode cL_law 1839 = .ok (.aload_n 3, 1) := by decide +kernel
theorem dL_law_1840 : decode cL_law 1840 = .ok (.invokestatic 200, 3) := by decide +kernel
theorem dL_law_1843 : decode cL_law 1843 = .ok (.istore 5, 2) := by decide +kernel
theorem dL_law_1845 : decode cL_law 1845 = .ok (.aload_n 2, 1) := by decide +kernel
theorem dL_law_1846 : decode cL_law 1846 = .ok (.aload_n 0, 1) := by decide +kernel
theorem dL_law_1847 : decode cL_law 1847 = .ok (.iload 4, 2) := by decide +kernel
theorem dL_law_1849 : decode cL_law 1849 = .ok (.iconst 1, 1) := by decide +kernel
theorem dL_law_1850 : decode cL_law 1850 = .ok (.iadd, 1) := by decide +kernel
theorem dL_law_1851 : decode cL_law 1851 = .ok (.iaload, 1) := by decide +kernel
theorem dL_law_1852 : decode cL_law 1852 = .ok (.invokevirtual 202, 3) := by decide +kernel
theorem dL_law_1855 : decode cL_law 1855 = .ok (.istore 6, 2) := by decide +kernel
theorem dL_law_1857 : decode cL_law 1857 = .ok (.aload_n 2, 1) := by decide +kernel
theorem dL_law_1858 : decode cL_law 1858 = .ok (.invokevirtual 113, 3) := by decide +kernel
theorem dL_law_1861 : decode cL_law 1861 = .ok (.iload 5, 2) := by decide +kernel
theorem dL_law_1863 : decode cL_law 1863 = .ok (.if_icmp .eq 5, 3) := by decide +kernel
theorem dL_law_1866 : decode cL_law 1866 = .ok (.iconst 0, 1) := by decide +kernel
theorem dL_law_1867 : decode cL_law 1867 = .ok (.ireturn, 1) := by decide +kernel
theorem dL_law_1868 : decode cL_law 1868 = .ok (.iload 5, 2) := by decide +kernel
theorem dL_law_1870 : decode cL_law 1870 = .ok (.ifCond .ne 15, 3) := by decide +kernel
theorem dL_law_1873 : decode cL_law 1873 = .ok (.aload_n 3, 1) := by decide +kernel
theorem dL_law_1874 : decode cL_law 1874 = .ok (.iconst 0, 1) := by decide +kernel
theorem dL_law_1875 : decode cL_law 1875 = .ok (.laload, 1) := by decide +kernel
theorem dL_law_1876 : decode cL_law 1876 = .ok (.iload 6, 2) := by decide +kernel
theorem dL_law_1878 : decode cL_law 1878 = .ok (.i2l, 1) := by decide +kernel
theorem dL_law_1879 : decode cL_law 1879 = .ok (.lcmp, 1) := by decide +kernel
theorem dL_law_1880 : decode cL_law 1880 = .ok (.ifCond .eq 5, 3) := by decide +kernel
theorem dL_law_1883 : decode cL_law 1883 = .ok (.iconst 0, 1) := by decide +kernel
theorem dL_law_1884 : decode cL_law 1884 = .ok (.ireturn, 1) := by decide +kernel
theorem dL_law_1885 : decode cL_law 1885 = .ok (.goto 61, 3) := by decide +kernel
theorem dL_law_1888 : decode cL_law 1888 = .ok (.aload_n 1, 1) := by decide +kernel
theorem dL_law_1889 : decode cL_law 1889 = .ok (.aload_n 3, 1) := by decide +kernel
theorem dL_law_1890 : decode cL_law 1890 = .ok (.invokestatic 203, 3) := by decide +kernel
theorem dL_law_1893 : decode cL_law 1893 = .ok (.istore 5, 2) := by decide +kernel
theorem dL_law_1895 : decode cL_law 1895 = .ok (.aload_n 2, 1) := by decide +kernel
theorem dL_law_1896 : decode cL_law 1896 = .ok (.invokevirtual 205, 3) := by decide +kernel
theorem dL_law_1899 : decode cL_law 1899 = .ok (.istore 6, 2) := by decide +kernel
theorem dL_law_1901 : decode cL_law 1901 = .ok (.aload_n 2, 1) := by decide +kernel
theorem dL_law_1902 : decode cL_law 1902 = .ok (.invokevirtual 113, 3) := by decide +kernel
theorem dL_law_1905 : decode cL_law 1905 = .ok (.iload 5, 2) := by decide +kernel
theorem dL_law_1907 : decode cL_law 1907 = .ok (.if_icmp .eq 5, 3) := by decide +kernel
theorem dL_law_1910 : decode cL_law 1910 = .ok (.iconst 0, 1) := by decide +kernel
theorem dL_law_1911 : decode cL_law 1911 = .ok (.ireturn, 1) := by decide +kernel
theorem dL_law_1912 : decode cL_law 1912 = .ok (.iload 5, 2) := by decide +kernel
theorem dL_law_1914 : decode cL_law 1914 = .ok (.ifCond .ne 15, 3) := by decide +kernel
theorem dL_law_1917 : decode cL_law 1917 = .ok (.aload_n 3, 1) := by decide +kernel
theorem dL_law_1918 : decode cL_law 1918 = .ok (.iconst 0, 1) := by decide +kernel
theorem dL_law_1919 : decode cL_law 1919 = .ok (.laload, 1) := by decide +kernel
theorem dL_law_1920 : decode cL_law 1920 = .ok (.iload 6, 2) := by decide +kernel
theorem dL_law_1922 : decode cL_law 1922 = .ok (.i2l, 1) := by decide +kernel
theorem dL_law_1923 : decode cL_law 1923 = .ok (.lcmp, 1) := by decide +kernel
theorem dL_law_1924 : decode cL_law 1924 = .ok (.ifCond .eq 5, 3) := by decide +kernel
theorem dL_law_1927 : decode cL_law 1927 = .ok (.iconst 0, 1) := by decide +kernel
theorem dL_law_1928 : decode cL_law 1928 = .ok (.ireturn, 1) := by decide +kernel
theorem dL_law_1929 : decode cL_law 1929 = .ok (.goto 17, 3) := by decide +kernel
theorem dL_law_1932 : decode cL_law 1932 = .ok (.aload_n 1, 1) := by decide +kernel
theorem dL_law_1933 : decode cL_law 1933 = .ok (.invokevirtual 206, 3) := by decide +kernel
theorem dL_law_1936 : decode cL_law 1936 = .ok (.aload_n 2, 1) := by decide +kernel
theorem dL_law_1937 : decode cL_law 1937 = .ok (.invokevirtual 210, 3) := by decide +kernel
theorem dL_law_1940 : decode cL_law 1940 = .ok (.lcmp, 1) := by decide +kernel
theorem dL_law_1941 : decode cL_law 1941 = .ok (.ifCond .eq 5, 3) := by decide +kernel
theorem dL_law_1944 : decode cL_law 1944 = .ok (.iconst 0, 1) := by decide +kernel
theorem dL_law_1945 : decode cL_law 1945 = .ok (.ireturn, 1) := by decide +kernel
theorem dL_law_1946 : decode cL_law 1946 = .ok (.iinc 4 4, 3) := by decide +kernel
theorem dL_law_1949 : decode cL_law 1949 = .ok (.goto (-1926), 3) := by decide +kernel
theorem dL_law_1952 : decode cL_law 1952 = .ok (.iconst 1, 1) := by decide +kernel
theorem dL_law_1953 : decode cL_law 1953 = .ok (.ireturn, 1) := by decide +kernel
