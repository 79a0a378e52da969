theorem dX10_line_66 : decode cX10_line 66 = .ok (.getfield 215, 3) := by decide +kernel
theorem dX10_line_69 : decode cX10_line 69 = .ok (.ifCond .ne 7, 3) := by decide +kernel
theorem dX10_line_72 : decode cX10_line 72 = .ok (.iconst 1, 1) := by decide +kernel
theorem dX10_line_73 : decode cX10_line 73 = .ok (.goto 4, 3) := by decide +kernel
theorem dX10_line_76 : decode cX10_line 76 = .ok (.iconst 0, 1) := by decide +kernel
theorem dX10_line_77 : decode cX10_line 77 = .ok (.invokevirtual 227, 3) := by decide +kernel
theorem dX10_line_80 : decode cX10_line 80 = .ok (.ifCond .eq 19, 3) := by decide +kernel
theorem dX10_line_83 : decode cX10_line 83 = .ok (.aload_n 0, 1) := by decide +kernel
theorem dX10_line_84 : decode cX10_line 84 = .ok (.getfield 87, 3) := by decide +kernel
theorem dX10_line_87 : decode cX10_line 87 = .ok (.iconst 2, 1) := by decide +kernel
theorem dX10_line_88 : decode cX10_line 88 = .ok (.aload_n 0, 1) := by decide +kernel
theorem dX10_line_89 : decode cX10_line 89 = .ok (.iconst 1, 1) := by decide +kernel
theorem dX10_line_90 : decode cX10_line 90 = .ok (.bipush 9, 2) := by decide +kernel
theorem dX10_line_92 : decode cX10_line 92 = .ok (.invokevirtual 161, 3) := by decide +kernel
theorem dX10_line_95 : decode cX10_line 95 = .ok (.iastore, 1) := by decide +kernel
theorem dX10_line_96 : decode cX10_line 96 = .ok (.goto 384, 3) := by decide +kernel
theorem dX10_line_99 : decode cX10_line 99 = .ok (.aload_n 0, 1) := by decide +kernel
theorem dX10_line_100 : decode cX10_line 100 = .ok (.ldc 236, 2) := by decide +kernel
theorem dX10_line_102 : decode cX10_line 102 = .ok (.invokevirtual 178, 3) := by decide +kernel
theorem dX10_line_105 : decode cX10_line 105 = .ok (.ifCond .eq 20, 3) := by decide +kernel
theorem dX10_line_108 : decode cX10_line 108 = .ok (.aload_n 0, 1) := by decide +kernel
theorem dX10_line_109 : decode cX10_line 109 = .ok (.getfield 90, 3) := by decide +kernel
theorem dX10_line_112 : decode cX10_line 112 = .ok (.sipush 964, 3) := by decide +kernel
theorem dX10_line_115 : decode cX10_line 115 = .ok (.aload_n 0, 1) := by decide +kernel
theorem dX10_line_116 : decode cX10_line 116 = .ok (.iconst 0, 1) := by decide +kernel
theorem dX10_line_117 : decode cX10_line 117 = .ok (.iconst 3, 1) := by decide +kernel
theorem dX10_line_118 : decode cX10_line 118 = .ok (.invokevirtual 161, 3) := by decide +kernel
theorem dX10_line_121 : decode cX10_line 121 = .ok (.iastore, 1) := by decide +kernel
theorem dX10_line_122 : decode cX10_line 122 = .ok (.goto 358, 3) := by decide +kernel
theorem dX10_line_125 : decode cX10_line 125 = .ok (.aload_n 0, 1) := by decide +kernel
theorem dX10_line_126 : decode cX10_line 126 = .ok (.ldc 238, 2) := by decide +kernel
theorem dX10_line_128 : decode cX10_line 128 = .ok (.invokevirtual 178, 3) := by decide +kernel
theorem dX10_line_131 : decode cX10_line 131 = .ok (.ifCond .eq 37, 3) := by decide +kernel
theorem dX10_line_134 : decode cX10_line 134 = .ok (.iconst 0, 1) := by decide +kernel
theorem dX10_line_135 : decode cX10_line 135 = .ok (.istore_n 3, 1) := by decide +kernel
theorem dX10_line_136 : decode cX10_line 136 = .ok (.iload_n 3, 1) := by decide +kernel
theorem dX10_line_137 : decode cX10_line 137 = .ok (.iconst 3, 1) := by decide +kernel
theorem dX10_line_138 : decode cX10_line 138 = .ok (.if_icmp .ge 27, 3) := by decide +kernel
theorem dX10_line_141 : decode cX10_line 141 = .ok (.aload_n 0, 1) := by decide +kernel
theorem dX10_line_142 : decode cX10_line 142 = .ok (.getfield 90, 3) := by decide +kernel
theorem dX10_line_145 : decode cX10_line 145 = .ok (.sipush 968, 3) := by decide +kernel
theorem dX10_line_148 : decode cX10_line 148 = .ok (.iload_n 3, 1) := by decide +kernel
theorem dX10_line_149 : decode cX10_line 149 = .ok (.iadd, 1) := by decide +kernel
theorem dX10_line_150 : decode cX10_line 150 = .ok (.aload_n 0, 1) := by decide +kernel
theorem dX10_line_151 : decode cX10_line 151 = .ok (.iconst 0, 1) := by decide +kernel
theorem dX10_line_152 : decode cX10_line 152 = .ok (.sipush 300, 3) := by decide +kernel
theorem dX10_line_155 : decode cX10_line 155 = .ok (.invokevirtual 161, 3) := by decide +kernel
theorem dX10_line_158 : decode cX10_line 158 = .ok (.iastore, 1) := by decide +kernel
theorem dX10_line_159 : decode cX10_line 159 = .ok (.iinc 3 1, 3) := by decide +kernel
theorem dX10_line_162 : decode cX10_line 162 = .ok (.goto (-26), 3) := by decide +kernel
theorem dX10_line_165 : decode cX10_line 165 = .ok (.goto 315, 3) := by decide +kernel
theorem dX10_line_168 : decode cX10_line 168 = .ok (.aload_n 0, 1) := by decide +kernel
theorem dX10_line_169 : decode cX10_line 169 = .ok (.ldc 240, 2) := by decide +kernel
theorem dX10_line_171 : decode cX10_line 171 = .ok (.invokevirtual 178, 3) := by decide +kernel
theorem dX10_line_174 : decode cX10_line 174 = .ok (.ifCond .eq 22, 3) := by decide +kernel
theorem dX10_line_177 : decode cX10_line 177 = .ok (.aload_n 0, 1) := by decide +kernel
theorem dX10_line_178 : decode cX10_line 178 = .ok (.getfield 90, 3) := by decide +kernel
theorem dX10_line_181 : decode cX10_line 181 = .ok (.sipush 965, 3) := by decide +kernel
theorem dX10_line_184 : decode cX10_line 184 = .ok (.aload_n 0, 1) := by decide +kernel
theorem dX10_line_185 : decode cX10_line 185 = .ok (.iconst 0, 1) := by decide +kernel
theorem dX10_line_186 : decode cX10_line 186 = .ok (.sipush 600, 3) := by decide +kernel
theorem dX10_line_189 : decode cX10_line 189 = .ok (.invokevirtual 161, 3) := by decide +kernel
theorem dX10_line_192 : decode cX10_line 192 = .ok (.iastore, 1) := by decide +kernel
theorem dX10_line_193 : decode cX10_line 193 = .ok (.goto 287, 3) := by decide +kernel
theorem dX10_line_196 : decode cX10_line 196 = .ok (.aload_n 0, 1) := by decide +kernel
theorem dX10_line_197 : decode cX10_line 197 = .ok (.ldc 140, 2) := by decide +kernel
theorem dX10_line_199 : decode cX10_line 199 = .ok (.invokevirtual 178, 3) := by decide +kernel
theorem dX10_line_202 : decode cX10_line 202 = .ok (.ifCond .eq 21, 3) := by decide +kernel
theorem dX10_line_205 : decode cX10_line 205 = .ok (.aload_n 0, 1) := by decide +kernel
theorem dX10_line_206 : decode cX10_line 206 = .ok (.getfield 90, 3) := by decide +kernel
theorem dX10_line_209 : decode cX10_line 209 = .ok (.sipush 966, 3) := by decide +kernel
theorem dX10_line_212 : decode cX10_line 212 = .ok (.aload_n 0, 1) := by decide +kernel
theorem dX10_line_213 : decode cX10_line 213 = .ok (.iconst 0, 1) := by decide +kernel
theorem dX10_line_214 : decode cX10_line 214 = .ok (.bipush 50, 2) := by decide +kernel
theorem dX10_line_216 : decode cX10_line 216 = .ok (.invokevirtual 161, 3) := by decide +kernel
theorem dX10_line_219 : decode cX10_line 219 = .ok (.iastore, 1) := by decide +kernel
theorem dX10_line_220 : decode cX10_line 220 = .ok (.goto 260, 3) := by decide +kernel
theorem dX10_line_223 : decode cX10_line 223 = .ok (.aload_n 0, 1) := by decide +kernel
theorem dX10_line_224 : decode cX10_line 224 = .ok (.ldc 242, 2) := by decide +kernel
theorem dX10_line_226 : decode cX10_line 226 = .ok (.invokevirtual 178, 3) := by decide +kernel
theorem dX10_line_229 : decode cX10_line 229 = .ok (.ifCond .eq 20, 3) := by decide +kernel
theorem dX10_line_232 : decode cX10_line 232 = .ok (.aload_n 0, 1) := by decide +kernel
theorem dX10_line_233 : decode cX10_line 233 = .ok (.getfield 90, 3) := by decide +kernel
theorem dX10_line_236 : decode cX10_line 236 = .ok (.sipush 967, 3) := by decide +kernel
theorem dX10_line_239 : decode cX10_line 239 = .ok (.aload_n 0, 1) := by decide +kernel
theorem dX10_line_240 : decode cX10_line 240 = .ok (.iconst 1, 1) := by decide +kernel
theorem dX10_line_241 : decode cX10_line 241 = .ok (.iconst 3, 1) := by decide +kernel
theorem dX10_line_242 : decode cX10_line 242 = .ok (.invokevirtual 161, 3) := by decide +kernel
theorem dX10_line_245 : decode cX10_line 245 = .ok (.iastore, 1) := by decide +kernel
theorem dX10_line_246 : decode cX10_line 246 = .ok (.goto 234, 3) := by decide +kernel
theorem dX10_line_249 : decode cX10_line 249 = .ok (.aload_n 0, 1) := by decide +kernel
theorem dX10_line_250 : decode cX10_line 250 = .ok (.ldc 244, 2) := by decide +kernel
theorem dX10_line_252 : decode cX10_line 252 = .ok (.aload_n 0, 1) := by decide +kernel
theorem dX10_line_253 : decode cX10_line 253 = .ok (.getfield 87, 3) := by decide +kernel
theorem dX10_line_256 : decode cX10_line 256 = .ok (.iconst 3, 1) := by decide +kernel
theorem dX10_line_257 : decode cX10_line 257 = .ok (.iaload, 1) := by decide +kernel
theorem dX10_line_258 : decode cX10_line 258 = .ok (.bipush 6, 2) := by decide +kernel
theorem dX10_line_260 : decode cX10_line 260 = .ok (.if_icmp .ge 7, 3) := by decide +kernel
theorem dX10_line_263 : decode cX10_line 263 = .ok (.iconst 1, 1) := by decide +kernel
theorem dX10_line_264 : decode cX10_line 264 = .ok (.goto 4, 3) := by decide +kernel
theorem dX10_line_267 : decode cX10_line 267 = .ok (.iconst 0, 1) := by decide +kernel
theorem dX10_line_268 : decode cX10_line 268 = .ok (.invokevirtual 227, 3) := by decide +kernel
theorem dX10_line_271 : decode cX10_line 271 = .ok (.ifCond .eq 17, 3) := by decide +kernel
theorem dX10_line_274 : decode cX10_line 274 = .ok (.aload_n 0, 1) := by decide +kernel
theorem dX10_line_275 : decode cX10_line 275 = .ok (.invokevirtual 38, 3) := by decide +kernel
theorem dX10_line_278 : decode cX10_line 278 = .ok (.ifCond .ne 202, 3) := by decide +kernel
theorem dX10_line_281 : decode cX10_line 281 = .ok (.aload_n 0, 1) := by decide +kernel
theorem dX10_line_282 : decode cX10_line 282 = .ok (.invokevirtual 246, 3) := by decide +kernel
theorem dX10_line_285 : decode cX10_line 285 = .ok (.goto 195, 3) := by decide +kernel
theorem dX10_line_288 : decode cX10_line 288 = .ok (.aload_n 0, 1) := by decide +kernel
theorem dX10_line_289 : decode cX10_line 289 = .ok (.ldc 249, 2) := by decide +kernel
theorem dX10_line_291 : decode cX10_line 291 = .ok (.aload_n 0, 1) := by decide +kernel
theorem dX10_line_292 : decode cX10_line 292 = .ok (.getfield 87, 3) := by decide +kernel
theorem dX10_line_295 : decode cX10_line 295 = .ok (.iconst 1, 1) := by decide +kernel
theorem dX10_line_296 : decode cX10_line 296 = .ok (.iaload, 1) := by decide +kernel
theorem dX10_line_297 : decode cX10_line 297 = .ok (.bipush 6, 2) := by decide +kernel
theorem dX10_line_299 : decode cX10_line 299 = .ok (.if_icmp .ge 7, 3) := by decide +kernel
theorem dX10_line_302 : decode cX10_line 302 = .ok (.iconst 1, 1) := by decide +kernel
theorem dX10_line_303 : decode cX10_line 303 = .ok (.goto 4, 3) := by decide +kernel
theorem dX10_line_306 : decode cX10_line 306 = .ok (.iconst 0, 1) := by decide +kernel
theorem dX10_line_307 : decode cX10_line 307 = .ok (.invokevirtual 227, 3) := by decide +kernel
theorem dX10_line_310 : decode cX10_line 310 = .ok (.ifCond .eq 28, 3) := by decide +kernel
theorem dX10_line_313 : decode cX10_line 313 = .ok (.aload_n 0, 1) := by decide +kernel
theorem dX10_line_314 : decode cX10_line 314 = .ok (.bipush 74, 2) := by decide +kernel
theorem dX10_line_316 : decode cX10_line 316 = .ok (.aload_n 0, 1) := by decide +kernel
theorem dX10_line_317 : decode cX10_line 317 = .ok (.getfield 87, 3) := by decide +kernel
theorem dX10_line_320 : decode cX10_line 320 = .ok (.iconst 1, 1) := by decide +kernel
theorem dX10_line_321 : decode cX10_line 321 = .ok (.iaload, 1) := by decide +kernel
theorem dX10_line_322 : decode cX10_line 322 = .ok (.invokevirtual 191, 3) := by decide +kernel
theorem dX10_line_325 : decode cX10_line 325 = .ok (.aload_n 0, 1) := by decide +kernel
theorem dX10_line_326 : decode cX10_line 326 = .ok (.getfield 87, 3) := by decide +kernel
theorem dX10_line_329 : decode cX10_line 329 = .ok (.iconst 1, 1) := by decide +kernel
theorem dX10_line_330 : decode cX10_line 330 = .ok (.dup2, 1) := by decide +kernel
theorem dX10_line_331 : decode cX10_line 331 = .ok (.iaload, 1) := by decide +kernel
theorem dX10_line_332 : decode cX10_line 332 = .ok (.iconst 1, 1) := by decide +kernel
theorem dX10_line_333 : decode cX10_line 333 = .ok (.iadd, 1) := by decide +kernel
theorem dX10_line_334 : decode cX10_line 334 = .ok (.iastore, 1) := by decide +kernel
theorem dX10_line_335 : decode cX10_line 335 = .ok (.goto 145, 3) := by decide +kernel
theorem dX10_line_338 : decode cX10_line 338 = .ok (.aload_n 0, 1) := by decide +kernel
theorem dX10_line_339 : decode cX10_line 339 = .ok (.ldc 251, 2) := by decide +kernel
theorem dX10_line_341 : decode cX10_line 341 = .ok (.iload_n 2, 1) := by decide +kernel
theorem dX10_line_342 : decode cX10_line 342 = .ok (.ifCond .eq 25, 3) := by decide +kernel
theorem dX10_line_345 : decode cX10_line 345 = .ok (.aload_n 0, 1) := by decide +kernel
theorem dX10_line_346 : decode cX10_line 346 = .ok (.getfield 87, 3) := by decide +kernel
theorem dX10_line_349 : decode cX10_line 349 = .ok (.bipush 116, 2) := by decide +kernel
theorem dX10_line_351 : decode cX10_line 351 = .ok (.iconst 0, 1) := by decide +kernel
theorem dX10_line_352 : decode cX10_line 352 = .ok (.iload_n 1, 1) := by decide +kernel
theorem dX10_line_353 : decode cX10_line 353 = .ok (.invokestatic 253, 3) := by decide +kernel
theorem dX10_line_356 : decode cX10_line 356 = .ok (.iadd, 1) := by decide +kernel
theorem dX10_line_357 : decode cX10_line 357 = .ok (.iaload, 1) := by decide +kernel
theorem dX10_line_358 : decode cX10_line 358 = .ok (.bipush 12, 2) := by decide +kernel
theorem dX10_line_360 : decode cX10_line 360 = .ok (.if_icmp .ge 7, 3) := by decide +kernel
theorem dX10_line_363 : decode cX10_line 363 = .ok (.iconst 1, 1) := by decide +kernel
theorem dX10_line_364 : decode cX10_line 364 = .ok (.goto 4, 3) := by decide +kernel
theorem dX10_line_367 : decode cX10_line 367 = .ok (.iconst 0, 1) := by decide +kernel
theorem dX10_line_368 : decode cX10_line 368 = .ok (.invokevirtual 227, 3) := by decide +kernel
theorem dX10_line_371 : decode cX10_line 371 = .ok (.ifCond .eq 17, 3) := by decide +kernel
theorem dX10_line_374 : decode cX10_line 374 = .ok (.aload_n 0, 1) := by decide +kernel
theorem dX10_line_375 : decode cX10_line 375 = .ok (.invokevirtual 38, 3) := by decide +kernel
theorem dX10_line_378 : decode cX10_line 378 = .ok (.ifCond .ne 102, 3) := by decide +kernel
theorem dX10_line_381 : decode cX10_line 381 = .ok (.aload_n 0, 1) := by decide +kernel
theorem dX10_line_382 : decode cX10_line 382 = .ok (.invokevirtual 258, 3) := by decide +kernel
theorem dX10_line_385 : decode cX10_line 385 = .ok (.goto 95, 3) := by decide +kernel
theorem dX10_line_388 : decode cX10_line 388 = .ok (.aload_n 0, 1) := by decide +kernel
theorem dX10_line_389 : decode cX10_line 389 = .ok (.ldc_w 261, 3) := by decide +kernel
theorem dX10_line_392 : decode cX10_line 392 = .ok (.iload_n 2, 1) := by decide +kernel
theorem dX10_line_393 : decode cX10_line 393 = .ok (.invokevirtual 227, 3) := by decide +kernel
theorem dX10_line_396 : decode cX10_line 396 = .ok (.ifCond .eq 45, 3) := by decide +kernel
theorem dX10_line_399 : decode cX10_line 399 = .ok (.iconst 0, 1) := by decide +kernel
theorem dX10_line_400 : decode cX10_line 400 = .ok (.istore_n 3, 1) := by decide +kernel
theorem dX10_line_401 : decode cX10_line 401 = .ok (.iload_n 3, 1) := by decide +kernel
theorem dX10_line_402 : decode cX10_line 402 = .ok (.iconst 3, 1) := by decide +kernel
theorem dX10_line_403 : decode cX10_line 403 = .ok (.if_icmp .ge 30, 3) := by decide +kernel
theorem dX10_line_406 : decode cX10_line 406 = .ok (.aload_n 0, 1) := by decide +kernel
theorem dX10_line_407 : decode cX10_line 407 = .ok (.sipush 648, 3) := by decide +kernel
theorem dX10_line_410 : decode cX10_line 410 = .ok (.bipush 9, 2) := by decide +kernel
theorem dX10_line_412 : decode cX10_line 412 = .ok (.iconst 3, 1) := by decide +kernel
theorem dX10_line_413 : decode cX10_line 413 = .ok (.iconst 0, 1) := by decide +kernel
theorem dX10_line_414 : decode cX10_line 414 = .ok (.iload_n 1, 1) := by decide +kernel
theorem dX10_line_415 : decode cX10_line 415 = .ok (.invokestatic 253, 3) := by decide +kernel
theorem dX10_line_418 : decode cX10_line 418 = .ok (.imul, 1) := by decide +kernel
theorem dX10_line_419 : decode cX10_line 419 = .ok (.iload_n 3, 1) := by decide +kernel
theorem dX10_line_420 : decode cX10_line 420 = .ok (.iadd, 1) := by decide +kernel
theorem dX10_line_421 : decode cX10_line 421 = .ok (.imul, 1) := by decide +kernel
theorem dX10_line_422 : decode cX10_line 422 = .ok (.iadd, 1) := by decide +kernel
theorem dX10_line_423 : decode cX10_line 423 = .ok (.iconst 0, 1) := by decide +kernel
theorem dX10_line_424 : decode cX10_line 424 = .ok (.invokevirtual 206, 3) := by decide +kernel
theorem dX10_line_427 : decode cX10_line 427 = .ok (.iinc 3 1, 3) := by decide +kernel
theorem dX10_line_430 : decode cX10_line 430 = .ok (.goto (-29), 3) := by decide +kernel
theorem dX10_line_433 : decode cX10_line 433 = .ok (.aload_n 0, 1) := by decide +kernel
theorem dX10_line_434 : decode cX10_line 434 = .ok (.iconst 1, 1) := by decide +kernel
theorem dX10_line_435 : decode cX10_line 435 = .ok (.putfield 215, 3) := by decide +kernel
theorem dX10_line_438 : decode cX10_line 438 = .ok (.goto 42, 3) := by decide +kernel
theorem dX10_line_441 : decode cX10_line 441 = .ok (.aload_n 0, 1) := by decide +kernel
theorem dX10_line_442 : decode cX10_line 442 = .ok (.ldc_w 263, 3) := by decide +kernel
theorem dX10_line_445 : decode cX10_line 445 = .ok (.iload_n 2, 1) := by decide +kernel
theorem dX10_line_446 : decode cX10_line 446 = .ok (.invokevirtual 227, 3) := by decide +kernel
theorem dX10_line_449 : decode cX10_line 449 = .ok (.ifCond .eq 27, 3) := by decide +kernel
theorem dX10_line_452 : decode cX10_line 452 = .ok (.aload_n 0, 1) := by decide +kernel
theorem dX10_line_453 : decode cX10_line 453 = .ok (.getfield 87, 3) := by decide +kernel
theorem dX10_line_456 : decode cX10_line 456 = .ok (.bipush 110, 2) := by decide +kernel
theorem dX10_line_458 : decode cX10_line 458 = .ok (.iconst 0, 1) := by decide +kernel
theorem dX10_line_459 : decode cX10_line 459 = .ok (.iload_n 1, 1) := by decide +kernel
theorem dX10_line_460 : decode cX10_line 460 = .ok (.invokestatic 253, 3) := by decide +kernel
theorem dX10_line_463 : decode cX10_line 463 = .ok (.iadd, 1) := by decide +kernel
theorem dX10_line_464 : decode cX10_line 464 = .ok (.aload_n 0, 1) := by decide +kernel
theorem dX10_line_465 : decode cX10_line 465 = .ok (.iconst 0, 1) := by decide +kernel
theorem dX10_line_466 : decode cX10_line 466 = .ok (.sipush 600, 3) := by decide +kernel
theorem dX10_line_469 : decode cX10_line 469 = .ok (.invokevirtual 161, 3) := by decide +kernel
theorem dX10_line_472 : decode cX10_line 472 = .ok (.iastore, 1) := by decide +kernel
theorem dX10_line_473 : decode cX10_line 473 = .ok (.goto 7, 3) := by decide +kernel
theorem dX10_line_476 : decode cX10_line 476 = .ok (.aload_n 0, 1) := by decide +kernel
theorem dX10_line_477 : decode cX10_line 477 = .ok (.invokevirtual 49, 3) := by decide +kernel
theorem dX10_line_480 : decode cX10_line 480 = .ok (.aload_n 0, 1) := by decide +kernel
theorem dX10_line_481 : decode cX10_line 481 = .ok (.bipush 59, 2) := by decide +kernel
theorem dX10_line_483 : decode cX10_line 483 = .ok (.invokevirtual 154, 3) := by decide +kernel
theorem dX10_line_486 : decode cX10_line 486 = .ok (.return_, 1) := by decide +kernel
theorem dX10_read_0 : decode cX10_read 0 = .ok (.aload_n 0, 1) := by decide +kernel
theorem dX10_read_1 : decode cX10_read 1 = .ok (.iconst 0, 1) := by decide +kernel
theorem dX10_read_2 : decode cX10_read 2 = .ok (.putfield 3, 3) := by decide +kernel
theorem dX10_read_5 : decode cX10_read 5 = .ok (.aload_n 0, 1) := by decide +kernel
theorem dX10_read_6 : decode cX10_read 6 = .ok (.aload_n 0, 1) := by decide +kernel
theorem dX10_read_7 : decode cX10_read 7 = .ok (.getfield 7, 3) := by decide +kernel
theorem dX10_read_10 : decode cX10_read 10 = .ok (.putfield 24, 3) := by decide +kernel
theorem dX10_read_13 : decode cX10_read 13 = .ok (.aload_n 0, 1) := by decide +kernel
theorem dX10_read_14 : decode cX10_read 14 = .ok (.iconst 0, 1) := by decide +kernel
theorem dX10_read_15 : decode cX10_read 15 = .ok (.putfield 7, 3) := by decide +kernel
theorem dX10_read_18 : decode cX10_read 18 = .ok (.aload_n 0, 1) := by decide +kernel
theorem dX10_read_19 : decode cX10_read 19 = .ok (.iconst 0, 1) := by decide +kernel
theorem dX10_read_20 : decode cX10_read 20 = .ok (.putfield 21, 3) := by decide +kernel
theorem dX10_read_23 : decode cX10_read 23 = .ok (.aload_n 0, 1) := by decide +kernel
theorem dX10_read_24 : decode cX10_read 24 = .ok (.iconst (-1), 1) := by decide +kernel
theorem dX10_read_25 : decode cX10_read 25 = .ok (.putfield 18, 3) := by decide +kernel
theorem dX10_read_28 : decode cX10_read 28 = .ok (.aload_n 0, 1) := by decide +kernel
theorem dX10_read_29 : decode cX10_read 29 = .ok (.iconst 0, 1) := by decide +kernel
theorem dX10_read_30 : decode cX10_read 30 = .ok (.putfield 148, 3) := by decide +kernel
theorem dX10_read_33 : decode cX10_read 33 = .ok (.aload_n 0, 1) := by decide +kernel
theorem dX10_read_34 : decode cX10_read 34 = .ok (.iconst 0, 1) := by decide +kernel
theorem dX10_read_35 : decode cX10_read 35 = .ok (.putfield 215, 3) := by decide +kernel
theorem dX10_read_38 : decode cX10_read 38 = .ok (.aload_n 0, 1) := by decide +kernel
theorem dX10_read_39 : decode cX10_read 39 = .ok (.invokevirtual 115, 3) := by decide +kernel
theorem dX10_read_42 : decode cX10_read 42 = .ok (.aload_n 0, 1) := by decide +kernel
theorem dX10_read_43 : decode cX10_read 43 = .ok (.invokevirtual 34, 3) := by decide +kernel
theorem dX10_read_46 : decode cX10_read 46 = .ok (.aload_n 0, 1) := by decide +kernel
theorem dX10_read_47 : decode cX10_read 47 = .ok (.invokevirtual 38, 3) := by decide +kernel
theorem dX10_read_50 : decode cX10_read 50 = .ok (.ifCond .ne 25, 3) := by decide +kernel
theorem dX10_read_53 : decode cX10_read 53 = .ok (.aload_n 0, 1) := by decide +kernel
theorem dX10_read_54 : decode cX10_read 54 = .ok (.getfield 21, 3) := by decide +kernel
theorem dX10_read_57 : decode cX10_read 57 = .ok (.aload_n 0, 1) := by decide +kernel
theorem dX10_read_58 : decode cX10_read 58 = .ok (.getfield 24, 3) := by decide +kernel
theorem dX10_read_61 : decode cX10_read 61 = .ok (.if_icmp .ge 14, 3) := by decide +kernel
theorem dX10_read_64 : decode cX10_read 64 = .ok (.aload_n 0, 1) := by decide +kernel
theorem dX10_read_65 : decode cX10_read 65 = .ok (.invokevirtual 265, 3) := by decide +kernel
theorem dX10_read_68 : decode cX10_read 68 = .ok (.aload_n 0, 1) := by decide +kernel
theorem dX10_read_69 : decode cX10_read 69 = .ok (.invokevirtual 34, 3) := by decide +kernel
theorem dX10_read_72 : decode cX10_read 72 = .ok (.goto (-26), 3) := by decide +kernel
theorem dX10_read_75 : decode cX10_read 75 = .ok (.aload_n 0, 1) := by decide +kernel
theorem dX10_read_76 : decode cX10_read 76 = .ok (.aload_n 0, 1) := by decide +kernel
theorem dX10_read_77 : decode cX10_read 77 = .ok (.getfield 18, 3) := by decide +kernel
theorem dX10_read_80 : decode cX10_read 80 = .ok (.putfield 73, 3) := by decide +kernel
theorem dX10_read_83 : decode cX10_read 83 = .ok (.aload_n 0, 1) := by decide +kernel
theorem dX10_read_84 : decode cX10_read 84 = .ok (.aload_n 0, 1) := by decide +kernel
theorem dX10_read_85 : decode cX10_read 85 = .ok (.invokevirtual 38, 3) := by decide +kernel
theorem dX10_read_88 : decode cX10_read 88 = .ok (.iconst 1, 1) := by decide +kernel
theorem dX10_read_89 : decode cX10_read 89 = .ok (.invokevirtual 268, 3) := by decide +kernel
theorem dX10_read_92 : decode cX10_read 92 = .ok (.ifCond .eq 5, 3) := by decide +kernel
theorem dX10_read_95 : decode cX10_read 95 = .ok (.iconst 0, 1) := by decide +kernel
theorem dX10_read_96 : decode cX10_read 96 = .ok (.ireturn, 1) := by decide +kernel
theorem dX10_read_97 : decode cX10_read 97 = .ok (.aload_n 0, 1) := by decide +kernel
theorem dX10_read_98 : decode cX10_read 98 = .ok (.invokevirtual 118, 3) := by decide +kernel
theorem dX10_read_101 : decode cX10_read 101 = .ok (.aload_n 0, 1) := by decide +kernel
theorem dX10_read_102 : decode cX10_read 102 = .ok (.iconst 0, 1) := by decide +kernel
theorem dX10_read_103 : decode cX10_read 103 = .ok (.putfield 272, 3) := by decide +kernel
theorem dX10_read_106 : decode cX10_read 106 = .ok (.aload_n 0, 1) := by decide +kernel
theorem dX10_read_107 : decode cX10_read 107 = .ok (.getfield 81, 3) := by decide +kernel
theorem dX10_read_110 : decode cX10_read 110 = .ok (.iconst 1, 1) := by decide +kernel
theorem dX10_read_111 : decode cX10_read 111 = .ok (.iaload, 1) := by decide +kernel
theorem dX10_read_112 : decode cX10_read 112 = .ok (.ireturn, 1) := by decide +kernel
theorem dX10_all_0 : decode cX10_all 0 = .ok (.aload_n 0, 1) := by decide +kernel
theorem dX10_all_1 : decode cX10_all 1 = .ok (.iconst 1, 1) := by decide +kernel
theorem dX10_all_2 : decode cX10_all 2 = .ok (.aload_n 0, 1) := by decide +kernel
theorem dX10_all_3 : decode cX10_all 3 = .ok (.getfield 81, 3) := by decide +kernel
theorem dX10_all_6 : decode cX10_all 6 = .ok (.iconst 2, 1) := by decide +kernel
theorem dX10_all_7 : decode cX10_all 7 = .ok (.iaload, 1) := by decide +kernel
theorem dX10_all_8 : decode cX10_all 8 = .ok (.ishl, 1) := by decide +kernel
theorem dX10_all_9 : decode cX10_all 9 = .ok (.iconst 1, 1) := by decide +kernel
theorem dX10_all_10 : decode cX10_all 10 = .ok (.isub, 1) := by decide +kernel
theorem dX10_all_11 : decode cX10_all 11 = .ok (.putfield 275, 3) := by decide +kernel
theorem dX10_all_14 : decode cX10_all 14 = .ok (.aload_n 0, 1) := by decide +kernel
theorem dX10_all_15 : decode cX10_all 15 = .ok (.sipush 600, 3) := by decide +kernel
theorem dX10_all_18 : decode cX10_all 18 = .ok (.putfield 278, 3) := by decide +kernel
theorem dX10_all_21 : decode cX10_all 21 = .ok (.aload_n 0, 1) := by decide +kernel
theorem dX10_all_22 : decode cX10_all 22 = .ok (.iconst (-1), 1) := by decide +kernel
theorem dX10_all_23 : decode cX10_all 23 = .ok (.putfield 281, 3) := by decide +kernel
theorem dX10_all_26 : decode cX10_all 26 = .ok (.aload_n 0, 1) := by decide +kernel
theorem dX10_all_27 : decode cX10_all 27 = .ok (.iconst (-1), 1) := by decide +kernel
theorem dX10_all_28 : decode cX10_all 28 = .ok (.putfield 284, 3) := by decide +kernel
theorem dX10_all_31 : decode cX10_all 31 = .ok (.aload_n 0, 1) := by decide +kernel
theorem dX10_all_32 : decode cX10_all 32 = .ok (.iconst 0, 1) := by decide +kernel
theorem dX10_all_33 : decode cX10_all 33 = .ok (.putfield 287, 3) := by decide +kernel
theorem dX10_all_36 : decode cX10_all 36 = .ok (.return_, 1) := by decide +kernel
theorem dX10_is_0 : decode cX10_is 0 = .ok (.iload_n 2, 1) := by decide +kernel
theorem dX10_is_1 : decode cX10_is 1 = .ok (.iconst 0, 1) := by decide +kernel
theorem dX10_is_2 : decode cX10_is 2 = .ok (.aload_n 0, 1) := by decide +kernel
theorem dX10_is_3 : decode cX10_is 3 = .ok (.getfield 81, 3) := by decide +kernel
theorem dX10_is_6 : decode cX10_is 6 = .ok (.bipush 116, 2) := by decide +kernel
theorem dX10_is_8 : decode cX10_is 8 = .ok (.iload_n 1, 1) := by decide +kernel
theorem dX10_is_9 : decode cX10_is 9 = .ok (.iadd, 1) := by decide +kernel
theorem dX10_is_10 : decode cX10_is 10 = .ok (.iaload, 1) := by decide +kernel
theorem dX10_is_11 : decode cX10_is 11 = .ok (.iconst 1, 1) := by decide +kernel
theorem dX10_is_12 : decode cX10_is 12 = .ok (.isub, 1) := by decide +kernel
theorem dX10_is_13 : decode cX10_is 13 = .ok (.invokestatic 69, 3) := by decide +kernel
theorem dX10_is_16 : decode cX10_is 16 = .ok (.ifCond .eq 44, 3) := by decide +kernel
theorem dX10_is_19 : decode cX10_is 19 = .ok (.aload_n 0, 1) := by decide +kernel
theorem dX10_is_20 : decode cX10_is 20 = .ok (.getfield 84, 3) := by decide +kernel
theorem dX10_is_23 : decode cX10_is 23 = .ok (.sipush 882, 3) := by decide +kernel
theorem dX10_is_26 : decode cX10_is 26 = .ok (.iload_n 1, 1) := by decide +kernel
theorem dX10_is_27 : decode cX10_is 27 = .ok (.iload_n 2, 1) := by decide +kernel
theorem dX10_is_28 : decode cX10_is 28 = .ok (.invokestatic 199, 3) := by decide +kernel
theorem dX10_is_31 : decode cX10_is 31 = .ok (.iadd, 1) := by decide +kernel
theorem dX10_is_32 : decode cX10_is 32 = .ok (.iaload, 1) := by decide +kernel
theorem dX10_is_33 : decode cX10_is 33 = .ok (.ifCond .ne 27, 3) := by decide +kernel
theorem dX10_is_36 : decode cX10_is 36 = .ok (.aload_n 0, 1) := by decide +kernel
theorem dX10_is_37 : decode cX10_is 37 = .ok (.getfield 81, 3) := by decide +kernel
theorem dX10_is_40 : decode cX10_is 40 = .ok (.bipush 122, 2) := by decide +kernel
theorem dX10_is_42 : decode cX10_is 42 = .ok (.iload_n 1, 1) := by decide +kernel
theorem dX10_is_43 : decode cX10_is 43 = .ok (.iload_n 2, 1) := by decide +kernel
theorem dX10_is_44 : decode cX10_is 44 = .ok (.invokestatic 199, 3) := by decide +kernel
theorem dX10_is_47 : decode cX10_is 47 = .ok (.iadd, 1) := by decide +kernel
theorem dX10_is_48 : decode cX10_is 48 = .ok (.iaload, 1) := by decide +kernel
theorem dX10_is_49 : decode cX10_is 49 = .ok (.aload_n 0, 1) := by decide +kernel
theorem dX10_is_50 : decode cX10_is 50 = .ok (.getfield 278, 3) := by decide +kernel
theorem dX10_is_53 : decode cX10_is 53 = .ok (.if_icmp .gt 7, 3) := by decide +kernel
theorem dX10_is_56 : decode cX10_is 56 = .ok (.iconst 1, 1) := by decide +kernel
theorem dX10_is_57 : decode cX10_is 57 = .ok (.goto 4, 3) := by decide +kernel
theorem dX10_is_60 : decode cX10_is 60 = .ok (.iconst 0, 1) := by decide +kernel
theorem dX10_is_61 : decode cX10_is 61 = .ok (.ireturn, 1) := by decide +kernel
theorem dX10_elementOf_0 : decode cX10_elementOf 0 = .ok (.aload_n 0, 1) := by decide +kernel
theorem dX10_elementOf_1 : decode cX10_elementOf 1 = .ok (.getfield 81, 3) := by decide +kernel
theorem dX10_elementOf_4 : decode cX10_elementOf 4 = .ok (.sipush 266, 3) := by decide +kernel
theorem dX10_elementOf_7 : decode cX10_elementOf 7 = .ok (.iconst 3, 1) := by decide +kernel
theorem dX10_elementOf_8 : decode cX10_elementOf 8 = .ok (.iload_n 1, 1) := by decide +kernel
theorem dX10_elementOf_9 : decode cX10_elementOf 9 = .ok (.iload_n 2, 1) := by decide +kernel
theorem dX10_elementOf_10 : decode cX10_elementOf 10 = .ok (.invokestatic 199, 3) := by decide +kernel
theorem dX10_elementOf_13 : decode cX10_elementOf 13 = .ok (.imul, 1) := by decide +kernel
theorem dX10_elementOf_14 : decode cX10_elementOf 14 = .ok (.iadd, 1) := by decide +kernel
theorem dX10_elementOf_15 : decode cX10_elementOf 15 = .ok (.iload_n 3, 1) := by decide +kernel
theorem dX10_elementOf_16 : decode cX10_elementOf 16 = .ok (.iadd, 1) := by decide +kernel
theorem dX10_elementOf_17 : decode cX10_elementOf 17 = .ok (.iaload, 1) := by decide +kernel
theorem dX10_elementOf_18 : decode cX10_elementOf 18 = .ok (.ireturn, 1) := by decide +kernel
theorem dX10_elementsOf_0 : decode cX10_elementsOf 0 = .ok (.aload_n 0, 1) := by decide +kernel
theorem dX10_elementsOf_1 : decode cX10_elementsOf 1 = .ok (.getfield 81, 3) := by decide +kernel
theorem dX10_elementsOf_4 : decode cX10_elementsOf 4 = .ok (.sipush 194, 3) := by decide +kernel
theorem dX10_elementsOf_7 : decode cX10_elementsOf 7 = .ok (.iload_n 1, 1) := by decide +kernel
theorem dX10_elementsOf_8 : decode cX10_elementsOf 8 = .ok (.iload_n 2, 1) := by decide +kernel
theorem dX10_elementsOf_9 : decode cX10_elementsOf 9 = .ok (.invokestatic 199, 3) := by decide +kernel
theorem dX10_elementsOf_12 : decode cX10_elementsOf 12 = .ok (.iadd, 1) := by decide +kernel
theorem dX10_elementsOf_13 : decode cX10_elementsOf 13 = .ok (.iaload, 1) := by decide +kernel
theorem dX10_elementsOf_14 : decode cX10_elementsOf 14 = .ok (.ireturn, 1) := by decide +kernel
theorem dX10_isJump_0 : decode cX10_isJump 0 = .ok (.aload_n 0, 1) := by decide +kernel
theorem dX10_isJump_1 : decode cX10_isJump 1 = .ok (.getfield 81, 3) := by decide +kernel
theorem dX10_isJump_4 : decode cX10_isJump 4 = .ok (.iconst 4, 1) := by decide +kernel
theorem dX10_isJump_5 : decode cX10_isJump 5 = .ok (.iload_n 1, 1) := by decide +kernel
theorem dX10_isJump_6 : decode cX10_isJump 6 = .ok (.iadd, 1) := by decide +kernel
theorem dX10_isJump_7 : decode cX10_isJump 7 = .ok (.iaload, 1) := by decide +kernel
theorem dX10_isJump_8 : decode cX10_isJump 8 = .ok (.ifCond .ne 7, 3) := by decide +kernel
theorem dX10_isJump_11 : decode cX10_isJump 11 = .ok (.iconst 1, 1) := by decide +kernel
theorem dX10_isJump_12 : decode cX10_isJump 12 = .ok (.goto 4, 3) := by decide +kernel
theorem dX10_isJump_15 : decode cX10_isJump 15 = .ok (.iconst 0, 1) := by decide +kernel
theorem dX10_isJump_16 : decode cX10_isJump 16 = .ok (.ireturn, 1) := by decide +kernel
theorem dX10_callsOf_0 : decode cX10_callsOf 0 = .ok (.aload_n 0, 1) := by decide +kernel
theorem dX10_callsOf_1 : decode cX10_callsOf 1 = .ok (.getfield 287, 3) := by decide +kernel
theorem dX10_callsOf_4 : decode cX10_callsOf 4 = .ok (.ifCond .eq 7, 3) := by decide +kernel
theorem dX10_callsOf_7 : decode cX10_callsOf 7 = .ok (.iconst 0, 1) := by decide +kernel
theorem dX10_callsOf_8 : decode cX10_callsOf 8 = .ok (.goto 17, 3) := by decide +kernel
theorem dX10_callsOf_11 : decode cX10_callsOf 11 = .ok (.aload_n 0, 1) := by decide +kernel
theorem dX10_callsOf_12 : decode cX10_callsOf 12 = .ok (.getfield 84, 3) := by decide +kernel
theorem dX10_callsOf_15 : decode cX10_callsOf 15 = .ok (.sipush 810, 3) := by decide +kernel
theorem dX10_callsOf_18 : decode cX10_callsOf 18 = .ok (.iload_n 1, 1) := by decide +kernel
theorem dX10_callsOf_19 : decode cX10_callsOf 19 = .ok (.iload_n 2, 1) := by decide +kernel
theorem dX10_callsOf_20 : decode cX10_callsOf 20 = .ok (.invokestatic 199, 3) := by decide +kernel
theorem dX10_callsOf_23 : decode cX10_callsOf 23 = .ok (.iadd, 1) := by decide +kernel
theorem dX10_callsOf_24 : decode cX10_callsOf 24 = .ok (.iaload, 1) := by decide +kernel
theorem dX10_callsOf_25 : decode cX10_callsOf 25 = .ok (.ireturn, 1) := by decide +kernel
theorem dX10_isLate_0 : decode cX10_isLate 0 = .ok (.iload_n 1, 1) := by decide +kernel
theorem dX10_isLate_1 : decode cX10_isLate 1 = .ok (.aload_n 0, 1) := by decide +kernel
theorem dX10_isLate_2 : decode cX10_isLate 2 = .ok (.getfield 281, 3) := by decide +kernel
theorem dX10_isLate_5 : decode cX10_isLate 5 = .ok (.if_icmp .ne 12, 3) := by decide +kernel
theorem dX10_isLate_8 : decode cX10_isLate 8 = .ok (.aload_n 0, 1) := by decide +kernel
theorem dX10_isLate_9 : decode cX10_isLate 9 = .ok (.getfield 290, 3) := by decide +kernel
theorem dX10_isLate_12 : decode cX10_isLate 12 = .ok (.iload_n 2, 1) := by decide +kernel
theorem dX10_isLate_13 : decode cX10_isLate 13 = .ok (.invokestatic 212, 3) := by decide +kernel
theorem dX10_isLate_16 : decode cX10_isLate 16 = .ok (.ireturn, 1) := by decide +kernel
theorem dX10_isLate_17 : decode cX10_isLate 17 = .ok (.aload_n 0, 1) := by decide +kernel
theorem dX10_isLate_18 : decode cX10_isLate 18 = .ok (.aload_n 0, 1) := by decide +kernel
theorem dX10_isLate_19 : decode cX10_isLate 19 = .ok (.iload_n 1, 1) := by decide +kernel
theorem dX10_isLate_20 : decode cX10_isLate 20 = .ok (.iload_n 2, 1) := by decide +kernel
theorem dX10_isLate_21 : decode cX10_isLate 21 = .ok (.iconst 0, 1) := by decide +kernel
theorem dX10_isLate_22 : decode cX10_isLate 22 = .ok (.invokevirtual 293, 3) := by decide +kernel
theorem dX10_isLate_25 : decode cX10_isLate 25 = .ok (.invokevirtual 297, 3) := by decide +kernel
theorem dX10_isLate_28 : decode cX10_isLate 28 = .ok (.ifCond .eq 31, 3) := by decide +kernel
theorem dX10_isLate_31 : decode cX10_isLate 31 = .ok (.aload_n 0, 1) := by decide +kernel
theorem dX10_isLate_32 : decode cX10_isLate 32 = .ok (.getfield 81, 3) := by decide +kernel
theorem dX10_isLate_35 : decode cX10_isLate 35 = .ok (.bipush 122, 2) := by decide +kernel
theorem dX10_isLate_37 : decode cX10_isLate 37 = .ok (.iload_n 1, 1) := by decide +kernel
theorem dX10_isLate_38 : decode cX10_isLate 38 = .ok (.iload_n 2, 1) := by decide +kernel
theorem dX10_isLate_39 : decode cX10_isLate 39 = .ok (.invokestatic 199, 3) := by decide +kernel
theorem dX10_isLate_42 : decode cX10_isLate 42 = .ok (.iadd, 1) := by decide +kernel
theorem dX10_isLate_43 : decode cX10_isLate 43 = .ok (.iaload, 1) := by decide +kernel
theorem dX10_isLate_44 : decode cX10_isLate 44 = .ok (.aload_n 0, 1) := by decide +kernel
theorem dX10_isLate_45 : decode cX10_isLate 45 = .ok (.getfield 84, 3) := by decide +kernel
theorem dX10_isLate_48 : decode cX10_isLate 48 = .ok (.sipush 965, 3) := by decide +kernel
theorem dX10_isLate_51 : decode cX10_isLate 51 = .ok (.iaload, 1) := by decide +kernel
theorem dX10_isLate_52 : decode cX10_isLate 52 = .ok (.if_icmp .lt 7, 3) := by decide +kernel
theorem dX10_isLate_55 : decode cX10_isLate 55 = .ok (.iconst 1, 1) := by decide +kernel
theorem dX10_isLate_56 : decode cX10_isLate 56 = .ok (.goto 4, 3) := by decide +kernel
theorem dX10_isLate_59 : decode cX10_isLate 59 = .ok (.iconst 0, 1) := by decide +kernel
theorem dX10_isLate_60 : decode cX10_isLate 60 = .ok (.ireturn, 1) := by decide +kernel
theorem dX10_gradeBy_0 : decode cX10_gradeBy 0 = .ok (.iload_n 1, 1) := by decide +kernel
theorem dX10_gradeBy_1 : decode cX10_gradeBy 1 = .ok (.aload_n 0, 1) := by decide +kernel
theorem dX10_gradeBy_2 : decode cX10_gradeBy 2 = .ok (.getfield 284, 3) := by decide +kernel
theorem dX10_gradeBy_5 : decode cX10_gradeBy 5 = .ok (.if_icmp .ne 18, 3) := by decide +kernel
theorem dX10_gradeBy_8 : decode cX10_gradeBy 8 = .ok (.iload_n 2, 1) := by decide +kernel
theorem dX10_gradeBy_9 : decode cX10_gradeBy 9 = .ok (.aload_n 0, 1) := by decide +kernel
theorem dX10_gradeBy_10 : decode cX10_gradeBy 10 = .ok (.getfield 300, 3) := by decide +kernel
theorem dX10_gradeBy_13 : decode cX10_gradeBy 13 = .ok (.if_icmp .ne 10, 3) := by decide +kernel
theorem dX10_gradeBy_16 : decode cX10_gradeBy 16 = .ok (.aload_n 0, 1) := by decide +kernel
theorem dX10_gradeBy_17 : decode cX10_gradeBy 17 = .ok (.getfield 303, 3) := by decide +kernel
theorem dX10_gradeBy_20 : decode cX10_gradeBy 20 = .ok (.goto 20, 3) := by decide +kernel
theorem dX10_gradeBy_23 : decode cX10_gradeBy 23 = .ok (.aload_n 0, 1) := by decide +kernel
theorem dX10_gradeBy_24 : decode cX10_gradeBy 24 = .ok (.getfield 84, 3) := by decide +kernel
theorem dX10_gradeBy_27 : decode cX10_gradeBy 27 = .ok (.iconst 0, 1) := by decide +kernel
theorem dX10_gradeBy_28 : decode cX10_gradeBy 28 = .ok (.bipush 9, 2) := by decide +kernel
theorem dX10_gradeBy_30 : decode cX10_gradeBy 30 = .ok (.iload_n 1, 1) := by decide +kernel
theorem dX10_gradeBy_31 : decode cX10_gradeBy 31 = .ok (.iload_n 2, 1) := by decide +kernel
theorem dX10_gradeBy_32 : decode cX10_gradeBy 32 = .ok (.invokestatic 199, 3) := by decide +kernel
theorem dX10_gradeBy_35 : decode cX10_gradeBy 35 = .ok (.imul, 1) := by decide +kernel
theorem dX10_gradeBy_36 : decode cX10_gradeBy 36 = .ok (.iadd, 1) := by decide +kernel
theorem dX10_gradeBy_37 : decode cX10_gradeBy 37 = .ok (.iload_n 3, 1) := by decide +kernel
theorem dX10_gradeBy_38 : decode cX10_gradeBy 38 = .ok (.iadd, 1) := by decide +kernel
theorem dX10_gradeBy_39 : decode cX10_gradeBy 39 = .ok (.iaload, 1) := by decide +kernel
theorem dX10_gradeBy_40 : decode cX10_gradeBy 40 = .ok (.ireturn, 1) := by decide +kernel
theorem dX10_trimmed_0 : decode cX10_trimmed 0 = .ok (.iconst 1, 1) := by decide +kernel
theorem dX10_trimmed_1 : decode cX10_trimmed 1 = .ok (.istore_n 2, 1) := by decide +kernel
theorem dX10_trimmed_2 : decode cX10_trimmed 2 = .ok (.iload_n 2, 1) := by decide +kernel
theorem dX10_trimmed_3 : decode cX10_trimmed 3 = .ok (.iload_n 1, 1) := by decide +kernel
theorem dX10_trimmed_4 : decode cX10_trimmed 4 = .ok (.if_icmp .ge 70, 3) := by decide +kernel
theorem dX10_trimmed_7 : decode cX10_trimmed 7 = .ok (.iload_n 2, 1) := by decide +kernel
theorem dX10_trimmed_8 : decode cX10_trimmed 8 = .ok (.istore_n 3, 1) := by decide +kernel
theorem dX10_trimmed_9 : decode cX10_trimmed 9 = .ok (.iload_n 3, 1) := by decide +kernel
theorem dX10_trimmed_10 : decode cX10_trimmed 10 = .ok (.ifCond .le 58, 3) := by decide +kernel
theorem dX10_trimmed_13 : decode cX10_trimmed 13 = .ok (.aload_n 0, 1) := by decide +kernel
theorem dX10_trimmed_14 : decode cX10_trimmed 14 = .ok (.getfield 93, 3) := by decide +kernel
theorem dX10_trimmed_17 : decode cX10_trimmed 17 = .ok (.iload_n 3, 1) := by decide +kernel
theorem dX10_trimmed_18 : decode cX10_trimmed 18 = .ok (.iconst 1, 1) := by decide +kernel
theorem dX10_trimmed_19 : decode cX10_trimmed 19 = .ok (.isub, 1) := by decide +kernel
theorem dX10_trimmed_20 : decode cX10_trimmed 20 = .ok (.iaload, 1) := by decide +kernel
theorem dX10_trimmed_21 : decode cX10_trimmed 21 = .ok (.aload_n 0, 1) := by decide +kernel
theorem dX10_trimmed_22 : decode cX10_trimmed 22 = .ok (.getfield 93, 3) := by decide +kernel
theorem dX10_trimmed_25 : decode cX10_trimmed 25 = .ok (.iload_n 3, 1) := by decide +kernel
theorem dX10_trimmed_26 : decode cX10_trimmed 26 = .ok (.iaload, 1) := by decide +kernel
theorem dX10_trimmed_27 : decode cX10_trimmed 27 = .ok (.if_icmp .le 41, 3) := by decide +kernel
theorem dX10_trimmed_30 : decode cX10_trimmed 30 = .ok (.aload_n 0, 1) := by decide +kernel
theorem dX10_trimmed_31 : decode cX10_trimmed 31 = .ok (.getfield 93, 3) := by decide +kernel
theorem dX10_trimmed_34 : decode cX10_trimmed 34 = .ok (.iload_n 3, 1) := by decide +kernel
theorem dX10_trimmed_35 : decode cX10_trimmed 35 = .ok (.iaload, 1) := by decide +kernel
theorem dX10_trimmed_36 : decode cX10_trimmed 36 = .ok (.istore 4, 2) := by decide +kernel
theorem dX10_trimmed_38 : decode cX10_trimmed 38 = .ok (.aload_n 0, 1) := by decide +kernel
theorem dX10_trimmed_39 : decode cX10_trimmed 39 = .ok (.getfield 93, 3) := by decide +kernel
theorem dX10_trimmed_42 : decode cX10_trimmed 42 = .ok (.iload_n 3, 1) := by decide +kernel
theorem dX10_trimmed_43 : decode cX10_trimmed 43 = .ok (.aload_n 0, 1) := by decide +kernel
theorem dX10_trimmed_44 : decode cX10_trimmed 44 = .ok (.getfield 93, 3) := by decide +kernel
theorem dX10_trimmed_47 : decode cX10_trimmed 47 = .ok (.iload_n 3, 1) := by decide +kernel
theorem dX10_trimmed_48 : decode cX10_trimmed 48 = .ok (.iconst 1, 1) := by decide +kernel
theorem dX10_trimmed_49 : decode cX10_trimmed 49 = .ok (.isub, 1) := by decide +kernel
theorem dX10_trimmed_50 : decode cX10_trimmed 50 = .ok (.iaload, 1) := by decide +kernel
theorem dX10_trimmed_51 : decode cX10_trimmed 51 = .ok (.iastore, 1) := by decide +kernel
theorem dX10_trimmed_52 : decode cX10_trimmed 52 = .ok (.aload_n 0, 1) := by decide +kernel
theorem dX10_trimmed_53 : decode cX10_trimmed 53 = .ok (.getfield 93, 3) := by decide +kernel
theorem dX10_trimmed_56 : decode cX10_trimmed 56 = .ok (.iload_n 3, 1) := by decide +kernel
theorem dX10_trimmed_57 : decode cX10_trimmed 57 = .ok (.iconst 1, 1) := by decide +kernel
theorem dX10_trimmed_58 : decode cX10_trimmed 58 = .ok (.isub, 1) := by decide +kernel
theorem dX10_trimmed_59 : decode cX10_trimmed 59 = .ok (.iload 4, 2) := by decide +kernel
theorem dX10_trimmed_61 : decode cX10_trimmed 61 = .ok (.iastore, 1) := by decide +kernel
theorem dX10_trimmed_62 : decode cX10_trimmed 62 = .ok (.iinc 3 (-1), 3) := by decide +kernel
theorem dX10_trimmed_65 : decode cX10_trimmed 65 = .ok (.goto (-56), 3) := by decide +kernel
theorem dX10_trimmed_68 : decode cX10_trimmed 68 = .ok (.iinc 2 1, 3) := by decide +kernel
theorem dX10_trimmed_71 : decode cX10_trimmed 71 = .ok (.goto (-69), 3) := by decide +kernel
theorem dX10_trimmed_74 : decode cX10_trimmed 74 = .ok (.aload_n 0, 1) := by decide +kernel
theorem dX10_trimmed_75 : decode cX10_trimmed 75 = .ok (.getfield 84, 3) := by decide +kernel
theorem dX10_trimmed_78 : decode cX10_trimmed 78 = .ok (.sipush 964, 3) := by decide +kernel
theorem dX10_trimmed_81 : decode cX10_trimmed 81 = .ok (.iaload, 1) := by decide +kernel
theorem dX10_trimmed_82 : decode cX10_trimmed 82 = .ok (.iload_n 1, 1) := by decide +kernel
theorem dX10_trimmed_83 : decode cX10_trimmed 83 = .ok (.iconst 1, 1) := by decide +kernel
theorem dX10_trimmed_84 : decode cX10_trimmed 84 = .ok (.isub, 1) := by decide +kernel
theorem dX10_trimmed_85 : decode cX10_trimmed 85 = .ok (.iconst 2, 1) := by decide +kernel
theorem dX10_trimmed_86 : decode cX10_trimmed 86 = .ok (.idiv, 1) := by decide +kernel
theorem dX10_trimmed_87 : decode cX10_trimmed 87 = .ok (.invokestatic 306, 3) := by decide +kernel
theorem dX10_trimmed_90 : decode cX10_trimmed 90 = .ok (.istore_n 2, 1) := by decide +kernel
theorem dX10_trimmed_91 : decode cX10_trimmed 91 = .ok (.iconst 0, 1) := by decide +kernel
theorem dX10_trimmed_92 : decode cX10_trimmed 92 = .ok (.istore_n 3, 1) := by decide +kernel
theorem dX10_trimmed_93 : decode cX10_trimmed 93 = .ok (.iload_n 2, 1) := by decide +kernel
theorem dX10_trimmed_94 : decode cX10_trimmed 94 = .ok (.istore 4, 2) := by decide +kernel
theorem dX10_trimmed_96 : decode cX10_trimmed 96 = .ok (.iload 4, 2) := by decide +kernel
theorem dX10_trimmed_98 : decode cX10_trimmed 98 = .ok (.iload_n 1, 1) := by decide +kernel
theorem dX10_trimmed_99 : decode cX10_trimmed 99 = .ok (.iload_n 2, 1) := by decide +kernel
theorem dX10_trimmed_100 : decode cX10_trimmed 100 = .ok (.isub, 1) := by decide +kernel
theorem dX10_trimmed_101 : decode cX10_trimmed 101 = .ok (.if_icmp .ge 19, 3) := by decide +kernel
theorem dX10_trimmed_104 : decode cX10_trimmed 104 = .ok (.iload_n 3, 1) := by decide +kernel
theorem dX10_trimmed_105 : decode cX10_trimmed 105 = .ok (.aload_n 0, 1) := by decide +kernel
theorem dX10_trimmed_106 : decode cX10_trimmed 106 = .ok (.getfield 93, 3) := by decide +kernel
theorem dX10_trimmed_109 : decode cX10_trimmed 109 = .ok (.iload 4, 2) := by decide +kernel
theorem dX10_trimmed_111 : decode cX10_trimmed 111 = .ok (.iaload, 1) := by decide +kernel
theorem dX10_trimmed_112 : decode cX10_trimmed 112 = .ok (.iadd, 1) := by decide +kernel
theorem dX10_trimmed_113 : decode cX10_trimmed 113 = .ok (.istore_n 3, 1) := by decide +kernel
theorem dX10_trimmed_114 : decode cX10_trimmed 114 = .ok (.iinc 4 1, 3) := by decide +kernel
theorem dX10_trimmed_117 : decode cX10_trimmed 117 = .ok (.goto (-21), 3) := by decide +kernel
theorem dX10_trimmed_120 : decode cX10_trimmed 120 = .ok (.bipush 100, 2) := by decide +kernel
theorem dX10_trimmed_122 : decode cX10_trimmed 122 = .ok (.iload_n 3, 1) := by decide +kernel
theorem dX10_trimmed_123 : decode cX10_trimmed 123 = .ok (.imul, 1) := by decide +kernel
theorem dX10_trimmed_124 : decode cX10_trimmed 124 = .ok (.iload_n 1, 1) := by decide +kernel
theorem dX10_trimmed_125 : decode cX10_trimmed 125 = .ok (.iconst 2, 1) := by decide +kernel
theorem dX10_trimmed_126 : decode cX10_trimmed 126 = .ok (.iload_n 2, 1) := by decide +kernel
theorem dX10_trimmed_127 : decode cX10_trimmed 127 = .ok (.imul, 1) := by decide +kernel
theorem dX10_trimmed_128 : decode cX10_trimmed 128 = .ok (.isub, 1) := by decide +kernel
theorem dX10_trimmed_129 : decode cX10_trimmed 129 = .ok (.invokestatic 309, 3) := by decide +kernel
theorem dX10_trimmed_132 : decode cX10_trimmed 132 = .ok (.ireturn, 1) := by decide +kernel
theorem dX10_meanOf_0 : decode cX10_meanOf 0 = .ok (.iconst 0, 1) := by decide +kernel
theorem dX10_meanOf_1 : decode cX10_meanOf 1 = .ok (.istore_n 3, 1) := by decide +kernel
theorem dX10_meanOf_2 : decode cX10_meanOf 2 = .ok (.iconst 0, 1) := by decide +kernel
theorem dX10_meanOf_3 : decode cX10_meanOf 3 = .ok (.istore 4, 2) := by decide +kernel
theorem dX10_meanOf_5 : decode cX10_meanOf 5 = .ok (.iload 4, 2) := by decide +kernel
theorem dX10_meanOf_7 : decode cX10_meanOf 7 = .ok (.aload_n 0, 1) := by decide +kernel
theorem dX10_meanOf_8 : decode cX10_meanOf 8 = .ok (.getfield 81, 3) := by decide +kernel
theorem dX10_meanOf_11 : decode cX10_meanOf 11 = .ok (.iconst 2, 1) := by decide +kernel
theorem dX10_meanOf_12 : decode cX10_meanOf 12 = .ok (.iaload, 1) := by decide +kernel
theorem dX10_meanOf_13 : decode cX10_meanOf 13 = .ok (.if_icmp .ge 41, 3) := by decide +kernel
theorem dX10_meanOf_16 : decode cX10_meanOf 16 = .ok (.aload_n 0, 1) := by decide +kernel
theorem dX10_meanOf_17 : decode cX10_meanOf 17 = .ok (.getfield 275, 3) := by decide +kernel
theorem dX10_meanOf_20 : decode cX10_meanOf 20 = .ok (.iload 4, 2) := by decide +kernel
theorem dX10_meanOf_22 : decode cX10_meanOf 22 = .ok (.invokestatic 212, 3) := by decide +kernel
theorem dX10_meanOf_25 : decode cX10_meanOf 25 = .ok (.ifCond .ne 6, 3) := by decide +kernel
theorem dX10_meanOf_28 : decode cX10_meanOf 28 = .ok (.goto 20, 3) := by decide +kernel
theorem dX10_meanOf_31 : decode cX10_meanOf 31 = .ok (.aload_n 0, 1) := by decide +kernel
theorem dX10_meanOf_32 : decode cX10_meanOf 32 = .ok (.getfield 93, 3) := by decide +kernel
theorem dX10_meanOf_35 : decode cX10_meanOf 35 = .ok (.iload_n 3, 1) := by decide +kernel
theorem dX10_meanOf_36 : decode cX10_meanOf 36 = .ok (.aload_n 0, 1) := by decide +kernel
theorem dX10_meanOf_37 : decode cX10_meanOf 37 = .ok (.iload_n 1, 1) := by decide +kernel
theorem dX10_meanOf_38 : decode cX10_meanOf 38 = .ok (.iload_n 2, 1) := by decide +kernel
theorem dX10_meanOf_39 : decode cX10_meanOf 39 = .ok (.iload 4, 2) := by decide +kernel
theorem dX10_meanOf_41 : decode cX10_meanOf 41 = .ok (.invokevirtual 312, 3) := by decide +kernel
theorem dX10_meanOf_44 : decode cX10_meanOf 44 = .ok (.iastore, 1) := by decide +kernel
theorem dX10_meanOf_45 : decode cX10_meanOf 45 = .ok (.iinc 3 1, 3) := by decide +kernel
theorem dX10_meanOf_48 : decode cX10_meanOf 48 = .ok (.iinc 4 1, 3) := by decide +kernel
theorem dX10_meanOf_51 : decode cX10_meanOf 51 = .ok (.goto (-46), 3) := by decide +kernel
theorem dX10_meanOf_54 : decode cX10_meanOf 54 = .ok (.aload_n 0, 1) := by decide +kernel
theorem dX10_meanOf_55 : decode cX10_meanOf 55 = .ok (.iload_n 3, 1) := by decide +kernel
theorem dX10_meanOf_56 : decode cX10_meanOf 56 = .ok (.invokevirtual 315, 3) := by decide +kernel
theorem dX10_meanOf_59 : decode cX10_meanOf 59 = .ok (.ireturn, 1) := by decide +kernel
theorem dX10_markAt_0 : decode cX10_markAt 0 = .ok (.sipush 648, 3) := by decide +kernel
theorem dX10_markAt_3 : decode cX10_markAt 3 = .ok (.bipush 9, 2) := by decide +kernel
theorem dX10_markAt_5 : decode cX10_markAt 5 = .ok (.iconst 3, 1) := by decide +kernel
theorem dX10_markAt_6 : decode cX10_markAt 6 = .ok (.iload_n 1, 1) := by decide +kernel
theorem dX10_markAt_7 : decode cX10_markAt 7 = .ok (.imul, 1) := by decide +kernel
theorem dX10_markAt_8 : decode cX10_markAt 8 = .ok (.iload_n 2, 1) := by decide +kernel
theorem dX10_markAt_9 : decode cX10_markAt 9 = .ok (.iadd, 1) := by decide +kernel
theorem dX10_markAt_10 : decode cX10_markAt 10 = .ok (.imul, 1) := by decide +kernel
theorem dX10_markAt_11 : decode cX10_markAt 11 = .ok (.iadd, 1) := by decide +kernel
theorem dX10_markAt_12 : decode cX10_markAt 12 = .ok (.iload_n 3, 1) := by decide +kernel
theorem dX10_markAt_13 : decode cX10_markAt 13 = .ok (.iadd, 1) := by decide +kernel
theorem dX10_markAt_14 : decode cX10_markAt 14 = .ok (.ireturn, 1) := by decide +kernel
theorem dX10_componentOf_0 : decode cX10_componentOf 0 = .ok (.iconst 0, 1) := by decide +kernel
theorem dX10_componentOf_1 : decode cX10_componentOf 1 = .ok (.istore_n 3, 1) := by decide +kernel
theorem dX10_componentOf_2 : decode cX10_componentOf 2 = .ok (.iconst 0, 1) := by decide +kernel
theorem dX10_componentOf_3 : decode cX10_componentOf 3 = .ok (.istore 4, 2) := by decide +kernel
theorem dX10_componentOf_5 : decode cX10_componentOf 5 = .ok (.iload 4, 2) := by decide +kernel
theorem dX10_componentOf_7 : decode cX10_componentOf 7 = .ok (.aload_n 0, 1) := by decide +kernel
theorem dX10_componentOf_8 : decode cX10_componentOf 8 = .ok (.getfield 81, 3) := by decide +kernel
theorem dX10_componentOf_11 : decode cX10_componentOf 11 = .ok (.iconst 2, 1) := by decide +kernel
theorem dX10_componentOf_12 : decode cX10_componentOf 12 = .ok (.iaload, 1) := by decide +kernel
theorem dX10_componentOf_13 : decode cX10_componentOf 13 = .ok (.if_icmp .ge 46, 3) := by decide +kernel
theorem dX10_componentOf_16 : decode cX10_componentOf 16 = .ok (.aload_n 0, 1) := by decide +kernel
theorem dX10_componentOf_17 : decode cX10_componentOf 17 = .ok (.getfield 275, 3) := by decide +kernel
theorem dX10_componentOf_20 : decode cX10_componentOf 20 = .ok (.iload 4, 2) := by decide +kernel
theorem dX10_componentOf_22 : decode cX10_componentOf 22 = .ok (.invokestatic 212, 3) := by decide +kernel
theorem dX10_componentOf_25 : decode cX10_componentOf 25 = .ok (.ifCond .ne 6, 3) := by decide +kernel
theorem dX10_componentOf_28 : decode cX10_componentOf 28 = .ok (.goto 25, 3) := by decide +kernel
theorem dX10_componentOf_31 : decode cX10_componentOf 31 = .ok (.aload_n 0, 1) := by decide +kernel
theorem dX10_componentOf_32 : decode cX10_componentOf 32 = .ok (.getfield 93, 3) := by decide +kernel
theorem dX10_componentOf_35 : decode cX10_componentOf 35 = .ok (.iload_n 3, 1) := by decide +kernel
theorem dX10_componentOf_36 : decode cX10_componentOf 36 = .ok (.aload_n 0, 1) := by decide +kernel
theorem dX10_componentOf_37 : decode cX10_componentOf 37 = .ok (.getfield 84, 3) := by decide +kernel
theorem dX10_componentOf_40 : decode cX10_componentOf 40 = .ok (.aload_n 0, 1) := by decide +kernel
theorem dX10_componentOf_41 : decode cX10_componentOf 41 = .ok (.iload_n 1, 1) := by decide +kernel
theorem dX10_componentOf_42 : decode cX10_componentOf 42 = .ok (.iload_n 2, 1) := by decide +kernel
theorem dX10_componentOf_43 : decode cX10_componentOf 43 = .ok (.iload 4, 2) := by decide +kernel
theorem dX10_componentOf_45 : decode cX10_componentOf 45 = .ok (.invokevirtual 319, 3) := by decide +kernel
theorem dX10_componentOf_48 : decode cX10_componentOf 48 = .ok (.iaload, 1) := by decide +kernel
theorem dX10_componentOf_49 : decode cX10_componentOf 49 = .ok (.iastore, 1) := by decide +kernel
theorem dX10_componentOf_50 : decode cX10_componentOf 50 = .ok (.iinc 3 1, 3) := by decide +kernel
theorem dX10_componentOf_53 : decode cX10_componentOf 53 = .ok (.iinc 4 1, 3) := by decide +kernel
theorem dX10_componentOf_56 : decode cX10_componentOf 56 = .ok (.goto (-51), 3) := by decide +kernel
theorem dX10_componentOf_59 : decode cX10_componentOf 59 = .ok (.aload_n 0, 1) := by decide +kernel
theorem dX10_componentOf_60 : decode cX10_componentOf 60 = .ok (.iload_n 3, 1) := by decide +kernel
theorem dX10_componentOf_61 : decode cX10_componentOf 61 = .ok (.invokevirtual 315, 3) := by decide +kernel
theorem dX10_componentOf_64 : decode cX10_componentOf 64 = .ok (.aload_n 0, 1) := by decide +kernel
theorem dX10_componentOf_65 : decode cX10_componentOf 65 = .ok (.getfield 84, 3) := by decide +kernel
theorem dX10_componentOf_68 : decode cX10_componentOf 68 = .ok (.sipush 968, 3) := by decide +kernel
theorem dX10_componentOf_71 : decode cX10_componentOf 71 = .ok (.iload_n 2, 1) := by decide +kernel
theorem dX10_componentOf_72 : decode cX10_componentOf 72 = .ok (.iadd, 1) := by decide +kernel
theorem dX10_componentOf_73 : decode cX10_componentOf 73 = .ok (.iaload, 1) := by decide +kernel
theorem dX10_componentOf_74 : decode cX10_componentOf 74 = .ok (.imul, 1) := by decide +kernel
theorem dX10_componentOf_75 : decode cX10_componentOf 75 = .ok (.bipush 100, 2) := by decide +kernel
theorem dX10_componentOf_77 : decode cX10_componentOf 77 = .ok (.idiv, 1) := by decide +kernel
theorem dX10_componentOf_78 : decode cX10_componentOf 78 = .ok (.ireturn, 1) := by decide +kernel
theorem dX10_stoodAhead_0 : decode cX10_stoodAhead 0 = .ok (.iconst 0, 1) := by decide +kernel
theorem dX10_stoodAhead_1 : decode cX10_stoodAhead 1 = .ok (.istore 4, 2) := by decide +kernel
theorem dX10_stoodAhead_3 : decode cX10_stoodAhead 3 = .ok (.aload_n 0, 1) := by decide +kernel
theorem dX10_stoodAhead_4 : decode cX10_stoodAhead 4 = .ok (.iload_n 1, 1) := by decide +kernel
theorem dX10_stoodAhead_5 : decode cX10_stoodAhead 5 = .ok (.iload_n 2, 1) := by decide +kernel
theorem dX10_stoodAhead_6 : decode cX10_stoodAhead 6 = .ok (.iload_n 3, 1) := by decide +kernel
theorem dX10_stoodAhead_7 : decode cX10_stoodAhead 7 = .ok (.invokevirtual 293, 3) := by decide +kernel
theorem dX10_stoodAhead_10 : decode cX10_stoodAhead 10 = .ok (.istore 5, 2) := by decide +kernel
theorem dX10_stoodAhead_12 : decode cX10_stoodAhead 12 = .ok (.iconst 0, 1) := by decide +kernel
theorem dX10_stoodAhead_13 : decode cX10_stoodAhead 13 = .ok (.istore 6, 2) := by decide +kernel
theorem dX10_stoodAhead_15 : decode cX10_stoodAhead 15 = .ok (.iload 6, 2) := by decide +kernel
theorem dX10_stoodAhead_17 : decode cX10_stoodAhead 17 = .ok (.iload_n 2, 1) := by decide +kernel
theorem dX10_stoodAhead_18 : decode cX10_stoodAhead 18 = .ok (.if_icmp .gt 77, 3) := by decide +kernel
theorem dX10_stoodAhead_21 : decode cX10_stoodAhead 21 = .ok (.aload_n 0, 1) := by decide +kernel
theorem dX10_stoodAhead_22 : decode cX10_stoodAhead 22 = .ok (.iload_n 1, 1) := by decide +kernel
theorem dX10_stoodAhead_23 : decode cX10_stoodAhead 23 = .ok (.iload 6, 2) := by decide +kernel
theorem dX10_stoodAhead_25 : decode cX10_stoodAhead 25 = .ok (.invokevirtual 322, 3) := by decide +kernel
theorem dX10_stoodAhead_28 : decode cX10_stoodAhead 28 = .ok (.ifCond .ne 6, 3) := by decide +kernel
theorem dX10_stoodAhead_31 : decode cX10_stoodAhead 31 = .ok (.goto 58, 3) := by decide +kernel
theorem dX10_stoodAhead_34 : decode cX10_stoodAhead 34 = .ok (.iconst 0, 1) := by decide +kernel
theorem dX10_stoodAhead_35 : decode cX10_stoodAhead 35 = .ok (.istore 7, 2) := by decide +kernel
theorem dX10_stoodAhead_37 : decode cX10_stoodAhead 37 = .ok (.iload 7, 2) := by decide +kernel
theorem dX10_stoodAhead_39 : decode cX10_stoodAhead 39 = .ok (.iload 6, 2) := by decide +kernel
theorem dX10_stoodAhead_41 : decode cX10_stoodAhead 41 = .ok (.iload_n 2, 1) := by decide +kernel
theorem dX10_stoodAhead_42 : decode cX10_stoodAhead 42 = .ok (.if_icmp .ne 7, 3) := by decide +kernel
theorem dX10_stoodAhead_45 : decode cX10_stoodAhead 45 = .ok (.iload_n 3, 1) := by decide +kernel
theorem dX10_stoodAhead_46 : decode cX10_stoodAhead 46 = .ok (.goto 10, 3) := by decide +kernel
theorem dX10_stoodAhead_49 : decode cX10_stoodAhead 49 = .ok (.aload_n 0, 1) := by decide +kernel
theorem dX10_stoodAhead_50 : decode cX10_stoodAhead 50 = .ok (.iload_n 1, 1) := by decide +kernel
theorem dX10_stoodAhead_51 : decode cX10_stoodAhead 51 = .ok (.iload 6, 2) := by decide +kernel
theorem dX10_stoodAhead_53 : decode cX10_stoodAhead 53 = .ok (.invokevirtual 325, 3) := by decide +kernel
theorem dX10_stoodAhead_56 : decode cX10_stoodAhead 56 = .ok (.if_icmp .ge 33, 3) := by decide +kernel
theorem dX10_stoodAhead_59 : decode cX10_stoodAhead 59 = .ok (.iload 4, 2) := by decide +kernel
theorem dX10_stoodAhead_61 : decode cX10_stoodAhead 61 = .ok (.aload_n 0, 1) := by decide +kernel
theorem dX10_stoodAhead_62 : decode cX10_stoodAhead 62 = .ok (.iload_n 1, 1) := by decide +kernel
theorem dX10_stoodAhead_63 : decode cX10_stoodAhead 63 = .ok (.iload 6, 2) := by decide +kernel
theorem dX10_stoodAhead_65 : decode cX10_stoodAhead 65 = .ok (.iload 7, 2) := by decide +kernel
theorem dX10_stoodAhead_67 : decode cX10_stoodAhead 67 = .ok (.invokevirtual 293, 3) := by decide +kernel
theorem dX10_stoodAhead_70 : decode cX10_stoodAhead 70 = .ok (.iload 5, 2) := by decide +kernel
theorem dX10_stoodAhead_72 : decode cX10_stoodAhead 72 = .ok (.if_icmp .ne 7, 3) := by decide +kernel
theorem dX10_stoodAhead_75 : decode cX10_stoodAhead 75 = .ok (.iconst 1, 1) := by decide +kernel
theorem dX10_stoodAhead_76 : decode cX10_stoodAhead 76 = .ok (.goto 4, 3) := by decide +kernel
theorem dX10_stoodAhead_79 : decode cX10_stoodAhead 79 = .ok (.iconst 0, 1) := by decide +kernel
theorem dX10_stoodAhead_80 : decode cX10_stoodAhead 80 = .ok (.iadd, 1) := by decide +kernel
theorem dX10_stoodAhead_81 : decode cX10_stoodAhead 81 = .ok (.istore 4, 2) := by decide +kernel
theorem dX10_stoodAhead_83 : decode cX10_stoodAhead 83 = .ok (.iinc 7 1, 3) := by decide +kernel
theorem dX10_stoodAhead_86 : decode cX10_stoodAhead 86 = .ok (.goto (-49), 3) := by decide +kernel
theorem dX10_stoodAhead_89 : decode cX10_stoodAhead 89 = .ok (.iinc 6 1, 3) := by decide +kernel
theorem dX10_stoodAhead_92 : decode cX10_stoodAhead 92 = .ok (.goto (-77), 3) := by decide +kernel
theorem dX10_stoodAhead_95 : decode cX10_stoodAhead 95 = .ok (.iload 4, 2) := by decide +kernel
theorem dX10_stoodAhead_97 : decode cX10_stoodAhead 97 = .ok (.ireturn, 1) := by decide +kernel
theorem dX10_isStruck_0 : decode cX10_isStruck 0 = .ok (.aload_n 0, 1) := by decide +kernel
theorem dX10_isStruck_1 : decode cX10_isStruck 1 = .ok (.iload_n 1, 1) := by decide +kernel
theorem dX10_isStruck_2 : decode cX10_isStruck 2 = .ok (.iload_n 2, 1) := by decide +kernel
theorem dX10_isStruck_3 : decode cX10_isStruck 3 = .ok (.iload_n 3, 1) := by decide +kernel
theorem dX10_isStruck_4 : decode cX10_isStruck 4 = .ok (.invokevirtual 328, 3) := by decide +kernel
theorem dX10_isStruck_7 : decode cX10_isStruck 7 = .ok (.aload_n 0, 1) := by decide +kernel
theorem dX10_isStruck_8 : decode cX10_isStruck 8 = .ok (.aload_n 0, 1) := by decide +kernel
theorem dX10_isStruck_9 : decode cX10_isStruck 9 = .ok (.iload_n 1, 1) := by decide +kernel
theorem dX10_isStruck_10 : decode cX10_isStruck 10 = .ok (.iload_n 2, 1) := by decide +kernel
theorem dX10_isStruck_11 : decode cX10_isStruck 11 = .ok (.iload_n 3, 1) := by decide +kernel
theorem dX10_isStruck_12 : decode cX10_isStruck 12 = .ok (.invokevirtual 293, 3) := by decide +kernel
theorem dX10_isStruck_15 : decode cX10_isStruck 15 = .ok (.invokevirtual 297, 3) := by decide +kernel
theorem dX10_isStruck_18 : decode cX10_isStruck 18 = .ok (.ifCond .eq 14, 3) := by decide +kernel
theorem dX10_isStruck_21 : decode cX10_isStruck 21 = .ok (.aload_n 0, 1) := by decide +kernel
theorem dX10_isStruck_22 : decode cX10_isStruck 22 = .ok (.getfield 84, 3) := by decide +kernel
theorem dX10_isStruck_25 : decode cX10_isStruck 25 = .ok (.sipush 967, 3) := by decide +kernel
theorem dX10_isStruck_28 : decode cX10_isStruck 28 = .ok (.iaload, 1) := by decide +kernel
theorem dX10_isStruck_29 : decode cX10_isStruck 29 = .ok (.goto 4, 3) := by decide +kernel
theorem dX10_isStruck_32 : decode cX10_isStruck 32 = .ok (.iconst 1, 1) := by decide +kernel
theorem dX10_isStruck_33 : decode cX10_isStruck 33 = .ok (.if_icmp .lt 7, 3) := by decide +kernel
theorem dX10_isStruck_36 : decode cX10_isStruck 36 = .ok (.iconst 1, 1) := by decide +kernel
theorem dX10_isStruck_37 : decode cX10_isStruck 37 = .ok (.goto 4, 3) := by decide +kernel
theorem dX10_isStruck_40 : decode cX10_isStruck 40 = .ok (.iconst 0, 1) := by decide +kernel
theorem dX10_isStruck_41 : decode cX10_isStruck 41 = .ok (.ireturn, 1) := by decide +kernel
theorem dX10_struckOf_0 : decode cX10_struckOf 0 = .ok (.iconst 0, 1) := by decide +kernel
theorem dX10_struckOf_1 : decode cX10_struckOf 1 = .ok (.istore_n 3, 1) := by decide +kernel
theorem dX10_struckOf_2 : decode cX10_struckOf 2 = .ok (.iconst 0, 1) := by decide +kernel
theorem dX10_struckOf_3 : decode cX10_struckOf 3 = .ok (.istore 4, 2) := by decide +kernel
theorem dX10_struckOf_5 : decode cX10_struckOf 5 = .ok (.iload 4, 2) := by decide +kernel
theorem dX10_struckOf_7 : decode cX10_struckOf 7 = .ok (.aload_n 0, 1) := by decide +kernel
theorem dX10_struckOf_8 : decode cX10_struckOf 8 = .ok (.iload_n 1, 1) := by decide +kernel
theorem dX10_struckOf_9 : decode cX10_struckOf 9 = .ok (.iload_n 2, 1) := by decide +kernel
theorem dX10_struckOf_10 : decode cX10_struckOf 10 = .ok (.invokevirtual 325, 3) := by decide +kernel
theorem dX10_struckOf_13 : decode cX10_struckOf 13 = .ok (.if_icmp .ge 31, 3) := by decide +kernel
theorem dX10_struckOf_16 : decode cX10_struckOf 16 = .ok (.iload_n 3, 1) := by decide +kernel
theorem dX10_struckOf_17 : decode cX10_struckOf 17 = .ok (.aload_n 0, 1) := by decide +kernel
theorem dX10_struckOf_18 : decode cX10_struckOf 18 = .ok (.iload_n 1, 1) := by decide +kernel
theorem dX10_struckOf_19 : decode cX10_struckOf 19 = .ok (.iload_n 2, 1) := by decide +kernel
theorem dX10_struckOf_20 : decode cX10_struckOf 20 = .ok (.iload 4, 2) := by decide +kernel
theorem dX10_struckOf_22 : decode cX10_struckOf 22 = .ok (.invokevirtual 331, 3) := by decide +kernel
theorem dX10_struckOf_25 : decode cX10_struckOf 25 = .ok (.ifCond .eq 10, 3) := by decide +kernel
theorem dX10_struckOf_28 : decode cX10_struckOf 28 = .ok (.iconst 1, 1) := by decide +kernel
theorem dX10_struckOf_29 : decode cX10_struckOf 29 = .ok (.iload 4, 2) := by decide +kernel
theorem dX10_struckOf_31 : decode cX10_struckOf 31 = .ok (.ishl, 1) := by decide +kernel
theorem dX10_struckOf_32 : decode cX10_struckOf 32 = .ok (.goto 4, 3) := by decide +kernel
theorem dX10_struckOf_35 : decode cX10_struckOf 35 = .ok (.iconst 0, 1) := by decide +kernel
theorem dX10_struckOf_36 : decode cX10_struckOf 36 = .ok (.ior, 1) := by decide +kernel
theorem dX10_struckOf_37 : decode cX10_struckOf 37 = .ok (.istore_n 3, 1) := by decide +kernel
theorem dX10_struckOf_38 : decode cX10_struckOf 38 = .ok (.iinc 4 1, 3) := by decide +kernel
theorem dX10_struckOf_41 : decode cX10_struckOf 41 = .ok (.goto (-36), 3) := by decide +kernel
theorem dX10_struckOf_44 : decode cX10_struckOf 44 = .ok (.iload_n 3, 1) := by decide +kernel
theorem dX10_struckOf_45 : decode cX10_struckOf 45 = .ok (.ireturn, 1) := by decide +kernel
theorem dX10_worthOf_0 : decode cX10_worthOf 0 = .ok (.iconst 0, 1) := by decide +kernel
theorem dX10_worthOf_1 : decode cX10_worthOf 1 = .ok (.istore_n 3, 1) := by decide +kernel
theorem dX10_worthOf_2 : decode cX10_worthOf 2 = .ok (.iconst 0, 1) := by decide +kernel
theorem dX10_worthOf_3 : decode cX10_worthOf 3 = .ok (.istore 4, 2) := by decide +kernel
theorem dX10_worthOf_5 : decode cX10_worthOf 5 = .ok (.iload 4, 2) := by decide +kernel
theorem dX10_worthOf_7 : decode cX10_worthOf 7 = .ok (.aload_n 0, 1) := by decide +kernel
theorem dX10_worthOf_8 : decode cX10_worthOf 8 = .ok (.iload_n 1, 1) := by decide +kernel
theorem dX10_worthOf_9 : decode cX10_worthOf 9 = .ok (.iload_n 2, 1) := by decide +kernel
theorem dX10_worthOf_10 : decode cX10_worthOf 10 = .ok (.invokevirtual 325, 3) := by decide +kernel
theorem dX10_worthOf_13 : decode cX10_worthOf 13 = .ok (.if_icmp .ge 44, 3) := by decide +kernel
theorem dX10_worthOf_16 : decode cX10_worthOf 16 = .ok (.iload_n 3, 1) := by decide +kernel
theorem dX10_worthOf_17 : decode cX10_worthOf 17 = .ok (.aload_n 0, 1) := by decide +kernel
theorem dX10_worthOf_18 : decode cX10_worthOf 18 = .ok (.iload_n 1, 1) := by decide +kernel
theorem dX10_worthOf_19 : decode cX10_worthOf 19 = .ok (.iload_n 2, 1) := by decide +kernel
theorem dX10_worthOf_20 : decode cX10_worthOf 20 = .ok (.iload 4, 2) := by decide +kernel
theorem dX10_worthOf_22 : decode cX10_worthOf 22 = .ok (.invokevirtual 331, 3) := by decide +kernel
theorem dX10_worthOf_25 : decode cX10_worthOf 25 = .ok (.ifCond .eq 7, 3) := by decide +kernel
theorem dX10_worthOf_28 : decode cX10_worthOf 28 = .ok (.iconst 0, 1) := by decide +kernel
theorem dX10_worthOf_29 : decode cX10_worthOf 29 = .ok (.goto 20, 3) := by decide +kernel
theorem dX10_worthOf_32 : decode cX10_worthOf 32 = .ok (.aload_n 0, 1) := by decide +kernel
theorem dX10_worthOf_33 : decode cX10_worthOf 33 = .ok (.getfield 84, 3) := by decide +kernel
theorem dX10_worthOf_36 : decode cX10_worthOf 36 = .ok (.sipush 954, 3) := by decide +kernel
theorem dX10_worthOf_39 : decode cX10_worthOf 39 = .ok (.aload_n 0, 1) := by decide +kernel
theorem dX10_worthOf_40 : decode cX10_worthOf 40 = .ok (.iload_n 1, 1) := by decide +kernel
theorem dX10_worthOf_41 : decode cX10_worthOf 41 = .ok (.iload_n 2, 1) := by decide +kernel
theorem dX10_worthOf_42 : decode cX10_worthOf 42 = .ok (.iload 4, 2) := by decide +kernel
theorem dX10_worthOf_44 : decode cX10_worthOf 44 = .ok (.invokevirtual 293, 3) := by decide +kernel
theorem dX10_worthOf_47 : decode cX10_worthOf 47 = .ok (.iadd, 1) := by decide +kernel
theorem dX10_worthOf_48 : decode cX10_worthOf 48 = .ok (.iaload, 1) := by decide +kernel
theorem dX10_worthOf_49 : decode cX10_worthOf 49 = .ok (.iadd, 1) := by decide +kernel
theorem dX10_worthOf_50 : decode cX10_worthOf 50 = .ok (.istore_n 3, 1) := by decide +kernel
theorem dX10_worthOf_51 : decode cX10_worthOf 51 = .ok (.iinc 4 1, 3) := by decide +kernel
theorem dX10_worthOf_54 : decode cX10_worthOf 54 = .ok (.goto (-49), 3) := by decide +kernel
theorem dX10_worthOf_57 : decode cX10_worthOf 57 = .ok (.aload_n 0, 1) := by decide +kernel
theorem dX10_worthOf_58 : decode cX10_worthOf 58 = .ok (.iload_n 1, 1) := by decide +kernel
theorem dX10_worthOf_59 : decode cX10_worthOf 59 = .ok (.iload_n 2, 1) := by decide +kernel
theorem dX10_worthOf_60 : decode cX10_worthOf 60 = .ok (.invokevirtual 334, 3) := by decide +kernel
theorem dX10_worthOf_63 : decode cX10_worthOf 63 = .ok (.iconst 0, 1) := by decide +kernel
theorem dX10_worthOf_64 : decode cX10_worthOf 64 = .ok (.invokestatic 212, 3) := by decide +kernel
theorem dX10_worthOf_67 : decode cX10_worthOf 67 = .ok (.ifCond .eq 11, 3) := by decide +kernel
theorem dX10_worthOf_70 : decode cX10_worthOf 70 = .ok (.iload_n 3, 1) := by decide +kernel
theorem dX10_worthOf_71 : decode cX10_worthOf 71 = .ok (.bipush 8, 2) := by decide +kernel
theorem dX10_worthOf_73 : decode cX10_worthOf 73 = .ok (.imul, 1) := by decide +kernel
theorem dX10_worthOf_74 : decode cX10_worthOf 74 = .ok (.bipush 10, 2) := by decide +kernel
theorem dX10_worthOf_76 : decode cX10_worthOf 76 = .ok (.idiv, 1) := by decide +kernel
theorem dX10_worthOf_77 : decode cX10_worthOf 77 = .ok (.istore_n 3, 1) := by decide +kernel
theorem dX10_worthOf_78 : decode cX10_worthOf 78 = .ok (.aload_n 0, 1) := by decide +kernel
theorem dX10_worthOf_79 : decode cX10_worthOf 79 = .ok (.iload_n 1, 1) := by decide +kernel
theorem dX10_worthOf_80 : decode cX10_worthOf 80 = .ok (.iload_n 2, 1) := by decide +kernel
theorem dX10_worthOf_81 : decode cX10_worthOf 81 = .ok (.invokevirtual 334, 3) := by decide +kernel
theorem dX10_worthOf_84 : decode cX10_worthOf 84 = .ok (.iconst 1, 1) := by decide +kernel
theorem dX10_worthOf_85 : decode cX10_worthOf 85 = .ok (.invokestatic 212, 3) := by decide +kernel
theorem dX10_worthOf_88 : decode cX10_worthOf 88 = .ok (.ifCond .eq 11, 3) := by decide +kernel
theorem dX10_worthOf_91 : decode cX10_worthOf 91 = .ok (.iload_n 3, 1) := by decide +kernel
theorem dX10_worthOf_92 : decode cX10_worthOf 92 = .ok (.bipush 7, 2) := by decide +kernel
theorem dX10_worthOf_94 : decode cX10_worthOf 94 = .ok (.imul, 1) := by decide +kernel
theorem dX10_worthOf_95 : decode cX10_worthOf 95 = .ok (.bipush 10, 2) := by decide +kernel
theorem dX10_worthOf_97 : decode cX10_worthOf 97 = .ok (.idiv, 1) := by decide +kernel
theorem dX10_worthOf_98 : decode cX10_worthOf 98 = .ok (.istore_n 3, 1) := by decide +kernel
theorem dX10_worthOf_99 : decode cX10_worthOf 99 = .ok (.aload_n 0, 1) := by decide +kernel
theorem dX10_worthOf_100 : decode cX10_worthOf 100 = .ok (.iload_n 1, 1) := by decide +kernel
theorem dX10_worthOf_101 : decode cX10_worthOf 101 = .ok (.iload_n 2, 1) := by decide +kernel
theorem dX10_worthOf_102 : decode cX10_worthOf 102 = .ok (.invokevirtual 337, 3) := by decide +kernel
theorem dX10_worthOf_105 : decode cX10_worthOf 105 = .ok (.ifCond .eq 21, 3) := by decide +kernel
theorem dX10_worthOf_108 : decode cX10_worthOf 108 = .ok (.iload_n 3, 1) := by decide +kernel
theorem dX10_worthOf_109 : decode cX10_worthOf 109 = .ok (.iload_n 3, 1) := by decide +kernel
theorem dX10_worthOf_110 : decode cX10_worthOf 110 = .ok (.aload_n 0, 1) := by decide +kernel
theorem dX10_worthOf_111 : decode cX10_worthOf 111 = .ok (.getfield 84, 3) := by decide +kernel
theorem dX10_worthOf_114 : decode cX10_worthOf 114 = .ok (.sipush 966, 3) := by decide +kernel
theorem dX10_worthOf_117 : decode cX10_worthOf 117 = .ok (.iaload, 1) := by decide +kernel
theorem dX10_worthOf_118 : decode cX10_worthOf 118 = .ok (.imul, 1) := by decide +kernel
theorem dX10_worthOf_119 : decode cX10_worthOf 119 = .ok (.bipush 100, 2) := by decide +kernel
theorem dX10_worthOf_121 : decode cX10_worthOf 121 = .ok (.idiv, 1) := by decide +kernel
theorem dX10_worthOf_122 : decode cX10_worthOf 122 = .ok (.iadd, 1) := by decide +kernel
theorem dX10_worthOf_123 : decode cX10_worthOf 123 = .ok (.goto 4, 3) := by decide +kernel
theorem dX10_worthOf_126 : decode cX10_worthOf 126 = .ok (.iload_n 3, 1) := by decide +kernel
theorem dX10_worthOf_127 : decode cX10_worthOf 127 = .ok (.ireturn, 1) := by decide +kernel
theorem dX10_gainOf_0 : decode cX10_gainOf 0 = .ok (.iconst 0, 1) := by decide +kernel
theorem dX10_gainOf_1 : decode cX10_gainOf 1 = .ok (.istore_n 3, 1) := by decide +kernel
theorem dX10_gainOf_2 : decode cX10_gainOf 2 = .ok (.iconst 0, 1) := by decide +kernel
theorem dX10_gainOf_3 : decode cX10_gainOf 3 = .ok (.istore 4, 2) := by decide +kernel
theorem dX10_gainOf_5 : decode cX10_gainOf 5 = .ok (.iload 4, 2) := by decide +kernel
theorem dX10_gainOf_7 : decode cX10_gainOf 7 = .ok (.aload_n 0, 1) := by decide +kernel
theorem dX10_gainOf_8 : decode cX10_gainOf 8 = .ok (.iload_n 1, 1) := by decide +kernel
theorem dX10_gainOf_9 : decode cX10_gainOf 9 = .ok (.iload_n 2, 1) := by decide +kernel
theorem dX10_gainOf_10 : decode cX10_gainOf 10 = .ok (.invokevirtual 325, 3) := by decide +kernel
theorem dX10_gainOf_13 : decode cX10_gainOf 13 = .ok (.if_icmp .ge 46, 3) := by decide +kernel
theorem dX10_gainOf_16 : decode cX10_gainOf 16 = .ok (.aload_n 0, 1) := by decide +kernel
theorem dX10_gainOf_17 : decode cX10_gainOf 17 = .ok (.iload_n 1, 1) := by decide +kernel
theorem dX10_gainOf_18 : decode cX10_gainOf 18 = .ok (.iload_n 2, 1) := by decide +kernel
theorem dX10_gainOf_19 : decode cX10_gainOf 19 = .ok (.iload 4, 2) := by decide +kernel
theorem dX10_gainOf_21 : decode cX10_gainOf 21 = .ok (.invokevirtual 331, 3) := by decide +kernel
theorem dX10_gainOf_24 : decode cX10_gainOf 24 = .ok (.ifCond .eq 7, 3) := by decide +kernel
theorem dX10_gainOf_27 : decode cX10_gainOf 27 = .ok (.iload_n 3, 1) := by decide +kernel
theorem dX10_gainOf_28 : decode cX10_gainOf 28 = .ok (.goto 24, 3) := by decide +kernel
theorem dX10_gainOf_31 : decode cX10_gainOf 31 = .ok (.iload_n 3, 1) := by decide +kernel
theorem dX10_gainOf_32 : decode cX10_gainOf 32 = .ok (.aload_n 0, 1) := by decide +kernel
theorem dX10_gainOf_33 : decode cX10_gainOf 33 = .ok (.getfield 84, 3) := by decide +kernel
theorem dX10_gainOf_36 : decode cX10_gainOf 36 = .ok (.sipush 954, 3) := by decide +kernel
theorem dX10_gainOf_39 : decode cX10_gainOf 39 = .ok (.aload_n 0, 1) := by decide +kernel
theorem dX10_gainOf_40 : decode cX10_gainOf 40 = .ok (.iload_n 1, 1) := by decide +kernel
theorem dX10_gainOf_41 : decode cX10_gainOf 41 = .ok (.iload_n 2, 1) := by decide +kernel
theorem dX10_gainOf_42 : decode cX10_gainOf 42 = .ok (.iload 4, 2) := by decide +kernel
theorem dX10_gainOf_44 : decode cX10_gainOf 44 = .ok (.invokevirtual 293, 3) := by decide +kernel
theorem dX10_gainOf_47 : decode cX10_gainOf 47 = .ok (.iadd, 1) := by decide +kernel
theorem dX10_gainOf_48 : decode cX10_gainOf 48 = .ok (.iaload, 1) := by decide +kernel
theorem dX10_gainOf_49 : decode cX10_gainOf 49 = .ok (.invokestatic 253, 3) := by decide +kernel
theorem dX10_gainOf_52 : decode cX10_gainOf 52 = .ok (.istore_n 3, 1) := by decide +kernel
theorem dX10_gainOf_53 : decode cX10_gainOf 53 = .ok (.iinc 4 1, 3) := by decide +kernel
theorem dX10_gainOf_56 : decode cX10_gainOf 56 = .ok (.goto (-51), 3) := by decide +kernel
theorem dX10_gainOf_59 : decode cX10_gainOf 59 = .ok (.iload_n 3, 1) := by decide +kernel
theorem dX10_gainOf_60 : decode cX10_gainOf 60 = .ok (.aload_n 0, 1) := by decide +kernel
theorem dX10_gainOf_61 : decode cX10_gainOf 61 = .ok (.iload_n 1, 1) := by decide +kernel
theorem dX10_gainOf_62 : decode cX10_gainOf 62 = .ok (.iload_n 2, 1) := by decide +kernel
theorem dX10_gainOf_63 : decode cX10_gainOf 63 = .ok (.invokevirtual 340, 3) := by decide +kernel
theorem dX10_gainOf_66 : decode cX10_gainOf 66 = .ok (.imul, 1) := by decide +kernel
theorem dX10_gainOf_67 : decode cX10_gainOf 67 = .ok (.sipush 1000, 3) := by decide +kernel
theorem dX10_gainOf_70 : decode cX10_gainOf 70 = .ok (.invokestatic 309, 3) := by decide +kernel
theorem dX10_gainOf_73 : decode cX10_gainOf 73 = .ok (.ireturn, 1) := by decide +kernel
theorem dX10_pointsAt_0 : decode cX10_pointsAt 0 = .ok (.aload_n 0, 1) := by decide +kernel
theorem dX10_pointsAt_1 : decode cX10_pointsAt 1 = .ok (.iload_n 1, 1) := by decide +kernel
theorem dX10_pointsAt_2 : decode cX10_pointsAt 2 = .ok (.iload_n 2, 1) := by decide +kernel
theorem dX10_pointsAt_3 : decode cX10_pointsAt 3 = .ok (.invokevirtual 343, 3) := by decide +kernel
theorem dX10_pointsAt_6 : decode cX10_pointsAt 6 = .ok (.aload_n 0, 1) := by decide +kernel
theorem dX10_pointsAt_7 : decode cX10_pointsAt 7 = .ok (.iload_n 1, 1) := by decide +kernel
theorem dX10_pointsAt_8 : decode cX10_pointsAt 8 = .ok (.iload_n 2, 1) := by decide +kernel
theorem dX10_pointsAt_9 : decode cX10_pointsAt 9 = .ok (.invokevirtual 346, 3) := by decide +kernel
theorem dX10_pointsAt_12 : decode cX10_pointsAt 12 = .ok (.iadd, 1) := by decide +kernel
theorem dX10_pointsAt_13 : decode cX10_pointsAt 13 = .ok (.ireturn, 1) := by decide +kernel
theorem dX10_pointsOf_0 : decode cX10_pointsOf 0 = .ok (.iconst 0, 1) := by decide +kernel
theorem dX10_pointsOf_1 : decode cX10_pointsOf 1 = .ok (.istore_n 2, 1) := by decide +kernel
theorem dX10_pointsOf_2 : decode cX10_pointsOf 2 = .ok (.iconst 0, 1) := by decide +kernel
theorem dX10_pointsOf_3 : decode cX10_pointsOf 3 = .ok (.istore_n 3, 1) := by decide +kernel
theorem dX10_pointsOf_4 : decode cX10_pointsOf 4 = .ok (.iload_n 3, 1) := by decide +kernel
theorem dX10_pointsOf_5 : decode cX10_pointsOf 5 = .ok (.aload_n 0, 1) := by decide +kernel
theorem dX10_pointsOf_6 : decode cX10_pointsOf 6 = .ok (.getfield 81, 3) := by decide +kernel
theorem dX10_pointsOf_9 : decode cX10_pointsOf 9 = .ok (.bipush 116, 2) := by decide +kernel
theorem dX10_pointsOf_11 : decode cX10_pointsOf 11 = .ok (.iload_n 1, 1) := by decide +kernel
theorem dX10_pointsOf_12 : decode cX10_pointsOf 12 = .ok (.iadd, 1) := by decide +kernel
theorem dX10_pointsOf_13 : decode cX10_pointsOf 13 = .ok (.iaload, 1) := by decide +kernel
theorem dX10_pointsOf_14 : decode cX10_pointsOf 14 = .ok (.if_icmp .ge 31, 3) := by decide +kernel
theorem dX10_pointsOf_17 : decode cX10_pointsOf 17 = .ok (.iload_n 2, 1) := by decide +kernel
theorem dX10_pointsOf_18 : decode cX10_pointsOf 18 = .ok (.aload_n 0, 1) := by decide +kernel
theorem dX10_pointsOf_19 : decode cX10_pointsOf 19 = .ok (.iload_n 1, 1) := by decide +kernel
theorem dX10_pointsOf_20 : decode cX10_pointsOf 20 = .ok (.iload_n 3, 1) := by decide +kernel
theorem dX10_pointsOf_21 : decode cX10_pointsOf 21 = .ok (.invokevirtual 322, 3) := by decide +kernel
theorem dX10_pointsOf_24 : decode cX10_pointsOf 24 = .ok (.ifCond .eq 12, 3) := by decide +kernel
theorem dX10_pointsOf_27 : decode cX10_pointsOf 27 = .ok (.aload_n 0, 1) := by decide +kernel
theorem dX10_pointsOf_28 : decode cX10_pointsOf 28 = .ok (.iload_n 1, 1) := by decide +kernel
theorem dX10_pointsOf_29 : decode cX10_pointsOf 29 = .ok (.iload_n 3, 1) := by decide +kernel
theorem dX10_pointsOf_30 : decode cX10_pointsOf 30 = .ok (.invokevirtual 349, 3) := by decide +kernel
theorem dX10_pointsOf_33 : decode cX10_pointsOf 33 = .ok (.goto 4, 3) := by decide +kernel
theorem dX10_pointsOf_36 : decode cX10_pointsOf 36 = .ok (.iconst 0, 1) := by decide +kernel
theorem dX10_pointsOf_37 : decode cX10_pointsOf 37 = .ok (.iadd, 1) := by decide +kernel
theorem dX10_pointsOf_38 : decode cX10_pointsOf 38 = .ok (.istore_n 2, 1) := by decide +kernel
theorem dX10_pointsOf_39 : decode cX10_pointsOf 39 = .ok (.iinc 3 1, 3) := by decide +kernel
theorem dX10_pointsOf_42 : decode cX10_pointsOf 42 = .ok (.goto (-38), 3) := by decide +kernel
theorem dX10_pointsOf_45 : decode cX10_pointsOf 45 = .ok (.iload_n 2, 1) := by decide +kernel
theorem dX10_pointsOf_46 : decode cX10_pointsOf 46 = .ok (.ireturn, 1) := by decide +kernel
theorem dX10_shownOf_0 : decode cX10_shownOf 0 = .ok (.iconst 0, 1) := by decide +kernel
theorem dX10_shownOf_1 : decode cX10_shownOf 1 = .ok (.istore_n 2, 1) := by decide +kernel
theorem dX10_shownOf_2 : decode cX10_shownOf 2 = .ok (.iconst 0, 1) := by decide +kernel
theorem dX10_shownOf_3 : decode cX10_shownOf 3 = .ok (.istore_n 3, 1) := by decide +kernel
theorem dX10_shownOf_4 : decode cX10_shownOf 4 = .ok (.iload_n 3, 1) := by decide +kernel
theorem dX10_shownOf_5 : decode cX10_shownOf 5 = .ok (.iconst 3, 1) := by decide +kernel
theorem dX10_shownOf_6 : decode cX10_shownOf 6 = .ok (.if_icmp .ge 18, 3) := by decide +kernel
theorem dX10_shownOf_9 : decode cX10_shownOf 9 = .ok (.iload_n 2, 1) := by decide +kernel
theorem dX10_shownOf_10 : decode cX10_shownOf 10 = .ok (.aload_n 0, 1) := by decide +kernel
theorem dX10_shownOf_11 : decode cX10_shownOf 11 = .ok (.iload_n 1, 1) := by decide +kernel
theorem dX10_shownOf_12 : decode cX10_shownOf 12 = .ok (.iload_n 3, 1) := by decide +kernel
theorem dX10_shownOf_13 : decode cX10_shownOf 13 = .ok (.invokevirtual 352, 3) := by decide +kernel
theorem dX10_shownOf_16 : decode cX10_shownOf 16 = .ok (.iadd, 1) := by decide +kernel
theorem dX10_shownOf_17 : decode cX10_shownOf 17 = .ok (.istore_n 2, 1) := by decide +kernel
theorem dX10_shownOf_18 : decode cX10_shownOf 18 = .ok (.iinc 3 1, 3) := by decide +kernel
theorem dX10_shownOf_21 : decode cX10_shownOf 21 = .ok (.goto (-17), 3) := by decide +kernel
theorem dX10_shownOf_24 : decode cX10_shownOf 24 = .ok (.iload_n 2, 1) := by decide +kernel
theorem dX10_shownOf_25 : decode cX10_shownOf 25 = .ok (.ireturn, 1) := by decide +kernel
theorem dX10_calledOf_0 : decode cX10_calledOf 0 = .ok (.iconst 0, 1) := by decide +kernel
theorem dX10_calledOf_1 : decode cX10_calledOf 1 = .ok (.istore_n 3, 1) := by decide +kernel
theorem dX10_calledOf_2 : decode cX10_calledOf 2 = .ok (.iconst 0, 1) := by decide +kernel
theorem dX10_calledOf_3 : decode cX10_calledOf 3 = .ok (.istore 4, 2) := by decide +kernel
theorem dX10_calledOf_5 : decode cX10_calledOf 5 = .ok (.iload 4, 2) := by decide +kernel
theorem dX10_calledOf_7 : decode cX10_calledOf 7 = .ok (.aload_n 0, 1) := by decide +kernel
theorem dX10_calledOf_8 : decode cX10_calledOf 8 = .ok (.getfield 81, 3) := by decide +kernel
theorem dX10_calledOf_11 : decode cX10_calledOf 11 = .ok (.bipush 116, 2) := by decide +kernel
theorem dX10_calledOf_13 : decode cX10_calledOf 13 = .ok (.iload_n 1, 1) := by decide +kernel
theorem dX10_calledOf_14 : decode cX10_calledOf 14 = .ok (.iadd, 1) := by decide +kernel
theorem dX10_calledOf_15 : decode cX10_calledOf 15 = .ok (.iaload, 1) := by decide +kernel
theorem dX10_calledOf_16 : decode cX10_calledOf 16 = .ok (.if_icmp .ge 41, 3) := by decide +kernel
theorem dX10_calledOf_19 : decode cX10_calledOf 19 = .ok (.iload_n 3, 1) := by decide +kernel
theorem dX10_calledOf_20 : decode cX10_calledOf 20 = .ok (.aload_n 0, 1) := by decide +kernel
theorem dX10_calledOf_21 : decode cX10_calledOf 21 = .ok (.iload_n 1, 1) := by decide +kernel
theorem dX10_calledOf_22 : decode cX10_calledOf 22 = .ok (.iload 4, 2) := by decide +kernel
theorem dX10_calledOf_24 : decode cX10_calledOf 24 = .ok (.invokevirtual 322, 3) := by decide +kernel
theorem dX10_calledOf_27 : decode cX10_calledOf 27 = .ok (.ifCond .eq 21, 3) := by decide +kernel
theorem dX10_calledOf_30 : decode cX10_calledOf 30 = .ok (.aload_n 0, 1) := by decide +kernel
theorem dX10_calledOf_31 : decode cX10_calledOf 31 = .ok (.iload_n 1, 1) := by decide +kernel
theorem dX10_calledOf_32 : decode cX10_calledOf 32 = .ok (.iload 4, 2) := by decide +kernel
theorem dX10_calledOf_34 : decode cX10_calledOf 34 = .ok (.invokevirtual 334, 3) := by decide +kernel
theorem dX10_calledOf_37 : decode cX10_calledOf 37 = .ok (.iload_n 2, 1) := by decide +kernel
theorem dX10_calledOf_38 : decode cX10_calledOf 38 = .ok (.invokestatic 212, 3) := by decide +kernel
theorem dX10_calledOf_41 : decode cX10_calledOf 41 = .ok (.ifCond .eq 7, 3) := by decide +kernel
theorem dX10_calledOf_44 : decode cX10_calledOf 44 = .ok (.iconst 1, 1) := by decide +kernel
theorem dX10_calledOf_45 : decode cX10_calledOf 45 = .ok (.goto 4, 3) := by decide +kernel
theorem dX10_calledOf_48 : decode cX10_calledOf 48 = .ok (.iconst 0, 1) := by decide +kernel
theorem dX10_calledOf_49 : decode cX10_calledOf 49 = .ok (.iadd, 1) := by decide +kernel
theorem dX10_calledOf_50 : decode cX10_calledOf 50 = .ok (.istore_n 3, 1) := by decide +kernel
theorem dX10_calledOf_51 : decode cX10_calledOf 51 = .ok (.iinc 4 1, 3) := by decide +kernel
theorem dX10_calledOf_54 : decode cX10_calledOf 54 = .ok (.goto (-49), 3) := by decide +kernel
theorem dX10_calledOf_57 : decode cX10_calledOf 57 = .ok (.iload_n 3, 1) := by decide +kernel
theorem dX10_calledOf_58 : decode cX10_calledOf 58 = .ok (.ireturn, 1) := by decide +kernel
theorem dX10_elementsBy_0 : decode cX10_elementsBy 0 = .ok (.iconst 0, 1) := by decide +kernel
theorem dX10_elementsBy_1 : decode cX10_elementsBy 1 = .ok (.istore_n 3, 1) := by decide +kernel
theorem dX10_elementsBy_2 : decode cX10_elementsBy 2 = .ok (.iconst 0, 1) := by decide +kernel
theorem dX10_elementsBy_3 : decode cX10_elementsBy 3 = .ok (.istore 4, 2) := by decide +kernel
theorem dX10_elementsBy_5 : decode cX10_elementsBy 5 = .ok (.iload 4, 2) := by decide +kernel
theorem dX10_elementsBy_7 : decode cX10_elementsBy 7 = .ok (.aload_n 0, 1) := by decide +kernel
theorem dX10_elementsBy_8 : decode cX10_elementsBy 8 = .ok (.getfield 81, 3) := by decide +kernel
theorem dX10_elementsBy_11 : decode cX10_elementsBy 11 = .ok (.bipush 116, 2) := by decide +kernel
theorem dX10_elementsBy_13 : decode cX10_elementsBy 13 = .ok (.iload_n 1, 1) := by decide +kernel
theorem dX10_elementsBy_14 : decode cX10_elementsBy 14 = .ok (.iadd, 1) := by decide +kernel
theorem dX10_elementsBy_15 : decode cX10_elementsBy 15 = .ok (.iaload, 1) := by decide +kernel
theorem dX10_elementsBy_16 : decode cX10_elementsBy 16 = .ok (.if_icmp .ge 96, 3) := by decide +kernel
theorem dX10_elementsBy_19 : decode cX10_elementsBy 19 = .ok (.aload_n 0, 1) := by decide +kernel
theorem dX10_elementsBy_20 : decode cX10_elementsBy 20 = .ok (.iload_n 1, 1) := by decide +kernel
theorem dX10_elementsBy_21 : decode cX10_elementsBy 21 = .ok (.iload 4, 2) := by decide +kernel
theorem dX10_elementsBy_23 : decode cX10_elementsBy 23 = .ok (.invokevirtual 322, 3) := by decide +kernel
theorem dX10_elementsBy_26 : decode cX10_elementsBy 26 = .ok (.ifCond .ne 6, 3) := by decide +kernel
theorem dX10_elementsBy_29 : decode cX10_elementsBy 29 = .ok (.goto 77, 3) := by decide +kernel
theorem dX10_elementsBy_32 : decode cX10_elementsBy 32 = .ok (.iconst 0, 1) := by decide +kernel
theorem dX10_elementsBy_33 : decode cX10_elementsBy 33 = .ok (.istore 5, 2) := by decide +kernel
theorem dX10_elementsBy_35 : decode cX10_elementsBy 35 = .ok (.iload 5, 2) := by decide +kernel
theorem dX10_elementsBy_37 : decode cX10_elementsBy 37 = .ok (.aload_n 0, 1) := by decide +kernel
theorem dX10_elementsBy_38 : decode cX10_elementsBy 38 = .ok (.iload_n 1, 1) := by decide +kernel
theorem dX10_elementsBy_39 : decode cX10_elementsBy 39 = .ok (.iload 4, 2) := by decide +kernel
theorem dX10_elementsBy_41 : decode cX10_elementsBy 41 = .ok (.invokevirtual 325, 3) := by decide +kernel
theorem dX10_elementsBy_44 : decode cX10_elementsBy 44 = .ok (.if_icmp .ge 62, 3) := by decide +kernel
theorem dX10_elementsBy_47 : decode cX10_elementsBy 47 = .ok (.iload_n 3, 1) := by decide +kernel
theorem dX10_elementsBy_48 : decode cX10_elementsBy 48 = .ok (.iload_n 2, 1) := by decide +kernel
theorem dX10_elementsBy_49 : decode cX10_elementsBy 49 = .ok (.iconst 3, 1) := by decide +kernel
theorem dX10_elementsBy_50 : decode cX10_elementsBy 50 = .ok (.if_icmp .ne 23, 3) := by decide +kernel
theorem dX10_elementsBy_53 : decode cX10_elementsBy 53 = .ok (.aload_n 0, 1) := by decide +kernel
theorem dX10_elementsBy_54 : decode cX10_elementsBy 54 = .ok (.iload_n 1, 1) := by decide +kernel
theorem dX10_elementsBy_55 : decode cX10_elementsBy 55 = .ok (.iload 4, 2) := by decide +kernel
theorem dX10_elementsBy_57 : decode cX10_elementsBy 57 = .ok (.iload 5, 2) := by decide +kernel
theorem dX10_elementsBy_59 : decode cX10_elementsBy 59 = .ok (.invokevirtual 331, 3) := by decide +kernel
theorem dX10_elementsBy_62 : decode cX10_elementsBy 62 = .ok (.ifCond .eq 7, 3) := by decide +kernel
theorem dX10_elementsBy_65 : decode cX10_elementsBy 65 = .ok (.iconst 1, 1) := by decide +kernel
theorem dX10_elementsBy_66 : decode cX10_elementsBy 66 = .ok (.goto 32, 3) := by decide +kernel
theorem dX10_elementsBy_69 : decode cX10_elementsBy 69 = .ok (.iconst 0, 1) := by decide +kernel
theorem dX10_elementsBy_70 : decode cX10_elementsBy 70 = .ok (.goto 28, 3) := by decide +kernel
theorem dX10_elementsBy_73 : decode cX10_elementsBy 73 = .ok (.aload_n 0, 1) := by decide +kernel
theorem dX10_elementsBy_74 : decode cX10_elementsBy 74 = .ok (.getfield 81, 3) := by decide +kernel
theorem dX10_elementsBy_77 : decode cX10_elementsBy 77 = .ok (.iconst 4, 1) := by decide +kernel
theorem dX10_elementsBy_78 : decode cX10_elementsBy 78 = .ok (.aload_n 0, 1) := by decide +kernel
theorem dX10_elementsBy_79 : decode cX10_elementsBy 79 = .ok (.iload_n 1, 1) := by decide +kernel
theorem dX10_elementsBy_80 : decode cX10_elementsBy 80 = .ok (.iload 4, 2) := by decide +kernel
theorem dX10_elementsBy_82 : decode cX10_elementsBy 82 = .ok (.iload 5, 2) := by decide +kernel
theorem dX10_elementsBy_84 : decode cX10_elementsBy 84 = .ok (.invokevirtual 293, 3) := by decide +kernel
theorem dX10_elementsBy_87 : decode cX10_elementsBy 87 = .ok (.iadd, 1) := by decide +kernel
theorem dX10_elementsBy_88 : decode cX10_elementsBy 88 = .ok (.iaload, 1) := by decide +kernel
theorem dX10_elementsBy_89 : decode cX10_elementsBy 89 = .ok (.iload_n 2, 1) := by decide +kernel
theorem dX10_elementsBy_90 : decode cX10_elementsBy 90 = .ok (.if_icmp .ne 7, 3) := by decide +kernel
theorem dX10_elementsBy_93 : decode cX10_elementsBy 93 = .ok (.iconst 1, 1) := by decide +kernel
theorem dX10_elementsBy_94 : decode cX10_elementsBy 94 = .ok (.goto 4, 3) := by decide +kernel
theorem dX10_elementsBy_97 : decode cX10_elementsBy 97 = .ok (.iconst 0, 1) := by decide +kernel
theorem dX10_elementsBy_98 : decode cX10_elementsBy 98 = .ok (.iadd, 1) := by decide +kernel
theorem dX10_elementsBy_99 : decode cX10_elementsBy 99 = .ok (.istore_n 3, 1) := by decide +kernel
theorem dX10_elementsBy_100 : decode cX10_elementsBy 100 = .ok (.iinc 5 1, 3) := by decide +kernel
theorem dX10_elementsBy_103 : decode cX10_elementsBy 103 = .ok (.goto (-68), 3) := by decide +kernel
theorem dX10_elementsBy_106 : decode cX10_elementsBy 106 = .ok (.iinc 4 1, 3) := by decide +kernel
theorem dX10_elementsBy_109 : decode cX10_elementsBy 109 = .ok (.goto (-104), 3) := by decide +kernel
theorem dX10_elementsBy_112 : decode cX10_elementsBy 112 = .ok (.iload_n 3, 1) := by decide +kernel
theorem dX10_elementsBy_113 : decode cX10_elementsBy 113 = .ok (.ireturn, 1) := by decide +kernel
theorem dX10_triesOf_0 : decode cX10_triesOf 0 = .ok (.iconst 0, 1) := by decide +kernel
theorem dX10_triesOf_1 : decode cX10_triesOf 1 = .ok (.istore_n 3, 1) := by decide +kernel
theorem dX10_triesOf_2 : decode cX10_triesOf 2 = .ok (.iconst 0, 1) := by decide +kernel
theorem dX10_triesOf_3 : decode cX10_triesOf 3 = .ok (.istore 4, 2) := by decide +kernel
theorem dX10_triesOf_5 : decode cX10_triesOf 5 = .ok (.iload 4, 2) := by decide +kernel
theorem dX10_triesOf_7 : decode cX10_triesOf 7 = .ok (.aload_n 0, 1) := by decide +kernel
theorem dX10_triesOf_8 : decode cX10_triesOf 8 = .ok (.getfield 81, 3) := by decide +kernel
theorem dX10_triesOf_11 : decode cX10_triesOf 11 = .ok (.bipush 116, 2) := by decide +kernel
theorem dX10_triesOf_13 : decode cX10_triesOf 13 = .ok (.iload_n 1, 1) := by decide +kernel
theorem dX10_triesOf_14 : decode cX10_triesOf 14 = .ok (.iadd, 1) := by decide +kernel
theorem dX10_triesOf_15 : decode cX10_triesOf 15 = .ok (.iaload, 1) := by decide +kernel
theorem dX10_triesOf_16 : decode cX10_triesOf 16 = .ok (.if_icmp .ge 41, 3) := by decide +kernel
theorem dX10_triesOf_19 : decode cX10_triesOf 19 = .ok (.iload_n 3, 1) := by decide +kernel
theorem dX10_triesOf_20 : decode cX10_triesOf 20 = .ok (.aload_n 0, 1) := by decide +kernel
theorem dX10_triesOf_21 : decode cX10_triesOf 21 = .ok (.iload_n 1, 1) := by decide +kernel
theorem dX10_triesOf_22 : decode cX10_triesOf 22 = .ok (.iload 4, 2) := by decide +kernel
theorem dX10_triesOf_24 : decode cX10_triesOf 24 = .ok (.invokevirtual 322, 3) := by decide +kernel
theorem dX10_triesOf_27 : decode cX10_triesOf 27 = .ok (.ifCond .eq 21, 3) := by decide +kernel
theorem dX10_triesOf_30 : decode cX10_triesOf 30 = .ok (.iload_n 2, 1) := by decide +kernel
theorem dX10_triesOf_31 : decode cX10_triesOf 31 = .ok (.ifCond .eq 13, 3) := by decide +kernel
theorem dX10_triesOf_34 : decode cX10_triesOf 34 = .ok (.aload_n 0, 1) := by decide +kernel
theorem dX10_triesOf_35 : decode cX10_triesOf 35 = .ok (.iload_n 1, 1) := by decide +kernel
theorem dX10_triesOf_36 : decode cX10_triesOf 36 = .ok (.iload 4, 2) := by decide +kernel
theorem dX10_triesOf_38 : decode cX10_triesOf 38 = .ok (.invokevirtual 337, 3) := by decide +kernel
theorem dX10_triesOf_41 : decode cX10_triesOf 41 = .ok (.ifCond .eq 7, 3) := by decide +kernel
theorem dX10_triesOf_44 : decode cX10_triesOf 44 = .ok (.iconst 1, 1) := by decide +kernel
theorem dX10_triesOf_45 : decode cX10_triesOf 45 = .ok (.goto 4, 3) := by decide +kernel
theorem dX10_triesOf_48 : decode cX10_triesOf 48 = .ok (.iconst 0, 1) := by decide +kernel
theorem dX10_triesOf_49 : decode cX10_triesOf 49 = .ok (.iadd, 1) := by decide +kernel
theorem dX10_triesOf_50 : decode cX10_triesOf 50 = .ok (.istore_n 3, 1) := by decide +kernel
theorem dX10_triesOf_51 : decode cX10_triesOf 51 = .ok (.iinc 4 1, 3) := by decide +kernel
theorem dX10_triesOf_54 : decode cX10_triesOf 54 = .ok (.goto (-49), 3) := by decide +kernel
theorem dX10_triesOf_57 : decode cX10_triesOf 57 = .ok (.iload_n 3, 1) := by decide +kernel
theorem dX10_triesOf_58 : decode cX10_triesOf 58 = .ok (.ireturn, 1) := by decide +kernel
theorem dX10_wordBy_0 : decode cX10_wordBy 0 = .ok (.iload_n 2, 1) := by decide +kernel
theorem dX10_wordBy_1 : decode cX10_wordBy 1 = .ok (.tableswitch 94 0 7 #[47, 54, 64, 71, 71, 71, 80, 87], 47) := by decide +kernel
theorem dX10_wordBy_48 : decode cX10_wordBy 48 = .ok (.aload_n 0, 1) := by decide +kernel
theorem dX10_wordBy_49 : decode cX10_wordBy 49 = .ok (.iload_n 1, 1) := by decide +kernel
theorem dX10_wordBy_50 : decode cX10_wordBy 50 = .ok (.iconst 2, 1) := by decide +kernel
theorem dX10_wordBy_51 : decode cX10_wordBy 51 = .ok (.invokevirtual 355, 3) := by decide +kernel
theorem dX10_wordBy_54 : decode cX10_wordBy 54 = .ok (.ireturn, 1) := by decide +kernel
theorem dX10_wordBy_55 : decode cX10_wordBy 55 = .ok (.aload_n 0, 1) := by decide +kernel
theorem dX10_wordBy_56 : decode cX10_wordBy 56 = .ok (.getfield 81, 3) := by decide +kernel
theorem dX10_wordBy_59 : decode cX10_wordBy 59 = .ok (.bipush 110, 2) := by decide +kernel
theorem dX10_wordBy_61 : decode cX10_wordBy 61 = .ok (.iload_n 1, 1) := by decide +kernel
theorem dX10_wordBy_62 : decode cX10_wordBy 62 = .ok (.iadd, 1) := by decide +kernel
theorem dX10_wordBy_63 : decode cX10_wordBy 63 = .ok (.iaload, 1) := by decide +kernel
theorem dX10_wordBy_64 : decode cX10_wordBy 64 = .ok (.ireturn, 1) := by decide +kernel
theorem dX10_wordBy_65 : decode cX10_wordBy 65 = .ok (.aload_n 0, 1) := by decide +kernel
theorem dX10_wordBy_66 : decode cX10_wordBy 66 = .ok (.iload_n 1, 1) := by decide +kernel
theorem dX10_wordBy_67 : decode cX10_wordBy 67 = .ok (.iconst 0, 1) := by decide +kernel
theorem dX10_wordBy_68 : decode cX10_wordBy 68 = .ok (.invokevirtual 358, 3) := by decide +kernel
theorem dX10_wordBy_71 : decode cX10_wordBy 71 = .ok (.ireturn, 1) := by decide +kernel
theorem dX10_wordBy_72 : decode cX10_wordBy 72 = .ok (.aload_n 0, 1) := by decide +kernel
theorem dX10_wordBy_73 : decode cX10_wordBy 73 = .ok (.iload_n 1, 1) := by decide +kernel
theorem dX10_wordBy_74 : decode cX10_wordBy 74 = .ok (.iload_n 2, 1) := by decide +kernel
theorem dX10_wordBy_75 : decode cX10_wordBy 75 = .ok (.iconst 3, 1) := by decide +kernel
theorem dX10_wordBy_76 : decode cX10_wordBy 76 = .ok (.isub, 1) := by decide +kernel
theorem dX10_wordBy_77 : decode cX10_wordBy 77 = .ok (.invokevirtual 362, 3) := by decide +kernel
theorem dX10_wordBy_80 : decode cX10_wordBy 80 = .ok (.ireturn, 1) := by decide +kernel
theorem dX10_wordBy_81 : decode cX10_wordBy 81 = .ok (.aload_n 0, 1) := by decide +kernel
theorem dX10_wordBy_82 : decode cX10_wordBy 82 = .ok (.iload_n 1, 1) := by decide +kernel
theorem dX10_wordBy_83 : decode cX10_wordBy 83 = .ok (.iconst 1, 1) := by decide +kernel
theorem dX10_wordBy_84 : decode cX10_wordBy 84 = .ok (.invokevirtual 358, 3) := by decide +kernel
theorem dX10_wordBy_87 : decode cX10_wordBy 87 = .ok (.ireturn, 1) := by decide +kernel
theorem dX10_wordBy_88 : decode cX10_wordBy 88 = .ok (.aload_n 0, 1) := by decide +kernel
theorem dX10_wordBy_89 : decode cX10_wordBy 89 = .ok (.iload_n 1, 1) := by decide +kernel
theorem dX10_wordBy_90 : decode cX10_wordBy 90 = .ok (.iconst 3, 1) := by decide +kernel
theorem dX10_wordBy_91 : decode cX10_wordBy 91 = .ok (.invokevirtual 362, 3) := by decide +kernel
theorem dX10_wordBy_94 : decode cX10_wordBy 94 = .ok (.ireturn, 1) := by decide +kernel
theorem dX10_wordBy_95 : decode cX10_wordBy 95 = .ok (.aload_n 0, 1) := by decide +kernel
theorem dX10_wordBy_96 : decode cX10_wordBy 96 = .ok (.iload_n 1, 1) := by decide +kernel
theorem dX10_wordBy_97 : decode cX10_wordBy 97 = .ok (.iload_n 2, 1) := by decide +kernel
theorem dX10_wordBy_98 : decode cX10_wordBy 98 = .ok (.bipush 8, 2) := by decide +kernel
theorem dX10_wordBy_100 : decode cX10_wordBy 100 = .ok (.isub, 1) := by decide +kernel
theorem dX10_wordBy_101 : decode cX10_wordBy 101 = .ok (.invokevirtual 355, 3) := by decide +kernel
theorem dX10_wordBy_104 : decode cX10_wordBy 104 = .ok (.ireturn, 1) := by decide +kernel
theorem dX10_held_0 : decode cX10_held 0 = .ok (.ldc2_w 365, 3) := by decide +kernel
theorem dX10_held_3 : decode cX10_held 3 = .ok (.ldc2_w 367, 3) := by decide +kernel
theorem dX10_held_6 : decode cX10_held 6 = .ok (.lload_n 0, 1) := by decide +kernel
theorem dX10_held_7 : decode cX10_held 7 = .ok (.invokestatic 369, 3) := by decide +kernel
theorem dX10_held_10 : decode cX10_held 10 = .ok (.invokestatic 372, 3) := by decide +kernel
theorem dX10_held_13 : decode cX10_held 13 = .ok (.lreturn, 1) := by decide +kernel
theorem dX10_worked_0 : decode cX10_worked 0 = .ok (.iload_n 0, 1) := by decide +kernel
theorem dX10_worked_1 : decode cX10_worked 1 = .ok (.tableswitch 114 10001 10008 #[47, 54, 61, 68, 80, 92, 104, 108], 47) := by decide +kernel
theorem dX10_worked_48 : decode cX10_worked 48 = .ok (.lload_n 1, 1) := by decide +kernel
theorem dX10_worked_49 : decode cX10_worked 49 = .ok (.lload_n 3, 1) := by decide +kernel
theorem dX10_worked_50 : decode cX10_worked 50 = .ok (.ladd, 1) := by decide +kernel
theorem dX10_worked_51 : decode cX10_worked 51 = .ok (.invokestatic 374, 3) := by decide +kernel
theorem dX10_worked_54 : decode cX10_worked 54 = .ok (.lreturn, 1) := by decide +kernel
theorem dX10_worked_55 : decode cX10_worked 55 = .ok (.lload_n 1, 1) := by decide +kernel
theorem dX10_worked_56 : decode cX10_worked 56 = .ok (.lload_n 3, 1) := by decide +kernel
theorem dX10_worked_57 : decode cX10_worked 57 = .ok (.lsub, 1) := by decide +kernel
theorem dX10_worked_58 : decode cX10_worked 58 = .ok (.invokestatic 374, 3) := by decide +kernel
theorem dX10_worked_61 : decode cX10_worked 61 = .ok (.lreturn, 1) := by decide +kernel
theorem dX10_worked_62 : decode cX10_worked 62 = .ok (.lload_n 1, 1) := by decide +kernel
theorem dX10_worked_63 : decode cX10_worked 63 = .ok (.lload_n 3, 1) := by decide +kernel
theorem dX10_worked_64 : decode cX10_worked 64 = .ok (.lmul, 1) := by decide +kernel
theorem dX10_worked_65 : decode cX10_worked 65 = .ok (.invokestatic 374, 3) := by decide +kernel
theorem dX10_worked_68 : decode cX10_worked 68 = .ok (.lreturn, 1) := by decide +kernel
theorem dX10_worked_69 : decode cX10_worked 69 = .ok (.lload_n 1, 1) := by decide +kernel
theorem dX10_worked_70 : decode cX10_worked 70 = .ok (.lload_n 3, 1) := by decide +kernel
theorem dX10_worked_71 : decode cX10_worked 71 = .ok (.lcmp, 1) := by decide +kernel
theorem dX10_worked_72 : decode cX10_worked 72 = .ok (.ifCond .ge 7, 3) := by decide +kernel
theorem dX10_worked_75 : decode cX10_worked 75 = .ok (.lconst 1, 1) := by decide +kernel
theorem dX10_worked_76 : decode cX10_worked 76 = .ok (.goto 4, 3) := by decide +kernel
theorem dX10_worked_79 : decode cX10_worked 79 = .ok (.lconst 0, 1) := by decide +kernel
theorem dX10_worked_80 : decode cX10_worked 80 = .ok (.lreturn, 1) := by decide +kernel
theorem dX10_worked_81 : decode cX10_worked 81 = .ok (.lload_n 1, 1) := by decide +kernel
theorem dX10_worked_82 : decode cX10_worked 82 = .ok (.lload_n 3, 1) := by decide +kernel
theorem dX10_worked_83 : decode cX10_worked 83 = .ok (.lcmp, 1) := by decide +kernel
theorem dX10_worked_84 : decode cX10_worked 84 = .ok (.ifCond .ne 7, 3) := by decide +kernel
theorem dX10_worked_87 : decode cX10_worked 87 = .ok (.lconst 1, 1) := by decide +kernel
theorem dX10_worked_88 : decode cX10_worked 88 = .ok (.goto 4, 3) := by decide +kernel
theorem dX10_worked_91 : decode cX10_worked 91 = .ok (.lconst 0, 1) := by decide +kernel
theorem dX10_worked_92 : decode cX10_worked 92 = .ok (.lreturn, 1) := by decide +kernel
theorem dX10_worked_93 : decode cX10_worked 93 = .ok (.lload_n 1, 1) := by decide +kernel
theorem dX10_worked_94 : decode cX10_worked 94 = .ok (.lload_n 3, 1) := by decide +kernel
theorem dX10_worked_95 : decode cX10_worked 95 = .ok (.lcmp, 1) := by decide +kernel
theorem dX10_worked_96 : decode cX10_worked 96 = .ok (.ifCond .le 7, 3) := by decide +kernel
theorem dX10_worked_99 : decode cX10_worked 99 = .ok (.lconst 1, 1) := by decide +kernel
theorem dX10_worked_100 : decode cX10_worked 100 = .ok (.goto 4, 3) := by decide +kernel
theorem dX10_worked_103 : decode cX10_worked 103 = .ok (.lconst 0, 1) := by decide +kernel
theorem dX10_worked_104 : decode cX10_worked 104 = .ok (.lreturn, 1) := by decide +kernel
theorem dX10_worked_105 : decode cX10_worked 105 = .ok (.lload_n 1, 1) := by decide +kernel
theorem dX10_worked_106 : decode cX10_worked 106 = .ok (.lload_n 3, 1) := by decide +kernel
theorem dX10_worked_107 : decode cX10_worked 107 = .ok (.lmul, 1) := by decide +kernel
theorem dX10_worked_108 : decode cX10_worked 108 = .ok (.lreturn, 1) := by decide +kernel
theorem dX10_worked_109 : decode cX10_worked 109 = .ok (.lload_n 1, 1) := by decide +kernel
theorem dX10_worked_110 : decode cX10_worked 110 = .ok (.lload_n 3, 1) := by decide +kernel
theorem dX10_worked_111 : decode cX10_worked 111 = .ok (.invokestatic 372, 3) := by decide +kernel
theorem dX10_worked_114 : decode cX10_worked 114 = .ok (.lreturn, 1) := by decide +kernel
theorem dX10_worked_115 : decode cX10_worked 115 = .ok (.lload_n 3, 1) := by decide +kernel
theorem dX10_worked_116 : decode cX10_worked 116 = .ok (.lconst 1, 1) := by decide +kernel
theorem dX10_worked_117 : decode cX10_worked 117 = .ok (.lcmp, 1) := by decide +kernel
theorem dX10_worked_118 : decode cX10_worked 118 = .ok (.ifCond .ne 7, 3) := by decide +kernel
theorem dX10_worked_121 : decode cX10_worked 121 = .ok (.lload_n 1, 1) := by decide +kernel
theorem dX10_worked_122 : decode cX10_worked 122 = .ok (.goto 4, 3) := by decide +kernel
theorem dX10_worked_125 : decode cX10_worked 125 = .ok (.lconst 0, 1) := by decide +kernel
theorem dX10_worked_126 : decode cX10_worked 126 = .ok (.lreturn, 1) := by decide +kernel
theorem dX10_ruleOf_0 : decode cX10_ruleOf 0 = .ok (.iconst 0, 1) := by decide +kernel
theorem dX10_ruleOf_1 : decode cX10_ruleOf 1 = .ok (.istore_n 3, 1) := by decide +kernel
theorem dX10_ruleOf_2 : decode cX10_ruleOf 2 = .ok (.aload_n 0, 1) := by decide +kernel
theorem dX10_ruleOf_3 : decode cX10_ruleOf 3 = .ok (.getfield 81, 3) := by decide +kernel
theorem dX10_ruleOf_6 : decode cX10_ruleOf 6 = .ok (.sipush 482, 3) := by decide +kernel
theorem dX10_ruleOf_9 : decode cX10_ruleOf 9 = .ok (.iload_n 2, 1) := by decide +kernel
theorem dX10_ruleOf_10 : decode cX10_ruleOf 10 = .ok (.iadd, 1) := by decide +kernel
theorem dX10_ruleOf_11 : decode cX10_ruleOf 11 = .ok (.iaload, 1) := by decide +kernel
theorem dX10_ruleOf_12 : decode cX10_ruleOf 12 = .ok (.istore 4, 2) := by decide +kernel
theorem dX10_ruleOf_14 : decode cX10_ruleOf 14 = .ok (.iload 4, 2) := by decide +kernel
theorem dX10_ruleOf_16 : decode cX10_ruleOf 16 = .ok (.aload_n 0, 1) := by decide +kernel
theorem dX10_ruleOf_17 : decode cX10_ruleOf 17 = .ok (.getfield 81, 3) := by decide +kernel
theorem dX10_ruleOf_20 : decode cX10_ruleOf 20 = .ok (.sipush 482, 3) := by decide +kernel
theorem dX10_ruleOf_23 : decode cX10_ruleOf 23 = .ok (.iload_n 2, 1) := by decide +kernel
theorem dX10_ruleOf_24 : decode cX10_ruleOf 24 = .ok (.iadd, 1) := by decide +kernel
theorem dX10_ruleOf_25 : decode cX10_ruleOf 25 = .ok (.iconst 1, 1) := by decide +kernel
theorem dX10_ruleOf_26 : decode cX10_ruleOf 26 = .ok (.iadd, 1) := by decide +kernel
theorem dX10_ruleOf_27 : decode cX10_ruleOf 27 = .ok (.iaload, 1) := by decide +kernel
theorem dX10_ruleOf_28 : decode cX10_ruleOf 28 = .ok (.if_icmp .ge 106, 3) := by decide +kernel
theorem dX10_ruleOf_31 : decode cX10_ruleOf 31 = .ok (.aload_n 0, 1) := by decide +kernel
theorem dX10_ruleOf_32 : decode cX10_ruleOf 32 = .ok (.getfield 81, 3) := by decide +kernel
theorem dX10_ruleOf_35 : decode cX10_ruleOf 35 = .ok (.sipush 489, 3) := by decide +kernel
theorem dX10_ruleOf_38 : decode cX10_ruleOf 38 = .ok (.iload 4, 2) := by decide +kernel
theorem dX10_ruleOf_40 : decode cX10_ruleOf 40 = .ok (.iadd, 1) := by decide +kernel
theorem dX10_ruleOf_41 : decode cX10_ruleOf 41 = .ok (.iaload, 1) := by decide +kernel
theorem dX10_ruleOf_42 : decode cX10_ruleOf 42 = .ok (.istore 5, 2) := by decide +kernel
theorem dX10_ruleOf_44 : decode cX10_ruleOf 44 = .ok (.iload 5, 2) := by decide +kernel
theorem dX10_ruleOf_46 : decode cX10_ruleOf 46 = .ok (.sipush 9999, 3) := by decide +kernel
theorem dX10_ruleOf_49 : decode cX10_ruleOf 49 = .ok (.if_icmp .le 11, 3) := by decide +kernel
theorem dX10_ruleOf_52 : decode cX10_ruleOf 52 = .ok (.iload 5, 2) := by decide +kernel
theorem dX10_ruleOf_54 : decode cX10_ruleOf 54 = .ok (.sipush 10020, 3) := by decide +kernel
theorem dX10_ruleOf_57 : decode cX10_ruleOf 57 = .ok (.if_icmp .lt 41, 3) := by decide +kernel
theorem dX10_ruleOf_60 : decode cX10_ruleOf 60 = .ok (.aload_n 0, 1) := by decide +kernel
theorem dX10_ruleOf_61 : decode cX10_ruleOf 61 = .ok (.getfield 96, 3) := by decide +kernel
theorem dX10_ruleOf_64 : decode cX10_ruleOf 64 = .ok (.iload_n 3, 1) := by decide +kernel
theorem dX10_ruleOf_65 : decode cX10_ruleOf 65 = .ok (.iload 5, 2) := by decide +kernel
theorem dX10_ruleOf_67 : decode cX10_ruleOf 67 = .ok (.sipush 10020, 3) := by decide +kernel
theorem dX10_ruleOf_70 : decode cX10_ruleOf 70 = .ok (.if_icmp .lt 18, 3) := by decide +kernel
theorem dX10_ruleOf_73 : decode cX10_ruleOf 73 = .ok (.aload_n 0, 1) := by decide +kernel
theorem dX10_ruleOf_74 : decode cX10_ruleOf 74 = .ok (.iload_n 1, 1) := by decide +kernel
theorem dX10_ruleOf_75 : decode cX10_ruleOf 75 = .ok (.iload 5, 2) := by decide +kernel
theorem dX10_ruleOf_77 : decode cX10_ruleOf 77 = .ok (.sipush 10020, 3) := by decide +kernel
theorem dX10_ruleOf_80 : decode cX10_ruleOf 80 = .ok (.isub, 1) := by decide +kernel
theorem dX10_ruleOf_81 : decode cX10_ruleOf 81 = .ok (.invokevirtual 378, 3) := by decide +kernel
theorem dX10_ruleOf_84 : decode cX10_ruleOf 84 = .ok (.i2l, 1) := by decide +kernel
theorem dX10_ruleOf_85 : decode cX10_ruleOf 85 = .ok (.goto 6, 3) := by decide +kernel
theorem dX10_ruleOf_88 : decode cX10_ruleOf 88 = .ok (.iload 5, 2) := by decide +kernel
theorem dX10_ruleOf_90 : decode cX10_ruleOf 90 = .ok (.i2l, 1) := by decide +kernel
theorem dX10_ruleOf_91 : decode cX10_ruleOf 91 = .ok (.lastore, 1) := by decide +kernel
theorem dX10_ruleOf_92 : decode cX10_ruleOf 92 = .ok (.iinc 3 1, 3) := by decide +kernel
theorem dX10_ruleOf_95 : decode cX10_ruleOf 95 = .ok (.goto 33, 3) := by decide +kernel
theorem dX10_ruleOf_98 : decode cX10_ruleOf 98 = .ok (.iinc 3 (-1), 3) := by decide +kernel
theorem dX10_ruleOf_101 : decode cX10_ruleOf 101 = .ok (.aload_n 0, 1) := by decide +kernel
theorem dX10_ruleOf_102 : decode cX10_ruleOf 102 = .ok (.getfield 96, 3) := by decide +kernel
theorem dX10_ruleOf_105 : decode cX10_ruleOf 105 = .ok (.iload_n 3, 1) := by decide +kernel
theorem dX10_ruleOf_106 : decode cX10_ruleOf 106 = .ok (.iconst 1, 1) := by decide +kernel
theorem dX10_ruleOf_107 : decode cX10_ruleOf 107 = .ok (.isub, 1) := by decide +kernel
theorem dX10_ruleOf_108 : decode cX10_ruleOf 108 = .ok (.iload 5, 2) := by decide +kernel
theorem dX10_ruleOf_110 : decode cX10_ruleOf 110 = .ok (.aload_n 0, 1) := by decide +kernel
theorem dX10_ruleOf_111 : decode cX10_ruleOf 111 = .ok (.getfield 96, 3) := by decide +kernel
theorem dX10_ruleOf_114 : decode cX10_ruleOf 114 = .ok (.iload_n 3, 1) := by decide +kernel
theorem dX10_ruleOf_115 : decode cX10_ruleOf 115 = .ok (.iconst 1, 1) := by decide +kernel
theorem dX10_ruleOf_116 : decode cX10_ruleOf 116 = .ok (.isub, 1) := by decide +kernel
theorem dX10_ruleOf_117 : decode cX10_ruleOf 117 = .ok (.laload, 1) := by decide +kernel
theorem dX10_ruleOf_118 : decode cX10_ruleOf 118 = .ok (.aload_n 0, 1) := by decide +kernel
theorem dX10_ruleOf_119 : decode cX10_ruleOf 119 = .ok (.getfield 96, 3) := by decide +kernel
theorem dX10_ruleOf_122 : decode cX10_ruleOf 122 = .ok (.iload_n 3, 1) := by decide +kernel
theorem dX10_ruleOf_123 : decode cX10_ruleOf 123 = .ok (.laload, 1) := by decide +kernel
theorem dX10_ruleOf_124 : decode cX10_ruleOf 124 = .ok (.invokestatic 381, 3) := by decide +kernel
theorem dX10_ruleOf_127 : decode cX10_ruleOf 127 = .ok (.lastore, 1) := by decide +kernel
theorem dX10_ruleOf_128 : decode cX10_ruleOf 128 = .ok (.iinc 4 1, 3) := by decide +kernel
theorem dX10_ruleOf_131 : decode cX10_ruleOf 131 = .ok (.goto (-117), 3) := by decide +kernel
theorem dX10_ruleOf_134 : decode cX10_ruleOf 134 = .ok (.lconst 0, 1) := by decide +kernel
theorem dX10_ruleOf_135 : decode cX10_ruleOf 135 = .ok (.ldc2_w 385, 3) := by decide +kernel
theorem dX10_ruleOf_138 : decode cX10_ruleOf 138 = .ok (.aload_n 0, 1) := by decide +kernel
theorem dX10_ruleOf_139 : decode cX10_ruleOf 139 = .ok (.getfield 96, 3) := by decide +kernel
theorem dX10_ruleOf_142 : decode cX10_ruleOf 142 = .ok (.iconst 0, 1) := by decide +kernel
theorem dX10_ruleOf_143 : decode cX10_ruleOf 143 = .ok (.laload, 1) := by decide +kernel
theorem dX10_ruleOf_144 : decode cX10_ruleOf 144 = .ok (.invokestatic 369, 3) := by decide +kernel
theorem dX10_ruleOf_147 : decode cX10_ruleOf 147 = .ok (.invokestatic 372, 3) := by decide +kernel
theorem dX10_ruleOf_150 : decode cX10_ruleOf 150 = .ok (.l2i, 1) := by decide +kernel
theorem dX10_ruleOf_151 : decode cX10_ruleOf 151 = .ok (.ireturn, 1) := by decide +kernel
theorem dX10_deductedOf_0 : decode cX10_deductedOf 0 = .ok (.iconst 0, 1) := by decide +kernel
theorem dX10_deductedOf_1 : decode cX10_deductedOf 1 = .ok (.istore_n 2, 1) := by decide +kernel
theorem dX10_deductedOf_2 : decode cX10_deductedOf 2 = .ok (.iconst 0, 1) := by decide +kernel
theorem dX10_deductedOf_3 : decode cX10_deductedOf 3 = .ok (.istore_n 3, 1) := by decide +kernel
theorem dX10_deductedOf_4 : decode cX10_deductedOf 4 = .ok (.iload_n 3, 1) := by decide +kernel
theorem dX10_deductedOf_5 : decode cX10_deductedOf 5 = .ok (.aload_n 0, 1) := by decide +kernel
theorem dX10_deductedOf_6 : decode cX10_deductedOf 6 = .ok (.getfield 81, 3) := by decide +kernel
theorem dX10_deductedOf_9 : decode cX10_deductedOf 9 = .ok (.iconst 3, 1) := by decide +kernel
theorem dX10_deductedOf_10 : decode cX10_deductedOf 10 = .ok (.iaload, 1) := by decide +kernel
theorem dX10_deductedOf_11 : decode cX10_deductedOf 11 = .ok (.if_icmp .ge 18, 3) := by decide +kernel
theorem dX10_deductedOf_14 : decode cX10_deductedOf 14 = .ok (.iload_n 2, 1) := by decide +kernel
theorem dX10_deductedOf_15 : decode cX10_deductedOf 15 = .ok (.aload_n 0, 1) := by decide +kernel
theorem dX10_deductedOf_16 : decode cX10_deductedOf 16 = .ok (.iload_n 1, 1) := by decide +kernel
theorem dX10_deductedOf_17 : decode cX10_deductedOf 17 = .ok (.iload_n 3, 1) := by decide +kernel
theorem dX10_deductedOf_18 : decode cX10_deductedOf 18 = .ok (.invokevirtual 387, 3) := by decide +kernel
theorem dX10_deductedOf_21 : decode cX10_deductedOf 21 = .ok (.iadd, 1) := by decide +kernel
theorem dX10_deductedOf_22 : decode cX10_deductedOf 22 = .ok (.istore_n 2, 1) := by decide +kernel
theorem dX10_deductedOf_23 : decode cX10_deductedOf 23 = .ok (.iinc 3 1, 3) := by decide +kernel
theorem dX10_deductedOf_26 : decode cX10_deductedOf 26 = .ok (.goto (-22), 3) := by decide +kernel
theorem dX10_deductedOf_29 : decode cX10_deductedOf 29 = .ok (.iload_n 2, 1) := by decide +kernel
theorem dX10_deductedOf_30 : decode cX10_deductedOf 30 = .ok (.ireturn, 1) := by decide +kernel
theorem dX10_totalOf_0 : decode cX10_totalOf 0 = .ok (.iconst 0, 1) := by decide +kernel
theorem dX10_totalOf_1 : decode cX10_totalOf 1 = .ok (.aload_n 0, 1) := by decide +kernel
theorem dX10_totalOf_2 : decode cX10_totalOf 2 = .ok (.iload_n 1, 1) := by decide +kernel
theorem dX10_totalOf_3 : decode cX10_totalOf 3 = .ok (.invokevirtual 390, 3) := by decide +kernel
theorem dX10_totalOf_6 : decode cX10_totalOf 6 = .ok (.aload_n 0, 1) := by decide +kernel
theorem dX10_totalOf_7 : decode cX10_totalOf 7 = .ok (.iload_n 1, 1) := by decide +kernel
theorem dX10_totalOf_8 : decode cX10_totalOf 8 = .ok (.invokevirtual 393, 3) := by decide +kernel
theorem dX10_totalOf_11 : decode cX10_totalOf 11 = .ok (.iadd, 1) := by decide +kernel
theorem dX10_totalOf_12 : decode cX10_totalOf 12 = .ok (.bipush 100, 2) := by decide +kernel
theorem dX10_totalOf_14 : decode cX10_totalOf 14 = .ok (.aload_n 0, 1) := by decide +kernel
theorem dX10_totalOf_15 : decode cX10_totalOf 15 = .ok (.iload_n 1, 1) := by decide +kernel
theorem dX10_totalOf_16 : decode cX10_totalOf 16 = .ok (.iconst 2, 1) := by decide +kernel
theorem dX10_totalOf_17 : decode cX10_totalOf 17 = .ok (.invokevirtual 355, 3) := by decide +kernel
theorem dX10_totalOf_20 : decode cX10_totalOf 20 = .ok (.imul, 1) := by decide +kernel
theorem dX10_totalOf_21 : decode cX10_totalOf 21 = .ok (.isub, 1) := by decide +kernel
theorem dX10_totalOf_22 : decode cX10_totalOf 22 = .ok (.aload_n 0, 1) := by decide +kernel
theorem dX10_totalOf_23 : decode cX10_totalOf 23 = .ok (.iload_n 1, 1) := by decide +kernel
theorem dX10_totalOf_24 : decode cX10_totalOf 24 = .ok (.invokevirtual 396, 3) := by decide +kernel
theorem dX10_totalOf_27 : decode cX10_totalOf 27 = .ok (.isub, 1) := by decide +kernel
theorem dX10_totalOf_28 : decode cX10_totalOf 28 = .ok (.invokestatic 253, 3) := by decide +kernel
theorem dX10_totalOf_31 : decode cX10_totalOf 31 = .ok (.ireturn, 1) := by decide +kernel
theorem dX10_laysTotals_0 : decode cX10_laysTotals 0 = .ok (.iconst 0, 1) := by decide +kernel
theorem dX10_laysTotals_1 : decode cX10_laysTotals 1 = .ok (.istore_n 1, 1) := by decide +kernel
theorem dX10_laysTotals_2 : decode cX10_laysTotals 2 = .ok (.iload_n 1, 1) := by decide +kernel
theorem dX10_laysTotals_3 : decode cX10_laysTotals 3 = .ok (.aload_n 0, 1) := by decide +kernel
theorem dX10_laysTotals_4 : decode cX10_laysTotals 4 = .ok (.getfield 81, 3) := by decide +kernel
theorem dX10_laysTotals_7 : decode cX10_laysTotals 7 = .ok (.iconst 1, 1) := by decide +kernel
theorem dX10_laysTotals_8 : decode cX10_laysTotals 8 = .ok (.iaload, 1) := by decide +kernel
theorem dX10_laysTotals_9 : decode cX10_laysTotals 9 = .ok (.if_icmp .ge 31, 3) := by decide +kernel
theorem dX10_laysTotals_12 : decode cX10_laysTotals 12 = .ok (.aload_n 0, 1) := by decide +kernel
theorem dX10_laysTotals_13 : decode cX10_laysTotals 13 = .ok (.getfield 100, 3) := by decide +kernel
theorem dX10_laysTotals_16 : decode cX10_laysTotals 16 = .ok (.iload_n 1, 1) := by decide +kernel
theorem dX10_laysTotals_17 : decode cX10_laysTotals 17 = .ok (.aload_n 0, 1) := by decide +kernel
theorem dX10_laysTotals_18 : decode cX10_laysTotals 18 = .ok (.iload_n 1, 1) := by decide +kernel
theorem dX10_laysTotals_19 : decode cX10_laysTotals 19 = .ok (.invokevirtual 399, 3) := by decide +kernel
theorem dX10_laysTotals_22 : decode cX10_laysTotals 22 = .ok (.iastore, 1) := by decide +kernel
theorem dX10_laysTotals_23 : decode cX10_laysTotals 23 = .ok (.aload_n 0, 1) := by decide +kernel
theorem dX10_laysTotals_24 : decode cX10_laysTotals 24 = .ok (.getfield 103, 3) := by decide +kernel
theorem dX10_laysTotals_27 : decode cX10_laysTotals 27 = .ok (.iload_n 1, 1) := by decide +kernel
theorem dX10_laysTotals_28 : decode cX10_laysTotals 28 = .ok (.aload_n 0, 1) := by decide +kernel
theorem dX10_laysTotals_29 : decode cX10_laysTotals 29 = .ok (.iload_n 1, 1) := by decide +kernel
theorem dX10_laysTotals_30 : decode cX10_laysTotals 30 = .ok (.invokevirtual 390, 3) := by decide +kernel
theorem dX10_laysTotals_33 : decode cX10_laysTotals 33 = .ok (.iastore, 1) := by decide +kernel
theorem dX10_laysTotals_34 : decode cX10_laysTotals 34 = .ok (.iinc 1 1, 3) := by decide +kernel
theorem dX10_laysTotals_37 : decode cX10_laysTotals 37 = .ok (.goto (-35), 3) := by decide +kernel
theorem dX10_laysTotals_40 : decode cX10_laysTotals 40 = .ok (.return_, 1) := by decide +kernel
theorem dX10_isAhead_0 : decode cX10_isAhead 0 = .ok (.aload_n 0, 1) := by decide +kernel
theorem dX10_isAhead_1 : decode cX10_isAhead 1 = .ok (.getfield 100, 3) := by decide +kernel
theorem dX10_isAhead_4 : decode cX10_isAhead 4 = .ok (.iload_n 1, 1) := by decide +kernel
theorem dX10_isAhead_5 : decode cX10_isAhead 5 = .ok (.iaload, 1) := by decide +kernel
theorem dX10_isAhead_6 : decode cX10_isAhead 6 = .ok (.aload_n 0, 1) := by decide +kernel
theorem dX10_isAhead_7 : decode cX10_isAhead 7 = .ok (.getfield 100, 3) := by decide +kernel
theorem dX10_isAhead_10 : decode cX10_isAhead 10 = .ok (.iload_n 2, 1) := by decide +kernel
theorem dX10_isAhead_11 : decode cX10_isAhead 11 = .ok (.iaload, 1) := by decide +kernel
theorem dX10_isAhead_12 : decode cX10_isAhead 12 = .ok (.if_icmp .eq 26, 3) := by decide +kernel
theorem dX10_isAhead_15 : decode cX10_isAhead 15 = .ok (.aload_n 0, 1) := by decide +kernel
theorem dX10_isAhead_16 : decode cX10_isAhead 16 = .ok (.getfield 100, 3) := by decide +kernel
theorem dX10_isAhead_19 : decode cX10_isAhead 19 = .ok (.iload_n 1, 1) := by decide +kernel
theorem dX10_isAhead_20 : decode cX10_isAhead 20 = .ok (.iaload, 1) := by decide +kernel
theorem dX10_isAhead_21 : decode cX10_isAhead 21 = .ok (.aload_n 0, 1) := by decide +kernel
theorem dX10_isAhead_22 : decode cX10_isAhead 22 = .ok (.getfield 100, 3) := by decide +kernel
theorem dX10_isAhead_25 : decode cX10_isAhead 25 = .ok (.iload_n 2, 1) := by decide +kernel
theorem dX10_isAhead_26 : decode cX10_isAhead 26 = .ok (.iaload, 1) := by decide +kernel
theorem dX10_isAhead_27 : decode cX10_isAhead 27 = .ok (.if_icmp .le 7, 3) := by decide +kernel
theorem dX10_isAhead_30 : decode cX10_isAhead 30 = .ok (.iconst 1, 1) := by decide +kernel
theorem dX10_isAhead_31 : decode cX10_isAhead 31 = .ok (.goto 55, 3) := by decide +kernel
theorem dX10_isAhead_34 : decode cX10_isAhead 34 = .ok (.iconst 0, 1) := by decide +kernel
theorem dX10_isAhead_35 : decode cX10_isAhead 35 = .ok (.goto 51, 3) := by decide +kernel
theorem dX10_isAhead_38 : decode cX10_isAhead 38 = .ok (.aload_n 0, 1) := by decide +kernel
theorem dX10_isAhead_39 : decode cX10_isAhead 39 = .ok (.getfield 103, 3) := by decide +kernel
theorem dX10_isAhead_42 : decode cX10_isAhead 42 = .ok (.iload_n 1, 1) := by decide +kernel
theorem dX10_isAhead_43 : decode cX10_isAhead 43 = .ok (.iaload, 1) := by decide +kernel
theorem dX10_isAhead_44 : decode cX10_isAhead 44 = .ok (.aload_n 0, 1) := by decide +kernel
theorem dX10_isAhead_45 : decode cX10_isAhead 45 = .ok (.getfield 103, 3) := by decide +kernel
theorem dX10_isAhead_48 : decode cX10_isAhead 48 = .ok (.iload_n 2, 1) := by decide +kernel
theorem dX10_isAhead_49 : decode cX10_isAhead 49 = .ok (.iaload, 1) := by decide +kernel
theorem dX10_isAhead_50 : decode cX10_isAhead 50 = .ok (.if_icmp .eq 26, 3) := by decide +kernel
theorem dX10_isAhead_53 : decode cX10_isAhead 53 = .ok (.aload_n 0, 1) := by decide +kernel
theorem dX10_isAhead_54 : decode cX10_isAhead 54 = .ok (.getfield 103, 3) := by decide +kernel
theorem dX10_isAhead_57 : decode cX10_isAhead 57 = .ok (.iload_n 1, 1) := by decide +kernel
theorem dX10_isAhead_58 : decode cX10_isAhead 58 = .ok (.iaload, 1) := by decide +kernel
theorem dX10_isAhead_59 : decode cX10_isAhead 59 = .ok (.aload_n 0, 1) := by decide +kernel
theorem dX10_isAhead_60 : decode cX10_isAhead 60 = .ok (.getfield 103, 3) := by decide +kernel
theorem dX10_isAhead_63 : decode cX10_isAhead 63 = .ok (.iload_n 2, 1) := by decide +kernel
theorem dX10_isAhead_64 : decode cX10_isAhead 64 = .ok (.iaload, 1) := by decide +kernel
theorem dX10_isAhead_65 : decode cX10_isAhead 65 = .ok (.if_icmp .le 7, 3) := by decide +kernel
theorem dX10_isAhead_68 : decode cX10_isAhead 68 = .ok (.iconst 1, 1) := by decide +kernel
theorem dX10_isAhead_69 : decode cX10_isAhead 69 = .ok (.goto 17, 3) := by decide +kernel
theorem dX10_isAhead_72 : decode cX10_isAhead 72 = .ok (.iconst 0, 1) := by decide +kernel
theorem dX10_isAhead_73 : decode cX10_isAhead 73 = .ok (.goto 13, 3) := by decide +kernel
theorem dX10_isAhead_76 : decode cX10_isAhead 76 = .ok (.iload_n 1, 1) := by decide +kernel
theorem dX10_isAhead_77 : decode cX10_isAhead 77 = .ok (.iload_n 2, 1) := by decide +kernel
theorem dX10_isAhead_78 : decode cX10_isAhead 78 = .ok (.if_icmp .ge 7, 3) := by decide +kernel
theorem dX10_isAhead_81 : decode cX10_isAhead 81 = .ok (.iconst 1, 1) := by decide +kernel
theorem dX10_isAhead_82 : decode cX10_isAhead 82 = .ok (.goto 4, 3) := by decide +kernel
theorem dX10_isAhead_85 : decode cX10_isAhead 85 = .ok (.iconst 0, 1) := by decide +kernel
theorem dX10_isAhead_86 : decode cX10_isAhead 86 = .ok (.ireturn, 1) := by decide +kernel
theorem dX10_rankOf_0 : decode cX10_rankOf 0 = .ok (.iconst 0, 1) := by decide +kernel
theorem dX10_rankOf_1 : decode cX10_rankOf 1 = .ok (.istore_n 2, 1) := by decide +kernel
theorem dX10_rankOf_2 : decode cX10_rankOf 2 = .ok (.iconst 0, 1) := by decide +kernel
theorem dX10_rankOf_3 : decode cX10_rankOf 3 = .ok (.istore_n 3, 1) := by decide +kernel
theorem dX10_rankOf_4 : decode cX10_rankOf 4 = .ok (.iload_n 3, 1) := by decide +kernel
theorem dX10_rankOf_5 : decode cX10_rankOf 5 = .ok (.aload_n 0, 1) := by decide +kernel
theorem dX10_rankOf_6 : decode cX10_rankOf 6 = .ok (.getfield 81, 3) := by decide +kernel
theorem dX10_rankOf_9 : decode cX10_rankOf 9 = .ok (.iconst 1, 1) := by decide +kernel
theorem dX10_rankOf_10 : decode cX10_rankOf 10 = .ok (.iaload, 1) := by decide +kernel
theorem dX10_rankOf_11 : decode cX10_rankOf 11 = .ok (.if_icmp .ge 31, 3) := by decide +kernel
theorem dX10_rankOf_14 : decode cX10_rankOf 14 = .ok (.iload_n 2, 1) := by decide +kernel
theorem dX10_rankOf_15 : decode cX10_rankOf 15 = .ok (.iload_n 3, 1) := by decide +kernel
theorem dX10_rankOf_16 : decode cX10_rankOf 16 = .ok (.iload_n 1, 1) := by decide +kernel
theorem dX10_rankOf_17 : decode cX10_rankOf 17 = .ok (.if_icmp .eq 16, 3) := by decide +kernel
theorem dX10_rankOf_20 : decode cX10_rankOf 20 = .ok (.aload_n 0, 1) := by decide +kernel
theorem dX10_rankOf_21 : decode cX10_rankOf 21 = .ok (.iload_n 3, 1) := by decide +kernel
theorem dX10_rankOf_22 : decode cX10_rankOf 22 = .ok (.iload_n 1, 1) := by decide +kernel
theorem dX10_rankOf_23 : decode cX10_rankOf 23 = .ok (.invokevirtual 402, 3) := by decide +kernel
theorem dX10_rankOf_26 : decode cX10_rankOf 26 = .ok (.ifCond .eq 7, 3) := by decide +kernel
theorem dX10_rankOf_29 : decode cX10_rankOf 29 = .ok (.iconst 1, 1) := by decide +kernel
theorem dX10_rankOf_30 : decode cX10_rankOf 30 = .ok (.goto 4, 3) := by decide +kernel
theorem dX10_rankOf_33 : decode cX10_rankOf 33 = .ok (.iconst 0, 1) := by decide +kernel
theorem dX10_rankOf_34 : decode cX10_rankOf 34 = .ok (.iadd, 1) := by decide +kernel
theorem dX10_rankOf_35 : decode cX10_rankOf 35 = .ok (.istore_n 2, 1) := by decide +kernel
theorem dX10_rankOf_36 : decode cX10_rankOf 36 = .ok (.iinc 3 1, 3) := by decide +kernel
theorem dX10_rankOf_39 : decode cX10_rankOf 39 = .ok (.goto (-35), 3) := by decide +kernel
theorem dX10_rankOf_42 : decode cX10_rankOf 42 = .ok (.iload_n 2, 1) := by decide +kernel
theorem dX10_rankOf_43 : decode cX10_rankOf 43 = .ok (.ireturn, 1) := by decide +kernel
theorem dX10_rankedAt_0 : decode cX10_rankedAt 0 = .ok (.iconst 0, 1) := by decide +kernel
theorem dX10_rankedAt_1 : decode cX10_rankedAt 1 = .ok (.istore_n 2, 1) := by decide +kernel
theorem dX10_rankedAt_2 : decode cX10_rankedAt 2 = .ok (.iload_n 2, 1) := by decide +kernel
theorem dX10_rankedAt_3 : decode cX10_rankedAt 3 = .ok (.aload_n 0, 1) := by decide +kernel
theorem dX10_rankedAt_4 : decode cX10_rankedAt 4 = .ok (.getfield 81, 3) := by decide +kernel
theorem dX10_rankedAt_7 : decode cX10_rankedAt 7 = .ok (.iconst 1, 1) := by decide +kernel
theorem dX10_rankedAt_8 : decode cX10_rankedAt 8 = .ok (.iaload, 1) := by decide +kernel
theorem dX10_rankedAt_9 : decode cX10_rankedAt 9 = .ok (.if_icmp .ge 20, 3) := by decide +kernel
theorem dX10_rankedAt_12 : decode cX10_rankedAt 12 = .ok (.aload_n 0, 1) := by decide +kernel
theorem dX10_rankedAt_13 : decode cX10_rankedAt 13 = .ok (.iload_n 2, 1) := by decide +kernel
theorem dX10_rankedAt_14 : decode cX10_rankedAt 14 = .ok (.invokevirtual 405, 3) := by decide +kernel
theorem dX10_rankedAt_17 : decode cX10_rankedAt 17 = .ok (.iload_n 1, 1) := by decide +kernel
theorem dX10_rankedAt_18 : decode cX10_rankedAt 18 = .ok (.if_icmp .ne 5, 3) := by decide +kernel
theorem dX10_rankedAt_21 : decode cX10_rankedAt 21 = .ok (.iload_n 2, 1) := by decide +kernel
theorem dX10_rankedAt_22 : decode cX10_rankedAt 22 = .ok (.ireturn, 1) := by decide +kernel
theorem dX10_rankedAt_23 : decode cX10_rankedAt 23 = .ok (.iinc 2 1, 3) := by decide +kernel
theorem dX10_rankedAt_26 : decode cX10_rankedAt 26 = .ok (.goto (-24), 3) := by decide +kernel
theorem dX10_rankedAt_29 : decode cX10_rankedAt 29 = .ok (.iconst (-1), 1) := by decide +kernel
theorem dX10_rankedAt_30 : decode cX10_rankedAt 30 = .ok (.ireturn, 1) := by decide +kernel
theorem dX10_noSkater_0 : decode cX10_noSkater 0 = .ok (.aload_n 0, 1) := by decide +kernel
theorem dX10_noSkater_1 : decode cX10_noSkater 1 = .ok (.iload_n 1, 1) := by decide +kernel
theorem dX10_noSkater_2 : decode cX10_noSkater 2 = .ok (.iconst 0, 1) := by decide +kernel
theorem dX10_noSkater_3 : decode cX10_noSkater 3 = .ok (.aload_n 0, 1) := by decide +kernel
theorem dX10_noSkater_4 : decode cX10_noSkater 4 = .ok (.getfield 81, 3) := by decide +kernel
theorem dX10_noSkater_7 : decode cX10_noSkater 7 = .ok (.iconst 1, 1) := by decide +kernel
theorem dX10_noSkater_8 : decode cX10_noSkater 8 = .ok (.iaload, 1) := by decide +kernel
theorem dX10_noSkater_9 : decode cX10_noSkater 9 = .ok (.iconst 1, 1) := by decide +kernel
theorem dX10_noSkater_10 : decode cX10_noSkater 10 = .ok (.isub, 1) := by decide +kernel
theorem dX10_noSkater_11 : decode cX10_noSkater 11 = .ok (.invokestatic 69, 3) := by decide +kernel
theorem dX10_noSkater_14 : decode cX10_noSkater 14 = .ok (.ifCond .ne 7, 3) := by decide +kernel
theorem dX10_noSkater_17 : decode cX10_noSkater 17 = .ok (.iconst 1, 1) := by decide +kernel
theorem dX10_noSkater_18 : decode cX10_noSkater 18 = .ok (.goto 4, 3) := by decide +kernel
theorem dX10_noSkater_21 : decode cX10_noSkater 21 = .ok (.iconst 0, 1) := by decide +kernel
theorem dX10_noSkater_22 : decode cX10_noSkater 22 = .ok (.iconst 1, 1) := by decide +kernel
theorem dX10_noSkater_23 : decode cX10_noSkater 23 = .ok (.invokevirtual 268, 3) := by decide +kernel
theorem dX10_noSkater_26 : decode cX10_noSkater 26 = .ok (.ireturn, 1) := by decide +kernel
theorem dX10_noTry_0 : decode cX10_noTry 0 = .ok (.aload_n 0, 1) := by decide +kernel
theorem dX10_noTry_1 : decode cX10_noTry 1 = .ok (.invokevirtual 408, 3) := by decide +kernel
theorem dX10_noTry_4 : decode cX10_noTry 4 = .ok (.aload_n 0, 1) := by decide +kernel
theorem dX10_noTry_5 : decode cX10_noTry 5 = .ok (.iload_n 1, 1) := by decide +kernel
theorem dX10_noTry_6 : decode cX10_noTry 6 = .ok (.invokevirtual 411, 3) := by decide +kernel
theorem dX10_noTry_9 : decode cX10_noTry 9 = .ok (.ifCond .ne 25, 3) := by decide +kernel
theorem dX10_noTry_12 : decode cX10_noTry 12 = .ok (.aload_n 0, 1) := by decide +kernel
theorem dX10_noTry_13 : decode cX10_noTry 13 = .ok (.aload_n 0, 1) := by decide +kernel
theorem dX10_noTry_14 : decode cX10_noTry 14 = .ok (.iload_n 1, 1) := by decide +kernel
theorem dX10_noTry_15 : decode cX10_noTry 15 = .ok (.iload_n 2, 1) := by decide +kernel
theorem dX10_noTry_16 : decode cX10_noTry 16 = .ok (.invokevirtual 322, 3) := by decide +kernel
theorem dX10_noTry_19 : decode cX10_noTry 19 = .ok (.ifCond .ne 7, 3) := by decide +kernel
theorem dX10_noTry_22 : decode cX10_noTry 22 = .ok (.iconst 1, 1) := by decide +kernel
theorem dX10_noTry_23 : decode cX10_noTry 23 = .ok (.goto 4, 3) := by decide +kernel
theorem dX10_noTry_26 : decode cX10_noTry 26 = .ok (.iconst 0, 1) := by decide +kernel
theorem dX10_noTry_27 : decode cX10_noTry 27 = .ok (.iconst 1, 1) := by decide +kernel
theorem dX10_noTry_28 : decode cX10_noTry 28 = .ok (.invokevirtual 268, 3) := by decide +kernel
theorem dX10_noTry_31 : decode cX10_noTry 31 = .ok (.ifCond .eq 7, 3) := by decide +kernel
theorem dX10_noTry_34 : decode cX10_noTry 34 = .ok (.iconst 1, 1) := by decide +kernel
theorem dX10_noTry_35 : decode cX10_noTry 35 = .ok (.goto 4, 3) := by decide +kernel
theorem dX10_noTry_38 : decode cX10_noTry 38 = .ok (.iconst 0, 1) := by decide +kernel
theorem dX10_noTry_39 : decode cX10_noTry 39 = .ok (.ireturn, 1) := by decide +kernel
theorem dX10_noElement_0 : decode cX10_noElement 0 = .ok (.aload_n 0, 1) := by decide +kernel
theorem dX10_noElement_1 : decode cX10_noElement 1 = .ok (.iload_n 1, 1) := by decide +kernel
theorem dX10_noElement_2 : decode cX10_noElement 2 = .ok (.iconst 0, 1) := by decide +kernel
theorem dX10_noElement_3 : decode cX10_noElement 3 = .ok (.aload_n 0, 1) := by decide +kernel
theorem dX10_noElement_4 : decode cX10_noElement 4 = .ok (.getfield 81, 3) := by decide +kernel
theorem dX10_noElement_7 : decode cX10_noElement 7 = .ok (.iconst 0, 1) := by decide +kernel
theorem dX10_noElement_8 : decode cX10_noElement 8 = .ok (.iaload, 1) := by decide +kernel
theorem dX10_noElement_9 : decode cX10_noElement 9 = .ok (.iconst 1, 1) := by decide +kernel
theorem dX10_noElement_10 : decode cX10_noElement 10 = .ok (.isub, 1) := by decide +kernel
theorem dX10_noElement_11 : decode cX10_noElement 11 = .ok (.invokestatic 69, 3) := by decide +kernel
theorem dX10_noElement_14 : decode cX10_noElement 14 = .ok (.ifCond .ne 7, 3) := by decide +kernel
theorem dX10_noElement_17 : decode cX10_noElement 17 = .ok (.iconst 1, 1) := by decide +kernel
theorem dX10_noElement_18 : decode cX10_noElement 18 = .ok (.goto 4, 3) := by decide +kernel
theorem dX10_noElement_21 : decode cX10_noElement 21 = .ok (.iconst 0, 1) := by decide +kernel
theorem dX10_noElement_22 : decode cX10_noElement 22 = .ok (.iconst 1, 1) := by decide +kernel
theorem dX10_noElement_23 : decode cX10_noElement 23 = .ok (.invokevirtual 268, 3) := by decide +kernel
theorem dX10_noElement_26 : decode cX10_noElement 26 = .ok (.ireturn, 1) := by decide +kernel
theorem dX10_noJudge_0 : decode cX10_noJudge 0 = .ok (.aload_n 0, 1) := by decide +kernel
theorem dX10_noJudge_1 : decode cX10_noJudge 1 = .ok (.iload_n 1, 1) := by decide +kernel
theorem dX10_noJudge_2 : decode cX10_noJudge 2 = .ok (.iconst 0, 1) := by decide +kernel
theorem dX10_noJudge_3 : decode cX10_noJudge 3 = .ok (.aload_n 0, 1) := by decide +kernel
theorem dX10_noJudge_4 : decode cX10_noJudge 4 = .ok (.getfield 81, 3) := by decide +kernel
theorem dX10_noJudge_7 : decode cX10_noJudge 7 = .ok (.iconst 2, 1) := by decide +kernel
theorem dX10_noJudge_8 : decode cX10_noJudge 8 = .ok (.iaload, 1) := by decide +kernel
theorem dX10_noJudge_9 : decode cX10_noJudge 9 = .ok (.iconst 1, 1) := by decide +kernel
theorem dX10_noJudge_10 : decode cX10_noJudge 10 = .ok (.isub, 1) := by decide +kernel
theorem dX10_noJudge_11 : decode cX10_noJudge 11 = .ok (.invokestatic 69, 3) := by decide +kernel
theorem dX10_noJudge_14 : decode cX10_noJudge 14 = .ok (.ifCond .ne 7, 3) := by decide +kernel
theorem dX10_noJudge_17 : decode cX10_noJudge 17 = .ok (.iconst 1, 1) := by decide +kernel
theorem dX10_noJudge_18 : decode cX10_noJudge 18 = .ok (.goto 4, 3) := by decide +kernel
theorem dX10_noJudge_21 : decode cX10_noJudge 21 = .ok (.iconst 0, 1) := by decide +kernel
theorem dX10_noJudge_22 : decode cX10_noJudge 22 = .ok (.iconst 1, 1) := by decide +kernel
theorem dX10_noJudge_23 : decode cX10_noJudge 23 = .ok (.invokevirtual 268, 3) := by decide +kernel
theorem dX10_noJudge_26 : decode cX10_noJudge 26 = .ok (.ireturn, 1) := by decide +kernel
theorem dX10_noComponent_0 : decode cX10_noComponent 0 = .ok (.aload_n 0, 1) := by decide +kernel
theorem dX10_noComponent_1 : decode cX10_noComponent 1 = .ok (.iload_n 1, 1) := by decide +kernel
theorem dX10_noComponent_2 : decode cX10_noComponent 2 = .ok (.iconst 0, 1) := by decide +kernel
theorem dX10_noComponent_3 : decode cX10_noComponent 3 = .ok (.iconst 2, 1) := by decide +kernel
theorem dX10_noComponent_4 : decode cX10_noComponent 4 = .ok (.invokestatic 69, 3) := by decide +kernel
theorem dX10_noComponent_7 : decode cX10_noComponent 7 = .ok (.ifCond .ne 7, 3) := by decide +kernel
theorem dX10_noComponent_10 : decode cX10_noComponent 10 = .ok (.iconst 1, 1) := by decide +kernel
theorem dX10_noComponent_11 : decode cX10_noComponent 11 = .ok (.goto 4, 3) := by decide +kernel
theorem dX10_noComponent_14 : decode cX10_noComponent 14 = .ok (.iconst 0, 1) := by decide +kernel
theorem dX10_noComponent_15 : decode cX10_noComponent 15 = .ok (.iconst 1, 1) := by decide +kernel
theorem dX10_noComponent_16 : decode cX10_noComponent 16 = .ok (.invokevirtual 268, 3) := by decide +kernel
theorem dX10_noComponent_19 : decode cX10_noComponent 19 = .ok (.ireturn, 1) := by decide +kernel
theorem dX10_name_0 : decode cX10_name 0 = .ok (.aload_n 0, 1) := by decide +kernel
theorem dX10_name_1 : decode cX10_name 1 = .ok (.iconst 0, 1) := by decide +kernel
theorem dX10_name_2 : decode cX10_name 2 = .ok (.putfield 3, 3) := by decide +kernel
theorem dX10_name_5 : decode cX10_name 5 = .ok (.iload_n 1, 1) := by decide +kernel
theorem dX10_name_6 : decode cX10_name 6 = .ok (.ifCond .eq 14, 3) := by decide +kernel
theorem dX10_name_9 : decode cX10_name 9 = .ok (.aload_n 0, 1) := by decide +kernel
theorem dX10_name_10 : decode cX10_name 10 = .ok (.iload_n 2, 1) := by decide +kernel
theorem dX10_name_11 : decode cX10_name 11 = .ok (.invokevirtual 411, 3) := by decide +kernel
theorem dX10_name_14 : decode cX10_name 14 = .ok (.ifCond .eq 16, 3) := by decide +kernel
theorem dX10_name_17 : decode cX10_name 17 = .ok (.goto 11, 3) := by decide +kernel
theorem dX10_name_20 : decode cX10_name 20 = .ok (.aload_n 0, 1) := by decide +kernel
theorem dX10_name_21 : decode cX10_name 21 = .ok (.iload_n 2, 1) := by decide +kernel
theorem dX10_name_22 : decode cX10_name 22 = .ok (.invokevirtual 414, 3) := by decide +kernel
theorem dX10_name_25 : decode cX10_name 25 = .ok (.ifCond .eq 5, 3) := by decide +kernel
theorem dX10_name_28 : decode cX10_name 28 = .ok (.iconst 0, 1) := by decide +kernel
theorem dX10_name_29 : decode cX10_name 29 = .ok (.ireturn, 1) := by decide +kernel
theorem dX10_name_30 : decode cX10_name 30 = .ok (.iload_n 3, 1) := by decide +kernel
theorem dX10_name_31 : decode cX10_name 31 = .ok (.iconst 0, 1) := by decide +kernel
theorem dX10_name_32 : decode cX10_name 32 = .ok (.iconst 5, 1) := by decide +kernel
theorem dX10_name_33 : decode cX10_name 33 = .ok (.invokestatic 69, 3) := by decide +kernel
theorem dX10_name_36 : decode cX10_name 36 = .ok (.ifCond .eq 29, 3) := by decide +kernel
theorem dX10_name_39 : decode cX10_name 39 = .ok (.aload_n 0, 1) := by decide +kernel
theorem dX10_name_40 : decode cX10_name 40 = .ok (.getfield 81, 3) := by decide +kernel
theorem dX10_name_43 : decode cX10_name 43 = .ok (.iload_n 1, 1) := by decide +kernel
theorem dX10_name_44 : decode cX10_name 44 = .ok (.ifCond .eq 8, 3) := by decide +kernel
theorem dX10_name_47 : decode cX10_name 47 = .ok (.bipush 74, 2) := by decide +kernel
theorem dX10_name_49 : decode cX10_name 49 = .ok (.goto 5, 3) := by decide +kernel
theorem dX10_name_52 : decode cX10_name 52 = .ok (.bipush 14, 2) := by decide +kernel
theorem dX10_name_54 : decode cX10_name 54 = .ok (.bipush 6, 2) := by decide +kernel
theorem dX10_name_56 : decode cX10_name 56 = .ok (.iload_n 2, 1) := by decide +kernel
theorem dX10_name_57 : decode cX10_name 57 = .ok (.imul, 1) := by decide +kernel
theorem dX10_name_58 : decode cX10_name 58 = .ok (.iadd, 1) := by decide +kernel
theorem dX10_name_59 : decode cX10_name 59 = .ok (.iload_n 3, 1) := by decide +kernel
theorem dX10_name_60 : decode cX10_name 60 = .ok (.iadd, 1) := by decide +kernel
theorem dX10_name_61 : decode cX10_name 61 = .ok (.iaload, 1) := by decide +kernel
theorem dX10_name_62 : decode cX10_name 62 = .ok (.goto 4, 3) := by decide +kernel
theorem dX10_name_65 : decode cX10_name 65 = .ok (.iconst 0, 1) := by decide +kernel
theorem dX10_name_66 : decode cX10_name 66 = .ok (.istore 4, 2) := by decide +kernel
theorem dX10_name_68 : decode cX10_name 68 = .ok (.iload 4, 2) := by decide +kernel
theorem dX10_name_70 : decode cX10_name 70 = .ok (.ifCond .ne 7, 3) := by decide +kernel
theorem dX10_name_73 : decode cX10_name 73 = .ok (.iconst (-1), 1) := by decide +kernel
theorem dX10_name_74 : decode cX10_name 74 = .ok (.goto 5, 3) := by decide +kernel
theorem dX10_name_77 : decode cX10_name 77 = .ok (.iload 4, 2) := by decide +kernel
theorem dX10_name_79 : decode cX10_name 79 = .ok (.ireturn, 1) := by decide +kernel
theorem dX10_element_0 : decode cX10_element 0 = .ok (.aload_n 0, 1) := by decide +kernel
theorem dX10_element_1 : decode cX10_element 1 = .ok (.iconst 0, 1) := by decide +kernel
theorem dX10_element_2 : decode cX10_element 2 = .ok (.putfield 3, 3) := by decide +kernel
theorem dX10_element_5 : decode cX10_element 5 = .ok (.aload_n 0, 1) := by decide +kernel
theorem dX10_element_6 : decode cX10_element 6 = .ok (.iload_n 1, 1) := by decide +kernel
theorem dX10_element_7 : decode cX10_element 7 = .ok (.invokevirtual 414, 3) := by decide +kernel
theorem dX10_element_10 : decode cX10_element 10 = .ok (.ifCond .ne 25, 3) := by decide +kernel
theorem dX10_element_13 : decode cX10_element 13 = .ok (.aload_n 0, 1) := by decide +kernel
theorem dX10_element_14 : decode cX10_element 14 = .ok (.iload_n 2, 1) := by decide +kernel
theorem dX10_element_15 : decode cX10_element 15 = .ok (.iconst 0, 1) := by decide +kernel
theorem dX10_element_16 : decode cX10_element 16 = .ok (.iconst 1, 1) := by decide +kernel
theorem dX10_element_17 : decode cX10_element 17 = .ok (.invokestatic 69, 3) := by decide +kernel
theorem dX10_element_20 : decode cX10_element 20 = .ok (.ifCond .ne 7, 3) := by decide +kernel
theorem dX10_element_23 : decode cX10_element 23 = .ok (.iconst 1, 1) := by decide +kernel
theorem dX10_element_24 : decode cX10_element 24 = .ok (.goto 4, 3) := by decide +kernel
theorem dX10_element_27 : decode cX10_element 27 = .ok (.iconst 0, 1) := by decide +kernel
theorem dX10_element_28 : decode cX10_element 28 = .ok (.iconst 2, 1) := by decide +kernel
theorem dX10_element_29 : decode cX10_element 29 = .ok (.invokevirtual 268, 3) := by decide +kernel
theorem dX10_element_32 : decode cX10_element 32 = .ok (.ifCond .eq 5, 3) := by decide +kernel
theorem dX10_element_35 : decode cX10_element 35 = .ok (.iconst 0, 1) := by decide +kernel
theorem dX10_element_36 : decode cX10_element 36 = .ok (.ireturn, 1) := by decide +kernel
theorem dX10_element_37 : decode cX10_element 37 = .ok (.iload_n 2, 1) := by decide +kernel
theorem dX10_element_38 : decode cX10_element 38 = .ok (.ifCond .ne 16, 3) := by decide +kernel
theorem dX10_element_41 : decode cX10_element 41 = .ok (.aload_n 0, 1) := by decide +kernel
theorem dX10_element_42 : decode cX10_element 42 = .ok (.getfield 84, 3) := by decide +kernel
theorem dX10_element_45 : decode cX10_element 45 = .ok (.sipush 954, 3) := by decide +kernel
theorem dX10_element_48 : decode cX10_element 48 = .ok (.iload_n 1, 1) := by decide +kernel
theorem dX10_element_49 : decode cX10_element 49 = .ok (.iadd, 1) := by decide +kernel
theorem dX10_element_50 : decode cX10_element 50 = .ok (.iaload, 1) := by decide +kernel
theorem dX10_element_51 : decode cX10_element 51 = .ok (.goto 11, 3) := by decide +kernel
theorem dX10_element_54 : decode cX10_element 54 = .ok (.aload_n 0, 1) := by decide +kernel
theorem dX10_element_55 : decode cX10_element 55 = .ok (.getfield 81, 3) := by decide +kernel
theorem dX10_element_58 : decode cX10_element 58 = .ok (.iconst 4, 1) := by decide +kernel
theorem dX10_element_59 : decode cX10_element 59 = .ok (.iload_n 1, 1) := by decide +kernel
theorem dX10_element_60 : decode cX10_element 60 = .ok (.iadd, 1) := by decide +kernel
theorem dX10_element_61 : decode cX10_element 61 = .ok (.iaload, 1) := by decide +kernel
theorem dX10_element_62 : decode cX10_element 62 = .ok (.ireturn, 1) := by decide +kernel
theorem dX10_attempt_0 : decode cX10_attempt 0 = .ok (.aload_n 0, 1) := by decide +kernel
theorem dX10_attempt_1 : decode cX10_attempt 1 = .ok (.iconst 0, 1) := by decide +kernel
theorem dX10_attempt_2 : decode cX10_attempt 2 = .ok (.putfield 3, 3) := by decide +kernel
theorem dX10_attempt_5 : decode cX10_attempt 5 = .ok (.aload_n 0, 1) := by decide +kernel
theorem dX10_attempt_6 : decode cX10_attempt 6 = .ok (.iload_n 1, 1) := by decide +kernel
theorem dX10_attempt_7 : decode cX10_attempt 7 = .ok (.iload_n 2, 1) := by decide +kernel
theorem dX10_attempt_8 : decode cX10_attempt 8 = .ok (.invokevirtual 417, 3) := by decide +kernel
theorem dX10_attempt_11 : decode cX10_attempt 11 = .ok (.ifCond .ne 26, 3) := by decide +kernel
theorem dX10_attempt_14 : decode cX10_attempt 14 = .ok (.aload_n 0, 1) := by decide +kernel
theorem dX10_attempt_15 : decode cX10_attempt 15 = .ok (.iload_n 3, 1) := by decide +kernel
theorem dX10_attempt_16 : decode cX10_attempt 16 = .ok (.iconst 0, 1) := by decide +kernel
theorem dX10_attempt_17 : decode cX10_attempt 17 = .ok (.bipush 10, 2) := by decide +kernel
theorem dX10_attempt_19 : decode cX10_attempt 19 = .ok (.invokestatic 69, 3) := by decide +kernel
theorem dX10_attempt_22 : decode cX10_attempt 22 = .ok (.ifCond .ne 7, 3) := by decide +kernel
theorem dX10_attempt_25 : decode cX10_attempt 25 = .ok (.iconst 1, 1) := by decide +kernel
theorem dX10_attempt_26 : decode cX10_attempt 26 = .ok (.goto 4, 3) := by decide +kernel
theorem dX10_attempt_29 : decode cX10_attempt 29 = .ok (.iconst 0, 1) := by decide +kernel
theorem dX10_attempt_30 : decode cX10_attempt 30 = .ok (.iconst 2, 1) := by decide +kernel
theorem dX10_attempt_31 : decode cX10_attempt 31 = .ok (.invokevirtual 268, 3) := by decide +kernel
theorem dX10_attempt_34 : decode cX10_attempt 34 = .ok (.ifCond .eq 5, 3) := by decide +kernel
theorem dX10_attempt_37 : decode cX10_attempt 37 = .ok (.iconst 0, 1) := by decide +kernel
theorem dX10_attempt_38 : decode cX10_attempt 38 = .ok (.ireturn, 1) := by decide +kernel
theorem dX10_attempt_39 : decode cX10_attempt 39 = .ok (.iload_n 3, 1) := by decide +kernel
theorem dX10_attempt_40 : decode cX10_attempt 40 = .ok (.tableswitch 146 0 9 #[56, 70, 77, 77, 77, 103, 110, 125, 132, 139], 56) := by decide +kernel
theorem dX10_attempt_96 : decode cX10_attempt 96 = .ok (.aload_n 0, 1) := by decide +kernel
theorem dX10_attempt_97 : decode cX10_attempt 97 = .ok (.getfield 81, 3) := by decide +kernel
theorem dX10_attempt_100 : decode cX10_attempt 100 = .ok (.bipush 122, 2) := by decide +kernel
theorem dX10_attempt_102 : decode cX10_attempt 102 = .ok (.iload_n 1, 1) := by decide +kernel
theorem dX10_attempt_103 : decode cX10_attempt 103 = .ok (.iload_n 2, 1) := by decide +kernel
theorem dX10_attempt_104 : decode cX10_attempt 104 = .ok (.invokestatic 199, 3) := by decide +kernel
theorem dX10_attempt_107 : decode cX10_attempt 107 = .ok (.iadd, 1) := by decide +kernel
theorem dX10_attempt_108 : decode cX10_attempt 108 = .ok (.iaload, 1) := by decide +kernel
theorem dX10_attempt_109 : decode cX10_attempt 109 = .ok (.ireturn, 1) := by decide +kernel
theorem dX10_attempt_110 : decode cX10_attempt 110 = .ok (.aload_n 0, 1) := by decide +kernel
theorem dX10_attempt_111 : decode cX10_attempt 111 = .ok (.iload_n 1, 1) := by decide +kernel
theorem dX10_attempt_112 : decode cX10_attempt 112 = .ok (.iload_n 2, 1) := by decide +kernel
theorem dX10_attempt_113 : decode cX10_attempt 113 = .ok (.invokevirtual 325, 3) := by decide +kernel
theorem dX10_attempt_116 : decode cX10_attempt 116 = .ok (.ireturn, 1) := by decide +kernel
theorem dX10_attempt_117 : decode cX10_attempt 117 = .ok (.iload_n 3, 1) := by decide +kernel
theorem dX10_attempt_118 : decode cX10_attempt 118 = .ok (.iconst 2, 1) := by decide +kernel
theorem dX10_attempt_119 : decode cX10_attempt 119 = .ok (.isub, 1) := by decide +kernel
theorem dX10_attempt_120 : decode cX10_attempt 120 = .ok (.aload_n 0, 1) := by decide +kernel
theorem dX10_attempt_121 : decode cX10_attempt 121 = .ok (.iload_n 1, 1) := by decide +kernel
theorem dX10_attempt_122 : decode cX10_attempt 122 = .ok (.iload_n 2, 1) := by decide +kernel
theorem dX10_attempt_123 : decode cX10_attempt 123 = .ok (.invokevirtual 325, 3) := by decide +kernel
theorem dX10_attempt_126 : decode cX10_attempt 126 = .ok (.if_icmp .ge 15, 3) := by decide +kernel
theorem dX10_attempt_129 : decode cX10_attempt 129 = .ok (.aload_n 0, 1) := by decide +kernel
theorem dX10_attempt_130 : decode cX10_attempt 130 = .ok (.iload_n 1, 1) := by decide +kernel
theorem dX10_attempt_131 : decode cX10_attempt 131 = .ok (.iload_n 2, 1) := by decide +kernel
theorem dX10_attempt_132 : decode cX10_attempt 132 = .ok (.iload_n 3, 1) := by decide +kernel
theorem dX10_attempt_133 : decode cX10_attempt 133 = .ok (.iconst 2, 1) := by decide +kernel
theorem dX10_attempt_134 : decode cX10_attempt 134 = .ok (.isub, 1) := by decide +kernel
theorem dX10_attempt_135 : decode cX10_attempt 135 = .ok (.invokevirtual 293, 3) := by decide +kernel
theorem dX10_attempt_138 : decode cX10_attempt 138 = .ok (.goto 4, 3) := by decide +kernel
theorem dX10_attempt_141 : decode cX10_attempt 141 = .ok (.iconst (-1), 1) := by decide +kernel
theorem dX10_attempt_142 : decode cX10_attempt 142 = .ok (.ireturn, 1) := by decide +kernel
theorem dX10_attempt_143 : decode cX10_attempt 143 = .ok (.aload_n 0, 1) := by decide +kernel
theorem dX10_attempt_144 : decode cX10_attempt 144 = .ok (.iload_n 1, 1) := by decide +kernel
theorem dX10_attempt_145 : decode cX10_attempt 145 = .ok (.iload_n 2, 1) := by decide +kernel
theorem dX10_attempt_146 : decode cX10_attempt 146 = .ok (.invokevirtual 334, 3) := by decide +kernel
theorem dX10_attempt_149 : decode cX10_attempt 149 = .ok (.ireturn, 1) := by decide +kernel
theorem dX10_attempt_150 : decode cX10_attempt 150 = .ok (.aload_n 0, 1) := by decide +kernel
theorem dX10_attempt_151 : decode cX10_attempt 151 = .ok (.iload_n 1, 1) := by decide +kernel
theorem dX10_attempt_152 : decode cX10_attempt 152 = .ok (.iload_n 2, 1) := by decide +kernel
theorem dX10_attempt_153 : decode cX10_attempt 153 = .ok (.invokevirtual 337, 3) := by decide +kernel
theorem dX10_attempt_156 : decode cX10_attempt 156 = .ok (.ifCond .eq 7, 3) := by decide +kernel
theorem dX10_attempt_159 : decode cX10_attempt 159 = .ok (.iconst 1, 1) := by decide +kernel
theorem dX10_attempt_160 : decode cX10_attempt 160 = .ok (.goto 4, 3) := by decide +kernel
theorem dX10_attempt_163 : decode cX10_attempt 163 = .ok (.iconst 0, 1) := by decide +kernel
theorem dX10_attempt_164 : decode cX10_attempt 164 = .ok (.ireturn, 1) := by decide +kernel
theorem dX10_attempt_165 : decode cX10_attempt 165 = .ok (.aload_n 0, 1) := by decide +kernel
theorem dX10_attempt_166 : decode cX10_attempt 166 = .ok (.iload_n 1, 1) := by decide +kernel
theorem dX10_attempt_167 : decode cX10_attempt 167 = .ok (.iload_n 2, 1) := by decide +kernel
theorem dX10_attempt_168 : decode cX10_attempt 168 = .ok (.invokevirtual 420, 3) := by decide +kernel
theorem dX10_attempt_171 : decode cX10_attempt 171 = .ok (.ireturn, 1) := by decide +kernel
theorem dX10_attempt_172 : decode cX10_attempt 172 = .ok (.aload_n 0, 1) := by decide +kernel
theorem dX10_attempt_173 : decode cX10_attempt 173 = .ok (.iload_n 1, 1) := by decide +kernel
theorem dX10_attempt_174 : decode cX10_attempt 174 = .ok (.iload_n 2, 1) := by decide +kernel
theorem dX10_attempt_175 : decode cX10_attempt 175 = .ok (.invokevirtual 343, 3) := by decide +kernel
theorem dX10_attempt_178 : decode cX10_attempt 178 = .ok (.ireturn, 1) := by decide +kernel
theorem dX10_attempt_179 : decode cX10_attempt 179 = .ok (.aload_n 0, 1) := by decide +kernel
theorem dX10_attempt_180 : decode cX10_attempt 180 = .ok (.iload_n 1, 1) := by decide +kernel
theorem dX10_attempt_181 : decode cX10_attempt 181 = .ok (.iload_n 2, 1) := by decide +kernel
theorem dX10_attempt_182 : decode cX10_attempt 182 = .ok (.invokevirtual 346, 3) := by decide +kernel
theorem dX10_attempt_185 : decode cX10_attempt 185 = .ok (.ireturn, 1) := by decide +kernel
theorem dX10_attempt_186 : decode cX10_attempt 186 = .ok (.aload_n 0, 1) := by decide +kernel
theorem dX10_attempt_187 : decode cX10_attempt 187 = .ok (.iload_n 1, 1) := by decide +kernel
theorem dX10_attempt_188 : decode cX10_attempt 188 = .ok (.iload_n 2, 1) := by decide +kernel
theorem dX10_attempt_189 : decode cX10_attempt 189 = .ok (.invokevirtual 349, 3) := by decide +kernel
theorem dX10_attempt_192 : decode cX10_attempt 192 = .ok (.ireturn, 1) := by decide +kernel
theorem dX10_grade_0 : decode cX10_grade 0 = .ok (.aload_n 0, 1) := by decide +kernel
theorem dX10_grade_1 : decode cX10_grade 1 = .ok (.iconst 0, 1) := by decide +kernel
theorem dX10_grade_2 : decode cX10_grade 2 = .ok (.putfield 3, 3) := by decide +kernel
theorem dX10_grade_5 : decode cX10_grade 5 = .ok (.aload_n 0, 1) := by decide +kernel
theorem dX10_grade_6 : decode cX10_grade 6 = .ok (.iload_n 1, 1) := by decide +kernel
theorem dX10_grade_7 : decode cX10_grade 7 = .ok (.iload_n 2, 1) := by decide +kernel
theorem dX10_grade_8 : decode cX10_grade 8 = .ok (.invokevirtual 417, 3) := by decide +kernel
theorem dX10_grade_11 : decode cX10_grade 11 = .ok (.ifCond .ne 11, 3) := by decide +kernel
theorem dX10_grade_14 : decode cX10_grade 14 = .ok (.aload_n 0, 1) := by decide +kernel
theorem dX10_grade_15 : decode cX10_grade 15 = .ok (.iload_n 3, 1) := by decide +kernel
theorem dX10_grade_16 : decode cX10_grade 16 = .ok (.invokevirtual 423, 3) := by decide +kernel
theorem dX10_grade_19 : decode cX10_grade 19 = .ok (.ifCond .eq 5, 3) := by decide +kernel
theorem dX10_grade_22 : decode cX10_grade 22 = .ok (.iconst 0, 1) := by decide +kernel
theorem dX10_grade_23 : decode cX10_grade 23 = .ok (.ireturn, 1) := by decide +kernel
theorem dX10_grade_24 : decode cX10_grade 24 = .ok (.aload_n 0, 1) := by decide +kernel
theorem dX10_grade_25 : decode cX10_grade 25 = .ok (.iload_n 1, 1) := by decide +kernel
theorem dX10_grade_26 : decode cX10_grade 26 = .ok (.iload_n 2, 1) := by decide +kernel
theorem dX10_grade_27 : decode cX10_grade 27 = .ok (.iload_n 3, 1) := by decide +kernel
theorem dX10_grade_28 : decode cX10_grade 28 = .ok (.invokevirtual 312, 3) := by decide +kernel
theorem dX10_grade_31 : decode cX10_grade 31 = .ok (.ireturn, 1) := by decide +kernel
theorem dX10_mean_0 : decode cX10_mean 0 = .ok (.aload_n 0, 1) := by decide +kernel
theorem dX10_mean_1 : decode cX10_mean 1 = .ok (.iconst 0, 1) := by decide +kernel
theorem dX10_mean_2 : decode cX10_mean 2 = .ok (.putfield 3, 3) := by decide +kernel
theorem dX10_mean_5 : decode cX10_mean 5 = .ok (.aload_n 0, 1) := by decide +kernel
theorem dX10_mean_6 : decode cX10_mean 6 = .ok (.iload_n 1, 1) := by decide +kernel
theorem dX10_mean_7 : decode cX10_mean 7 = .ok (.iload_n 2, 1) := by decide +kernel
theorem dX10_mean_8 : decode cX10_mean 8 = .ok (.invokevirtual 417, 3) := by decide +kernel
theorem dX10_mean_11 : decode cX10_mean 11 = .ok (.ifCond .eq 5, 3) := by decide +kernel
theorem dX10_mean_14 : decode cX10_mean 14 = .ok (.iconst 0, 1) := by decide +kernel
theorem dX10_mean_15 : decode cX10_mean 15 = .ok (.ireturn, 1) := by decide +kernel
theorem dX10_mean_16 : decode cX10_mean 16 = .ok (.aload_n 0, 1) := by decide +kernel
theorem dX10_mean_17 : decode cX10_mean 17 = .ok (.iload_n 1, 1) := by decide +kernel
theorem dX10_mean_18 : decode cX10_mean 18 = .ok (.iload_n 2, 1) := by decide +kernel
theorem dX10_mean_19 : decode cX10_mean 19 = .ok (.invokevirtual 340, 3) := by decide +kernel
theorem dX10_mean_22 : decode cX10_mean 22 = .ok (.ireturn, 1) := by decide +kernel
theorem dX10_mark_0 : decode cX10_mark 0 = .ok (.aload_n 0, 1) := by decide +kernel
theorem dX10_mark_1 : decode cX10_mark 1 = .ok (.iconst 0, 1) := by decide +kernel
theorem dX10_mark_2 : decode cX10_mark 2 = .ok (.putfield 3, 3) := by decide +kernel
theorem dX10_mark_5 : decode cX10_mark 5 = .ok (.aload_n 0, 1) := by decide +kernel
theorem dX10_mark_6 : decode cX10_mark 6 = .ok (.iload_n 1, 1) := by decide +kernel
theorem dX10_mark_7 : decode cX10_mark 7 = .ok (.invokevirtual 411, 3) := by decide +kernel
theorem dX10_mark_10 : decode cX10_mark 10 = .ok (.ifCond .ne 19, 3) := by decide +kernel
theorem dX10_mark_13 : decode cX10_mark 13 = .ok (.aload_n 0, 1) := by decide +kernel
theorem dX10_mark_14 : decode cX10_mark 14 = .ok (.iload_n 2, 1) := by decide +kernel
theorem dX10_mark_15 : decode cX10_mark 15 = .ok (.invokevirtual 426, 3) := by decide +kernel
theorem dX10_mark_18 : decode cX10_mark 18 = .ok (.ifCond .ne 11, 3) := by decide +kernel
theorem dX10_mark_21 : decode cX10_mark 21 = .ok (.aload_n 0, 1) := by decide +kernel
theorem dX10_mark_22 : decode cX10_mark 22 = .ok (.iload_n 3, 1) := by decide +kernel
theorem dX10_mark_23 : decode cX10_mark 23 = .ok (.invokevirtual 423, 3) := by decide +kernel
theorem dX10_mark_26 : decode cX10_mark 26 = .ok (.ifCond .eq 5, 3) := by decide +kernel
theorem dX10_mark_29 : decode cX10_mark 29 = .ok (.iconst 0, 1) := by decide +kernel
theorem dX10_mark_30 : decode cX10_mark 30 = .ok (.ireturn, 1) := by decide +kernel
theorem dX10_mark_31 : decode cX10_mark 31 = .ok (.aload_n 0, 1) := by decide +kernel
theorem dX10_mark_32 : decode cX10_mark 32 = .ok (.getfield 84, 3) := by decide +kernel
theorem dX10_mark_35 : decode cX10_mark 35 = .ok (.aload_n 0, 1) := by decide +kernel
theorem dX10_mark_36 : decode cX10_mark 36 = .ok (.iload_n 1, 1) := by decide +kernel
theorem dX10_mark_37 : decode cX10_mark 37 = .ok (.iload_n 2, 1) := by decide +kernel
theorem dX10_mark_38 : decode cX10_mark 38 = .ok (.iload_n 3, 1) := by decide +kernel
theorem dX10_mark_39 : decode cX10_mark 39 = .ok (.invokevirtual 319, 3) := by decide +kernel
theorem dX10_mark_42 : decode cX10_mark 42 = .ok (.iaload, 1) := by decide +kernel
theorem dX10_mark_43 : decode cX10_mark 43 = .ok (.ireturn, 1) := by decide +kernel
theorem dX10_component_0 : decode cX10_component 0 = .ok (.aload_n 0, 1) := by decide +kernel
theorem dX10_component_1 : decode cX10_component 1 = .ok (.iconst 0, 1) := by decide +kernel
theorem dX10_component_2 : decode cX10_component 2 = .ok (.putfield 3, 3) := by decide +kernel
theorem dX10_component_5 : decode cX10_component 5 = .ok (.aload_n 0, 1) := by decide +kernel
theorem dX10_component_6 : decode cX10_component 6 = .ok (.invokevirtual 408, 3) := by decide +kernel
theorem dX10_component_9 : decode cX10_component 9 = .ok (.aload_n 0, 1) := by decide +kernel
theorem dX10_component_10 : decode cX10_component 10 = .ok (.iload_n 1, 1) := by decide +kernel
theorem dX10_component_11 : decode cX10_component 11 = .ok (.invokevirtual 411, 3) := by decide +kernel
theorem dX10_component_14 : decode cX10_component 14 = .ok (.ifCond .ne 11, 3) := by decide +kernel
theorem dX10_component_17 : decode cX10_component 17 = .ok (.aload_n 0, 1) := by decide +kernel
theorem dX10_component_18 : decode cX10_component 18 = .ok (.iload_n 2, 1) := by decide +kernel
theorem dX10_component_19 : decode cX10_component 19 = .ok (.invokevirtual 426, 3) := by decide +kernel
theorem dX10_component_22 : decode cX10_component 22 = .ok (.ifCond .eq 5, 3) := by decide +kernel
theorem dX10_component_25 : decode cX10_component 25 = .ok (.iconst 0, 1) := by decide +kernel
theorem dX10_component_26 : decode cX10_component 26 = .ok (.ireturn, 1) := by decide +kernel
theorem dX10_component_27 : decode cX10_component 27 = .ok (.aload_n 0, 1) := by decide +kernel
theorem dX10_component_28 : decode cX10_component 28 = .ok (.iload_n 1, 1) := by decide +kernel
theorem dX10_component_29 : decode cX10_component 29 = .ok (.iload_n 2, 1) := by decide +kernel
theorem dX10_component_30 : decode cX10_component 30 = .ok (.invokevirtual 352, 3) := by decide +kernel
theorem dX10_component_33 : decode cX10_component 33 = .ok (.ireturn, 1) := by decide +kernel
theorem dX10_total_0 : decode cX10_total 0 = .ok (.aload_n 0, 1) := by decide +kernel
theorem dX10_total_1 : decode cX10_total 1 = .ok (.iconst 0, 1) := by decide +kernel
theorem dX10_total_2 : decode cX10_total 2 = .ok (.putfield 3, 3) := by decide +kernel
theorem dX10_total_5 : decode cX10_total 5 = .ok (.aload_n 0, 1) := by decide +kernel
theorem dX10_total_6 : decode cX10_total 6 = .ok (.invokevirtual 408, 3) := by decide +kernel
theorem dX10_total_9 : decode cX10_total 9 = .ok (.aload_n 0, 1) := by decide +kernel
theorem dX10_total_10 : decode cX10_total 10 = .ok (.iload_n 1, 1) := by decide +kernel
theorem dX10_total_11 : decode cX10_total 11 = .ok (.invokevirtual 411, 3) := by decide +kernel
theorem dX10_total_14 : decode cX10_total 14 = .ok (.ifCond .ne 25, 3) := by decide +kernel
theorem dX10_total_17 : decode cX10_total 17 = .ok (.aload_n 0, 1) := by decide +kernel
theorem dX10_total_18 : decode cX10_total 18 = .ok (.iload_n 2, 1) := by decide +kernel
theorem dX10_total_19 : decode cX10_total 19 = .ok (.iconst 0, 1) := by decide +kernel
theorem dX10_total_20 : decode cX10_total 20 = .ok (.iconst 4, 1) := by decide +kernel
theorem dX10_total_21 : decode cX10_total 21 = .ok (.invokestatic 69, 3) := by decide +kernel
theorem dX10_total_24 : decode cX10_total 24 = .ok (.ifCond .ne 7, 3) := by decide +kernel
theorem dX10_total_27 : decode cX10_total 27 = .ok (.iconst 1, 1) := by decide +kernel
theorem dX10_total_28 : decode cX10_total 28 = .ok (.goto 4, 3) := by decide +kernel
theorem dX10_total_31 : decode cX10_total 31 = .ok (.iconst 0, 1) := by decide +kernel
theorem dX10_total_32 : decode cX10_total 32 = .ok (.iconst 2, 1) := by decide +kernel
theorem dX10_total_33 : decode cX10_total 33 = .ok (.invokevirtual 268, 3) := by decide +kernel
theorem dX10_total_36 : decode cX10_total 36 = .ok (.ifCond .eq 5, 3) := by decide +kernel
theorem dX10_total_39 : decode cX10_total 39 = .ok (.iconst 0, 1) := by decide +kernel
theorem dX10_total_40 : decode cX10_total 40 = .ok (.ireturn, 1) := by decide +kernel
theorem dX10_total_41 : decode cX10_total 41 = .ok (.iload_n 2, 1) := by decide +kernel
theorem dX10_total_42 : decode cX10_total 42 = .ok (.tableswitch 55 0 3 #[30, 36, 42, 49], 30) := by decide +kernel
theorem dX10_total_72 : decode cX10_total 72 = .ok (.aload_n 0, 1) := by decide +kernel
theorem dX10_total_73 : decode cX10_total 73 = .ok (.iload_n 1, 1) := by decide +kernel
theorem dX10_total_74 : decode cX10_total 74 = .ok (.invokevirtual 390, 3) := by decide +kernel
theorem dX10_total_77 : decode cX10_total 77 = .ok (.ireturn, 1) := by decide +kernel
theorem dX10_total_78 : decode cX10_total 78 = .ok (.aload_n 0, 1) := by decide +kernel
theorem dX10_total_79 : decode cX10_total 79 = .ok (.iload_n 1, 1) := by decide +kernel
theorem dX10_total_80 : decode cX10_total 80 = .ok (.invokevirtual 393, 3) := by decide +kernel
theorem dX10_total_83 : decode cX10_total 83 = .ok (.ireturn, 1) := by decide +kernel
theorem dX10_total_84 : decode cX10_total 84 = .ok (.aload_n 0, 1) := by decide +kernel
theorem dX10_total_85 : decode cX10_total 85 = .ok (.iload_n 1, 1) := by decide +kernel
theorem dX10_total_86 : decode cX10_total 86 = .ok (.iconst 2, 1) := by decide +kernel
theorem dX10_total_87 : decode cX10_total 87 = .ok (.invokevirtual 355, 3) := by decide +kernel
theorem dX10_total_90 : decode cX10_total 90 = .ok (.ireturn, 1) := by decide +kernel
theorem dX10_total_91 : decode cX10_total 91 = .ok (.aload_n 0, 1) := by decide +kernel
theorem dX10_total_92 : decode cX10_total 92 = .ok (.iload_n 1, 1) := by decide +kernel
theorem dX10_total_93 : decode cX10_total 93 = .ok (.invokevirtual 396, 3) := by decide +kernel
theorem dX10_total_96 : decode cX10_total 96 = .ok (.ireturn, 1) := by decide +kernel
theorem dX10_total_97 : decode cX10_total 97 = .ok (.aload_n 0, 1) := by decide +kernel
theorem dX10_total_98 : decode cX10_total 98 = .ok (.iload_n 1, 1) := by decide +kernel
theorem dX10_total_99 : decode cX10_total 99 = .ok (.invokevirtual 399, 3) := by decide +kernel
theorem dX10_total_102 : decode cX10_total 102 = .ok (.ireturn, 1) := by decide +kernel
theorem dX10_rule_0 : decode cX10_rule 0 = .ok (.aload_n 0, 1) := by decide +kernel
theorem dX10_rule_1 : decode cX10_rule 1 = .ok (.iconst 0, 1) := by decide +kernel
theorem dX10_rule_2 : decode cX10_rule 2 = .ok (.putfield 3, 3) := by decide +kernel
theorem dX10_rule_5 : decode cX10_rule 5 = .ok (.aload_n 0, 1) := by decide +kernel
theorem dX10_rule_6 : decode cX10_rule 6 = .ok (.invokevirtual 408, 3) := by decide +kernel
theorem dX10_rule_9 : decode cX10_rule 9 = .ok (.aload_n 0, 1) := by decide +kernel
theorem dX10_rule_10 : decode cX10_rule 10 = .ok (.iload_n 1, 1) := by decide +kernel
theorem dX10_rule_11 : decode cX10_rule 11 = .ok (.invokevirtual 411, 3) := by decide +kernel
theorem dX10_rule_14 : decode cX10_rule 14 = .ok (.ifCond .ne 32, 3) := by decide +kernel
theorem dX10_rule_17 : decode cX10_rule 17 = .ok (.aload_n 0, 1) := by decide +kernel
theorem dX10_rule_18 : decode cX10_rule 18 = .ok (.iload_n 2, 1) := by decide +kernel
theorem dX10_rule_19 : decode cX10_rule 19 = .ok (.iconst 0, 1) := by decide +kernel
theorem dX10_rule_20 : decode cX10_rule 20 = .ok (.aload_n 0, 1) := by decide +kernel
theorem dX10_rule_21 : decode cX10_rule 21 = .ok (.getfield 81, 3) := by decide +kernel
theorem dX10_rule_24 : decode cX10_rule 24 = .ok (.iconst 3, 1) := by decide +kernel
theorem dX10_rule_25 : decode cX10_rule 25 = .ok (.iaload, 1) := by decide +kernel
theorem dX10_rule_26 : decode cX10_rule 26 = .ok (.iconst 1, 1) := by decide +kernel
theorem dX10_rule_27 : decode cX10_rule 27 = .ok (.isub, 1) := by decide +kernel
theorem dX10_rule_28 : decode cX10_rule 28 = .ok (.invokestatic 69, 3) := by decide +kernel
theorem dX10_rule_31 : decode cX10_rule 31 = .ok (.ifCond .ne 7, 3) := by decide +kernel
theorem dX10_rule_34 : decode cX10_rule 34 = .ok (.iconst 1, 1) := by decide +kernel
theorem dX10_rule_35 : decode cX10_rule 35 = .ok (.goto 4, 3) := by decide +kernel
theorem dX10_rule_38 : decode cX10_rule 38 = .ok (.iconst 0, 1) := by decide +kernel
theorem dX10_rule_39 : decode cX10_rule 39 = .ok (.iconst 2, 1) := by decide +kernel
theorem dX10_rule_40 : decode cX10_rule 40 = .ok (.invokevirtual 268, 3) := by decide +kernel
theorem dX10_rule_43 : decode cX10_rule 43 = .ok (.ifCond .eq 5, 3) := by decide +kernel
theorem dX10_rule_46 : decode cX10_rule 46 = .ok (.iconst 0, 1) := by decide +kernel
theorem dX10_rule_47 : decode cX10_rule 47 = .ok (.ireturn, 1) := by decide +kernel
theorem dX10_rule_48 : decode cX10_rule 48 = .ok (.aload_n 0, 1) := by decide +kernel
theorem dX10_rule_49 : decode cX10_rule 49 = .ok (.iload_n 1, 1) := by decide +kernel
theorem dX10_rule_50 : decode cX10_rule 50 = .ok (.iload_n 2, 1) := by decide +kernel
theorem dX10_rule_51 : decode cX10_rule 51 = .ok (.invokevirtual 387, 3) := by decide +kernel
theorem dX10_rule_54 : decode cX10_rule 54 = .ok (.ireturn, 1) := by decide +kernel
theorem dX10_rank_0 : decode cX10_rank 0 = .ok (.aload_n 0, 1) := by decide +kernel
theorem dX10_rank_1 : decode cX10_rank 1 = .ok (.iconst 0, 1) := by decide +kernel
theorem dX10_rank_2 : decode cX10_rank 2 = .ok (.putfield 3, 3) := by decide +kernel
theorem dX10_rank_5 : decode cX10_rank 5 = .ok (.aload_n 0, 1) := by decide +kernel
theorem dX10_rank_6 : decode cX10_rank 6 = .ok (.invokevirtual 408, 3) := by decide +kernel
theorem dX10_rank_9 : decode cX10_rank 9 = .ok (.aload_n 0, 1) := by decide +kernel
theorem dX10_rank_10 : decode cX10_rank 10 = .ok (.iload_n 1, 1) := by decide +kernel
theorem dX10_rank_11 : decode cX10_rank 11 = .ok (.invokevirtual 411, 3) := by decide +kernel
theorem dX10_rank_14 : decode cX10_rank 14 = .ok (.ifCond .eq 5, 3) := by decide +kernel
theorem dX10_rank_17 : decode cX10_rank 17 = .ok (.iconst 0, 1) := by decide +kernel
theorem dX10_rank_18 : decode cX10_rank 18 = .ok (.ireturn, 1) := by decide +kernel
theorem dX10_rank_19 : decode cX10_rank 19 = .ok (.aload_n 0, 1) := by decide +kernel
theorem dX10_rank_20 : decode cX10_rank 20 = .ok (.invokevirtual 429, 3) := by decide +kernel
theorem dX10_rank_23 : decode cX10_rank 23 = .ok (.aload_n 0, 1) := by decide +kernel
theorem dX10_rank_24 : decode cX10_rank 24 = .ok (.iload_n 1, 1) := by decide +kernel
theorem dX10_rank_25 : decode cX10_rank 25 = .ok (.invokevirtual 405, 3) := by decide +kernel
theorem dX10_rank_28 : decode cX10_rank 28 = .ok (.ireturn, 1) := by decide +kernel
theorem dX10_ranked_0 : decode cX10_ranked 0 = .ok (.aload_n 0, 1) := by decide +kernel
theorem dX10_ranked_1 : decode cX10_ranked 1 = .ok (.iconst 0, 1) := by decide +kernel
theorem dX10_ranked_2 : decode cX10_ranked 2 = .ok (.putfield 3, 3) := by decide +kernel
theorem dX10_ranked_5 : decode cX10_ranked 5 = .ok (.aload_n 0, 1) := by decide +kernel
theorem dX10_ranked_6 : decode cX10_ranked 6 = .ok (.invokevirtual 408, 3) := by decide +kernel
theorem dX10_ranked_9 : decode cX10_ranked 9 = .ok (.aload_n 0, 1) := by decide +kernel
theorem dX10_ranked_10 : decode cX10_ranked 10 = .ok (.invokevirtual 429, 3) := by decide +kernel
theorem dX10_ranked_13 : decode cX10_ranked 13 = .ok (.aload_n 0, 1) := by decide +kernel
theorem dX10_ranked_14 : decode cX10_ranked 14 = .ok (.iload_n 1, 1) := by decide +kernel
theorem dX10_ranked_15 : decode cX10_ranked 15 = .ok (.invokevirtual 432, 3) := by decide +kernel
theorem dX10_ranked_18 : decode cX10_ranked 18 = .ok (.ireturn, 1) := by decide +kernel
theorem dX10_keeps_0 : decode cX10_keeps 0 = .ok (.aload_n 0, 1) := by decide +kernel
theorem dX10_keeps_1 : decode cX10_keeps 1 = .ok (.getfield 272, 3) := by decide +kernel
theorem dX10_keeps_4 : decode cX10_keeps 4 = .ok (.bipush 16, 2) := by decide +kernel
theorem dX10_keeps_6 : decode cX10_keeps 6 = .ok (.if_icmp .ne 46, 3) := by decide +kernel
theorem dX10_keeps_9 : decode cX10_keeps 9 = .ok (.sipush 971, 3) := by decide +kernel
theorem dX10_keeps_12 : decode cX10_keeps 12 = .ok (.istore_n 1, 1) := by decide +kernel
theorem dX10_keeps_13 : decode cX10_keeps 13 = .ok (.iload_n 1, 1) := by decide +kernel
theorem dX10_keeps_14 : decode cX10_keeps 14 = .ok (.sipush 15536, 3) := by decide +kernel
theorem dX10_keeps_17 : decode cX10_keeps 17 = .ok (.if_icmp .ge 25, 3) := by decide +kernel
theorem dX10_keeps_20 : decode cX10_keeps 20 = .ok (.aload_n 0, 1) := by decide +kernel
theorem dX10_keeps_21 : decode cX10_keeps 21 = .ok (.getfield 109, 3) := by decide +kernel
theorem dX10_keeps_24 : decode cX10_keeps 24 = .ok (.iload_n 1, 1) := by decide +kernel
theorem dX10_keeps_25 : decode cX10_keeps 25 = .ok (.sipush 971, 3) := by decide +kernel
theorem dX10_keeps_28 : decode cX10_keeps 28 = .ok (.isub, 1) := by decide +kernel
theorem dX10_keeps_29 : decode cX10_keeps 29 = .ok (.aload_n 0, 1) := by decide +kernel
theorem dX10_keeps_30 : decode cX10_keeps 30 = .ok (.getfield 109, 3) := by decide +kernel
theorem dX10_keeps_33 : decode cX10_keeps 33 = .ok (.iload_n 1, 1) := by decide +kernel
theorem dX10_keeps_34 : decode cX10_keeps 34 = .ok (.iaload, 1) := by decide +kernel
theorem dX10_keeps_35 : decode cX10_keeps 35 = .ok (.iastore, 1) := by decide +kernel
theorem dX10_keeps_36 : decode cX10_keeps 36 = .ok (.iinc 1 1, 3) := by decide +kernel
theorem dX10_keeps_39 : decode cX10_keeps 39 = .ok (.goto (-26), 3) := by decide +kernel
theorem dX10_keeps_42 : decode cX10_keeps 42 = .ok (.aload_n 0, 1) := by decide +kernel
theorem dX10_keeps_43 : decode cX10_keeps 43 = .ok (.dup, 1) := by decide +kernel
theorem dX10_keeps_44 : decode cX10_keeps 44 = .ok (.getfield 272, 3) := by decide +kernel
theorem dX10_keeps_47 : decode cX10_keeps 47 = .ok (.iconst 1, 1) := by decide +kernel
theorem dX10_keeps_48 : decode cX10_keeps 48 = .ok (.isub, 1) := by decide +kernel
theorem dX10_keeps_49 : decode cX10_keeps 49 = .ok (.putfield 272, 3) := by decide +kernel
theorem dX10_keeps_52 : decode cX10_keeps 52 = .ok (.iconst 0, 1) := by decide +kernel
theorem dX10_keeps_53 : decode cX10_keeps 53 = .ok (.istore_n 1, 1) := by decide +kernel
theorem dX10_keeps_54 : decode cX10_keeps 54 = .ok (.iload_n 1, 1) := by decide +kernel
theorem dX10_keeps_55 : decode cX10_keeps 55 = .ok (.sipush 971, 3) := by decide +kernel
theorem dX10_keeps_58 : decode cX10_keeps 58 = .ok (.if_icmp .ge 30, 3) := by decide +kernel
theorem dX10_keeps_61 : decode cX10_keeps 61 = .ok (.aload_n 0, 1) := by decide +kernel
theorem dX10_keeps_62 : decode cX10_keeps 62 = .ok (.getfield 109, 3) := by decide +kernel
theorem dX10_keeps_65 : decode cX10_keeps 65 = .ok (.sipush 971, 3) := by decide +kernel
theorem dX10_keeps_68 : decode cX10_keeps 68 = .ok (.aload_n 0, 1) := by decide +kernel
theorem dX10_keeps_69 : decode cX10_keeps 69 = .ok (.getfield 272, 3) := by decide +kernel
theorem dX10_keeps_72 : decode cX10_keeps 72 = .ok (.imul, 1) := by decide +kernel
theorem dX10_keeps_73 : decode cX10_keeps 73 = .ok (.iload_n 1, 1) := by decide +kernel
theorem dX10_keeps_74 : decode cX10_keeps 74 = .ok (.iadd, 1) := by decide +kernel
theorem dX10_keeps_75 : decode cX10_keeps 75 = .ok (.aload_n 0, 1) := by decide +kernel
theorem dX10_keeps_76 : decode cX10_keeps 76 = .ok (.getfield 84, 3) := by decide +kernel
theorem dX10_keeps_79 : decode cX10_keeps 79 = .ok (.iload_n 1, 1) := by decide +kernel
theorem dX10_keeps_80 : decode cX10_keeps 80 = .ok (.iaload, 1) := by decide +kernel
theorem dX10_keeps_81 : decode cX10_keeps 81 = .ok (.iastore, 1) := by decide +kernel
theorem dX10_keeps_82 : decode cX10_keeps 82 = .ok (.iinc 1 1, 3) := by decide +kernel
theorem dX10_keeps_85 : decode cX10_keeps 85 = .ok (.goto (-31), 3) := by decide +kernel
theorem dX10_keeps_88 : decode cX10_keeps 88 = .ok (.aload_n 0, 1) := by decide +kernel
theorem dX10_keeps_89 : decode cX10_keeps 89 = .ok (.dup, 1) := by decide +kernel
theorem dX10_keeps_90 : decode cX10_keeps 90 = .ok (.getfield 272, 3) := by decide +kernel
theorem dX10_keeps_93 : decode cX10_keeps 93 = .ok (.iconst 1, 1) := by decide +kernel
theorem dX10_keeps_94 : decode cX10_keeps 94 = .ok (.iadd, 1) := by decide +kernel
theorem dX10_keeps_95 : decode cX10_keeps 95 = .ok (.putfield 272, 3) := by decide +kernel
theorem dX10_keeps_98 : decode cX10_keeps 98 = .ok (.return_, 1) := by decide +kernel
theorem dX10_tells_0 : decode cX10_tells 0 = .ok (.aload_n 0, 1) := by decide +kernel
theorem dX10_tells_1 : decode cX10_tells 1 = .ok (.invokevirtual 435, 3) := by decide +kernel
theorem dX10_tells_4 : decode cX10_tells 4 = .ok (.aload_n 0, 1) := by decide +kernel
theorem dX10_tells_5 : decode cX10_tells 5 = .ok (.getfield 84, 3) := by decide +kernel
theorem dX10_tells_8 : decode cX10_tells 8 = .ok (.iload_n 1, 1) := by decide +kernel
theorem dX10_tells_9 : decode cX10_tells 9 = .ok (.iaload, 1) := by decide +kernel
theorem dX10_tells_10 : decode cX10_tells 10 = .ok (.istore_n 3, 1) := by decide +kernel
theorem dX10_tells_11 : decode cX10_tells 11 = .ok (.aload_n 0, 1) := by decide +kernel
theorem dX10_tells_12 : decode cX10_tells 12 = .ok (.getfield 84, 3) := by decide +kernel
theorem dX10_tells_15 : decode cX10_tells 15 = .ok (.iload_n 1, 1) := by decide +kernel
theorem dX10_tells_16 : decode cX10_tells 16 = .ok (.iload_n 2, 1) := by decide +kernel
theorem dX10_tells_17 : decode cX10_tells 17 = .ok (.iastore, 1) := by decide +kernel
theorem dX10_tells_18 : decode cX10_tells 18 = .ok (.iload_n 3, 1) := by decide +kernel
theorem dX10_tells_19 : decode cX10_tells 19 = .ok (.ireturn, 1) := by decide +kernel
theorem dX10_tell_0 : decode cX10_tell 0 = .ok (.aload_n 0, 1) := by decide +kernel
theorem dX10_tell_1 : decode cX10_tell 1 = .ok (.iconst 0, 1) := by decide +kernel
theorem dX10_tell_2 : decode cX10_tell 2 = .ok (.putfield 3, 3) := by decide +kernel
theorem dX10_tell_5 : decode cX10_tell 5 = .ok (.aload_n 0, 1) := by decide +kernel
theorem dX10_tell_6 : decode cX10_tell 6 = .ok (.iload_n 1, 1) := by decide +kernel
theorem dX10_tell_7 : decode cX10_tell 7 = .ok (.iload_n 2, 1) := by decide +kernel
theorem dX10_tell_8 : decode cX10_tell 8 = .ok (.invokevirtual 417, 3) := by decide +kernel
theorem dX10_tell_11 : decode cX10_tell 11 = .ok (.ifCond .ne 35, 3) := by decide +kernel
theorem dX10_tell_14 : decode cX10_tell 14 = .ok (.aload_n 0, 1) := by decide +kernel
theorem dX10_tell_15 : decode cX10_tell 15 = .ok (.iload_n 3, 1) := by decide +kernel
theorem dX10_tell_16 : decode cX10_tell 16 = .ok (.invokevirtual 423, 3) := by decide +kernel
theorem dX10_tell_19 : decode cX10_tell 19 = .ok (.ifCond .ne 27, 3) := by decide +kernel
theorem dX10_tell_22 : decode cX10_tell 22 = .ok (.aload_n 0, 1) := by decide +kernel
theorem dX10_tell_23 : decode cX10_tell 23 = .ok (.iload 4, 2) := by decide +kernel
theorem dX10_tell_25 : decode cX10_tell 25 = .ok (.bipush (-5), 2) := by decide +kernel
theorem dX10_tell_27 : decode cX10_tell 27 = .ok (.iconst 5, 1) := by decide +kernel
theorem dX10_tell_28 : decode cX10_tell 28 = .ok (.invokestatic 69, 3) := by decide +kernel
theorem dX10_tell_31 : decode cX10_tell 31 = .ok (.ifCond .ne 7, 3) := by decide +kernel
theorem dX10_tell_34 : decode cX10_tell 34 = .ok (.iconst 1, 1) := by decide +kernel
theorem dX10_tell_35 : decode cX10_tell 35 = .ok (.goto 4, 3) := by decide +kernel
theorem dX10_tell_38 : decode cX10_tell 38 = .ok (.iconst 0, 1) := by decide +kernel
theorem dX10_tell_39 : decode cX10_tell 39 = .ok (.iconst 2, 1) := by decide +kernel
theorem dX10_tell_40 : decode cX10_tell 40 = .ok (.invokevirtual 268, 3) := by decide +kernel
theorem dX10_tell_43 : decode cX10_tell 43 = .ok (.ifCond .eq 5, 3) := by decide +kernel
theorem dX10_tell_46 : decode cX10_tell 46 = .ok (.iconst 0, 1) := by decide +kernel
theorem dX10_tell_47 : decode cX10_tell 47 = .ok (.ireturn, 1) := by decide +kernel
theorem dX10_tell_48 : decode cX10_tell 48 = .ok (.aload_n 0, 1) := by decide +kernel
theorem dX10_tell_49 : decode cX10_tell 49 = .ok (.iconst 0, 1) := by decide +kernel
theorem dX10_tell_50 : decode cX10_tell 50 = .ok (.bipush 9, 2) := by decide +kernel
theorem dX10_tell_52 : decode cX10_tell 52 = .ok (.iload_n 1, 1) := by decide +kernel
theorem dX10_tell_53 : decode cX10_tell 53 = .ok (.iload_n 2, 1) := by decide +kernel
theorem dX10_tell_54 : decode cX10_tell 54 = .ok (.invokestatic 199, 3) := by decide +kernel
theorem dX10_tell_57 : decode cX10_tell 57 = .ok (.imul, 1) := by decide +kernel
theorem dX10_tell_58 : decode cX10_tell 58 = .ok (.iadd, 1) := by decide +kernel
theorem dX10_tell_59 : decode cX10_tell 59 = .ok (.iload_n 3, 1) := by decide +kernel
theorem dX10_tell_60 : decode cX10_tell 60 = .ok (.iadd, 1) := by decide +kernel
theorem dX10_tell_61 : decode cX10_tell 61 = .ok (.iload 4, 2) := by decide +kernel
theorem dX10_tell_63 : decode cX10_tell 63 = .ok (.invokevirtual 438, 3) := by decide +kernel
theorem dX10_tell_66 : decode cX10_tell 66 = .ok (.ireturn, 1) := by decide +kernel
theorem dX10_show_0 : decode cX10_show 0 = .ok (.aload_n 0, 1) := by decide +kernel
theorem dX10_show_1 : decode cX10_show 1 = .ok (.iconst 0, 1) := by decide +kernel
theorem dX10_show_2 : decode cX10_show 2 = .ok (.putfield 3, 3) := by decide +kernel
theorem dX10_show_5 : decode cX10_show 5 = .ok (.aload_n 0, 1) := by decide +kernel
theorem dX10_show_6 : decode cX10_show 6 = .ok (.iload_n 1, 1) := by decide +kernel
theorem dX10_show_7 : decode cX10_show 7 = .ok (.invokevirtual 411, 3) := by decide +kernel
theorem dX10_show_10 : decode cX10_show 10 = .ok (.ifCond .ne 43, 3) := by decide +kernel
theorem dX10_show_13 : decode cX10_show 13 = .ok (.aload_n 0, 1) := by decide +kernel
theorem dX10_show_14 : decode cX10_show 14 = .ok (.iload_n 2, 1) := by decide +kernel
theorem dX10_show_15 : decode cX10_show 15 = .ok (.invokevirtual 426, 3) := by decide +kernel
theorem dX10_show_18 : decode cX10_show 18 = .ok (.ifCond .ne 35, 3) := by decide +kernel
theorem dX10_show_21 : decode cX10_show 21 = .ok (.aload_n 0, 1) := by decide +kernel
theorem dX10_show_22 : decode cX10_show 22 = .ok (.iload_n 3, 1) := by decide +kernel
theorem dX10_show_23 : decode cX10_show 23 = .ok (.invokevirtual 423, 3) := by decide +kernel
theorem dX10_show_26 : decode cX10_show 26 = .ok (.ifCond .ne 27, 3) := by decide +kernel
theorem dX10_show_29 : decode cX10_show 29 = .ok (.aload_n 0, 1) := by decide +kernel
theorem dX10_show_30 : decode cX10_show 30 = .ok (.iload 4, 2) := by decide +kernel
theorem dX10_show_32 : decode cX10_show 32 = .ok (.iconst 0, 1) := by decide +kernel
theorem dX10_show_33 : decode cX10_show 33 = .ok (.bipush 10, 2) := by decide +kernel
theorem dX10_show_35 : decode cX10_show 35 = .ok (.invokestatic 69, 3) := by decide +kernel
theorem dX10_show_38 : decode cX10_show 38 = .ok (.ifCond .ne 7, 3) := by decide +kernel
theorem dX10_show_41 : decode cX10_show 41 = .ok (.iconst 1, 1) := by decide +kernel
theorem dX10_show_42 : decode cX10_show 42 = .ok (.goto 4, 3) := by decide +kernel
theorem dX10_show_45 : decode cX10_show 45 = .ok (.iconst 0, 1) := by decide +kernel
theorem dX10_show_46 : decode cX10_show 46 = .ok (.iconst 2, 1) := by decide +kernel
theorem dX10_show_47 : decode cX10_show 47 = .ok (.invokevirtual 268, 3) := by decide +kernel
theorem dX10_show_50 : decode cX10_show 50 = .ok (.ifCond .eq 5, 3) := by decide +kernel
theorem dX10_show_53 : decode cX10_show 53 = .ok (.iconst 0, 1) := by decide +kernel
theorem dX10_show_54 : decode cX10_show 54 = .ok (.ireturn, 1) := by decide +kernel
theorem dX10_show_55 : decode cX10_show 55 = .ok (.aload_n 0, 1) := by decide +kernel
theorem dX10_show_56 : decode cX10_show 56 = .ok (.aload_n 0, 1) := by decide +kernel
theorem dX10_show_57 : decode cX10_show 57 = .ok (.iload_n 1, 1) := by decide +kernel
theorem dX10_show_58 : decode cX10_show 58 = .ok (.iload_n 2, 1) := by decide +kernel
theorem dX10_show_59 : decode cX10_show 59 = .ok (.iload_n 3, 1) := by decide +kernel
theorem dX10_show_60 : decode cX10_show 60 = .ok (.invokevirtual 319, 3) := by decide +kernel
theorem dX10_show_63 : decode cX10_show 63 = .ok (.iload 4, 2) := by decide +kernel
theorem dX10_show_65 : decode cX10_show 65 = .ok (.invokevirtual 438, 3) := by decide +kernel
theorem dX10_show_68 : decode cX10_show 68 = .ok (.ireturn, 1) := by decide +kernel
theorem dX10_call_0 : decode cX10_call 0 = .ok (.aload_n 0, 1) := by decide +kernel
theorem dX10_call_1 : decode cX10_call 1 = .ok (.iconst 0, 1) := by decide +kernel
theorem dX10_call_2 : decode cX10_call 2 = .ok (.putfield 3, 3) := by decide +kernel
theorem dX10_call_5 : decode cX10_call 5 = .ok (.aload_n 0, 1) := by decide +kernel
theorem dX10_call_6 : decode cX10_call 6 = .ok (.iload_n 1, 1) := by decide +kernel
theorem dX10_call_7 : decode cX10_call 7 = .ok (.iload_n 2, 1) := by decide +kernel
theorem dX10_call_8 : decode cX10_call 8 = .ok (.invokevirtual 417, 3) := by decide +kernel
theorem dX10_call_11 : decode cX10_call 11 = .ok (.ifCond .ne 25, 3) := by decide +kernel
theorem dX10_call_14 : decode cX10_call 14 = .ok (.aload_n 0, 1) := by decide +kernel
theorem dX10_call_15 : decode cX10_call 15 = .ok (.iload_n 3, 1) := by decide +kernel
theorem dX10_call_16 : decode cX10_call 16 = .ok (.iconst 0, 1) := by decide +kernel
theorem dX10_call_17 : decode cX10_call 17 = .ok (.iconst 2, 1) := by decide +kernel
theorem dX10_call_18 : decode cX10_call 18 = .ok (.invokestatic 69, 3) := by decide +kernel
theorem dX10_call_21 : decode cX10_call 21 = .ok (.ifCond .ne 7, 3) := by decide +kernel
theorem dX10_call_24 : decode cX10_call 24 = .ok (.iconst 1, 1) := by decide +kernel
theorem dX10_call_25 : decode cX10_call 25 = .ok (.goto 4, 3) := by decide +kernel
theorem dX10_call_28 : decode cX10_call 28 = .ok (.iconst 0, 1) := by decide +kernel
theorem dX10_call_29 : decode cX10_call 29 = .ok (.iconst 2, 1) := by decide +kernel
theorem dX10_call_30 : decode cX10_call 30 = .ok (.invokevirtual 268, 3) := by decide +kernel
theorem dX10_call_33 : decode cX10_call 33 = .ok (.ifCond .eq 5, 3) := by decide +kernel
theorem dX10_call_36 : decode cX10_call 36 = .ok (.iconst 0, 1) := by decide +kernel
theorem dX10_call_37 : decode cX10_call 37 = .ok (.ireturn, 1) := by decide +kernel
theorem dX10_call_38 : decode cX10_call 38 = .ok (.sipush 810, 3) := by decide +kernel
theorem dX10_call_41 : decode cX10_call 41 = .ok (.iload_n 1, 1) := by decide +kernel
theorem dX10_call_42 : decode cX10_call 42 = .ok (.iload_n 2, 1) := by decide +kernel
theorem dX10_call_43 : decode cX10_call 43 = .ok (.invokestatic 199, 3) := by decide +kernel
theorem dX10_call_46 : decode cX10_call 46 = .ok (.iadd, 1) := by decide +kernel
theorem dX10_call_47 : decode cX10_call 47 = .ok (.istore 5, 2) := by decide +kernel
theorem dX10_call_49 : decode cX10_call 49 = .ok (.aload_n 0, 1) := by decide +kernel
theorem dX10_call_50 : decode cX10_call 50 = .ok (.iload 5, 2) := by decide +kernel
theorem dX10_call_52 : decode cX10_call 52 = .ok (.iload 4, 2) := by decide +kernel
theorem dX10_call_54 : decode cX10_call 54 = .ok (.ifCond .eq 17, 3) := by decide +kernel
theorem dX10_call_57 : decode cX10_call 57 = .ok (.aload_n 0, 1) := by decide +kernel
theorem dX10_call_58 : decode cX10_call 58 = .ok (.getfield 84, 3) := by decide +kernel
theorem dX10_call_61 : decode cX10_call 61 = .ok (.iload 5, 2) := by decide +kernel
theorem dX10_call_63 : decode cX10_call 63 = .ok (.iaload, 1) := by decide +kernel
theorem dX10_call_64 : decode cX10_call 64 = .ok (.iconst 1, 1) := by decide +kernel
theorem dX10_call_65 : decode cX10_call 65 = .ok (.iload_n 3, 1) := by decide +kernel
theorem dX10_call_66 : decode cX10_call 66 = .ok (.ishl, 1) := by decide +kernel
theorem dX10_call_67 : decode cX10_call 67 = .ok (.ior, 1) := by decide +kernel
theorem dX10_call_68 : decode cX10_call 68 = .ok (.goto 16, 3) := by decide +kernel
theorem dX10_call_71 : decode cX10_call 71 = .ok (.aload_n 0, 1) := by decide +kernel
theorem dX10_call_72 : decode cX10_call 72 = .ok (.getfield 84, 3) := by decide +kernel
theorem dX10_call_75 : decode cX10_call 75 = .ok (.iload 5, 2) := by decide +kernel
theorem dX10_call_77 : decode cX10_call 77 = .ok (.iaload, 1) := by decide +kernel
theorem dX10_call_78 : decode cX10_call 78 = .ok (.iconst 1, 1) := by decide +kernel
theorem dX10_call_79 : decode cX10_call 79 = .ok (.iload_n 3, 1) := by decide +kernel
theorem dX10_call_80 : decode cX10_call 80 = .ok (.ishl, 1) := by decide +kernel
theorem dX10_call_81 : decode cX10_call 81 = .ok (.iconst (-1), 1) := by decide +kernel
theorem dX10_call_82 : decode cX10_call 82 = .ok (.ixor, 1) := by decide +kernel
theorem dX10_call_83 : decode cX10_call 83 = .ok (.iand, 1) := by decide +kernel
theorem dX10_call_84 : decode cX10_call 84 = .ok (.invokevirtual 438, 3) := by decide +kernel
theorem dX10_call_87 : decode cX10_call 87 = .ok (.iload_n 3, 1) := by decide +kernel
theorem dX10_call_88 : decode cX10_call 88 = .ok (.invokestatic 212, 3) := by decide +kernel
theorem dX10_call_91 : decode cX10_call 91 = .ok (.ireturn, 1) := by decide +kernel
theorem dX10_base_0 : decode cX10_base 0 = .ok (.aload_n 0, 1) := by decide +kernel
theorem dX10_base_1 : decode cX10_base 1 = .ok (.iconst 0, 1) := by decide +kernel
theorem dX10_base_2 : decode cX10_base 2 = .ok (.putfield 3, 3) := by decide +kernel
theorem dX10_base_5 : decode cX10_base 5 = .ok (.aload_n 0, 1) := by decide +kernel
theorem dX10_base_6 : decode cX10_base 6 = .ok (.iload_n 1, 1) := by decide +kernel
theorem dX10_base_7 : decode cX10_base 7 = .ok (.invokevirtual 414, 3) := by decide +kernel
theorem dX10_base_10 : decode cX10_base 10 = .ok (.ifCond .ne 27, 3) := by decide +kernel
theorem dX10_base_13 : decode cX10_base 13 = .ok (.aload_n 0, 1) := by decide +kernel
theorem dX10_base_14 : decode cX10_base 14 = .ok (.iload_n 2, 1) := by decide +kernel
theorem dX10_base_15 : decode cX10_base 15 = .ok (.iconst 0, 1) := by decide +kernel
theorem dX10_base_16 : decode cX10_base 16 = .ok (.sipush 2000, 3) := by decide +kernel
theorem dX10_base_19 : decode cX10_base 19 = .ok (.invokestatic 69, 3) := by decide +kernel
theorem dX10_base_22 : decode cX10_base 22 = .ok (.ifCond .ne 7, 3) := by decide +kernel
theorem dX10_base_25 : decode cX10_base 25 = .ok (.iconst 1, 1) := by decide +kernel
theorem dX10_base_26 : decode cX10_base 26 = .ok (.goto 4, 3) := by decide +kernel
theorem dX10_base_29 : decode cX10_base 29 = .ok (.iconst 0, 1) := by decide +kernel
theorem dX10_base_30 : decode cX10_base 30 = .ok (.iconst 2, 1) := by decide +kernel
theorem dX10_base_31 : decode cX10_base 31 = .ok (.invokevirtual 268, 3) := by decide +kernel
theorem dX10_base_34 : decode cX10_base 34 = .ok (.ifCond .eq 5, 3) := by decide +kernel
theorem dX10_base_37 : decode cX10_base 37 = .ok (.iconst 0, 1) := by decide +kernel
theorem dX10_base_38 : decode cX10_base 38 = .ok (.ireturn, 1) := by decide +kernel
theorem dX10_base_39 : decode cX10_base 39 = .ok (.aload_n 0, 1) := by decide +kernel
theorem dX10_base_40 : decode cX10_base 40 = .ok (.sipush 954, 3) := by decide +kernel
theorem dX10_base_43 : decode cX10_base 43 = .ok (.iload_n 1, 1) := by decide +kernel
theorem dX10_base_44 : decode cX10_base 44 = .ok (.iadd, 1) := by decide +kernel
theorem dX10_base_45 : decode cX10_base 45 = .ok (.iload_n 2, 1) := by decide +kernel
theorem dX10_base_46 : decode cX10_base 46 = .ok (.invokevirtual 438, 3) := by decide +kernel
theorem dX10_base_49 : decode cX10_base 49 = .ok (.ireturn, 1) := by decide +kernel
theorem dX10_set_0 : decode cX10_set 0 = .ok (.aload_n 0, 1) := by decide +kernel
theorem dX10_set_1 : decode cX10_set 1 = .ok (.iconst 0, 1) := by decide +kernel
theorem dX10_set_2 : decode cX10_set 2 = .ok (.putfield 3, 3) := by decide +kernel
theorem dX10_set_5 : decode cX10_set 5 = .ok (.aload_n 0, 1) := by decide +kernel
theorem dX10_set_6 : decode cX10_set 6 = .ok (.iload_n 1, 1) := by decide +kernel
theorem dX10_set_7 : decode cX10_set 7 = .ok (.iconst 0, 1) := by decide +kernel
theorem dX10_set_8 : decode cX10_set 8 = .ok (.bipush 6, 2) := by decide +kernel
theorem dX10_set_10 : decode cX10_set 10 = .ok (.invokestatic 69, 3) := by decide +kernel
theorem dX10_set_13 : decode cX10_set 13 = .ok (.ifCond .ne 7, 3) := by decide +kernel
theorem dX10_set_16 : decode cX10_set 16 = .ok (.iconst 1, 1) := by decide +kernel
theorem dX10_set_17 : decode cX10_set 17 = .ok (.goto 4, 3) := by decide +kernel
theorem dX10_set_20 : decode cX10_set 20 = .ok (.iconst 0, 1) := by decide +kernel
theorem dX10_set_21 : decode cX10_set 21 = .ok (.iconst 1, 1) := by decide +kernel
theorem dX10_set_22 : decode cX10_set 22 = .ok (.invokevirtual 268, 3) := by decide +kernel
theorem dX10_set_25 : decode cX10_set 25 = .ok (.ifCond .eq 5, 3) := by decide +kernel
theorem dX10_set_28 : decode cX10_set 28 = .ok (.iconst 0, 1) := by decide +kernel
theorem dX10_set_29 : decode cX10_set 29 = .ok (.ireturn, 1) := by decide +kernel
theorem dX10_set_30 : decode cX10_set 30 = .ok (.iload_n 1, 1) := by decide +kernel
theorem dX10_set_31 : decode cX10_set 31 = .ok (.ifCond .eq 8, 3) := by decide +kernel
theorem dX10_set_34 : decode cX10_set 34 = .ok (.iload_n 1, 1) := by decide +kernel
theorem dX10_set_35 : decode cX10_set 35 = .ok (.iconst 3, 1) := by decide +kernel
theorem dX10_set_36 : decode cX10_set 36 = .ok (.if_icmp .ne 7, 3) := by decide +kernel
theorem dX10_set_39 : decode cX10_set 39 = .ok (.iconst 3, 1) := by decide +kernel
theorem dX10_set_40 : decode cX10_set 40 = .ok (.goto 27, 3) := by decide +kernel
theorem dX10_set_43 : decode cX10_set 43 = .ok (.iload_n 1, 1) := by decide +kernel
theorem dX10_set_44 : decode cX10_set 44 = .ok (.iconst 1, 1) := by decide +kernel
theorem dX10_set_45 : decode cX10_set 45 = .ok (.if_icmp .ne 9, 3) := by decide +kernel
theorem dX10_set_48 : decode cX10_set 48 = .ok (.sipush 600, 3) := by decide +kernel
theorem dX10_set_51 : decode cX10_set 51 = .ok (.goto 16, 3) := by decide +kernel
theorem dX10_set_54 : decode cX10_set 54 = .ok (.iload_n 1, 1) := by decide +kernel
theorem dX10_set_55 : decode cX10_set 55 = .ok (.iconst 2, 1) := by decide +kernel
theorem dX10_set_56 : decode cX10_set 56 = .ok (.if_icmp .ne 8, 3) := by decide +kernel
theorem dX10_set_59 : decode cX10_set 59 = .ok (.bipush 50, 2) := by decide +kernel
theorem dX10_set_61 : decode cX10_set 61 = .ok (.goto 6, 3) := by decide +kernel
theorem dX10_set_64 : decode cX10_set 64 = .ok (.sipush 300, 3) := by decide +kernel
theorem dX10_set_67 : decode cX10_set 67 = .ok (.istore_n 3, 1) := by decide +kernel
theorem dX10_set_68 : decode cX10_set 68 = .ok (.aload_n 0, 1) := by decide +kernel
theorem dX10_set_69 : decode cX10_set 69 = .ok (.iload_n 2, 1) := by decide +kernel
theorem dX10_set_70 : decode cX10_set 70 = .ok (.iload_n 1, 1) := by decide +kernel
theorem dX10_set_71 : decode cX10_set 71 = .ok (.iconst 3, 1) := by decide +kernel
theorem dX10_set_72 : decode cX10_set 72 = .ok (.if_icmp .ne 7, 3) := by decide +kernel
theorem dX10_set_75 : decode cX10_set 75 = .ok (.iconst 1, 1) := by decide +kernel
theorem dX10_set_76 : decode cX10_set 76 = .ok (.goto 4, 3) := by decide +kernel
theorem dX10_set_79 : decode cX10_set 79 = .ok (.iconst 0, 1) := by decide +kernel
theorem dX10_set_80 : decode cX10_set 80 = .ok (.iload_n 3, 1) := by decide +kernel
theorem dX10_set_81 : decode cX10_set 81 = .ok (.invokestatic 69, 3) := by decide +kernel
theorem dX10_set_84 : decode cX10_set 84 = .ok (.ifCond .ne 7, 3) := by decide +kernel
theorem dX10_set_87 : decode cX10_set 87 = .ok (.iconst 1, 1) := by decide +kernel
theorem dX10_set_88 : decode cX10_set 88 = .ok (.goto 4, 3) := by decide +kernel
theorem dX10_set_91 : decode cX10_set 91 = .ok (.iconst 0, 1) := by decide +kernel
theorem dX10_set_92 : decode cX10_set 92 = .ok (.iconst 2, 1) := by decide +kernel
theorem dX10_set_93 : decode cX10_set 93 = .ok (.invokevirtual 268, 3) := by decide +kernel
theorem dX10_set_96 : decode cX10_set 96 = .ok (.ifCond .eq 5, 3) := by decide +kernel
theorem dX10_set_99 : decode cX10_set 99 = .ok (.iconst 0, 1) := by decide +kernel
theorem dX10_set_100 : decode cX10_set 100 = .ok (.ireturn, 1) := by decide +kernel
theorem dX10_set_101 : decode cX10_set 101 = .ok (.aload_n 0, 1) := by decide +kernel
theorem dX10_set_102 : decode cX10_set 102 = .ok (.sipush 964, 3) := by decide +kernel
theorem dX10_set_105 : decode cX10_set 105 = .ok (.iload_n 1, 1) := by decide +kernel
theorem dX10_set_106 : decode cX10_set 106 = .ok (.iadd, 1) := by decide +kernel
theorem dX10_set_107 : decode cX10_set 107 = .ok (.iload_n 2, 1) := by decide +kernel
theorem dX10_set_108 : decode cX10_set 108 = .ok (.invokevirtual 438, 3) := by decide +kernel
theorem dX10_set_111 : decode cX10_set 111 = .ok (.ireturn, 1) := by decide +kernel
theorem dX10_scratch_0 : decode cX10_scratch 0 = .ok (.aload_n 0, 1) := by decide +kernel
theorem dX10_scratch_1 : decode cX10_scratch 1 = .ok (.iconst 0, 1) := by decide +kernel
theorem dX10_scratch_2 : decode cX10_scratch 2 = .ok (.putfield 3, 3) := by decide +kernel
theorem dX10_scratch_5 : decode cX10_scratch 5 = .ok (.aload_n 0, 1) := by decide +kernel
theorem dX10_scratch_6 : decode cX10_scratch 6 = .ok (.iload_n 1, 1) := by decide +kernel
theorem dX10_scratch_7 : decode cX10_scratch 7 = .ok (.iload_n 2, 1) := by decide +kernel
theorem dX10_scratch_8 : decode cX10_scratch 8 = .ok (.invokevirtual 417, 3) := by decide +kernel
theorem dX10_scratch_11 : decode cX10_scratch 11 = .ok (.ifCond .eq 5, 3) := by decide +kernel
theorem dX10_scratch_14 : decode cX10_scratch 14 = .ok (.iconst 0, 1) := by decide +kernel
theorem dX10_scratch_15 : decode cX10_scratch 15 = .ok (.ireturn, 1) := by decide +kernel
theorem dX10_scratch_16 : decode cX10_scratch 16 = .ok (.aload_n 0, 1) := by decide +kernel
theorem dX10_scratch_17 : decode cX10_scratch 17 = .ok (.sipush 882, 3) := by decide +kernel
theorem dX10_scratch_20 : decode cX10_scratch 20 = .ok (.iload_n 1, 1) := by decide +kernel
theorem dX10_scratch_21 : decode cX10_scratch 21 = .ok (.iload_n 2, 1) := by decide +kernel
theorem dX10_scratch_22 : decode cX10_scratch 22 = .ok (.invokestatic 199, 3) := by decide +kernel
theorem dX10_scratch_25 : decode cX10_scratch 25 = .ok (.iadd, 1) := by decide +kernel
theorem dX10_scratch_26 : decode cX10_scratch 26 = .ok (.iconst 1, 1) := by decide +kernel
theorem dX10_scratch_27 : decode cX10_scratch 27 = .ok (.invokevirtual 438, 3) := by decide +kernel
theorem dX10_scratch_30 : decode cX10_scratch 30 = .ok (.istore_n 3, 1) := by decide +kernel
theorem dX10_scratch_31 : decode cX10_scratch 31 = .ok (.aload_n 0, 1) := by decide +kernel
theorem dX10_scratch_32 : decode cX10_scratch 32 = .ok (.iload_n 1, 1) := by decide +kernel
theorem dX10_scratch_33 : decode cX10_scratch 33 = .ok (.iconst 0, 1) := by decide +kernel
theorem dX10_scratch_34 : decode cX10_scratch 34 = .ok (.invokevirtual 358, 3) := by decide +kernel
theorem dX10_scratch_37 : decode cX10_scratch 37 = .ok (.iload_n 3, 1) := by decide +kernel
theorem dX10_scratch_38 : decode cX10_scratch 38 = .ok (.iadd, 1) := by decide +kernel
theorem dX10_scratch_39 : decode cX10_scratch 39 = .ok (.ireturn, 1) := by decide +kernel
theorem dX10_undo_0 : decode cX10_undo 0 = .ok (.aload_n 0, 1) := by decide +kernel
theorem dX10_undo_1 : decode cX10_undo 1 = .ok (.iconst 0, 1) := by decide +kernel
theorem dX10_undo_2 : decode cX10_undo 2 = .ok (.putfield 3, 3) := by decide +kernel
theorem dX10_undo_5 : decode cX10_undo 5 = .ok (.aload_n 0, 1) := by decide +kernel
theorem dX10_undo_6 : decode cX10_undo 6 = .ok (.getfield 272, 3) := by decide +kernel
theorem dX10_undo_9 : decode cX10_undo 9 = .ok (.ifCond .ne 5, 3) := by decide +kernel
theorem dX10_undo_12 : decode cX10_undo 12 = .ok (.iconst (-1), 1) := by decide +kernel
theorem dX10_undo_13 : decode cX10_undo 13 = .ok (.ireturn, 1) := by decide +kernel
theorem dX10_undo_14 : decode cX10_undo 14 = .ok (.aload_n 0, 1) := by decide +kernel
theorem dX10_undo_15 : decode cX10_undo 15 = .ok (.dup, 1) := by decide +kernel
theorem dX10_undo_16 : decode cX10_undo 16 = .ok (.getfield 272, 3) := by decide +kernel
theorem dX10_undo_19 : decode cX10_undo 19 = .ok (.iconst 1, 1) := by decide +kernel
theorem dX10_undo_20 : decode cX10_undo 20 = .ok (.isub, 1) := by decide +kernel
theorem dX10_undo_21 : decode cX10_undo 21 = .ok (.putfield 272, 3) := by decide +kernel
theorem dX10_undo_24 : decode cX10_undo 24 = .ok (.iconst 0, 1) := by decide +kernel
theorem dX10_undo_25 : decode cX10_undo 25 = .ok (.istore_n 1, 1) := by decide +kernel
theorem dX10_undo_26 : decode cX10_undo 26 = .ok (.iload_n 1, 1) := by decide +kernel
theorem dX10_undo_27 : decode cX10_undo 27 = .ok (.sipush 971, 3) := by decide +kernel
theorem dX10_undo_30 : decode cX10_undo 30 = .ok (.if_icmp .ge 30, 3) := by decide +kernel
theorem dX10_undo_33 : decode cX10_undo 33 = .ok (.aload_n 0, 1) := by decide +kernel
theorem dX10_undo_34 : decode cX10_undo 34 = .ok (.getfield 84, 3) := by decide +kernel
theorem dX10_undo_37 : decode cX10_undo 37 = .ok (.iload_n 1, 1) := by decide +kernel
theorem dX10_undo_38 : decode cX10_undo 38 = .ok (.aload_n 0, 1) := by decide +kernel
theorem dX10_undo_39 : decode cX10_undo 39 = .ok (.getfield 109, 3) := by decide +kernel
theorem dX10_undo_42 : decode cX10_undo 42 = .ok (.sipush 971, 3) := by decide +kernel
theorem dX10_undo_45 : decode cX10_undo 45 = .ok (.aload_n 0, 1) := by decide +kernel
theorem dX10_undo_46 : decode cX10_undo 46 = .ok (.getfield 272, 3) := by decide +kernel
theorem dX10_undo_49 : decode cX10_undo 49 = .ok (.imul, 1) := by decide +kernel
theorem dX10_undo_50 : decode cX10_undo 50 = .ok (.iload_n 1, 1) := by decide +kernel
theorem dX10_undo_51 : decode cX10_undo 51 = .ok (.iadd, 1) := by decide +kernel
theorem dX10_undo_52 : decode cX10_undo 52 = .ok (.iaload, 1) := by decide +kernel
theorem dX10_undo_53 : decode cX10_undo 53 = .ok (.iastore, 1) := by decide +kernel
theorem dX10_undo_54 : decode cX10_undo 54 = .ok (.iinc 1 1, 3) := by decide +kernel
theorem dX10_undo_57 : decode cX10_undo 57 = .ok (.goto (-31), 3) := by decide +kernel
theorem dX10_undo_60 : decode cX10_undo 60 = .ok (.aload_n 0, 1) := by decide +kernel
theorem dX10_undo_61 : decode cX10_undo 61 = .ok (.getfield 272, 3) := by decide +kernel
theorem dX10_undo_64 : decode cX10_undo 64 = .ok (.ireturn, 1) := by decide +kernel
theorem dX10_biasOf_0 : decode cX10_biasOf 0 = .ok (.iconst 0, 1) := by decide +kernel
theorem dX10_biasOf_1 : decode cX10_biasOf 1 = .ok (.istore_n 2, 1) := by decide +kernel
theorem dX10_biasOf_2 : decode cX10_biasOf 2 = .ok (.iconst 0, 1) := by decide +kernel
theorem dX10_biasOf_3 : decode cX10_biasOf 3 = .ok (.istore_n 3, 1) := by decide +kernel
theorem dX10_biasOf_4 : decode cX10_biasOf 4 = .ok (.iload_n 3, 1) := by decide +kernel
theorem dX10_biasOf_5 : decode cX10_biasOf 5 = .ok (.aload_n 0, 1) := by decide +kernel
theorem dX10_biasOf_6 : decode cX10_biasOf 6 = .ok (.getfield 81, 3) := by decide +kernel
theorem dX10_biasOf_9 : decode cX10_biasOf 9 = .ok (.iconst 1, 1) := by decide +kernel
theorem dX10_biasOf_10 : decode cX10_biasOf 10 = .ok (.iaload, 1) := by decide +kernel
theorem dX10_biasOf_11 : decode cX10_biasOf 11 = .ok (.if_icmp .ge 68, 3) := by decide +kernel
theorem dX10_biasOf_14 : decode cX10_biasOf 14 = .ok (.iconst 0, 1) := by decide +kernel
theorem dX10_biasOf_15 : decode cX10_biasOf 15 = .ok (.istore 4, 2) := by decide +kernel
theorem dX10_biasOf_17 : decode cX10_biasOf 17 = .ok (.iload 4, 2) := by decide +kernel
theorem dX10_biasOf_19 : decode cX10_biasOf 19 = .ok (.aload_n 0, 1) := by decide +kernel
theorem dX10_biasOf_20 : decode cX10_biasOf 20 = .ok (.getfield 81, 3) := by decide +kernel
theorem dX10_biasOf_23 : decode cX10_biasOf 23 = .ok (.bipush 116, 2) := by decide +kernel
theorem dX10_biasOf_25 : decode cX10_biasOf 25 = .ok (.iload_n 3, 1) := by decide +kernel
theorem dX10_biasOf_26 : decode cX10_biasOf 26 = .ok (.iadd, 1) := by decide +kernel
theorem dX10_biasOf_27 : decode cX10_biasOf 27 = .ok (.iaload, 1) := by decide +kernel
theorem dX10_biasOf_28 : decode cX10_biasOf 28 = .ok (.if_icmp .ge 45, 3) := by decide +kernel
theorem dX10_biasOf_31 : decode cX10_biasOf 31 = .ok (.iload_n 2, 1) := by decide +kernel
theorem dX10_biasOf_32 : decode cX10_biasOf 32 = .ok (.aload_n 0, 1) := by decide +kernel
theorem dX10_biasOf_33 : decode cX10_biasOf 33 = .ok (.iload_n 3, 1) := by decide +kernel
theorem dX10_biasOf_34 : decode cX10_biasOf 34 = .ok (.iload 4, 2) := by decide +kernel
theorem dX10_biasOf_36 : decode cX10_biasOf 36 = .ok (.invokevirtual 322, 3) := by decide +kernel
theorem dX10_biasOf_39 : decode cX10_biasOf 39 = .ok (.ifCond .eq 25, 3) := by decide +kernel
theorem dX10_biasOf_42 : decode cX10_biasOf 42 = .ok (.bipush 100, 2) := by decide +kernel
theorem dX10_biasOf_44 : decode cX10_biasOf 44 = .ok (.aload_n 0, 1) := by decide +kernel
theorem dX10_biasOf_45 : decode cX10_biasOf 45 = .ok (.iload_n 3, 1) := by decide +kernel
theorem dX10_biasOf_46 : decode cX10_biasOf 46 = .ok (.iload 4, 2) := by decide +kernel
theorem dX10_biasOf_48 : decode cX10_biasOf 48 = .ok (.iload_n 1, 1) := by decide +kernel
theorem dX10_biasOf_49 : decode cX10_biasOf 49 = .ok (.invokevirtual 312, 3) := by decide +kernel
theorem dX10_biasOf_52 : decode cX10_biasOf 52 = .ok (.imul, 1) := by decide +kernel
theorem dX10_biasOf_53 : decode cX10_biasOf 53 = .ok (.aload_n 0, 1) := by decide +kernel
theorem dX10_biasOf_54 : decode cX10_biasOf 54 = .ok (.iload_n 3, 1) := by decide +kernel
theorem dX10_biasOf_55 : decode cX10_biasOf 55 = .ok (.iload 4, 2) := by decide +kernel
theorem dX10_biasOf_57 : decode cX10_biasOf 57 = .ok (.invokevirtual 340, 3) := by decide +kernel
theorem dX10_biasOf_60 : decode cX10_biasOf 60 = .ok (.isub, 1) := by decide +kernel
theorem dX10_biasOf_61 : decode cX10_biasOf 61 = .ok (.goto 4, 3) := by decide +kernel
theorem dX10_biasOf_64 : decode cX10_biasOf 64 = .ok (.iconst 0, 1) := by decide +kernel
theorem dX10_biasOf_65 : decode cX10_biasOf 65 = .ok (.iadd, 1) := by decide +kernel
theorem dX10_biasOf_66 : decode cX10_biasOf 66 = .ok (.istore_n 2, 1) := by decide +kernel
theorem dX10_biasOf_67 : decode cX10_biasOf 67 = .ok (.iinc 4 1, 3) := by decide +kernel
theorem dX10_biasOf_70 : decode cX10_biasOf 70 = .ok (.goto (-53), 3) := by decide +kernel
theorem dX10_biasOf_73 : decode cX10_biasOf 73 = .ok (.iinc 3 1, 3) := by decide +kernel
theorem dX10_biasOf_76 : decode cX10_biasOf 76 = .ok (.goto (-72), 3) := by decide +kernel
theorem dX10_biasOf_79 : decode cX10_biasOf 79 = .ok (.iload_n 2, 1) := by decide +kernel
theorem dX10_biasOf_80 : decode cX10_biasOf 80 = .ok (.ireturn, 1) := by decide +kernel
theorem dX10_bias_0 : decode cX10_bias 0 = .ok (.aload_n 0, 1) := by decide +kernel
theorem dX10_bias_1 : decode cX10_bias 1 = .ok (.iconst 0, 1) := by decide +kernel
theorem dX10_bias_2 : decode cX10_bias 2 = .ok (.putfield 3, 3) := by decide +kernel
theorem dX10_bias_5 : decode cX10_bias 5 = .ok (.aload_n 0, 1) := by decide +kernel
theorem dX10_bias_6 : decode cX10_bias 6 = .ok (.invokevirtual 408, 3) := by decide +kernel
theorem dX10_bias_9 : decode cX10_bias 9 = .ok (.aload_n 0, 1) := by decide +kernel
theorem dX10_bias_10 : decode cX10_bias 10 = .ok (.iload_n 1, 1) := by decide +kernel
theorem dX10_bias_11 : decode cX10_bias 11 = .ok (.invokevirtual 423, 3) := by decide +kernel
theorem dX10_bias_14 : decode cX10_bias 14 = .ok (.ifCond .eq 5, 3) := by decide +kernel
theorem dX10_bias_17 : decode cX10_bias 17 = .ok (.iconst 0, 1) := by decide +kernel
theorem dX10_bias_18 : decode cX10_bias 18 = .ok (.ireturn, 1) := by decide +kernel
theorem dX10_bias_19 : decode cX10_bias 19 = .ok (.aload_n 0, 1) := by decide +kernel
theorem dX10_bias_20 : decode cX10_bias 20 = .ok (.iload_n 1, 1) := by decide +kernel
theorem dX10_bias_21 : decode cX10_bias 21 = .ok (.invokevirtual 441, 3) := by decide +kernel
theorem dX10_bias_24 : decode cX10_bias 24 = .ok (.ireturn, 1) := by decide +kernel
theorem dX10_odd_0 : decode cX10_odd 0 = .ok (.aload_n 0, 1) := by decide +kernel
theorem dX10_odd_1 : decode cX10_odd 1 = .ok (.iconst 0, 1) := by decide +kernel
theorem dX10_odd_2 : decode cX10_odd 2 = .ok (.putfield 3, 3) := by decide +kernel
theorem dX10_odd_5 : decode cX10_odd 5 = .ok (.aload_n 0, 1) := by decide +kernel
theorem dX10_odd_6 : decode cX10_odd 6 = .ok (.invokevirtual 408, 3) := by decide +kernel
theorem dX10_odd_9 : decode cX10_odd 9 = .ok (.iconst 0, 1) := by decide +kernel
theorem dX10_odd_10 : decode cX10_odd 10 = .ok (.istore_n 1, 1) := by decide +kernel
theorem dX10_odd_11 : decode cX10_odd 11 = .ok (.iconst 1, 1) := by decide +kernel
theorem dX10_odd_12 : decode cX10_odd 12 = .ok (.istore_n 2, 1) := by decide +kernel
theorem dX10_odd_13 : decode cX10_odd 13 = .ok (.iload_n 2, 1) := by decide +kernel
theorem dX10_odd_14 : decode cX10_odd 14 = .ok (.aload_n 0, 1) := by decide +kernel
theorem dX10_odd_15 : decode cX10_odd 15 = .ok (.getfield 81, 3) := by decide +kernel
theorem dX10_odd_18 : decode cX10_odd 18 = .ok (.iconst 2, 1) := by decide +kernel
theorem dX10_odd_19 : decode cX10_odd 19 = .ok (.iaload, 1) := by decide +kernel
theorem dX10_odd_20 : decode cX10_odd 20 = .ok (.if_icmp .ge 34, 3) := by decide +kernel
theorem dX10_odd_23 : decode cX10_odd 23 = .ok (.aload_n 0, 1) := by decide +kernel
theorem dX10_odd_24 : decode cX10_odd 24 = .ok (.iload_n 2, 1) := by decide +kernel
theorem dX10_odd_25 : decode cX10_odd 25 = .ok (.invokevirtual 441, 3) := by decide +kernel
theorem dX10_odd_28 : decode cX10_odd 28 = .ok (.invokestatic 444, 3) := by decide +kernel
theorem dX10_odd_31 : decode cX10_odd 31 = .ok (.aload_n 0, 1) := by decide +kernel
theorem dX10_odd_32 : decode cX10_odd 32 = .ok (.iload_n 1, 1) := by decide +kernel
theorem dX10_odd_33 : decode cX10_odd 33 = .ok (.invokevirtual 441, 3) := by decide +kernel
theorem dX10_odd_36 : decode cX10_odd 36 = .ok (.invokestatic 444, 3) := by decide +kernel
theorem dX10_odd_39 : decode cX10_odd 39 = .ok (.if_icmp .le 7, 3) := by decide +kernel
theorem dX10_odd_42 : decode cX10_odd 42 = .ok (.iload_n 2, 1) := by decide +kernel
theorem dX10_odd_43 : decode cX10_odd 43 = .ok (.goto 4, 3) := by decide +kernel
theorem dX10_odd_46 : decode cX10_odd 46 = .ok (.iload_n 1, 1) := by decide +kernel
theorem dX10_odd_47 : decode cX10_odd 47 = .ok (.istore_n 1, 1) := by decide +kernel
theorem dX10_odd_48 : decode cX10_odd 48 = .ok (.iinc 2 1, 3) := by decide +kernel
theorem dX10_odd_51 : decode cX10_odd 51 = .ok (.goto (-38), 3) := by decide +kernel
theorem dX10_odd_54 : decode cX10_odd 54 = .ok (.iload_n 1, 1) := by decide +kernel
theorem dX10_odd_55 : decode cX10_odd 55 = .ok (.ireturn, 1) := by decide +kernel
theorem dX10_isOnlyOne_0 : decode cX10_isOnlyOne 0 = .ok (.aload_n 0, 1) := by decide +kernel
theorem dX10_isOnlyOne_1 : decode cX10_isOnlyOne 1 = .ok (.aload_n 0, 1) := by decide +kernel
theorem dX10_isOnlyOne_2 : decode cX10_isOnlyOne 2 = .ok (.getfield 81, 3) := by decide +kernel
theorem dX10_isOnlyOne_5 : decode cX10_isOnlyOne 5 = .ok (.iconst 2, 1) := by decide +kernel
theorem dX10_isOnlyOne_6 : decode cX10_isOnlyOne 6 = .ok (.iaload, 1) := by decide +kernel
theorem dX10_isOnlyOne_7 : decode cX10_isOnlyOne 7 = .ok (.iconst 1, 1) := by decide +kernel
theorem dX10_isOnlyOne_8 : decode cX10_isOnlyOne 8 = .ok (.if_icmp .ne 7, 3) := by decide +kernel
theorem dX10_isOnlyOne_11 : decode cX10_isOnlyOne 11 = .ok (.iconst 1, 1) := by decide +kernel
theorem dX10_isOnlyOne_12 : decode cX10_isOnlyOne 12 = .ok (.goto 4, 3) := by decide +kernel
theorem dX10_isOnlyOne_15 : decode cX10_isOnlyOne 15 = .ok (.iconst 0, 1) := by decide +kernel
theorem dX10_isOnlyOne_16 : decode cX10_isOnlyOne 16 = .ok (.iconst 2, 1) := by decide +kernel
theorem dX10_isOnlyOne_17 : decode cX10_isOnlyOne 17 = .ok (.invokevirtual 268, 3) := by decide +kernel
theorem dX10_isOnlyOne_20 : decode cX10_isOnlyOne 20 = .ok (.ireturn, 1) := by decide +kernel
theorem dX10_without_0 : decode cX10_without 0 = .ok (.aload_n 0, 1) := by decide +kernel
theorem dX10_without_1 : decode cX10_without 1 = .ok (.iconst 0, 1) := by decide +kernel
theorem dX10_without_2 : decode cX10_without 2 = .ok (.putfield 3, 3) := by decide +kernel
theorem dX10_without_5 : decode cX10_without 5 = .ok (.aload_n 0, 1) := by decide +kernel
theorem dX10_without_6 : decode cX10_without 6 = .ok (.invokevirtual 408, 3) := by decide +kernel
theorem dX10_without_9 : decode cX10_without 9 = .ok (.aload_n 0, 1) := by decide +kernel
theorem dX10_without_10 : decode cX10_without 10 = .ok (.iload_n 1, 1) := by decide +kernel
theorem dX10_without_11 : decode cX10_without 11 = .ok (.invokevirtual 411, 3) := by decide +kernel
theorem dX10_without_14 : decode cX10_without 14 = .ok (.ifCond .ne 18, 3) := by decide +kernel
theorem dX10_without_17 : decode cX10_without 17 = .ok (.aload_n 0, 1) := by decide +kernel
theorem dX10_without_18 : decode cX10_without 18 = .ok (.iload_n 2, 1) := by decide +kernel
theorem dX10_without_19 : decode cX10_without 19 = .ok (.invokevirtual 423, 3) := by decide +kernel
theorem dX10_without_22 : decode cX10_without 22 = .ok (.ifCond .ne 10, 3) := by decide +kernel
theorem dX10_without_25 : decode cX10_without 25 = .ok (.aload_n 0, 1) := by decide +kernel
theorem dX10_without_26 : decode cX10_without 26 = .ok (.invokevirtual 447, 3) := by decide +kernel
theorem dX10_without_29 : decode cX10_without 29 = .ok (.ifCond .eq 5, 3) := by decide +kernel
theorem dX10_without_32 : decode cX10_without 32 = .ok (.iconst 0, 1) := by decide +kernel
theorem dX10_without_33 : decode cX10_without 33 = .ok (.ireturn, 1) := by decide +kernel
theorem dX10_without_34 : decode cX10_without 34 = .ok (.aload_n 0, 1) := by decide +kernel
theorem dX10_without_35 : decode cX10_without 35 = .ok (.dup, 1) := by decide +kernel
theorem dX10_without_36 : decode cX10_without 36 = .ok (.getfield 275, 3) := by decide +kernel
theorem dX10_without_39 : decode cX10_without 39 = .ok (.iconst 1, 1) := by decide +kernel
theorem dX10_without_40 : decode cX10_without 40 = .ok (.iload_n 2, 1) := by decide +kernel
theorem dX10_without_41 : decode cX10_without 41 = .ok (.ishl, 1) := by decide +kernel
theorem dX10_without_42 : decode cX10_without 42 = .ok (.iconst (-1), 1) := by decide +kernel
theorem dX10_without_43 : decode cX10_without 43 = .ok (.ixor, 1) := by decide +kernel
theorem dX10_without_44 : decode cX10_without 44 = .ok (.iand, 1) := by decide +kernel
theorem dX10_without_45 : decode cX10_without 45 = .ok (.putfield 275, 3) := by decide +kernel
theorem dX10_without_48 : decode cX10_without 48 = .ok (.aload_n 0, 1) := by decide +kernel
theorem dX10_without_49 : decode cX10_without 49 = .ok (.iload_n 1, 1) := by decide +kernel
theorem dX10_without_50 : decode cX10_without 50 = .ok (.invokevirtual 399, 3) := by decide +kernel
theorem dX10_without_53 : decode cX10_without 53 = .ok (.ireturn, 1) := by decide +kernel
theorem dX10_sways_0 : decode cX10_sways 0 = .ok (.aload_n 0, 1) := by decide +kernel
theorem dX10_sways_1 : decode cX10_sways 1 = .ok (.iconst 0, 1) := by decide +kernel
theorem dX10_sways_2 : decode cX10_sways 2 = .ok (.putfield 3, 3) := by decide +kernel
theorem dX10_sways_5 : decode cX10_sways 5 = .ok (.aload_n 0, 1) := by decide +kernel
theorem dX10_sways_6 : decode cX10_sways 6 = .ok (.invokevirtual 408, 3) := by decide +kernel
theorem dX10_sways_9 : decode cX10_sways 9 = .ok (.aload_n 0, 1) := by decide +kernel
theorem dX10_sways_10 : decode cX10_sways 10 = .ok (.iload_n 1, 1) := by decide +kernel
theorem dX10_sways_11 : decode cX10_sways 11 = .ok (.invokevirtual 423, 3) := by decide +kernel
theorem dX10_sways_14 : decode cX10_sways 14 = .ok (.ifCond .ne 10, 3) := by decide +kernel
theorem dX10_sways_17 : decode cX10_sways 17 = .ok (.aload_n 0, 1) := by decide +kernel
theorem dX10_sways_18 : decode cX10_sways 18 = .ok (.invokevirtual 447, 3) := by decide +kernel
theorem dX10_sways_21 : decode cX10_sways 21 = .ok (.ifCond .eq 5, 3) := by decide +kernel
theorem dX10_sways_24 : decode cX10_sways 24 = .ok (.iconst 0, 1) := by decide +kernel
theorem dX10_sways_25 : decode cX10_sways 25 = .ok (.ireturn, 1) := by decide +kernel
theorem dX10_sways_26 : decode cX10_sways 26 = .ok (.aload_n 0, 1) := by decide +kernel
theorem dX10_sways_27 : decode cX10_sways 27 = .ok (.invokevirtual 429, 3) := by decide +kernel
theorem dX10_sways_30 : decode cX10_sways 30 = .ok (.iconst 0, 1) := by decide +kernel
theorem dX10_sways_31 : decode cX10_sways 31 = .ok (.istore_n 2, 1) := by decide +kernel
theorem dX10_sways_32 : decode cX10_sways 32 = .ok (.lconst 0, 1) := by decide +kernel
theorem dX10_sways_33 : decode cX10_sways 33 = .ok (.lstore_n 3, 1) := by decide +kernel
theorem dX10_sways_34 : decode cX10_sways 34 = .ok (.iconst 0, 1) := by decide +kernel
theorem dX10_sways_35 : decode cX10_sways 35 = .ok (.istore 5, 2) := by decide +kernel
theorem dX10_sways_37 : decode cX10_sways 37 = .ok (.iload 5, 2) := by decide +kernel
theorem dX10_sways_39 : decode cX10_sways 39 = .ok (.aload_n 0, 1) := by decide +kernel
theorem dX10_sways_40 : decode cX10_sways 40 = .ok (.getfield 81, 3) := by decide +kernel
theorem dX10_sways_43 : decode cX10_sways 43 = .ok (.iconst 1, 1) := by decide +kernel
theorem dX10_sways_44 : decode cX10_sways 44 = .ok (.iaload, 1) := by decide +kernel
theorem dX10_sways_45 : decode cX10_sways 45 = .ok (.if_icmp .ge 53, 3) := by decide +kernel
theorem dX10_sways_48 : decode cX10_sways 48 = .ok (.iconst 0, 1) := by decide +kernel
theorem dX10_sways_49 : decode cX10_sways 49 = .ok (.istore 6, 2) := by decide +kernel
theorem dX10_sways_51 : decode cX10_sways 51 = .ok (.iload 6, 2) := by decide +kernel
theorem dX10_sways_53 : decode cX10_sways 53 = .ok (.iload 5, 2) := by decide +kernel
theorem dX10_sways_55 : decode cX10_sways 55 = .ok (.if_icmp .ge 37, 3) := by decide +kernel
theorem dX10_sways_58 : decode cX10_sways 58 = .ok (.lload_n 3, 1) := by decide +kernel
theorem dX10_sways_59 : decode cX10_sways 59 = .ok (.aload_n 0, 1) := by decide +kernel
theorem dX10_sways_60 : decode cX10_sways 60 = .ok (.iload 5, 2) := by decide +kernel
theorem dX10_sways_62 : decode cX10_sways 62 = .ok (.iload 6, 2) := by decide +kernel
theorem dX10_sways_64 : decode cX10_sways 64 = .ok (.invokevirtual 402, 3) := by decide +kernel
theorem dX10_sways_67 : decode cX10_sways 67 = .ok (.ifCond .eq 16, 3) := by decide +kernel
theorem dX10_sways_70 : decode cX10_sways 70 = .ok (.lconst 1, 1) := by decide +kernel
theorem dX10_sways_71 : decode cX10_sways 71 = .ok (.bipush 6, 2) := by decide +kernel
theorem dX10_sways_73 : decode cX10_sways 73 = .ok (.iload 5, 2) := by decide +kernel
theorem dX10_sways_75 : decode cX10_sways 75 = .ok (.imul, 1) := by decide +kernel
theorem dX10_sways_76 : decode cX10_sways 76 = .ok (.iload 6, 2) := by decide +kernel
theorem dX10_sways_78 : decode cX10_sways 78 = .ok (.iadd, 1) := by decide +kernel
theorem dX10_sways_79 : decode cX10_sways 79 = .ok (.lshl, 1) := by decide +kernel
theorem dX10_sways_80 : decode cX10_sways 80 = .ok (.goto 4, 3) := by decide +kernel
theorem dX10_sways_83 : decode cX10_sways 83 = .ok (.lconst 0, 1) := by decide +kernel
theorem dX10_sways_84 : decode cX10_sways 84 = .ok (.lor, 1) := by decide +kernel
theorem dX10_sways_85 : decode cX10_sways 85 = .ok (.lstore_n 3, 1) := by decide +kernel
theorem dX10_sways_86 : decode cX10_sways 86 = .ok (.iinc 6 1, 3) := by decide +kernel
theorem dX10_sways_89 : decode cX10_sways 89 = .ok (.goto (-38), 3) := by decide +kernel
theorem dX10_sways_92 : decode cX10_sways 92 = .ok (.iinc 5 1, 3) := by decide +kernel
theorem dX10_sways_95 : decode cX10_sways 95 = .ok (.goto (-58), 3) := by decide +kernel
theorem dX10_sways_98 : decode cX10_sways 98 = .ok (.aload_n 0, 1) := by decide +kernel
theorem dX10_sways_99 : decode cX10_sways 99 = .ok (.dup, 1) := by decide +kernel
theorem dX10_sways_100 : decode cX10_sways 100 = .ok (.getfield 275, 3) := by decide +kernel
theorem dX10_sways_103 : decode cX10_sways 103 = .ok (.iconst 1, 1) := by decide +kernel
theorem dX10_sways_104 : decode cX10_sways 104 = .ok (.iload_n 1, 1) := by decide +kernel
theorem dX10_sways_105 : decode cX10_sways 105 = .ok (.ishl, 1) := by decide +kernel
theorem dX10_sways_106 : decode cX10_sways 106 = .ok (.iconst (-1), 1) := by decide +kernel
theorem dX10_sways_107 : decode cX10_sways 107 = .ok (.ixor, 1) := by decide +kernel
theorem dX10_sways_108 : decode cX10_sways 108 = .ok (.iand, 1) := by decide +kernel
theorem dX10_sways_109 : decode cX10_sways 109 = .ok (.putfield 275, 3) := by decide +kernel
theorem dX10_sways_112 : decode cX10_sways 112 = .ok (.aload_n 0, 1) := by decide +kernel
theorem dX10_sways_113 : decode cX10_sways 113 = .ok (.invokevirtual 429, 3) := by decide +kernel
theorem dX10_sways_116 : decode cX10_sways 116 = .ok (.iconst 0, 1) := by decide +kernel
theorem dX10_sways_117 : decode cX10_sways 117 = .ok (.istore 5, 2) := by decide +kernel
theorem dX10_sways_119 : decode cX10_sways 119 = .ok (.iload 5, 2) := by decide +kernel
theorem dX10_sways_121 : decode cX10_sways 121 = .ok (.aload_n 0, 1) := by decide +kernel
theorem dX10_sways_122 : decode cX10_sways 122 = .ok (.getfield 81, 3) := by decide +kernel
theorem dX10_sways_125 : decode cX10_sways 125 = .ok (.iconst 1, 1) := by decide +kernel
theorem dX10_sways_126 : decode cX10_sways 126 = .ok (.iaload, 1) := by decide +kernel
theorem dX10_sways_127 : decode cX10_sways 127 = .ok (.if_icmp .ge 66, 3) := by decide +kernel
theorem dX10_sways_130 : decode cX10_sways 130 = .ok (.iconst 0, 1) := by decide +kernel
theorem dX10_sways_131 : decode cX10_sways 131 = .ok (.istore 6, 2) := by decide +kernel
theorem dX10_sways_133 : decode cX10_sways 133 = .ok (.iload 6, 2) := by decide +kernel
theorem dX10_sways_135 : decode cX10_sways 135 = .ok (.iload 5, 2) := by decide +kernel
theorem dX10_sways_137 : decode cX10_sways 137 = .ok (.if_icmp .ge 50, 3) := by decide +kernel
theorem dX10_sways_140 : decode cX10_sways 140 = .ok (.iload_n 2, 1) := by decide +kernel
theorem dX10_sways_141 : decode cX10_sways 141 = .ok (.aload_n 0, 1) := by decide +kernel
theorem dX10_sways_142 : decode cX10_sways 142 = .ok (.iload 5, 2) := by decide +kernel
theorem dX10_sways_144 : decode cX10_sways 144 = .ok (.iload 6, 2) := by decide +kernel
theorem dX10_sways_146 : decode cX10_sways 146 = .ok (.invokevirtual 402, 3) := by decide +kernel
theorem dX10_sways_149 : decode cX10_sways 149 = .ok (.lload_n 3, 1) := by decide +kernel
theorem dX10_sways_150 : decode cX10_sways 150 = .ok (.bipush 6, 2) := by decide +kernel
theorem dX10_sways_152 : decode cX10_sways 152 = .ok (.iload 5, 2) := by decide +kernel
theorem dX10_sways_154 : decode cX10_sways 154 = .ok (.imul, 1) := by decide +kernel
theorem dX10_sways_155 : decode cX10_sways 155 = .ok (.iload 6, 2) := by decide +kernel
theorem dX10_sways_157 : decode cX10_sways 157 = .ok (.iadd, 1) := by decide +kernel
theorem dX10_sways_158 : decode cX10_sways 158 = .ok (.lshr, 1) := by decide +kernel
theorem dX10_sways_159 : decode cX10_sways 159 = .ok (.lconst 1, 1) := by decide +kernel
theorem dX10_sways_160 : decode cX10_sways 160 = .ok (.land, 1) := by decide +kernel
theorem dX10_sways_161 : decode cX10_sways 161 = .ok (.lconst 1, 1) := by decide +kernel
theorem dX10_sways_162 : decode cX10_sways 162 = .ok (.lcmp, 1) := by decide +kernel
theorem dX10_sways_163 : decode cX10_sways 163 = .ok (.ifCond .ne 7, 3) := by decide +kernel
theorem dX10_sways_166 : decode cX10_sways 166 = .ok (.iconst 1, 1) := by decide +kernel
theorem dX10_sways_167 : decode cX10_sways 167 = .ok (.goto 4, 3) := by decide +kernel
theorem dX10_sways_170 : decode cX10_sways 170 = .ok (.iconst 0, 1) := by decide +kernel
theorem dX10_sways_171 : decode cX10_sways 171 = .ok (.if_icmp .eq 7, 3) := by decide +kernel
theorem dX10_sways_174 : decode cX10_sways 174 = .ok (.iconst 1, 1) := by decide +kernel
theorem dX10_sways_175 : decode cX10_sways 175 = .ok (.goto 4, 3) := by decide +kernel
theorem dX10_sways_178 : decode cX10_sways 178 = .ok (.iconst 0, 1) := by decide +kernel
theorem dX10_sways_179 : decode cX10_sways 179 = .ok (.iadd, 1) := by decide +kernel
theorem dX10_sways_180 : decode cX10_sways 180 = .ok (.istore_n 2, 1) := by decide +kernel
theorem dX10_sways_181 : decode cX10_sways 181 = .ok (.iinc 6 1, 3) := by decide +kernel
theorem dX10_sways_184 : decode cX10_sways 184 = .ok (.goto (-51), 3) := by decide +kernel
theorem dX10_sways_187 : decode cX10_sways 187 = .ok (.iinc 5 1, 3) := by decide +kernel
theorem dX10_sways_190 : decode cX10_sways 190 = .ok (.goto (-71), 3) := by decide +kernel
theorem dX10_sways_193 : decode cX10_sways 193 = .ok (.iload_n 2, 1) := by decide +kernel
theorem dX10_sways_194 : decode cX10_sways 194 = .ok (.ireturn, 1) := by decide +kernel
theorem dX10_alone_0 : decode cX10_alone 0 = .ok (.aload_n 0, 1) := by decide +kernel
theorem dX10_alone_1 : decode cX10_alone 1 = .ok (.iconst 0, 1) := by decide +kernel
theorem dX10_alone_2 : decode cX10_alone 2 = .ok (.putfield 3, 3) := by decide +kernel
theorem dX10_alone_5 : decode cX10_alone 5 = .ok (.aload_n 0, 1) := by decide +kernel
theorem dX10_alone_6 : decode cX10_alone 6 = .ok (.invokevirtual 408, 3) := by decide +kernel
theorem dX10_alone_9 : decode cX10_alone 9 = .ok (.aload_n 0, 1) := by decide +kernel
theorem dX10_alone_10 : decode cX10_alone 10 = .ok (.iload_n 1, 1) := by decide +kernel
theorem dX10_alone_11 : decode cX10_alone 11 = .ok (.invokevirtual 411, 3) := by decide +kernel
theorem dX10_alone_14 : decode cX10_alone 14 = .ok (.ifCond .ne 11, 3) := by decide +kernel
theorem dX10_alone_17 : decode cX10_alone 17 = .ok (.aload_n 0, 1) := by decide +kernel
theorem dX10_alone_18 : decode cX10_alone 18 = .ok (.iload_n 2, 1) := by decide +kernel
theorem dX10_alone_19 : decode cX10_alone 19 = .ok (.invokevirtual 423, 3) := by decide +kernel
theorem dX10_alone_22 : decode cX10_alone 22 = .ok (.ifCond .eq 5, 3) := by decide +kernel
theorem dX10_alone_25 : decode cX10_alone 25 = .ok (.iconst 0, 1) := by decide +kernel
theorem dX10_alone_26 : decode cX10_alone 26 = .ok (.ireturn, 1) := by decide +kernel
theorem dX10_alone_27 : decode cX10_alone 27 = .ok (.aload_n 0, 1) := by decide +kernel
theorem dX10_alone_28 : decode cX10_alone 28 = .ok (.iconst 1, 1) := by decide +kernel
theorem dX10_alone_29 : decode cX10_alone 29 = .ok (.iload_n 2, 1) := by decide +kernel
theorem dX10_alone_30 : decode cX10_alone 30 = .ok (.ishl, 1) := by decide +kernel
theorem dX10_alone_31 : decode cX10_alone 31 = .ok (.putfield 275, 3) := by decide +kernel
theorem dX10_alone_34 : decode cX10_alone 34 = .ok (.aload_n 0, 1) := by decide +kernel
theorem dX10_alone_35 : decode cX10_alone 35 = .ok (.iload_n 1, 1) := by decide +kernel
theorem dX10_alone_36 : decode cX10_alone 36 = .ok (.invokevirtual 399, 3) := by decide +kernel
theorem dX10_alone_39 : decode cX10_alone 39 = .ok (.ireturn, 1) := by decide +kernel
theorem dX10_laysPlaces_0 : decode cX10_laysPlaces 0 = .ok (.aload_n 0, 1) := by decide +kernel
theorem dX10_laysPlaces_1 : decode cX10_laysPlaces 1 = .ok (.invokevirtual 408, 3) := by decide +kernel
theorem dX10_laysPlaces_4 : decode cX10_laysPlaces 4 = .ok (.iconst 0, 1) := by decide +kernel
theorem dX10_laysPlaces_5 : decode cX10_laysPlaces 5 = .ok (.istore_n 1, 1) := by decide +kernel
theorem dX10_laysPlaces_6 : decode cX10_laysPlaces 6 = .ok (.iload_n 1, 1) := by decide +kernel
theorem dX10_laysPlaces_7 : decode cX10_laysPlaces 7 = .ok (.aload_n 0, 1) := by decide +kernel
theorem dX10_laysPlaces_8 : decode cX10_laysPlaces 8 = .ok (.getfield 81, 3) := by decide +kernel
theorem dX10_laysPlaces_11 : decode cX10_laysPlaces 11 = .ok (.iconst 2, 1) := by decide +kernel
theorem dX10_laysPlaces_12 : decode cX10_laysPlaces 12 = .ok (.iaload, 1) := by decide +kernel
theorem dX10_laysPlaces_13 : decode cX10_laysPlaces 13 = .ok (.if_icmp .ge 54, 3) := by decide +kernel
theorem dX10_laysPlaces_16 : decode cX10_laysPlaces 16 = .ok (.aload_n 0, 1) := by decide +kernel
theorem dX10_laysPlaces_17 : decode cX10_laysPlaces 17 = .ok (.iconst 1, 1) := by decide +kernel
theorem dX10_laysPlaces_18 : decode cX10_laysPlaces 18 = .ok (.iload_n 1, 1) := by decide +kernel
theorem dX10_laysPlaces_19 : decode cX10_laysPlaces 19 = .ok (.ishl, 1) := by decide +kernel
theorem dX10_laysPlaces_20 : decode cX10_laysPlaces 20 = .ok (.putfield 275, 3) := by decide +kernel
theorem dX10_laysPlaces_23 : decode cX10_laysPlaces 23 = .ok (.aload_n 0, 1) := by decide +kernel
theorem dX10_laysPlaces_24 : decode cX10_laysPlaces 24 = .ok (.invokevirtual 429, 3) := by decide +kernel
theorem dX10_laysPlaces_27 : decode cX10_laysPlaces 27 = .ok (.iconst 0, 1) := by decide +kernel
theorem dX10_laysPlaces_28 : decode cX10_laysPlaces 28 = .ok (.istore_n 2, 1) := by decide +kernel
theorem dX10_laysPlaces_29 : decode cX10_laysPlaces 29 = .ok (.iload_n 2, 1) := by decide +kernel
theorem dX10_laysPlaces_30 : decode cX10_laysPlaces 30 = .ok (.aload_n 0, 1) := by decide +kernel
theorem dX10_laysPlaces_31 : decode cX10_laysPlaces 31 = .ok (.getfield 81, 3) := by decide +kernel
theorem dX10_laysPlaces_34 : decode cX10_laysPlaces 34 = .ok (.iconst 1, 1) := by decide +kernel
theorem dX10_laysPlaces_35 : decode cX10_laysPlaces 35 = .ok (.iaload, 1) := by decide +kernel
theorem dX10_laysPlaces_36 : decode cX10_laysPlaces 36 = .ok (.if_icmp .ge 25, 3) := by decide +kernel
theorem dX10_laysPlaces_39 : decode cX10_laysPlaces 39 = .ok (.aload_n 0, 1) := by decide +kernel
theorem dX10_laysPlaces_40 : decode cX10_laysPlaces 40 = .ok (.getfield 106, 3) := by decide +kernel
theorem dX10_laysPlaces_43 : decode cX10_laysPlaces 43 = .ok (.bipush 9, 2) := by decide +kernel
theorem dX10_laysPlaces_45 : decode cX10_laysPlaces 45 = .ok (.iload_n 2, 1) := by decide +kernel
theorem dX10_laysPlaces_46 : decode cX10_laysPlaces 46 = .ok (.imul, 1) := by decide +kernel
theorem dX10_laysPlaces_47 : decode cX10_laysPlaces 47 = .ok (.iload_n 1, 1) := by decide +kernel
theorem dX10_laysPlaces_48 : decode cX10_laysPlaces 48 = .ok (.iadd, 1) := by decide +kernel
theorem dX10_laysPlaces_49 : decode cX10_laysPlaces 49 = .ok (.aload_n 0, 1) := by decide +kernel
theorem dX10_laysPlaces_50 : decode cX10_laysPlaces 50 = .ok (.iload_n 2, 1) := by decide +kernel
theorem dX10_laysPlaces_51 : decode cX10_laysPlaces 51 = .ok (.invokevirtual 405, 3) := by decide +kernel
theorem dX10_laysPlaces_54 : decode cX10_laysPlaces 54 = .ok (.iastore, 1) := by decide +kernel
theorem dX10_laysPlaces_55 : decode cX10_laysPlaces 55 = .ok (.iinc 2 1, 3) := by decide +kernel
theorem dX10_laysPlaces_58 : decode cX10_laysPlaces 58 = .ok (.goto (-29), 3) := by decide +kernel
theorem dX10_laysPlaces_61 : decode cX10_laysPlaces 61 = .ok (.iinc 1 1, 3) := by decide +kernel
theorem dX10_laysPlaces_64 : decode cX10_laysPlaces 64 = .ok (.goto (-58), 3) := by decide +kernel
theorem dX10_laysPlaces_67 : decode cX10_laysPlaces 67 = .ok (.return_, 1) := by decide +kernel
theorem dX10_place_0 : decode cX10_place 0 = .ok (.aload_n 0, 1) := by decide +kernel
theorem dX10_place_1 : decode cX10_place 1 = .ok (.iconst 0, 1) := by decide +kernel
theorem dX10_place_2 : decode cX10_place 2 = .ok (.putfield 3, 3) := by decide +kernel
theorem dX10_place_5 : decode cX10_place 5 = .ok (.aload_n 0, 1) := by decide +kernel
theorem dX10_place_6 : decode cX10_place 6 = .ok (.iload_n 1, 1) := by decide +kernel
theorem dX10_place_7 : decode cX10_place 7 = .ok (.invokevirtual 411, 3) := by decide +kernel
theorem dX10_place_10 : decode cX10_place 10 = .ok (.ifCond .ne 11, 3) := by decide +kernel
theorem dX10_place_13 : decode cX10_place 13 = .ok (.aload_n 0, 1) := by decide +kernel
theorem dX10_place_14 : decode cX10_place 14 = .ok (.iload_n 2, 1) := by decide +kernel
theorem dX10_place_15 : decode cX10_place 15 = .ok (.invokevirtual 423, 3) := by decide +kernel
theorem dX10_place_18 : decode cX10_place 18 = .ok (.ifCond .eq 5, 3) := by decide +kernel
theorem dX10_place_21 : decode cX10_place 21 = .ok (.iconst 0, 1) := by decide +kernel
theorem dX10_place_22 : decode cX10_place 22 = .ok (.ireturn, 1) := by decide +kernel
theorem dX10_place_23 : decode cX10_place 23 = .ok (.aload_n 0, 1) := by decide +kernel
theorem dX10_place_24 : decode cX10_place 24 = .ok (.invokevirtual 450, 3) := by decide +kernel
theorem dX10_place_27 : decode cX10_place 27 = .ok (.aload_n 0, 1) := by decide +kernel
theorem dX10_place_28 : decode cX10_place 28 = .ok (.getfield 106, 3) := by decide +kernel
theorem dX10_place_31 : decode cX10_place 31 = .ok (.bipush 9, 2) := by decide +kernel
theorem dX10_place_33 : decode cX10_place 33 = .ok (.iload_n 1, 1) := by decide +kernel
theorem dX10_place_34 : decode cX10_place 34 = .ok (.imul, 1) := by decide +kernel
theorem dX10_place_35 : decode cX10_place 35 = .ok (.iload_n 2, 1) := by decide +kernel
theorem dX10_place_36 : decode cX10_place 36 = .ok (.iadd, 1) := by decide +kernel
theorem dX10_place_37 : decode cX10_place 37 = .ok (.iaload, 1) := by decide +kernel
theorem dX10_place_38 : decode cX10_place 38 = .ok (.ireturn, 1) := by decide +kernel
theorem dX10_atOrAhead_0 : decode cX10_atOrAhead 0 = .ok (.iconst 0, 1) := by decide +kernel
theorem dX10_atOrAhead_1 : decode cX10_atOrAhead 1 = .ok (.istore_n 3, 1) := by decide +kernel
theorem dX10_atOrAhead_2 : decode cX10_atOrAhead 2 = .ok (.iconst 0, 1) := by decide +kernel
theorem dX10_atOrAhead_3 : decode cX10_atOrAhead 3 = .ok (.istore 4, 2) := by decide +kernel
theorem dX10_atOrAhead_5 : decode cX10_atOrAhead 5 = .ok (.iload 4, 2) := by decide +kernel
theorem dX10_atOrAhead_7 : decode cX10_atOrAhead 7 = .ok (.aload_n 0, 1) := by decide +kernel
theorem dX10_atOrAhead_8 : decode cX10_atOrAhead 8 = .ok (.getfield 81, 3) := by decide +kernel
theorem dX10_atOrAhead_11 : decode cX10_atOrAhead 11 = .ok (.iconst 2, 1) := by decide +kernel
theorem dX10_atOrAhead_12 : decode cX10_atOrAhead 12 = .ok (.iaload, 1) := by decide +kernel
theorem dX10_atOrAhead_13 : decode cX10_atOrAhead 13 = .ok (.if_icmp .ge 33, 3) := by decide +kernel
theorem dX10_atOrAhead_16 : decode cX10_atOrAhead 16 = .ok (.iload_n 3, 1) := by decide +kernel
theorem dX10_atOrAhead_17 : decode cX10_atOrAhead 17 = .ok (.aload_n 0, 1) := by decide +kernel
theorem dX10_atOrAhead_18 : decode cX10_atOrAhead 18 = .ok (.getfield 106, 3) := by decide +kernel
theorem dX10_atOrAhead_21 : decode cX10_atOrAhead 21 = .ok (.bipush 9, 2) := by decide +kernel
theorem dX10_atOrAhead_23 : decode cX10_atOrAhead 23 = .ok (.iload_n 1, 1) := by decide +kernel
theorem dX10_atOrAhead_24 : decode cX10_atOrAhead 24 = .ok (.imul, 1) := by decide +kernel
theorem dX10_atOrAhead_25 : decode cX10_atOrAhead 25 = .ok (.iload 4, 2) := by decide +kernel
theorem dX10_atOrAhead_27 : decode cX10_atOrAhead 27 = .ok (.iadd, 1) := by decide +kernel
theorem dX10_atOrAhead_28 : decode cX10_atOrAhead 28 = .ok (.iaload, 1) := by decide +kernel
theorem dX10_atOrAhead_29 : decode cX10_atOrAhead 29 = .ok (.iload_n 2, 1) := by decide +kernel
theorem dX10_atOrAhead_30 : decode cX10_atOrAhead 30 = .ok (.if_icmp .gt 7, 3) := by decide +kernel
theorem dX10_atOrAhead_33 : decode cX10_atOrAhead 33 = .ok (.iconst 1, 1) := by decide +kernel
theorem dX10_atOrAhead_34 : decode cX10_atOrAhead 34 = .ok (.goto 4, 3) := by decide +kernel
theorem dX10_atOrAhead_37 : decode cX10_atOrAhead 37 = .ok (.iconst 0, 1) := by decide +kernel
theorem dX10_atOrAhead_38 : decode cX10_atOrAhead 38 = .ok (.iadd, 1) := by decide +kernel
theorem dX10_atOrAhead_39 : decode cX10_atOrAhead 39 = .ok (.istore_n 3, 1) := by decide +kernel
theorem dX10_atOrAhead_40 : decode cX10_atOrAhead 40 = .ok (.iinc 4 1, 3) := by decide +kernel
theorem dX10_atOrAhead_43 : decode cX10_atOrAhead 43 = .ok (.goto (-38), 3) := by decide +kernel
theorem dX10_atOrAhead_46 : decode cX10_atOrAhead 46 = .ok (.iload_n 3, 1) := by decide +kernel
theorem dX10_atOrAhead_47 : decode cX10_atOrAhead 47 = .ok (.ireturn, 1) := by decide +kernel
theorem dX10_majorityOf_0 : decode cX10_majorityOf 0 = .ok (.iconst 0, 1) := by decide +kernel
theorem dX10_majorityOf_1 : decode cX10_majorityOf 1 = .ok (.istore_n 2, 1) := by decide +kernel
theorem dX10_majorityOf_2 : decode cX10_majorityOf 2 = .ok (.iconst 2, 1) := by decide +kernel
theorem dX10_majorityOf_3 : decode cX10_majorityOf 3 = .ok (.aload_n 0, 1) := by decide +kernel
theorem dX10_majorityOf_4 : decode cX10_majorityOf 4 = .ok (.iload_n 1, 1) := by decide +kernel
theorem dX10_majorityOf_5 : decode cX10_majorityOf 5 = .ok (.iload_n 2, 1) := by decide +kernel
theorem dX10_majorityOf_6 : decode cX10_majorityOf 6 = .ok (.invokevirtual 453, 3) := by decide +kernel
theorem dX10_majorityOf_9 : decode cX10_majorityOf 9 = .ok (.imul, 1) := by decide +kernel
theorem dX10_majorityOf_10 : decode cX10_majorityOf 10 = .ok (.aload_n 0, 1) := by decide +kernel
theorem dX10_majorityOf_11 : decode cX10_majorityOf 11 = .ok (.getfield 81, 3) := by decide +kernel
theorem dX10_majorityOf_14 : decode cX10_majorityOf 14 = .ok (.iconst 2, 1) := by decide +kernel
theorem dX10_majorityOf_15 : decode cX10_majorityOf 15 = .ok (.iaload, 1) := by decide +kernel
theorem dX10_majorityOf_16 : decode cX10_majorityOf 16 = .ok (.if_icmp .gt 9, 3) := by decide +kernel
theorem dX10_majorityOf_19 : decode cX10_majorityOf 19 = .ok (.iinc 2 1, 3) := by decide +kernel
theorem dX10_majorityOf_22 : decode cX10_majorityOf 22 = .ok (.goto (-20), 3) := by decide +kernel
theorem dX10_majorityOf_25 : decode cX10_majorityOf 25 = .ok (.iload_n 2, 1) := by decide +kernel
theorem dX10_majorityOf_26 : decode cX10_majorityOf 26 = .ok (.ireturn, 1) := by decide +kernel
theorem dX10_majority_0 : decode cX10_majority 0 = .ok (.aload_n 0, 1) := by decide +kernel
theorem dX10_majority_1 : decode cX10_majority 1 = .ok (.iconst 0, 1) := by decide +kernel
theorem dX10_majority_2 : decode cX10_majority 2 = .ok (.putfield 3, 3) := by decide +kernel
theorem dX10_majority_5 : decode cX10_majority 5 = .ok (.aload_n 0, 1) := by decide +kernel
theorem dX10_majority_6 : decode cX10_majority 6 = .ok (.iload_n 1, 1) := by decide +kernel
theorem dX10_majority_7 : decode cX10_majority 7 = .ok (.invokevirtual 411, 3) := by decide +kernel
theorem dX10_majority_10 : decode cX10_majority 10 = .ok (.ifCond .eq 5, 3) := by decide +kernel
theorem dX10_majority_13 : decode cX10_majority 13 = .ok (.iconst 0, 1) := by decide +kernel
theorem dX10_majority_14 : decode cX10_majority 14 = .ok (.ireturn, 1) := by decide +kernel
theorem dX10_majority_15 : decode cX10_majority 15 = .ok (.aload_n 0, 1) := by decide +kernel
theorem dX10_majority_16 : decode cX10_majority 16 = .ok (.invokevirtual 450, 3) := by decide +kernel
theorem dX10_majority_19 : decode cX10_majority 19 = .ok (.aload_n 0, 1) := by decide +kernel
theorem dX10_majority_20 : decode cX10_majority 20 = .ok (.iload_n 1, 1) := by decide +kernel
theorem dX10_majority_21 : decode cX10_majority 21 = .ok (.invokevirtual 456, 3) := by decide +kernel
theorem dX10_majority_24 : decode cX10_majority 24 = .ok (.ireturn, 1) := by decide +kernel
theorem dX10_placesOf_0 : decode cX10_placesOf 0 = .ok (.iconst 0, 1) := by decide +kernel
theorem dX10_placesOf_1 : decode cX10_placesOf 1 = .ok (.istore_n 2, 1) := by decide +kernel
theorem dX10_placesOf_2 : decode cX10_placesOf 2 = .ok (.iconst 0, 1) := by decide +kernel
theorem dX10_placesOf_3 : decode cX10_placesOf 3 = .ok (.istore_n 3, 1) := by decide +kernel
theorem dX10_placesOf_4 : decode cX10_placesOf 4 = .ok (.iload_n 3, 1) := by decide +kernel
theorem dX10_placesOf_5 : decode cX10_placesOf 5 = .ok (.aload_n 0, 1) := by decide +kernel
theorem dX10_placesOf_6 : decode cX10_placesOf 6 = .ok (.getfield 81, 3) := by decide +kernel
theorem dX10_placesOf_9 : decode cX10_placesOf 9 = .ok (.iconst 2, 1) := by decide +kernel
theorem dX10_placesOf_10 : decode cX10_placesOf 10 = .ok (.iaload, 1) := by decide +kernel
theorem dX10_placesOf_11 : decode cX10_placesOf 11 = .ok (.if_icmp .ge 23, 3) := by decide +kernel
theorem dX10_placesOf_14 : decode cX10_placesOf 14 = .ok (.iload_n 2, 1) := by decide +kernel
theorem dX10_placesOf_15 : decode cX10_placesOf 15 = .ok (.aload_n 0, 1) := by decide +kernel
theorem dX10_placesOf_16 : decode cX10_placesOf 16 = .ok (.getfield 106, 3) := by decide +kernel
theorem dX10_placesOf_19 : decode cX10_placesOf 19 = .ok (.bipush 9, 2) := by decide +kernel
theorem dX10_placesOf_21 : decode cX10_placesOf 21 = .ok (.iload_n 1, 1) := by decide +kernel
theorem dX10_placesOf_22 : decode cX10_placesOf 22 = .ok (.imul, 1) := by decide +kernel
theorem dX10_placesOf_23 : decode cX10_placesOf 23 = .ok (.iload_n 3, 1) := by decide +kernel
theorem dX10_placesOf_24 : decode cX10_placesOf 24 = .ok (.iadd, 1) := by decide +kernel
theorem dX10_placesOf_25 : decode cX10_placesOf 25 = .ok (.iaload, 1) := by decide +kernel
theorem dX10_placesOf_26 : decode cX10_placesOf 26 = .ok (.iadd, 1) := by decide +kernel
theorem dX10_placesOf_27 : decode cX10_placesOf 27 = .ok (.istore_n 2, 1) := by decide +kernel
theorem dX10_placesOf_28 : decode cX10_placesOf 28 = .ok (.iinc 3 1, 3) := by decide +kernel
theorem dX10_placesOf_31 : decode cX10_placesOf 31 = .ok (.goto (-27), 3) := by decide +kernel
theorem dX10_placesOf_34 : decode cX10_placesOf 34 = .ok (.iload_n 2, 1) := by decide +kernel
theorem dX10_placesOf_35 : decode cX10_placesOf 35 = .ok (.ireturn, 1) := by decide +kernel
theorem dX10_isMajor_0 : decode cX10_isMajor 0 = .ok (.aload_n 0, 1) := by decide +kernel
theorem dX10_isMajor_1 : decode cX10_isMajor 1 = .ok (.iload_n 1, 1) := by decide +kernel
theorem dX10_isMajor_2 : decode cX10_isMajor 2 = .ok (.invokevirtual 456, 3) := by decide +kernel
theorem dX10_isMajor_5 : decode cX10_isMajor 5 = .ok (.aload_n 0, 1) := by decide +kernel
theorem dX10_isMajor_6 : decode cX10_isMajor 6 = .ok (.iload_n 2, 1) := by decide +kernel
theorem dX10_isMajor_7 : decode cX10_isMajor 7 = .ok (.invokevirtual 456, 3) := by decide +kernel
theorem dX10_isMajor_10 : decode cX10_isMajor 10 = .ok (.isub, 1) := by decide +kernel
theorem dX10_isMajor_11 : decode cX10_isMajor 11 = .ok (.istore_n 3, 1) := by decide +kernel
theorem dX10_isMajor_12 : decode cX10_isMajor 12 = .ok (.iload_n 3, 1) := by decide +kernel
theorem dX10_isMajor_13 : decode cX10_isMajor 13 = .ok (.ifCond .ne 25, 3) := by decide +kernel
theorem dX10_isMajor_16 : decode cX10_isMajor 16 = .ok (.aload_n 0, 1) := by decide +kernel
theorem dX10_isMajor_17 : decode cX10_isMajor 17 = .ok (.iload_n 2, 1) := by decide +kernel
theorem dX10_isMajor_18 : decode cX10_isMajor 18 = .ok (.aload_n 0, 1) := by decide +kernel
theorem dX10_isMajor_19 : decode cX10_isMajor 19 = .ok (.iload_n 2, 1) := by decide +kernel
theorem dX10_isMajor_20 : decode cX10_isMajor 20 = .ok (.invokevirtual 456, 3) := by decide +kernel
theorem dX10_isMajor_23 : decode cX10_isMajor 23 = .ok (.invokevirtual 453, 3) := by decide +kernel
theorem dX10_isMajor_26 : decode cX10_isMajor 26 = .ok (.aload_n 0, 1) := by decide +kernel
theorem dX10_isMajor_27 : decode cX10_isMajor 27 = .ok (.iload_n 1, 1) := by decide +kernel
theorem dX10_isMajor_28 : decode cX10_isMajor 28 = .ok (.aload_n 0, 1) := by decide +kernel
theorem dX10_isMajor_29 : decode cX10_isMajor 29 = .ok (.iload_n 1, 1) := by decide +kernel
theorem dX10_isMajor_30 : decode cX10_isMajor 30 = .ok (.invokevirtual 456, 3) := by decide +kernel
theorem dX10_isMajor_33 : decode cX10_isMajor 33 = .ok (.invokevirtual 453, 3) := by decide +kernel
theorem dX10_isMajor_36 : decode cX10_isMajor 36 = .ok (.isub, 1) := by decide +kernel
theorem dX10_isMajor_37 : decode cX10_isMajor 37 = .ok (.istore_n 3, 1) := by decide +kernel
theorem dX10_isMajor_38 : decode cX10_isMajor 38 = .ok (.iload_n 3, 1) := by decide +kernel
theorem dX10_isMajor_39 : decode cX10_isMajor 39 = .ok (.ifCond .ne 15, 3) := by decide +kernel
theorem dX10_isMajor_42 : decode cX10_isMajor 42 = .ok (.aload_n 0, 1) := by decide +kernel
theorem dX10_isMajor_43 : decode cX10_isMajor 43 = .ok (.iload_n 1, 1) := by decide +kernel
theorem dX10_isMajor_44 : decode cX10_isMajor 44 = .ok (.invokevirtual 459, 3) := by decide +kernel
theorem dX10_isMajor_47 : decode cX10_isMajor 47 = .ok (.aload_n 0, 1) := by decide +kernel
theorem dX10_isMajor_48 : decode cX10_isMajor 48 = .ok (.iload_n 2, 1) := by decide +kernel
theorem dX10_isMajor_49 : decode cX10_isMajor 49 = .ok (.invokevirtual 459, 3) := by decide +kernel
theorem dX10_isMajor_52 : decode cX10_isMajor 52 = .ok (.isub, 1) := by decide +kernel
theorem dX10_isMajor_53 : decode cX10_isMajor 53 = .ok (.istore_n 3, 1) := by decide +kernel
theorem dX10_isMajor_54 : decode cX10_isMajor 54 = .ok (.iload_n 3, 1) := by decide +kernel
theorem dX10_isMajor_55 : decode cX10_isMajor 55 = .ok (.ifCond .lt 12, 3) := by decide +kernel
theorem dX10_isMajor_58 : decode cX10_isMajor 58 = .ok (.iload_n 3, 1) := by decide +kernel
theorem dX10_isMajor_59 : decode cX10_isMajor 59 = .ok (.ifCond .ne 12, 3) := by decide +kernel
theorem dX10_isMajor_62 : decode cX10_isMajor 62 = .ok (.iload_n 1, 1) := by decide +kernel
theorem dX10_isMajor_63 : decode cX10_isMajor 63 = .ok (.iload_n 2, 1) := by decide +kernel
theorem dX10_isMajor_64 : decode cX10_isMajor 64 = .ok (.if_icmp .ge 7, 3) := by decide +kernel
theorem dX10_isMajor_67 : decode cX10_isMajor 67 = .ok (.iconst 1, 1) := by decide +kernel
theorem dX10_isMajor_68 : decode cX10_isMajor 68 = .ok (.goto 4, 3) := by decide +kernel
theorem dX10_isMajor_71 : decode cX10_isMajor 71 = .ok (.iconst 0, 1) := by decide +kernel
theorem dX10_isMajor_72 : decode cX10_isMajor 72 = .ok (.ireturn, 1) := by decide +kernel
theorem dX10_major_0 : decode cX10_major 0 = .ok (.aload_n 0, 1) := by decide +kernel
theorem dX10_major_1 : decode cX10_major 1 = .ok (.iconst 0, 1) := by decide +kernel
theorem dX10_major_2 : decode cX10_major 2 = .ok (.putfield 3, 3) := by decide +kernel
theorem dX10_major_5 : decode cX10_major 5 = .ok (.aload_n 0, 1) := by decide +kernel
theorem dX10_major_6 : decode cX10_major 6 = .ok (.invokevirtual 450, 3) := by decide +kernel
theorem dX10_major_9 : decode cX10_major 9 = .ok (.iconst 0, 1) := by decide +kernel
theorem dX10_major_10 : decode cX10_major 10 = .ok (.istore_n 2, 1) := by decide +kernel
theorem dX10_major_11 : decode cX10_major 11 = .ok (.iload_n 2, 1) := by decide +kernel
theorem dX10_major_12 : decode cX10_major 12 = .ok (.aload_n 0, 1) := by decide +kernel
theorem dX10_major_13 : decode cX10_major 13 = .ok (.getfield 81, 3) := by decide +kernel
theorem dX10_major_16 : decode cX10_major 16 = .ok (.iconst 1, 1) := by decide +kernel
theorem dX10_major_17 : decode cX10_major 17 = .ok (.iaload, 1) := by decide +kernel
theorem dX10_major_18 : decode cX10_major 18 = .ok (.if_icmp .ge 62, 3) := by decide +kernel
theorem dX10_major_21 : decode cX10_major 21 = .ok (.iconst 0, 1) := by decide +kernel
theorem dX10_major_22 : decode cX10_major 22 = .ok (.istore_n 3, 1) := by decide +kernel
theorem dX10_major_23 : decode cX10_major 23 = .ok (.iconst 0, 1) := by decide +kernel
theorem dX10_major_24 : decode cX10_major 24 = .ok (.istore 4, 2) := by decide +kernel
theorem dX10_major_26 : decode cX10_major 26 = .ok (.iload 4, 2) := by decide +kernel
theorem dX10_major_28 : decode cX10_major 28 = .ok (.aload_n 0, 1) := by decide +kernel
theorem dX10_major_29 : decode cX10_major 29 = .ok (.getfield 81, 3) := by decide +kernel
theorem dX10_major_32 : decode cX10_major 32 = .ok (.iconst 1, 1) := by decide +kernel
theorem dX10_major_33 : decode cX10_major 33 = .ok (.iaload, 1) := by decide +kernel
theorem dX10_major_34 : decode cX10_major 34 = .ok (.if_icmp .ge 33, 3) := by decide +kernel
theorem dX10_major_37 : decode cX10_major 37 = .ok (.iload_n 3, 1) := by decide +kernel
theorem dX10_major_38 : decode cX10_major 38 = .ok (.iload 4, 2) := by decide +kernel
theorem dX10_major_40 : decode cX10_major 40 = .ok (.iload_n 2, 1) := by decide +kernel
theorem dX10_major_41 : decode cX10_major 41 = .ok (.if_icmp .eq 17, 3) := by decide +kernel
theorem dX10_major_44 : decode cX10_major 44 = .ok (.aload_n 0, 1) := by decide +kernel
theorem dX10_major_45 : decode cX10_major 45 = .ok (.iload 4, 2) := by decide +kernel
theorem dX10_major_47 : decode cX10_major 47 = .ok (.iload_n 2, 1) := by decide +kernel
theorem dX10_major_48 : decode cX10_major 48 = .ok (.invokevirtual 462, 3) := by decide +kernel
theorem dX10_major_51 : decode cX10_major 51 = .ok (.ifCond .eq 7, 3) := by decide +kernel
theorem dX10_major_54 : decode cX10_major 54 = .ok (.iconst 1, 1) := by decide +kernel
theorem dX10_major_55 : decode cX10_major 55 = .ok (.goto 4, 3) := by decide +kernel
theorem dX10_major_58 : decode cX10_major 58 = .ok (.iconst 0, 1) := by decide +kernel
theorem dX10_major_59 : decode cX10_major 59 = .ok (.iadd, 1) := by decide +kernel
theorem dX10_major_60 : decode cX10_major 60 = .ok (.istore_n 3, 1) := by decide +kernel
theorem dX10_major_61 : decode cX10_major 61 = .ok (.iinc 4 1, 3) := by decide +kernel
theorem dX10_major_64 : decode cX10_major 64 = .ok (.goto (-38), 3) := by decide +kernel
theorem dX10_major_67 : decode cX10_major 67 = .ok (.iload_n 3, 1) := by decide +kernel
theorem dX10_major_68 : decode cX10_major 68 = .ok (.iload_n 1, 1) := by decide +kernel
theorem dX10_major_69 : decode cX10_major 69 = .ok (.if_icmp .ne 5, 3) := by decide +kernel
theorem dX10_major_72 : decode cX10_major 72 = .ok (.iload_n 2, 1) := by decide +kernel
theorem dX10_major_73 : decode cX10_major 73 = .ok (.ireturn, 1) := by decide +kernel
theorem dX10_major_74 : decode cX10_major 74 = .ok (.iinc 2 1, 3) := by decide +kernel
theorem dX10_major_77 : decode cX10_major 77 = .ok (.goto (-66), 3) := by decide +kernel
theorem dX10_major_80 : decode cX10_major 80 = .ok (.iconst (-1), 1) := by decide +kernel
theorem dX10_major_81 : decode cX10_major 81 = .ok (.ireturn, 1) := by decide +kernel
theorem dX10_panel_0 : decode cX10_panel 0 = .ok (.aload_n 0, 1) := by decide +kernel
theorem dX10_panel_1 : decode cX10_panel 1 = .ok (.iconst 0, 1) := by decide +kernel
theorem dX10_panel_2 : decode cX10_panel 2 = .ok (.putfield 3, 3) := by decide +kernel
theorem dX10_panel_5 : decode cX10_panel 5 = .ok (.aload_n 0, 1) := by decide +kernel
theorem dX10_panel_6 : decode cX10_panel 6 = .ok (.iload_n 2, 1) := by decide +kernel
theorem dX10_panel_7 : decode cX10_panel 7 = .ok (.iconst 1, 1) := by decide +kernel
theorem dX10_panel_8 : decode cX10_panel 8 = .ok (.aload_n 0, 1) := by decide +kernel
theorem dX10_panel_9 : decode cX10_panel 9 = .ok (.getfield 81, 3) := by decide +kernel
theorem dX10_panel_12 : decode cX10_panel 12 = .ok (.iconst 2, 1) := by decide +kernel
theorem dX10_panel_13 : decode cX10_panel 13 = .ok (.iaload, 1) := by decide +kernel
theorem dX10_panel_14 : decode cX10_panel 14 = .ok (.invokestatic 69, 3) := by decide +kernel
theorem dX10_panel_17 : decode cX10_panel 17 = .ok (.ifCond .ne 7, 3) := by decide +kernel
theorem dX10_panel_20 : decode cX10_panel 20 = .ok (.iconst 1, 1) := by decide +kernel
theorem dX10_panel_21 : decode cX10_panel 21 = .ok (.goto 4, 3) := by decide +kernel
theorem dX10_panel_24 : decode cX10_panel 24 = .ok (.iconst 0, 1) := by decide +kernel
theorem dX10_panel_25 : decode cX10_panel 25 = .ok (.iconst 1, 1) := by decide +kernel
theorem dX10_panel_26 : decode cX10_panel 26 = .ok (.invokevirtual 268, 3) := by decide +kernel
theorem dX10_panel_29 : decode cX10_panel 29 = .ok (.ifCond .eq 5, 3) := by decide +kernel
theorem dX10_panel_32 : decode cX10_panel 32 = .ok (.iconst 0, 1) := by decide +kernel
theorem dX10_panel_33 : decode cX10_panel 33 = .ok (.ireturn, 1) := by decide +kernel
theorem dX10_panel_34 : decode cX10_panel 34 = .ok (.iload_n 1, 1) := by decide +kernel
theorem dX10_panel_35 : decode cX10_panel 35 = .ok (.istore_n 3, 1) := by decide +kernel
theorem dX10_panel_36 : decode cX10_panel 36 = .ok (.iconst 0, 1) := by decide +kernel
theorem dX10_panel_37 : decode cX10_panel 37 = .ok (.istore 4, 2) := by decide +kernel
theorem dX10_panel_39 : decode cX10_panel 39 = .ok (.aload_n 0, 1) := by decide +kernel
theorem dX10_panel_40 : decode cX10_panel 40 = .ok (.getfield 81, 3) := by decide +kernel
theorem dX10_panel_43 : decode cX10_panel 43 = .ok (.iconst 2, 1) := by decide +kernel
theorem dX10_panel_44 : decode cX10_panel 44 = .ok (.iaload, 1) := by decide +kernel
theorem dX10_panel_45 : decode cX10_panel 45 = .ok (.istore 5, 2) := by decide +kernel
theorem dX10_panel_47 : decode cX10_panel 47 = .ok (.iload 5, 2) := by decide +kernel
theorem dX10_panel_49 : decode cX10_panel 49 = .ok (.aload_n 0, 1) := by decide +kernel
theorem dX10_panel_50 : decode cX10_panel 50 = .ok (.getfield 81, 3) := by decide +kernel
theorem dX10_panel_53 : decode cX10_panel 53 = .ok (.iconst 2, 1) := by decide +kernel
theorem dX10_panel_54 : decode cX10_panel 54 = .ok (.iaload, 1) := by decide +kernel
theorem dX10_panel_55 : decode cX10_panel 55 = .ok (.iload_n 2, 1) := by decide +kernel
theorem dX10_panel_56 : decode cX10_panel 56 = .ok (.isub, 1) := by decide +kernel
theorem dX10_panel_57 : decode cX10_panel 57 = .ok (.if_icmp .le 85, 3) := by decide +kernel
theorem dX10_panel_60 : decode cX10_panel 60 = .ok (.ldc_w 465, 3) := by decide +kernel
theorem dX10_panel_63 : decode cX10_panel 63 = .ok (.iload_n 3, 1) := by decide +kernel
theorem dX10_panel_64 : decode cX10_panel 64 = .ok (.imul, 1) := by decide +kernel
theorem dX10_panel_65 : decode cX10_panel 65 = .ok (.sipush 12345, 3) := by decide +kernel
theorem dX10_panel_68 : decode cX10_panel 68 = .ok (.iadd, 1) := by decide +kernel
theorem dX10_panel_69 : decode cX10_panel 69 = .ok (.istore_n 3, 1) := by decide +kernel
theorem dX10_panel_70 : decode cX10_panel 70 = .ok (.iload_n 3, 1) := by decide +kernel
theorem dX10_panel_71 : decode cX10_panel 71 = .ok (.bipush 16, 2) := by decide +kernel
theorem dX10_panel_73 : decode cX10_panel 73 = .ok (.ishr, 1) := by decide +kernel
theorem dX10_panel_74 : decode cX10_panel 74 = .ok (.sipush 32767, 3) := by decide +kernel
theorem dX10_panel_77 : decode cX10_panel 77 = .ok (.iand, 1) := by decide +kernel
theorem dX10_panel_78 : decode cX10_panel 78 = .ok (.iload 5, 2) := by decide +kernel
theorem dX10_panel_80 : decode cX10_panel 80 = .ok (.irem, 1) := by decide +kernel
theorem dX10_panel_81 : decode cX10_panel 81 = .ok (.istore 6, 2) := by decide +kernel
theorem dX10_panel_83 : decode cX10_panel 83 = .ok (.iconst 0, 1) := by decide +kernel
theorem dX10_panel_84 : decode cX10_panel 84 = .ok (.istore 7, 2) := by decide +kernel
theorem dX10_panel_86 : decode cX10_panel 86 = .ok (.iload 4, 2) := by decide +kernel
theorem dX10_panel_88 : decode cX10_panel 88 = .ok (.iload 7, 2) := by decide +kernel
theorem dX10_panel_90 : decode cX10_panel 90 = .ok (.invokestatic 212, 3) := by decide +kernel
theorem dX10_panel_93 : decode cX10_panel 93 = .ok (.ifCond .ne 8, 3) := by decide +kernel
theorem dX10_panel_96 : decode cX10_panel 96 = .ok (.iload 6, 2) := by decide +kernel
theorem dX10_panel_98 : decode cX10_panel 98 = .ok (.ifCond .le 29, 3) := by decide +kernel
theorem dX10_panel_101 : decode cX10_panel 101 = .ok (.iload 6, 2) := by decide +kernel
theorem dX10_panel_103 : decode cX10_panel 103 = .ok (.iload 4, 2) := by decide +kernel
theorem dX10_panel_105 : decode cX10_panel 105 = .ok (.iload 7, 2) := by decide +kernel
theorem dX10_panel_107 : decode cX10_panel 107 = .ok (.invokestatic 212, 3) := by decide +kernel
theorem dX10_panel_110 : decode cX10_panel 110 = .ok (.ifCond .eq 7, 3) := by decide +kernel
theorem dX10_panel_113 : decode cX10_panel 113 = .ok (.iconst 0, 1) := by decide +kernel
theorem dX10_panel_114 : decode cX10_panel 114 = .ok (.goto 4, 3) := by decide +kernel
theorem dX10_panel_117 : decode cX10_panel 117 = .ok (.iconst 1, 1) := by decide +kernel
theorem dX10_panel_118 : decode cX10_panel 118 = .ok (.isub, 1) := by decide +kernel
theorem dX10_panel_119 : decode cX10_panel 119 = .ok (.istore 6, 2) := by decide +kernel
theorem dX10_panel_121 : decode cX10_panel 121 = .ok (.iinc 7 1, 3) := by decide +kernel
theorem dX10_panel_124 : decode cX10_panel 124 = .ok (.goto (-38), 3) := by decide +kernel
theorem dX10_panel_127 : decode cX10_panel 127 = .ok (.iload 4, 2) := by decide +kernel
theorem dX10_panel_129 : decode cX10_panel 129 = .ok (.iconst 1, 1) := by decide +kernel
theorem dX10_panel_130 : decode cX10_panel 130 = .ok (.iload 7, 2) := by decide +kernel
theorem dX10_panel_132 : decode cX10_panel 132 = .ok (.ishl, 1) := by decide +kernel
theorem dX10_panel_133 : decode cX10_panel 133 = .ok (.ior, 1) := by decide +kernel
theorem dX10_panel_134 : decode cX10_panel 134 = .ok (.istore 4, 2) := by decide +kernel
theorem dX10_panel_136 : decode cX10_panel 136 = .ok (.iinc 5 (-1), 3) := by decide +kernel
theorem dX10_panel_139 : decode cX10_panel 139 = .ok (.goto (-92), 3) := by decide +kernel
theorem dX10_panel_142 : decode cX10_panel 142 = .ok (.iload 4, 2) := by decide +kernel
theorem dX10_panel_144 : decode cX10_panel 144 = .ok (.ireturn, 1) := by decide +kernel
theorem dX10_by_0 : decode cX10_by 0 = .ok (.aload_n 0, 1) := by decide +kernel
theorem dX10_by_1 : decode cX10_by 1 = .ok (.iconst 0, 1) := by decide +kernel
theorem dX10_by_2 : decode cX10_by 2 = .ok (.putfield 3, 3) := by decide +kernel
theorem dX10_by_5 : decode cX10_by 5 = .ok (.aload_n 0, 1) := by decide +kernel
theorem dX10_by_6 : decode cX10_by 6 = .ok (.invokevirtual 408, 3) := by decide +kernel
theorem dX10_by_9 : decode cX10_by 9 = .ok (.aload_n 0, 1) := by decide +kernel
theorem dX10_by_10 : decode cX10_by 10 = .ok (.iload_n 1, 1) := by decide +kernel
theorem dX10_by_11 : decode cX10_by 11 = .ok (.invokevirtual 411, 3) := by decide +kernel
theorem dX10_by_14 : decode cX10_by 14 = .ok (.ifCond .ne 31, 3) := by decide +kernel
theorem dX10_by_17 : decode cX10_by 17 = .ok (.aload_n 0, 1) := by decide +kernel
theorem dX10_by_18 : decode cX10_by 18 = .ok (.iload_n 2, 1) := by decide +kernel
theorem dX10_by_19 : decode cX10_by 19 = .ok (.ifCond .eq 14, 3) := by decide +kernel
theorem dX10_by_22 : decode cX10_by 22 = .ok (.iload_n 2, 1) := by decide +kernel
theorem dX10_by_23 : decode cX10_by 23 = .ok (.aload_n 0, 1) := by decide +kernel
theorem dX10_by_24 : decode cX10_by 24 = .ok (.getfield 275, 3) := by decide +kernel
theorem dX10_by_27 : decode cX10_by 27 = .ok (.iconst (-1), 1) := by decide +kernel
theorem dX10_by_28 : decode cX10_by 28 = .ok (.ixor, 1) := by decide +kernel
theorem dX10_by_29 : decode cX10_by 29 = .ok (.iand, 1) := by decide +kernel
theorem dX10_by_30 : decode cX10_by 30 = .ok (.ifCond .eq 7, 3) := by decide +kernel
theorem dX10_by_33 : decode cX10_by 33 = .ok (.iconst 1, 1) := by decide +kernel
theorem dX10_by_34 : decode cX10_by 34 = .ok (.goto 4, 3) := by decide +kernel
theorem dX10_by_37 : decode cX10_by 37 = .ok (.iconst 0, 1) := by decide +kernel
theorem dX10_by_38 : decode cX10_by 38 = .ok (.iconst 2, 1) := by decide +kernel
theorem dX10_by_39 : decode cX10_by 39 = .ok (.invokevirtual 268, 3) := by decide +kernel
theorem dX10_by_42 : decode cX10_by 42 = .ok (.ifCond .eq 5, 3) := by decide +kernel
theorem dX10_by_45 : decode cX10_by 45 = .ok (.iconst 0, 1) := by decide +kernel
theorem dX10_by_46 : decode cX10_by 46 = .ok (.ireturn, 1) := by decide +kernel
theorem dX10_by_47 : decode cX10_by 47 = .ok (.aload_n 0, 1) := by decide +kernel
theorem dX10_by_48 : decode cX10_by 48 = .ok (.iload_n 2, 1) := by decide +kernel
theorem dX10_by_49 : decode cX10_by 49 = .ok (.putfield 275, 3) := by decide +kernel
theorem dX10_by_52 : decode cX10_by 52 = .ok (.aload_n 0, 1) := by decide +kernel
theorem dX10_by_53 : decode cX10_by 53 = .ok (.iload_n 1, 1) := by decide +kernel
theorem dX10_by_54 : decode cX10_by 54 = .ok (.invokevirtual 399, 3) := by decide +kernel
theorem dX10_by_57 : decode cX10_by 57 = .ok (.ireturn, 1) := by decide +kernel
theorem dX10_firsts_0 : decode cX10_firsts 0 = .ok (.aload_n 0, 1) := by decide +kernel
theorem dX10_firsts_1 : decode cX10_firsts 1 = .ok (.iconst 0, 1) := by decide +kernel
theorem dX10_firsts_2 : decode cX10_firsts 2 = .ok (.putfield 3, 3) := by decide +kernel
theorem dX10_firsts_5 : decode cX10_firsts 5 = .ok (.aload_n 0, 1) := by decide +kernel
theorem dX10_firsts_6 : decode cX10_firsts 6 = .ok (.invokevirtual 408, 3) := by decide +kernel
theorem dX10_firsts_9 : decode cX10_firsts 9 = .ok (.aload_n 0, 1) := by decide +kernel
theorem dX10_firsts_10 : decode cX10_firsts 10 = .ok (.iload_n 1, 1) := by decide +kernel
theorem dX10_firsts_11 : decode cX10_firsts 11 = .ok (.invokevirtual 411, 3) := by decide +kernel
theorem dX10_firsts_14 : decode cX10_firsts 14 = .ok (.ifCond .ne 30, 3) := by decide +kernel
theorem dX10_firsts_17 : decode cX10_firsts 17 = .ok (.aload_n 0, 1) := by decide +kernel
theorem dX10_firsts_18 : decode cX10_firsts 18 = .ok (.iload_n 2, 1) := by decide +kernel
theorem dX10_firsts_19 : decode cX10_firsts 19 = .ok (.iconst 1, 1) := by decide +kernel
theorem dX10_firsts_20 : decode cX10_firsts 20 = .ok (.aload_n 0, 1) := by decide +kernel
theorem dX10_firsts_21 : decode cX10_firsts 21 = .ok (.getfield 81, 3) := by decide +kernel
theorem dX10_firsts_24 : decode cX10_firsts 24 = .ok (.iconst 2, 1) := by decide +kernel
theorem dX10_firsts_25 : decode cX10_firsts 25 = .ok (.iaload, 1) := by decide +kernel
theorem dX10_firsts_26 : decode cX10_firsts 26 = .ok (.invokestatic 69, 3) := by decide +kernel
theorem dX10_firsts_29 : decode cX10_firsts 29 = .ok (.ifCond .ne 7, 3) := by decide +kernel
theorem dX10_firsts_32 : decode cX10_firsts 32 = .ok (.iconst 1, 1) := by decide +kernel
theorem dX10_firsts_33 : decode cX10_firsts 33 = .ok (.goto 4, 3) := by decide +kernel
theorem dX10_firsts_36 : decode cX10_firsts 36 = .ok (.iconst 0, 1) := by decide +kernel
theorem dX10_firsts_37 : decode cX10_firsts 37 = .ok (.iconst 2, 1) := by decide +kernel
theorem dX10_firsts_38 : decode cX10_firsts 38 = .ok (.invokevirtual 268, 3) := by decide +kernel
theorem dX10_firsts_41 : decode cX10_firsts 41 = .ok (.ifCond .eq 5, 3) := by decide +kernel
theorem dX10_firsts_44 : decode cX10_firsts 44 = .ok (.iconst 0, 1) := by decide +kernel
theorem dX10_firsts_45 : decode cX10_firsts 45 = .ok (.ireturn, 1) := by decide +kernel
theorem dX10_firsts_46 : decode cX10_firsts 46 = .ok (.iconst 0, 1) := by decide +kernel
theorem dX10_firsts_47 : decode cX10_firsts 47 = .ok (.istore_n 3, 1) := by decide +kernel
theorem dX10_firsts_48 : decode cX10_firsts 48 = .ok (.iconst 1, 1) := by decide +kernel
theorem dX10_firsts_49 : decode cX10_firsts 49 = .ok (.istore 4, 2) := by decide +kernel
theorem dX10_firsts_51 : decode cX10_firsts 51 = .ok (.iload 4, 2) := by decide +kernel
theorem dX10_firsts_53 : decode cX10_firsts 53 = .ok (.iconst 1, 1) := by decide +kernel
theorem dX10_firsts_54 : decode cX10_firsts 54 = .ok (.aload_n 0, 1) := by decide +kernel
theorem dX10_firsts_55 : decode cX10_firsts 55 = .ok (.getfield 81, 3) := by decide +kernel
theorem dX10_firsts_58 : decode cX10_firsts 58 = .ok (.iconst 2, 1) := by decide +kernel
theorem dX10_firsts_59 : decode cX10_firsts 59 = .ok (.iaload, 1) := by decide +kernel
theorem dX10_firsts_60 : decode cX10_firsts 60 = .ok (.ishl, 1) := by decide +kernel
theorem dX10_firsts_61 : decode cX10_firsts 61 = .ok (.if_icmp .ge 47, 3) := by decide +kernel
theorem dX10_firsts_64 : decode cX10_firsts 64 = .ok (.iload 4, 2) := by decide +kernel
theorem dX10_firsts_66 : decode cX10_firsts 66 = .ok (.invokestatic 466, 3) := by decide +kernel
theorem dX10_firsts_69 : decode cX10_firsts 69 = .ok (.iload_n 2, 1) := by decide +kernel
theorem dX10_firsts_70 : decode cX10_firsts 70 = .ok (.if_icmp .eq 6, 3) := by decide +kernel
theorem dX10_firsts_73 : decode cX10_firsts 73 = .ok (.goto 29, 3) := by decide +kernel
theorem dX10_firsts_76 : decode cX10_firsts 76 = .ok (.aload_n 0, 1) := by decide +kernel
theorem dX10_firsts_77 : decode cX10_firsts 77 = .ok (.iload 4, 2) := by decide +kernel
theorem dX10_firsts_79 : decode cX10_firsts 79 = .ok (.putfield 275, 3) := by decide +kernel
theorem dX10_firsts_82 : decode cX10_firsts 82 = .ok (.aload_n 0, 1) := by decide +kernel
theorem dX10_firsts_83 : decode cX10_firsts 83 = .ok (.invokevirtual 429, 3) := by decide +kernel
theorem dX10_firsts_86 : decode cX10_firsts 86 = .ok (.iload_n 3, 1) := by decide +kernel
theorem dX10_firsts_87 : decode cX10_firsts 87 = .ok (.aload_n 0, 1) := by decide +kernel
theorem dX10_firsts_88 : decode cX10_firsts 88 = .ok (.iload_n 1, 1) := by decide +kernel
theorem dX10_firsts_89 : decode cX10_firsts 89 = .ok (.invokevirtual 405, 3) := by decide +kernel
theorem dX10_firsts_92 : decode cX10_firsts 92 = .ok (.ifCond .ne 7, 3) := by decide +kernel
theorem dX10_firsts_95 : decode cX10_firsts 95 = .ok (.iconst 1, 1) := by decide +kernel
theorem dX10_firsts_96 : decode cX10_firsts 96 = .ok (.goto 4, 3) := by decide +kernel
theorem dX10_firsts_99 : decode cX10_firsts 99 = .ok (.iconst 0, 1) := by decide +kernel
theorem dX10_firsts_100 : decode cX10_firsts 100 = .ok (.iadd, 1) := by decide +kernel
theorem dX10_firsts_101 : decode cX10_firsts 101 = .ok (.istore_n 3, 1) := by decide +kernel
theorem dX10_firsts_102 : decode cX10_firsts 102 = .ok (.iinc 4 1, 3) := by decide +kernel
theorem dX10_firsts_105 : decode cX10_firsts 105 = .ok (.goto (-54), 3) := by decide +kernel
theorem dX10_firsts_108 : decode cX10_firsts 108 = .ok (.iload_n 3, 1) := by decide +kernel
theorem dX10_firsts_109 : decode cX10_firsts 109 = .ok (.ireturn, 1) := by decide +kernel
theorem dX10_lastTry_0 : decode cX10_lastTry 0 = .ok (.iconst (-1), 1) := by decide +kernel
theorem dX10_lastTry_1 : decode cX10_lastTry 1 = .ok (.istore_n 2, 1) := by decide +kernel
theorem dX10_lastTry_2 : decode cX10_lastTry 2 = .ok (.iconst 0, 1) := by decide +kernel
theorem dX10_lastTry_3 : decode cX10_lastTry 3 = .ok (.istore_n 3, 1) := by decide +kernel
theorem dX10_lastTry_4 : decode cX10_lastTry 4 = .ok (.iload_n 3, 1) := by decide +kernel
theorem dX10_lastTry_5 : decode cX10_lastTry 5 = .ok (.aload_n 0, 1) := by decide +kernel
theorem dX10_lastTry_6 : decode cX10_lastTry 6 = .ok (.getfield 81, 3) := by decide +kernel
theorem dX10_lastTry_9 : decode cX10_lastTry 9 = .ok (.bipush 116, 2) := by decide +kernel
theorem dX10_lastTry_11 : decode cX10_lastTry 11 = .ok (.iload_n 1, 1) := by decide +kernel
theorem dX10_lastTry_12 : decode cX10_lastTry 12 = .ok (.iadd, 1) := by decide +kernel
theorem dX10_lastTry_13 : decode cX10_lastTry 13 = .ok (.iaload, 1) := by decide +kernel
theorem dX10_lastTry_14 : decode cX10_lastTry 14 = .ok (.if_icmp .ge 24, 3) := by decide +kernel
theorem dX10_lastTry_17 : decode cX10_lastTry 17 = .ok (.aload_n 0, 1) := by decide +kernel
theorem dX10_lastTry_18 : decode cX10_lastTry 18 = .ok (.iload_n 1, 1) := by decide +kernel
theorem dX10_lastTry_19 : decode cX10_lastTry 19 = .ok (.iload_n 3, 1) := by decide +kernel
theorem dX10_lastTry_20 : decode cX10_lastTry 20 = .ok (.invokevirtual 322, 3) := by decide +kernel
theorem dX10_lastTry_23 : decode cX10_lastTry 23 = .ok (.ifCond .eq 7, 3) := by decide +kernel
theorem dX10_lastTry_26 : decode cX10_lastTry 26 = .ok (.iload_n 3, 1) := by decide +kernel
theorem dX10_lastTry_27 : decode cX10_lastTry 27 = .ok (.goto 4, 3) := by decide +kernel
theorem dX10_lastTry_30 : decode cX10_lastTry 30 = .ok (.iload_n 2, 1) := by decide +kernel
theorem dX10_lastTry_31 : decode cX10_lastTry 31 = .ok (.istore_n 2, 1) := by decide +kernel
theorem dX10_lastTry_32 : decode cX10_lastTry 32 = .ok (.iinc 3 1, 3) := by decide +kernel
theorem dX10_lastTry_35 : decode cX10_lastTry 35 = .ok (.goto (-31), 3) := by decide +kernel
theorem dX10_lastTry_38 : decode cX10_lastTry 38 = .ok (.iload_n 2, 1) := by decide +kernel
theorem dX10_lastTry_39 : decode cX10_lastTry 39 = .ok (.ireturn, 1) := by decide +kernel
theorem dX10_needed_0 : decode cX10_needed 0 = .ok (.aload_n 0, 1) := by decide +kernel
theorem dX10_needed_1 : decode cX10_needed 1 = .ok (.iconst 0, 1) := by decide +kernel
theorem dX10_needed_2 : decode cX10_needed 2 = .ok (.putfield 3, 3) := by decide +kernel
theorem dX10_needed_5 : decode cX10_needed 5 = .ok (.aload_n 0, 1) := by decide +kernel
theorem dX10_needed_6 : decode cX10_needed 6 = .ok (.invokevirtual 408, 3) := by decide +kernel
theorem dX10_needed_9 : decode cX10_needed 9 = .ok (.aload_n 0, 1) := by decide +kernel
theorem dX10_needed_10 : decode cX10_needed 10 = .ok (.iload_n 1, 1) := by decide +kernel
theorem dX10_needed_11 : decode cX10_needed 11 = .ok (.invokevirtual 411, 3) := by decide +kernel
theorem dX10_needed_14 : decode cX10_needed 14 = .ok (.ifCond .ne 29, 3) := by decide +kernel
theorem dX10_needed_17 : decode cX10_needed 17 = .ok (.aload_n 0, 1) := by decide +kernel
theorem dX10_needed_18 : decode cX10_needed 18 = .ok (.iload_n 2, 1) := by decide +kernel
theorem dX10_needed_19 : decode cX10_needed 19 = .ok (.invokevirtual 411, 3) := by decide +kernel
theorem dX10_needed_22 : decode cX10_needed 22 = .ok (.ifCond .ne 21, 3) := by decide +kernel
theorem dX10_needed_25 : decode cX10_needed 25 = .ok (.aload_n 0, 1) := by decide +kernel
theorem dX10_needed_26 : decode cX10_needed 26 = .ok (.iload_n 1, 1) := by decide +kernel
theorem dX10_needed_27 : decode cX10_needed 27 = .ok (.iload_n 2, 1) := by decide +kernel
theorem dX10_needed_28 : decode cX10_needed 28 = .ok (.if_icmp .ne 7, 3) := by decide +kernel
theorem dX10_needed_31 : decode cX10_needed 31 = .ok (.iconst 1, 1) := by decide +kernel
theorem dX10_needed_32 : decode cX10_needed 32 = .ok (.goto 4, 3) := by decide +kernel
theorem dX10_needed_35 : decode cX10_needed 35 = .ok (.iconst 0, 1) := by decide +kernel
theorem dX10_needed_36 : decode cX10_needed 36 = .ok (.iconst 2, 1) := by decide +kernel
theorem dX10_needed_37 : decode cX10_needed 37 = .ok (.invokevirtual 268, 3) := by decide +kernel
theorem dX10_needed_40 : decode cX10_needed 40 = .ok (.ifCond .eq 5, 3) := by decide +kernel
theorem dX10_needed_43 : decode cX10_needed 43 = .ok (.iconst 0, 1) := by decide +kernel
theorem dX10_needed_44 : decode cX10_needed 44 = .ok (.ireturn, 1) := by decide +kernel
theorem dX10_needed_45 : decode cX10_needed 45 = .ok (.aload_n 0, 1) := by decide +kernel
theorem dX10_needed_46 : decode cX10_needed 46 = .ok (.iload_n 1, 1) := by decide +kernel
theorem dX10_needed_47 : decode cX10_needed 47 = .ok (.invokevirtual 469, 3) := by decide +kernel
theorem dX10_needed_50 : decode cX10_needed 50 = .ok (.istore_n 3, 1) := by decide +kernel
theorem dX10_needed_51 : decode cX10_needed 51 = .ok (.aload_n 0, 1) := by decide +kernel
theorem dX10_needed_52 : decode cX10_needed 52 = .ok (.iload_n 1, 1) := by decide +kernel
theorem dX10_needed_53 : decode cX10_needed 53 = .ok (.putfield 284, 3) := by decide +kernel
theorem dX10_needed_56 : decode cX10_needed 56 = .ok (.aload_n 0, 1) := by decide +kernel
theorem dX10_needed_57 : decode cX10_needed 57 = .ok (.iload_n 3, 1) := by decide +kernel
theorem dX10_needed_58 : decode cX10_needed 58 = .ok (.putfield 300, 3) := by decide +kernel
theorem dX10_needed_61 : decode cX10_needed 61 = .ok (.bipush (-5), 2) := by decide +kernel
theorem dX10_needed_63 : decode cX10_needed 63 = .ok (.istore 4, 2) := by decide +kernel
theorem dX10_needed_65 : decode cX10_needed 65 = .ok (.iload 4, 2) := by decide +kernel
theorem dX10_needed_67 : decode cX10_needed 67 = .ok (.iconst 5, 1) := by decide +kernel
theorem dX10_needed_68 : decode cX10_needed 68 = .ok (.if_icmp .gt 36, 3) := by decide +kernel
theorem dX10_needed_71 : decode cX10_needed 71 = .ok (.iload_n 3, 1) := by decide +kernel
theorem dX10_needed_72 : decode cX10_needed 72 = .ok (.iconst (-1), 1) := by decide +kernel
theorem dX10_needed_73 : decode cX10_needed 73 = .ok (.if_icmp .eq 31, 3) := by decide +kernel
theorem dX10_needed_76 : decode cX10_needed 76 = .ok (.aload_n 0, 1) := by decide +kernel
theorem dX10_needed_77 : decode cX10_needed 77 = .ok (.iload 4, 2) := by decide +kernel
theorem dX10_needed_79 : decode cX10_needed 79 = .ok (.putfield 303, 3) := by decide +kernel
theorem dX10_needed_82 : decode cX10_needed 82 = .ok (.aload_n 0, 1) := by decide +kernel
theorem dX10_needed_83 : decode cX10_needed 83 = .ok (.invokevirtual 429, 3) := by decide +kernel
theorem dX10_needed_86 : decode cX10_needed 86 = .ok (.aload_n 0, 1) := by decide +kernel
theorem dX10_needed_87 : decode cX10_needed 87 = .ok (.iload_n 1, 1) := by decide +kernel
theorem dX10_needed_88 : decode cX10_needed 88 = .ok (.iload_n 2, 1) := by decide +kernel
theorem dX10_needed_89 : decode cX10_needed 89 = .ok (.invokevirtual 402, 3) := by decide +kernel
theorem dX10_needed_92 : decode cX10_needed 92 = .ok (.ifCond .eq 6, 3) := by decide +kernel
theorem dX10_needed_95 : decode cX10_needed 95 = .ok (.iload 4, 2) := by decide +kernel
theorem dX10_needed_97 : decode cX10_needed 97 = .ok (.ireturn, 1) := by decide +kernel
theorem dX10_needed_98 : decode cX10_needed 98 = .ok (.iinc 4 1, 3) := by decide +kernel
theorem dX10_needed_101 : decode cX10_needed 101 = .ok (.goto (-36), 3) := by decide +kernel
theorem dX10_needed_104 : decode cX10_needed 104 = .ok (.bipush (-100), 2) := by decide +kernel
theorem dX10_needed_106 : decode cX10_needed 106 = .ok (.ireturn, 1) := by decide +kernel
theorem dX10_raise_0 : decode cX10_raise 0 = .ok (.aload_n 0, 1) := by decide +kernel
theorem dX10_raise_1 : decode cX10_raise 1 = .ok (.iconst 0, 1) := by decide +kernel
theorem dX10_raise_2 : decode cX10_raise 2 = .ok (.putfield 3, 3) := by decide +kernel
theorem dX10_raise_5 : decode cX10_raise 5 = .ok (.aload_n 0, 1) := by decide +kernel
theorem dX10_raise_6 : decode cX10_raise 6 = .ok (.iload_n 1, 1) := by decide +kernel
theorem dX10_raise_7 : decode cX10_raise 7 = .ok (.iload_n 2, 1) := by decide +kernel
theorem dX10_raise_8 : decode cX10_raise 8 = .ok (.invokevirtual 417, 3) := by decide +kernel
theorem dX10_raise_11 : decode cX10_raise 11 = .ok (.ifCond .ne 11, 3) := by decide +kernel
theorem dX10_raise_14 : decode cX10_raise 14 = .ok (.aload_n 0, 1) := by decide +kernel
theorem dX10_raise_15 : decode cX10_raise 15 = .ok (.iload_n 3, 1) := by decide +kernel
theorem dX10_raise_16 : decode cX10_raise 16 = .ok (.invokevirtual 423, 3) := by decide +kernel
theorem dX10_raise_19 : decode cX10_raise 19 = .ok (.ifCond .eq 5, 3) := by decide +kernel
theorem dX10_raise_22 : decode cX10_raise 22 = .ok (.iconst 0, 1) := by decide +kernel
theorem dX10_raise_23 : decode cX10_raise 23 = .ok (.ireturn, 1) := by decide +kernel
theorem dX10_raise_24 : decode cX10_raise 24 = .ok (.iconst 0, 1) := by decide +kernel
theorem dX10_raise_25 : decode cX10_raise 25 = .ok (.bipush 9, 2) := by decide +kernel
theorem dX10_raise_27 : decode cX10_raise 27 = .ok (.iload_n 1, 1) := by decide +kernel
theorem dX10_raise_28 : decode cX10_raise 28 = .ok (.iload_n 2, 1) := by decide +kernel
theorem dX10_raise_29 : decode cX10_raise 29 = .ok (.invokestatic 199, 3) := by decide +kernel
theorem dX10_raise_32 : decode cX10_raise 32 = .ok (.imul, 1) := by decide +kernel
theorem dX10_raise_33 : decode cX10_raise 33 = .ok (.iadd, 1) := by decide +kernel
theorem dX10_raise_34 : decode cX10_raise 34 = .ok (.iload_n 3, 1) := by decide +kernel
theorem dX10_raise_35 : decode cX10_raise 35 = .ok (.iadd, 1) := by decide +kernel
theorem dX10_raise_36 : decode cX10_raise 36 = .ok (.istore 4, 2) := by decide +kernel
theorem dX10_raise_38 : decode cX10_raise 38 = .ok (.aload_n 0, 1) := by decide +kernel
theorem dX10_raise_39 : decode cX10_raise 39 = .ok (.aload_n 0, 1) := by decide +kernel
theorem dX10_raise_40 : decode cX10_raise 40 = .ok (.getfield 84, 3) := by decide +kernel
theorem dX10_raise_43 : decode cX10_raise 43 = .ok (.iload 4, 2) := by decide +kernel
theorem dX10_raise_45 : decode cX10_raise 45 = .ok (.iaload, 1) := by decide +kernel
theorem dX10_raise_46 : decode cX10_raise 46 = .ok (.iconst 5, 1) := by decide +kernel
theorem dX10_raise_47 : decode cX10_raise 47 = .ok (.if_icmp .ne 7, 3) := by decide +kernel
theorem dX10_raise_50 : decode cX10_raise 50 = .ok (.iconst 1, 1) := by decide +kernel
theorem dX10_raise_51 : decode cX10_raise 51 = .ok (.goto 4, 3) := by decide +kernel
theorem dX10_raise_54 : decode cX10_raise 54 = .ok (.iconst 0, 1) := by decide +kernel
theorem dX10_raise_55 : decode cX10_raise 55 = .ok (.iconst 2, 1) := by decide +kernel
theorem dX10_raise_56 : decode cX10_raise 56 = .ok (.invokevirtual 268, 3) := by decide +kernel
theorem dX10_raise_59 : decode cX10_raise 59 = .ok (.ifCond .eq 5, 3) := by decide +kernel
theorem dX10_raise_62 : decode cX10_raise 62 = .ok (.iconst 0, 1) := by decide +kernel
theorem dX10_raise_63 : decode cX10_raise 63 = .ok (.ireturn, 1) := by decide +kernel
theorem dX10_raise_64 : decode cX10_raise 64 = .ok (.aload_n 0, 1) := by decide +kernel
theorem dX10_raise_65 : decode cX10_raise 65 = .ok (.iload_n 1, 1) := by decide +kernel
theorem dX10_raise_66 : decode cX10_raise 66 = .ok (.invokevirtual 399, 3) := by decide +kernel
theorem dX10_raise_69 : decode cX10_raise 69 = .ok (.istore 5, 2) := by decide +kernel
theorem dX10_raise_71 : decode cX10_raise 71 = .ok (.aload_n 0, 1) := by decide +kernel
theorem dX10_raise_72 : decode cX10_raise 72 = .ok (.getfield 84, 3) := by decide +kernel
theorem dX10_raise_75 : decode cX10_raise 75 = .ok (.iload 4, 2) := by decide +kernel
theorem dX10_raise_77 : decode cX10_raise 77 = .ok (.dup2, 1) := by decide +kernel
theorem dX10_raise_78 : decode cX10_raise 78 = .ok (.iaload, 1) := by decide +kernel
theorem dX10_raise_79 : decode cX10_raise 79 = .ok (.iconst 1, 1) := by decide +kernel
theorem dX10_raise_80 : decode cX10_raise 80 = .ok (.iadd, 1) := by decide +kernel
theorem dX10_raise_81 : decode cX10_raise 81 = .ok (.iastore, 1) := by decide +kernel
theorem dX10_raise_82 : decode cX10_raise 82 = .ok (.aload_n 0, 1) := by decide +kernel
theorem dX10_raise_83 : decode cX10_raise 83 = .ok (.iload_n 1, 1) := by decide +kernel
theorem dX10_raise_84 : decode cX10_raise 84 = .ok (.invokevirtual 399, 3) := by decide +kernel
theorem dX10_raise_87 : decode cX10_raise 87 = .ok (.istore 6, 2) := by decide +kernel
theorem dX10_raise_89 : decode cX10_raise 89 = .ok (.aload_n 0, 1) := by decide +kernel
theorem dX10_raise_90 : decode cX10_raise 90 = .ok (.getfield 84, 3) := by decide +kernel
theorem dX10_raise_93 : decode cX10_raise 93 = .ok (.iload 4, 2) := by decide +kernel
theorem dX10_raise_95 : decode cX10_raise 95 = .ok (.dup2, 1) := by decide +kernel
theorem dX10_raise_96 : decode cX10_raise 96 = .ok (.iaload, 1) := by decide +kernel
theorem dX10_raise_97 : decode cX10_raise 97 = .ok (.iconst 1, 1) := by decide +kernel
theorem dX10_raise_98 : decode cX10_raise 98 = .ok (.isub, 1) := by decide +kernel
theorem dX10_raise_99 : decode cX10_raise 99 = .ok (.iastore, 1) := by decide +kernel
theorem dX10_raise_100 : decode cX10_raise 100 = .ok (.iload 6, 2) := by decide +kernel
theorem dX10_raise_102 : decode cX10_raise 102 = .ok (.iload 5, 2) := by decide +kernel
theorem dX10_raise_104 : decode cX10_raise 104 = .ok (.isub, 1) := by decide +kernel
theorem dX10_raise_105 : decode cX10_raise 105 = .ok (.ireturn, 1) := by decide +kernel
theorem dX10_prime_0 : decode cX10_prime 0 = .ok (.aload_n 0, 1) := by decide +kernel
theorem dX10_prime_1 : decode cX10_prime 1 = .ok (.iconst 0, 1) := by decide +kernel
theorem dX10_prime_2 : decode cX10_prime 2 = .ok (.putfield 3, 3) := by decide +kernel
theorem dX10_prime_5 : decode cX10_prime 5 = .ok (.aload_n 0, 1) := by decide +kernel
theorem dX10_prime_6 : decode cX10_prime 6 = .ok (.invokevirtual 408, 3) := by decide +kernel
theorem dX10_prime_9 : decode cX10_prime 9 = .ok (.aload_n 0, 1) := by decide +kernel
theorem dX10_prime_10 : decode cX10_prime 10 = .ok (.iload_n 1, 1) := by decide +kernel
theorem dX10_prime_11 : decode cX10_prime 11 = .ok (.invokevirtual 411, 3) := by decide +kernel
theorem dX10_prime_14 : decode cX10_prime 14 = .ok (.ifCond .ne 26, 3) := by decide +kernel
theorem dX10_prime_17 : decode cX10_prime 17 = .ok (.aload_n 0, 1) := by decide +kernel
theorem dX10_prime_18 : decode cX10_prime 18 = .ok (.iload_n 2, 1) := by decide +kernel
theorem dX10_prime_19 : decode cX10_prime 19 = .ok (.iconst 0, 1) := by decide +kernel
theorem dX10_prime_20 : decode cX10_prime 20 = .ok (.bipush 12, 2) := by decide +kernel
theorem dX10_prime_22 : decode cX10_prime 22 = .ok (.invokestatic 69, 3) := by decide +kernel
theorem dX10_prime_25 : decode cX10_prime 25 = .ok (.ifCond .ne 7, 3) := by decide +kernel
theorem dX10_prime_28 : decode cX10_prime 28 = .ok (.iconst 1, 1) := by decide +kernel
theorem dX10_prime_29 : decode cX10_prime 29 = .ok (.goto 4, 3) := by decide +kernel
theorem dX10_prime_32 : decode cX10_prime 32 = .ok (.iconst 0, 1) := by decide +kernel
theorem dX10_prime_33 : decode cX10_prime 33 = .ok (.iconst 2, 1) := by decide +kernel
theorem dX10_prime_34 : decode cX10_prime 34 = .ok (.invokevirtual 268, 3) := by decide +kernel
theorem dX10_prime_37 : decode cX10_prime 37 = .ok (.ifCond .eq 5, 3) := by decide +kernel
theorem dX10_prime_40 : decode cX10_prime 40 = .ok (.iconst 0, 1) := by decide +kernel
theorem dX10_prime_41 : decode cX10_prime 41 = .ok (.ireturn, 1) := by decide +kernel
theorem dX10_prime_42 : decode cX10_prime 42 = .ok (.iconst 0, 1) := by decide +kernel
theorem dX10_prime_43 : decode cX10_prime 43 = .ok (.istore_n 3, 1) := by decide +kernel
theorem dX10_prime_44 : decode cX10_prime 44 = .ok (.iconst 0, 1) := by decide +kernel
theorem dX10_prime_45 : decode cX10_prime 45 = .ok (.istore 4, 2) := by decide +kernel
theorem dX10_prime_47 : decode cX10_prime 47 = .ok (.iload 4, 2) := by decide +kernel
theorem dX10_prime_49 : decode cX10_prime 49 = .ok (.aload_n 0, 1) := by decide +kernel
theorem dX10_prime_50 : decode cX10_prime 50 = .ok (.getfield 81, 3) := by decide +kernel
theorem dX10_prime_53 : decode cX10_prime 53 = .ok (.bipush 116, 2) := by decide +kernel
theorem dX10_prime_55 : decode cX10_prime 55 = .ok (.iload_n 1, 1) := by decide +kernel
theorem dX10_prime_56 : decode cX10_prime 56 = .ok (.iadd, 1) := by decide +kernel
theorem dX10_prime_57 : decode cX10_prime 57 = .ok (.iaload, 1) := by decide +kernel
theorem dX10_prime_58 : decode cX10_prime 58 = .ok (.if_icmp .ge 45, 3) := by decide +kernel
theorem dX10_prime_61 : decode cX10_prime 61 = .ok (.iload_n 3, 1) := by decide +kernel
theorem dX10_prime_62 : decode cX10_prime 62 = .ok (.aload_n 0, 1) := by decide +kernel
theorem dX10_prime_63 : decode cX10_prime 63 = .ok (.iload_n 1, 1) := by decide +kernel
theorem dX10_prime_64 : decode cX10_prime 64 = .ok (.iload 4, 2) := by decide +kernel
theorem dX10_prime_66 : decode cX10_prime 66 = .ok (.invokevirtual 322, 3) := by decide +kernel
theorem dX10_prime_69 : decode cX10_prime 69 = .ok (.ifCond .eq 25, 3) := by decide +kernel
theorem dX10_prime_72 : decode cX10_prime 72 = .ok (.aload_n 0, 1) := by decide +kernel
theorem dX10_prime_73 : decode cX10_prime 73 = .ok (.aload_n 0, 1) := by decide +kernel
theorem dX10_prime_74 : decode cX10_prime 74 = .ok (.iload_n 1, 1) := by decide +kernel
theorem dX10_prime_75 : decode cX10_prime 75 = .ok (.iload 4, 2) := by decide +kernel
theorem dX10_prime_77 : decode cX10_prime 77 = .ok (.iconst 0, 1) := by decide +kernel
theorem dX10_prime_78 : decode cX10_prime 78 = .ok (.invokevirtual 293, 3) := by decide +kernel
theorem dX10_prime_81 : decode cX10_prime 81 = .ok (.invokevirtual 297, 3) := by decide +kernel
theorem dX10_prime_84 : decode cX10_prime 84 = .ok (.ifCond .eq 10, 3) := by decide +kernel
theorem dX10_prime_87 : decode cX10_prime 87 = .ok (.iconst 1, 1) := by decide +kernel
theorem dX10_prime_88 : decode cX10_prime 88 = .ok (.iload 4, 2) := by decide +kernel
theorem dX10_prime_90 : decode cX10_prime 90 = .ok (.ishl, 1) := by decide +kernel
theorem dX10_prime_91 : decode cX10_prime 91 = .ok (.goto 4, 3) := by decide +kernel
theorem dX10_prime_94 : decode cX10_prime 94 = .ok (.iconst 0, 1) := by decide +kernel
theorem dX10_prime_95 : decode cX10_prime 95 = .ok (.ior, 1) := by decide +kernel
theorem dX10_prime_96 : decode cX10_prime 96 = .ok (.istore_n 3, 1) := by decide +kernel
theorem dX10_prime_97 : decode cX10_prime 97 = .ok (.iinc 4 1, 3) := by decide +kernel
theorem dX10_prime_100 : decode cX10_prime 100 = .ok (.goto (-53), 3) := by decide +kernel
theorem dX10_prime_103 : decode cX10_prime 103 = .ok (.iload_n 2, 1) := by decide +kernel
theorem dX10_prime_104 : decode cX10_prime 104 = .ok (.iload_n 3, 1) := by decide +kernel
theorem dX10_prime_105 : decode cX10_prime 105 = .ok (.invokestatic 466, 3) := by decide +kernel
theorem dX10_prime_108 : decode cX10_prime 108 = .ok (.invokestatic 306, 3) := by decide +kernel
theorem dX10_prime_111 : decode cX10_prime 111 = .ok (.istore 4, 2) := by decide +kernel
theorem dX10_prime_113 : decode cX10_prime 113 = .ok (.aload_n 0, 1) := by decide +kernel
theorem dX10_prime_114 : decode cX10_prime 114 = .ok (.iload_n 1, 1) := by decide +kernel
theorem dX10_prime_115 : decode cX10_prime 115 = .ok (.putfield 281, 3) := by decide +kernel
theorem dX10_prime_118 : decode cX10_prime 118 = .ok (.iconst (-1), 1) := by decide +kernel
theorem dX10_prime_119 : decode cX10_prime 119 = .ok (.istore 5, 2) := by decide +kernel
theorem dX10_prime_121 : decode cX10_prime 121 = .ok (.iconst 0, 1) := by decide +kernel
theorem dX10_prime_122 : decode cX10_prime 122 = .ok (.istore 6, 2) := by decide +kernel
theorem dX10_prime_124 : decode cX10_prime 124 = .ok (.iconst 0, 1) := by decide +kernel
theorem dX10_prime_125 : decode cX10_prime 125 = .ok (.istore 7, 2) := by decide +kernel
theorem dX10_prime_127 : decode cX10_prime 127 = .ok (.iload 7, 2) := by decide +kernel
theorem dX10_prime_129 : decode cX10_prime 129 = .ok (.iload_n 3, 1) := by decide +kernel
theorem dX10_prime_130 : decode cX10_prime 130 = .ok (.if_icmp .gt 68, 3) := by decide +kernel
theorem dX10_prime_133 : decode cX10_prime 133 = .ok (.iload 7, 2) := by decide +kernel
theorem dX10_prime_135 : decode cX10_prime 135 = .ok (.iload_n 3, 1) := by decide +kernel
theorem dX10_prime_136 : decode cX10_prime 136 = .ok (.iconst (-1), 1) := by decide +kernel
theorem dX10_prime_137 : decode cX10_prime 137 = .ok (.ixor, 1) := by decide +kernel
theorem dX10_prime_138 : decode cX10_prime 138 = .ok (.iand, 1) := by decide +kernel
theorem dX10_prime_139 : decode cX10_prime 139 = .ok (.ifCond .ne 53, 3) := by decide +kernel
theorem dX10_prime_142 : decode cX10_prime 142 = .ok (.iload 7, 2) := by decide +kernel
theorem dX10_prime_144 : decode cX10_prime 144 = .ok (.invokestatic 466, 3) := by decide +kernel
theorem dX10_prime_147 : decode cX10_prime 147 = .ok (.iload 4, 2) := by decide +kernel
theorem dX10_prime_149 : decode cX10_prime 149 = .ok (.if_icmp .eq 6, 3) := by decide +kernel
theorem dX10_prime_152 : decode cX10_prime 152 = .ok (.goto 40, 3) := by decide +kernel
theorem dX10_prime_155 : decode cX10_prime 155 = .ok (.aload_n 0, 1) := by decide +kernel
theorem dX10_prime_156 : decode cX10_prime 156 = .ok (.iload 7, 2) := by decide +kernel
theorem dX10_prime_158 : decode cX10_prime 158 = .ok (.putfield 290, 3) := by decide +kernel
theorem dX10_prime_161 : decode cX10_prime 161 = .ok (.aload_n 0, 1) := by decide +kernel
theorem dX10_prime_162 : decode cX10_prime 162 = .ok (.iload_n 1, 1) := by decide +kernel
theorem dX10_prime_163 : decode cX10_prime 163 = .ok (.invokevirtual 390, 3) := by decide +kernel
theorem dX10_prime_166 : decode cX10_prime 166 = .ok (.istore 8, 2) := by decide +kernel
theorem dX10_prime_168 : decode cX10_prime 168 = .ok (.iload 5, 2) := by decide +kernel
theorem dX10_prime_170 : decode cX10_prime 170 = .ok (.iconst (-1), 1) := by decide +kernel
theorem dX10_prime_171 : decode cX10_prime 171 = .ok (.if_icmp .eq 13, 3) := by decide +kernel
theorem dX10_prime_174 : decode cX10_prime 174 = .ok (.iload 8, 2) := by decide +kernel
theorem dX10_prime_176 : decode cX10_prime 176 = .ok (.iload 6, 2) := by decide +kernel
theorem dX10_prime_178 : decode cX10_prime 178 = .ok (.if_icmp .gt 6, 3) := by decide +kernel
theorem dX10_prime_181 : decode cX10_prime 181 = .ok (.goto 11, 3) := by decide +kernel
theorem dX10_prime_184 : decode cX10_prime 184 = .ok (.iload 7, 2) := by decide +kernel
theorem dX10_prime_186 : decode cX10_prime 186 = .ok (.istore 5, 2) := by decide +kernel
theorem dX10_prime_188 : decode cX10_prime 188 = .ok (.iload 8, 2) := by decide +kernel
theorem dX10_prime_190 : decode cX10_prime 190 = .ok (.istore 6, 2) := by decide +kernel
theorem dX10_prime_192 : decode cX10_prime 192 = .ok (.iinc 7 1, 3) := by decide +kernel
theorem dX10_prime_195 : decode cX10_prime 195 = .ok (.goto (-68), 3) := by decide +kernel
theorem dX10_prime_198 : decode cX10_prime 198 = .ok (.iload 5, 2) := by decide +kernel
theorem dX10_prime_200 : decode cX10_prime 200 = .ok (.ireturn, 1) := by decide +kernel
theorem dX10_led_0 : decode cX10_led 0 = .ok (.aload_n 0, 1) := by decide +kernel
theorem dX10_led_1 : decode cX10_led 1 = .ok (.iconst 0, 1) := by decide +kernel
theorem dX10_led_2 : decode cX10_led 2 = .ok (.putfield 3, 3) := by decide +kernel
theorem dX10_led_5 : decode cX10_led 5 = .ok (.aload_n 0, 1) := by decide +kernel
theorem dX10_led_6 : decode cX10_led 6 = .ok (.invokevirtual 408, 3) := by decide +kernel
theorem dX10_led_9 : decode cX10_led 9 = .ok (.aload_n 0, 1) := by decide +kernel
theorem dX10_led_10 : decode cX10_led 10 = .ok (.iload_n 1, 1) := by decide +kernel
theorem dX10_led_11 : decode cX10_led 11 = .ok (.iconst 0, 1) := by decide +kernel
theorem dX10_led_12 : decode cX10_led 12 = .ok (.sipush 600, 3) := by decide +kernel
theorem dX10_led_15 : decode cX10_led 15 = .ok (.invokestatic 69, 3) := by decide +kernel
theorem dX10_led_18 : decode cX10_led 18 = .ok (.ifCond .ne 7, 3) := by decide +kernel
theorem dX10_led_21 : decode cX10_led 21 = .ok (.iconst 1, 1) := by decide +kernel
theorem dX10_led_22 : decode cX10_led 22 = .ok (.goto 4, 3) := by decide +kernel
theorem dX10_led_25 : decode cX10_led 25 = .ok (.iconst 0, 1) := by decide +kernel
theorem dX10_led_26 : decode cX10_led 26 = .ok (.iconst 1, 1) := by decide +kernel
theorem dX10_led_27 : decode cX10_led 27 = .ok (.invokevirtual 268, 3) := by decide +kernel
theorem dX10_led_30 : decode cX10_led 30 = .ok (.ifCond .eq 5, 3) := by decide +kernel
theorem dX10_led_33 : decode cX10_led 33 = .ok (.iconst 0, 1) := by decide +kernel
theorem dX10_led_34 : decode cX10_led 34 = .ok (.ireturn, 1) := by decide +kernel
theorem dX10_led_35 : decode cX10_led 35 = .ok (.aload_n 0, 1) := by decide +kernel
theorem dX10_led_36 : decode cX10_led 36 = .ok (.iload_n 1, 1) := by decide +kernel
theorem dX10_led_37 : decode cX10_led 37 = .ok (.putfield 278, 3) := by decide +kernel
theorem dX10_led_40 : decode cX10_led 40 = .ok (.aload_n 0, 1) := by decide +kernel
theorem dX10_led_41 : decode cX10_led 41 = .ok (.invokevirtual 429, 3) := by decide +kernel
theorem dX10_led_44 : decode cX10_led 44 = .ok (.aload_n 0, 1) := by decide +kernel
theorem dX10_led_45 : decode cX10_led 45 = .ok (.iconst 0, 1) := by decide +kernel
theorem dX10_led_46 : decode cX10_led 46 = .ok (.invokevirtual 432, 3) := by decide +kernel
theorem dX10_led_49 : decode cX10_led 49 = .ok (.ireturn, 1) := by decide +kernel
theorem dX10_doubt_0 : decode cX10_doubt 0 = .ok (.aload_n 0, 1) := by decide +kernel
theorem dX10_doubt_1 : decode cX10_doubt 1 = .ok (.iconst 0, 1) := by decide +kernel
theorem dX10_doubt_2 : decode cX10_doubt 2 = .ok (.putfield 3, 3) := by decide +kernel
theorem dX10_doubt_5 : decode cX10_doubt 5 = .ok (.aload_n 0, 1) := by decide +kernel
theorem dX10_doubt_6 : decode cX10_doubt 6 = .ok (.invokevirtual 408, 3) := by decide +kernel
theorem dX10_doubt_9 : decode cX10_doubt 9 = .ok (.aload_n 0, 1) := by decide +kernel
theorem dX10_doubt_10 : decode cX10_doubt 10 = .ok (.iload_n 1, 1) := by decide +kernel
theorem dX10_doubt_11 : decode cX10_doubt 11 = .ok (.invokevirtual 411, 3) := by decide +kernel
theorem dX10_doubt_14 : decode cX10_doubt 14 = .ok (.ifCond .eq 5, 3) := by decide +kernel
theorem dX10_doubt_17 : decode cX10_doubt 17 = .ok (.iconst 0, 1) := by decide +kernel
theorem dX10_doubt_18 : decode cX10_doubt 18 = .ok (.ireturn, 1) := by decide +kernel
theorem dX10_doubt_19 : decode cX10_doubt 19 = .ok (.iconst (-1), 1) := by decide +kernel
theorem dX10_doubt_20 : decode cX10_doubt 20 = .ok (.istore_n 2, 1) := by decide +kernel
theorem dX10_doubt_21 : decode cX10_doubt 21 = .ok (.iconst 0, 1) := by decide +kernel
theorem dX10_doubt_22 : decode cX10_doubt 22 = .ok (.istore_n 3, 1) := by decide +kernel
theorem dX10_doubt_23 : decode cX10_doubt 23 = .ok (.iconst 0, 1) := by decide +kernel
theorem dX10_doubt_24 : decode cX10_doubt 24 = .ok (.istore 4, 2) := by decide +kernel
theorem dX10_doubt_26 : decode cX10_doubt 26 = .ok (.iload 4, 2) := by decide +kernel
theorem dX10_doubt_28 : decode cX10_doubt 28 = .ok (.aload_n 0, 1) := by decide +kernel
theorem dX10_doubt_29 : decode cX10_doubt 29 = .ok (.getfield 81, 3) := by decide +kernel
theorem dX10_doubt_32 : decode cX10_doubt 32 = .ok (.bipush 116, 2) := by decide +kernel
theorem dX10_doubt_34 : decode cX10_doubt 34 = .ok (.iload_n 1, 1) := by decide +kernel
theorem dX10_doubt_35 : decode cX10_doubt 35 = .ok (.iadd, 1) := by decide +kernel
theorem dX10_doubt_36 : decode cX10_doubt 36 = .ok (.iaload, 1) := by decide +kernel
theorem dX10_doubt_37 : decode cX10_doubt 37 = .ok (.if_icmp .ge 108, 3) := by decide +kernel
theorem dX10_doubt_40 : decode cX10_doubt 40 = .ok (.aload_n 0, 1) := by decide +kernel
theorem dX10_doubt_41 : decode cX10_doubt 41 = .ok (.iload_n 1, 1) := by decide +kernel
theorem dX10_doubt_42 : decode cX10_doubt 42 = .ok (.iload 4, 2) := by decide +kernel
theorem dX10_doubt_44 : decode cX10_doubt 44 = .ok (.invokevirtual 322, 3) := by decide +kernel
theorem dX10_doubt_47 : decode cX10_doubt 47 = .ok (.ifCond .ne 6, 3) := by decide +kernel
theorem dX10_doubt_50 : decode cX10_doubt 50 = .ok (.goto 89, 3) := by decide +kernel
theorem dX10_doubt_53 : decode cX10_doubt 53 = .ok (.bipush 100, 2) := by decide +kernel
theorem dX10_doubt_55 : decode cX10_doubt 55 = .ok (.istore 5, 2) := by decide +kernel
theorem dX10_doubt_57 : decode cX10_doubt 57 = .ok (.bipush (-100), 2) := by decide +kernel
theorem dX10_doubt_59 : decode cX10_doubt 59 = .ok (.istore 6, 2) := by decide +kernel
theorem dX10_doubt_61 : decode cX10_doubt 61 = .ok (.iconst 0, 1) := by decide +kernel
theorem dX10_doubt_62 : decode cX10_doubt 62 = .ok (.istore 7, 2) := by decide +kernel
theorem dX10_doubt_64 : decode cX10_doubt 64 = .ok (.iload 7, 2) := by decide +kernel
theorem dX10_doubt_66 : decode cX10_doubt 66 = .ok (.aload_n 0, 1) := by decide +kernel
theorem dX10_doubt_67 : decode cX10_doubt 67 = .ok (.getfield 81, 3) := by decide +kernel
