theorem dX12_init_0 : decode cX12_init 0 = .ok (.aload_n 0, 1) := by decide +kernel
theorem dX12_init_1 : decode cX12_init 1 = .ok (.invokespecial 1, 3) := by decide +kernel
theorem dX12_init_4 : decode cX12_init 4 = .ok (.aload_n 0, 1) := by decide +kernel
theorem dX12_init_5 : decode cX12_init 5 = .ok (.bipush 6, 2) := by decide +kernel
theorem dX12_init_7 : decode cX12_init 7 = .ok (.newarray .int, 2) := by decide +kernel
theorem dX12_init_9 : decode cX12_init 9 = .ok (.putfield 7, 3) := by decide +kernel
theorem dX12_init_12 : decode cX12_init 12 = .ok (.aload_n 0, 1) := by decide +kernel
theorem dX12_init_13 : decode cX12_init 13 = .ok (.bipush 6, 2) := by decide +kernel
theorem dX12_init_15 : decode cX12_init 15 = .ok (.newarray .int, 2) := by decide +kernel
theorem dX12_init_17 : decode cX12_init 17 = .ok (.putfield 13, 3) := by decide +kernel
theorem dX12_init_20 : decode cX12_init 20 = .ok (.aload_n 0, 1) := by decide +kernel
theorem dX12_init_21 : decode cX12_init 21 = .ok (.sipush 2400, 3) := by decide +kernel
theorem dX12_init_24 : decode cX12_init 24 = .ok (.newarray .long, 2) := by decide +kernel
theorem dX12_init_26 : decode cX12_init 26 = .ok (.putfield 16, 3) := by decide +kernel
theorem dX12_init_29 : decode cX12_init 29 = .ok (.aload_n 0, 1) := by decide +kernel
theorem dX12_init_30 : decode cX12_init 30 = .ok (.sipush 400, 3) := by decide +kernel
theorem dX12_init_33 : decode cX12_init 33 = .ok (.newarray .long, 2) := by decide +kernel
theorem dX12_init_35 : decode cX12_init 35 = .ok (.putfield 20, 3) := by decide +kernel
theorem dX12_init_38 : decode cX12_init 38 = .ok (.aload_n 0, 1) := by decide +kernel
theorem dX12_init_39 : decode cX12_init 39 = .ok (.bipush 10, 2) := by decide +kernel
theorem dX12_init_41 : decode cX12_init 41 = .ok (.putfield 23, 3) := by decide +kernel
theorem dX12_init_44 : decode cX12_init 44 = .ok (.aload_n 0, 1) := by decide +kernel
theorem dX12_init_45 : decode cX12_init 45 = .ok (.bipush 10, 2) := by decide +kernel
theorem dX12_init_47 : decode cX12_init 47 = .ok (.putfield 27, 3) := by decide +kernel
theorem dX12_init_50 : decode cX12_init 50 = .ok (.aload_n 0, 1) := by decide +kernel
theorem dX12_init_51 : decode cX12_init 51 = .ok (.iconst 5, 1) := by decide +kernel
theorem dX12_init_52 : decode cX12_init 52 = .ok (.newarray .int, 2) := by decide +kernel
theorem dX12_init_54 : decode cX12_init 54 = .ok (.putfield 30, 3) := by decide +kernel
theorem dX12_init_57 : decode cX12_init 57 = .ok (.aload_n 0, 1) := by decide +kernel
theorem dX12_init_58 : decode cX12_init 58 = .ok (.bipush 20, 2) := by decide +kernel
theorem dX12_init_60 : decode cX12_init 60 = .ok (.newarray .int, 2) := by decide +kernel
theorem dX12_init_62 : decode cX12_init 62 = .ok (.putfield 33, 3) := by decide +kernel
theorem dX12_init_65 : decode cX12_init 65 = .ok (.aload_n 0, 1) := by decide +kernel
theorem dX12_init_66 : decode cX12_init 66 = .ok (.bipush 20, 2) := by decide +kernel
theorem dX12_init_68 : decode cX12_init 68 = .ok (.newarray .int, 2) := by decide +kernel
theorem dX12_init_70 : decode cX12_init 70 = .ok (.putfield 36, 3) := by decide +kernel
theorem dX12_init_73 : decode cX12_init 73 = .ok (.aload_n 0, 1) := by decide +kernel
theorem dX12_init_74 : decode cX12_init 74 = .ok (.bipush 20, 2) := by decide +kernel
theorem dX12_init_76 : decode cX12_init 76 = .ok (.newarray .int, 2) := by decide +kernel
theorem dX12_init_78 : decode cX12_init 78 = .ok (.putfield 39, 3) := by decide +kernel
theorem dX12_init_81 : decode cX12_init 81 = .ok (.aload_n 0, 1) := by decide +kernel
theorem dX12_init_82 : decode cX12_init 82 = .ok (.bipush 20, 2) := by decide +kernel
theorem dX12_init_84 : decode cX12_init 84 = .ok (.newarray .int, 2) := by decide +kernel
theorem dX12_init_86 : decode cX12_init 86 = .ok (.putfield 42, 3) := by decide +kernel
theorem dX12_init_89 : decode cX12_init 89 = .ok (.aload_n 0, 1) := by decide +kernel
theorem dX12_init_90 : decode cX12_init 90 = .ok (.bipush 20, 2) := by decide +kernel
theorem dX12_init_92 : decode cX12_init 92 = .ok (.newarray .int, 2) := by decide +kernel
theorem dX12_init_94 : decode cX12_init 94 = .ok (.putfield 45, 3) := by decide +kernel
theorem dX12_init_97 : decode cX12_init 97 = .ok (.aload_n 0, 1) := by decide +kernel
theorem dX12_init_98 : decode cX12_init 98 = .ok (.bipush 20, 2) := by decide +kernel
theorem dX12_init_100 : decode cX12_init 100 = .ok (.newarray .int, 2) := by decide +kernel
theorem dX12_init_102 : decode cX12_init 102 = .ok (.putfield 48, 3) := by decide +kernel
theorem dX12_init_105 : decode cX12_init 105 = .ok (.aload_n 0, 1) := by decide +kernel
theorem dX12_init_106 : decode cX12_init 106 = .ok (.bipush 20, 2) := by decide +kernel
theorem dX12_init_108 : decode cX12_init 108 = .ok (.newarray .int, 2) := by decide +kernel
theorem dX12_init_110 : decode cX12_init 110 = .ok (.putfield 51, 3) := by decide +kernel
theorem dX12_init_113 : decode cX12_init 113 = .ok (.aload_n 0, 1) := by decide +kernel
theorem dX12_init_114 : decode cX12_init 114 = .ok (.bipush 20, 2) := by decide +kernel
theorem dX12_init_116 : decode cX12_init 116 = .ok (.newarray .int, 2) := by decide +kernel
theorem dX12_init_118 : decode cX12_init 118 = .ok (.putfield 54, 3) := by decide +kernel
theorem dX12_init_121 : decode cX12_init 121 = .ok (.aload_n 0, 1) := by decide +kernel
theorem dX12_init_122 : decode cX12_init 122 = .ok (.bipush 20, 2) := by decide +kernel
theorem dX12_init_124 : decode cX12_init 124 = .ok (.newarray .int, 2) := by decide +kernel
theorem dX12_init_126 : decode cX12_init 126 = .ok (.putfield 57, 3) := by decide +kernel
theorem dX12_init_129 : decode cX12_init 129 = .ok (.aload_n 0, 1) := by decide +kernel
theorem dX12_init_130 : decode cX12_init 130 = .ok (.bipush 20, 2) := by decide +kernel
theorem dX12_init_132 : decode cX12_init 132 = .ok (.newarray .int, 2) := by decide +kernel
theorem dX12_init_134 : decode cX12_init 134 = .ok (.putfield 60, 3) := by decide +kernel
theorem dX12_init_137 : decode cX12_init 137 = .ok (.aload_n 0, 1) := by decide +kernel
theorem dX12_init_138 : decode cX12_init 138 = .ok (.bipush 20, 2) := by decide +kernel
theorem dX12_init_140 : decode cX12_init 140 = .ok (.newarray .boolean, 2) := by decide +kernel
theorem dX12_init_142 : decode cX12_init 142 = .ok (.putfield 63, 3) := by decide +kernel
theorem dX12_init_145 : decode cX12_init 145 = .ok (.aload_n 0, 1) := by decide +kernel
theorem dX12_init_146 : decode cX12_init 146 = .ok (.bipush 8, 2) := by decide +kernel
theorem dX12_init_148 : decode cX12_init 148 = .ok (.newarray .int, 2) := by decide +kernel
theorem dX12_init_150 : decode cX12_init 150 = .ok (.putfield 67, 3) := by decide +kernel
theorem dX12_init_153 : decode cX12_init 153 = .ok (.aload_n 0, 1) := by decide +kernel
theorem dX12_init_154 : decode cX12_init 154 = .ok (.sipush 256, 3) := by decide +kernel
theorem dX12_init_157 : decode cX12_init 157 = .ok (.newarray .boolean, 2) := by decide +kernel
theorem dX12_init_159 : decode cX12_init 159 = .ok (.putfield 70, 3) := by decide +kernel
theorem dX12_init_162 : decode cX12_init 162 = .ok (.aload_n 0, 1) := by decide +kernel
theorem dX12_init_163 : decode cX12_init 163 = .ok (.sipush 256, 3) := by decide +kernel
theorem dX12_init_166 : decode cX12_init 166 = .ok (.newarray .int, 2) := by decide +kernel
theorem dX12_init_168 : decode cX12_init 168 = .ok (.putfield 73, 3) := by decide +kernel
theorem dX12_init_171 : decode cX12_init 171 = .ok (.aload_n 0, 1) := by decide +kernel
theorem dX12_init_172 : decode cX12_init 172 = .ok (.bipush 8, 2) := by decide +kernel
theorem dX12_init_174 : decode cX12_init 174 = .ok (.newarray .int, 2) := by decide +kernel
theorem dX12_init_176 : decode cX12_init 176 = .ok (.putfield 76, 3) := by decide +kernel
theorem dX12_init_179 : decode cX12_init 179 = .ok (.aload_n 0, 1) := by decide +kernel
theorem dX12_init_180 : decode cX12_init 180 = .ok (.bipush 20, 2) := by decide +kernel
theorem dX12_init_182 : decode cX12_init 182 = .ok (.newarray .int, 2) := by decide +kernel
theorem dX12_init_184 : decode cX12_init 184 = .ok (.putfield 79, 3) := by decide +kernel
theorem dX12_init_187 : decode cX12_init 187 = .ok (.aload_n 0, 1) := by decide +kernel
theorem dX12_init_188 : decode cX12_init 188 = .ok (.bipush 20, 2) := by decide +kernel
theorem dX12_init_190 : decode cX12_init 190 = .ok (.newarray .int, 2) := by decide +kernel
theorem dX12_init_192 : decode cX12_init 192 = .ok (.putfield 82, 3) := by decide +kernel
theorem dX12_init_195 : decode cX12_init 195 = .ok (.aload_n 0, 1) := by decide +kernel
theorem dX12_init_196 : decode cX12_init 196 = .ok (.bipush 20, 2) := by decide +kernel
theorem dX12_init_198 : decode cX12_init 198 = .ok (.newarray .int, 2) := by decide +kernel
theorem dX12_init_200 : decode cX12_init 200 = .ok (.putfield 85, 3) := by decide +kernel
theorem dX12_init_203 : decode cX12_init 203 = .ok (.aload_n 0, 1) := by decide +kernel
theorem dX12_init_204 : decode cX12_init 204 = .ok (.bipush 20, 2) := by decide +kernel
theorem dX12_init_206 : decode cX12_init 206 = .ok (.newarray .int, 2) := by decide +kernel
theorem dX12_init_208 : decode cX12_init 208 = .ok (.putfield 88, 3) := by decide +kernel
theorem dX12_init_211 : decode cX12_init 211 = .ok (.aload_n 0, 1) := by decide +kernel
theorem dX12_init_212 : decode cX12_init 212 = .ok (.bipush 8, 2) := by decide +kernel
theorem dX12_init_214 : decode cX12_init 214 = .ok (.newarray .int, 2) := by decide +kernel
theorem dX12_init_216 : decode cX12_init 216 = .ok (.putfield 91, 3) := by decide +kernel
theorem dX12_init_219 : decode cX12_init 219 = .ok (.aload_n 0, 1) := by decide +kernel
theorem dX12_init_220 : decode cX12_init 220 = .ok (.bipush 8, 2) := by decide +kernel
theorem dX12_init_222 : decode cX12_init 222 = .ok (.newarray .int, 2) := by decide +kernel
theorem dX12_init_224 : decode cX12_init 224 = .ok (.putfield 94, 3) := by decide +kernel
theorem dX12_init_227 : decode cX12_init 227 = .ok (.aload_n 0, 1) := by decide +kernel
theorem dX12_init_228 : decode cX12_init 228 = .ok (.bipush 120, 2) := by decide +kernel
theorem dX12_init_230 : decode cX12_init 230 = .ok (.newarray .int, 2) := by decide +kernel
theorem dX12_init_232 : decode cX12_init 232 = .ok (.putfield 97, 3) := by decide +kernel
theorem dX12_init_235 : decode cX12_init 235 = .ok (.aload_n 0, 1) := by decide +kernel
theorem dX12_init_236 : decode cX12_init 236 = .ok (.bipush 30, 2) := by decide +kernel
theorem dX12_init_238 : decode cX12_init 238 = .ok (.newarray .boolean, 2) := by decide +kernel
theorem dX12_init_240 : decode cX12_init 240 = .ok (.putfield 100, 3) := by decide +kernel
theorem dX12_init_243 : decode cX12_init 243 = .ok (.aload_n 0, 1) := by decide +kernel
theorem dX12_init_244 : decode cX12_init 244 = .ok (.bipush 30, 2) := by decide +kernel
theorem dX12_init_246 : decode cX12_init 246 = .ok (.newarray .int, 2) := by decide +kernel
theorem dX12_init_248 : decode cX12_init 248 = .ok (.putfield 103, 3) := by decide +kernel
theorem dX12_init_251 : decode cX12_init 251 = .ok (.aload_n 0, 1) := by decide +kernel
theorem dX12_init_252 : decode cX12_init 252 = .ok (.bipush 30, 2) := by decide +kernel
theorem dX12_init_254 : decode cX12_init 254 = .ok (.newarray .int, 2) := by decide +kernel
theorem dX12_init_256 : decode cX12_init 256 = .ok (.putfield 106, 3) := by decide +kernel
theorem dX12_init_259 : decode cX12_init 259 = .ok (.aload_n 0, 1) := by decide +kernel
theorem dX12_init_260 : decode cX12_init 260 = .ok (.bipush 30, 2) := by decide +kernel
theorem dX12_init_262 : decode cX12_init 262 = .ok (.newarray .int, 2) := by decide +kernel
theorem dX12_init_264 : decode cX12_init 264 = .ok (.putfield 109, 3) := by decide +kernel
theorem dX12_init_267 : decode cX12_init 267 = .ok (.aload_n 0, 1) := by decide +kernel
theorem dX12_init_268 : decode cX12_init 268 = .ok (.bipush 30, 2) := by decide +kernel
theorem dX12_init_270 : decode cX12_init 270 = .ok (.newarray .int, 2) := by decide +kernel
theorem dX12_init_272 : decode cX12_init 272 = .ok (.putfield 112, 3) := by decide +kernel
theorem dX12_init_275 : decode cX12_init 275 = .ok (.aload_n 0, 1) := by decide +kernel
theorem dX12_init_276 : decode cX12_init 276 = .ok (.bipush 30, 2) := by decide +kernel
theorem dX12_init_278 : decode cX12_init 278 = .ok (.newarray .int, 2) := by decide +kernel
theorem dX12_init_280 : decode cX12_init 280 = .ok (.putfield 115, 3) := by decide +kernel
theorem dX12_init_283 : decode cX12_init 283 = .ok (.aload_n 0, 1) := by decide +kernel
theorem dX12_init_284 : decode cX12_init 284 = .ok (.bipush 8, 2) := by decide +kernel
theorem dX12_init_286 : decode cX12_init 286 = .ok (.newarray .int, 2) := by decide +kernel
theorem dX12_init_288 : decode cX12_init 288 = .ok (.putfield 118, 3) := by decide +kernel
theorem dX12_init_291 : decode cX12_init 291 = .ok (.aload_n 0, 1) := by decide +kernel
theorem dX12_init_292 : decode cX12_init 292 = .ok (.bipush 8, 2) := by decide +kernel
theorem dX12_init_294 : decode cX12_init 294 = .ok (.newarray .int, 2) := by decide +kernel
theorem dX12_init_296 : decode cX12_init 296 = .ok (.putfield 121, 3) := by decide +kernel
theorem dX12_init_299 : decode cX12_init 299 = .ok (.aload_n 0, 1) := by decide +kernel
theorem dX12_init_300 : decode cX12_init 300 = .ok (.bipush 6, 2) := by decide +kernel
theorem dX12_init_302 : decode cX12_init 302 = .ok (.newarray .int, 2) := by decide +kernel
theorem dX12_init_304 : decode cX12_init 304 = .ok (.putfield 124, 3) := by decide +kernel
theorem dX12_init_307 : decode cX12_init 307 = .ok (.aload_n 0, 1) := by decide +kernel
theorem dX12_init_308 : decode cX12_init 308 = .ok (.bipush 6, 2) := by decide +kernel
theorem dX12_init_310 : decode cX12_init 310 = .ok (.newarray .int, 2) := by decide +kernel
theorem dX12_init_312 : decode cX12_init 312 = .ok (.putfield 127, 3) := by decide +kernel
theorem dX12_init_315 : decode cX12_init 315 = .ok (.aload_n 0, 1) := by decide +kernel
theorem dX12_init_316 : decode cX12_init 316 = .ok (.bipush 12, 2) := by decide +kernel
theorem dX12_init_318 : decode cX12_init 318 = .ok (.newarray .int, 2) := by decide +kernel
theorem dX12_init_320 : decode cX12_init 320 = .ok (.putfield 130, 3) := by decide +kernel
theorem dX12_init_323 : decode cX12_init 323 = .ok (.aload_n 0, 1) := by decide +kernel
theorem dX12_init_324 : decode cX12_init 324 = .ok (.bipush 12, 2) := by decide +kernel
theorem dX12_init_326 : decode cX12_init 326 = .ok (.newarray .int, 2) := by decide +kernel
theorem dX12_init_328 : decode cX12_init 328 = .ok (.putfield 133, 3) := by decide +kernel
theorem dX12_init_331 : decode cX12_init 331 = .ok (.aload_n 0, 1) := by decide +kernel
theorem dX12_init_332 : decode cX12_init 332 = .ok (.bipush 12, 2) := by decide +kernel
theorem dX12_init_334 : decode cX12_init 334 = .ok (.newarray .int, 2) := by decide +kernel
theorem dX12_init_336 : decode cX12_init 336 = .ok (.putfield 136, 3) := by decide +kernel
theorem dX12_init_339 : decode cX12_init 339 = .ok (.aload_n 0, 1) := by decide +kernel
theorem dX12_init_340 : decode cX12_init 340 = .ok (.bipush 12, 2) := by decide +kernel
theorem dX12_init_342 : decode cX12_init 342 = .ok (.newarray .int, 2) := by decide +kernel
theorem dX12_init_344 : decode cX12_init 344 = .ok (.putfield 139, 3) := by decide +kernel
theorem dX12_init_347 : decode cX12_init 347 = .ok (.aload_n 0, 1) := by decide +kernel
theorem dX12_init_348 : decode cX12_init 348 = .ok (.sipush 144, 3) := by decide +kernel
theorem dX12_init_351 : decode cX12_init 351 = .ok (.newarray .int, 2) := by decide +kernel
theorem dX12_init_353 : decode cX12_init 353 = .ok (.putfield 142, 3) := by decide +kernel
theorem dX12_init_356 : decode cX12_init 356 = .ok (.aload_n 0, 1) := by decide +kernel
theorem dX12_init_357 : decode cX12_init 357 = .ok (.getfield 30, 3) := by decide +kernel
theorem dX12_init_360 : decode cX12_init 360 = .ok (.iconst 0, 1) := by decide +kernel
theorem dX12_init_361 : decode cX12_init 361 = .ok (.iconst 5, 1) := by decide +kernel
theorem dX12_init_362 : decode cX12_init 362 = .ok (.iastore, 1) := by decide +kernel
theorem dX12_init_363 : decode cX12_init 363 = .ok (.aload_n 0, 1) := by decide +kernel
theorem dX12_init_364 : decode cX12_init 364 = .ok (.getfield 30, 3) := by decide +kernel
theorem dX12_init_367 : decode cX12_init 367 = .ok (.iconst 1, 1) := by decide +kernel
theorem dX12_init_368 : decode cX12_init 368 = .ok (.bipush 20, 2) := by decide +kernel
theorem dX12_init_370 : decode cX12_init 370 = .ok (.iastore, 1) := by decide +kernel
theorem dX12_init_371 : decode cX12_init 371 = .ok (.aload_n 0, 1) := by decide +kernel
theorem dX12_init_372 : decode cX12_init 372 = .ok (.getfield 30, 3) := by decide +kernel
theorem dX12_init_375 : decode cX12_init 375 = .ok (.iconst 2, 1) := by decide +kernel
theorem dX12_init_376 : decode cX12_init 376 = .ok (.bipush 10, 2) := by decide +kernel
theorem dX12_init_378 : decode cX12_init 378 = .ok (.iastore, 1) := by decide +kernel
theorem dX12_init_379 : decode cX12_init 379 = .ok (.aload_n 0, 1) := by decide +kernel
theorem dX12_init_380 : decode cX12_init 380 = .ok (.getfield 30, 3) := by decide +kernel
theorem dX12_init_383 : decode cX12_init 383 = .ok (.iconst 3, 1) := by decide +kernel
theorem dX12_init_384 : decode cX12_init 384 = .ok (.bipush 100, 2) := by decide +kernel
theorem dX12_init_386 : decode cX12_init 386 = .ok (.iastore, 1) := by decide +kernel
theorem dX12_init_387 : decode cX12_init 387 = .ok (.aload_n 0, 1) := by decide +kernel
theorem dX12_init_388 : decode cX12_init 388 = .ok (.getfield 30, 3) := by decide +kernel
theorem dX12_init_391 : decode cX12_init 391 = .ok (.iconst 4, 1) := by decide +kernel
theorem dX12_init_392 : decode cX12_init 392 = .ok (.bipush 100, 2) := by decide +kernel
theorem dX12_init_394 : decode cX12_init 394 = .ok (.iastore, 1) := by decide +kernel
theorem dX12_init_395 : decode cX12_init 395 = .ok (.iconst 0, 1) := by decide +kernel
theorem dX12_init_396 : decode cX12_init 396 = .ok (.istore_n 1, 1) := by decide +kernel
theorem dX12_init_397 : decode cX12_init 397 = .ok (.iload_n 1, 1) := by decide +kernel
theorem dX12_init_398 : decode cX12_init 398 = .ok (.bipush 6, 2) := by decide +kernel
theorem dX12_init_400 : decode cX12_init 400 = .ok (.if_icmp .ge 16, 3) := by decide +kernel
theorem dX12_init_403 : decode cX12_init 403 = .ok (.aload_n 0, 1) := by decide +kernel
theorem dX12_init_404 : decode cX12_init 404 = .ok (.getfield 7, 3) := by decide +kernel
theorem dX12_init_407 : decode cX12_init 407 = .ok (.iload_n 1, 1) := by decide +kernel
theorem dX12_init_408 : decode cX12_init 408 = .ok (.iconst (-1), 1) := by decide +kernel
theorem dX12_init_409 : decode cX12_init 409 = .ok (.iastore, 1) := by decide +kernel
theorem dX12_init_410 : decode cX12_init 410 = .ok (.iinc 1 1, 3) := by decide +kernel
theorem dX12_init_413 : decode cX12_init 413 = .ok (.goto (-16), 3) := by decide +kernel
theorem dX12_init_416 : decode cX12_init 416 = .ok (.iconst 0, 1) := by decide +kernel
theorem dX12_init_417 : decode cX12_init 417 = .ok (.istore_n 1, 1) := by decide +kernel
theorem dX12_init_418 : decode cX12_init 418 = .ok (.iload_n 1, 1) := by decide +kernel
theorem dX12_init_419 : decode cX12_init 419 = .ok (.bipush 8, 2) := by decide +kernel
theorem dX12_init_421 : decode cX12_init 421 = .ok (.if_icmp .ge 16, 3) := by decide +kernel
theorem dX12_init_424 : decode cX12_init 424 = .ok (.aload_n 0, 1) := by decide +kernel
theorem dX12_init_425 : decode cX12_init 425 = .ok (.getfield 121, 3) := by decide +kernel
theorem dX12_init_428 : decode cX12_init 428 = .ok (.iload_n 1, 1) := by decide +kernel
theorem dX12_init_429 : decode cX12_init 429 = .ok (.iconst (-1), 1) := by decide +kernel
theorem dX12_init_430 : decode cX12_init 430 = .ok (.iastore, 1) := by decide +kernel
theorem dX12_init_431 : decode cX12_init 431 = .ok (.iinc 1 1, 3) := by decide +kernel
theorem dX12_init_434 : decode cX12_init 434 = .ok (.goto (-16), 3) := by decide +kernel
theorem dX12_init_437 : decode cX12_init 437 = .ok (.return_, 1) := by decide +kernel
theorem dX12_in_0 : decode cX12_in 0 = .ok (.lload_n 0, 1) := by decide +kernel
theorem dX12_in_1 : decode cX12_in 1 = .ok (.lload_n 2, 1) := by decide +kernel
theorem dX12_in_2 : decode cX12_in 2 = .ok (.lcmp, 1) := by decide +kernel
theorem dX12_in_3 : decode cX12_in 3 = .ok (.ifCond .lt 14, 3) := by decide +kernel
theorem dX12_in_6 : decode cX12_in 6 = .ok (.lload_n 0, 1) := by decide +kernel
theorem dX12_in_7 : decode cX12_in 7 = .ok (.lload 4, 2) := by decide +kernel
theorem dX12_in_9 : decode cX12_in 9 = .ok (.lcmp, 1) := by decide +kernel
theorem dX12_in_10 : decode cX12_in 10 = .ok (.ifCond .gt 7, 3) := by decide +kernel
theorem dX12_in_13 : decode cX12_in 13 = .ok (.iconst 1, 1) := by decide +kernel
theorem dX12_in_14 : decode cX12_in 14 = .ok (.goto 4, 3) := by decide +kernel
theorem dX12_in_17 : decode cX12_in 17 = .ok (.iconst 0, 1) := by decide +kernel
theorem dX12_in_18 : decode cX12_in 18 = .ok (.ireturn, 1) := by decide +kernel
theorem dX12_no_0 : decode cX12_no 0 = .ok (.ldc2_w 145, 3) := by decide +kernel
theorem dX12_no_3 : decode cX12_no 3 = .ok (.iload_n 0, 1) := by decide +kernel
theorem dX12_no_4 : decode cX12_no 4 = .ok (.i2l, 1) := by decide +kernel
theorem dX12_no_5 : decode cX12_no 5 = .ok (.lsub, 1) := by decide +kernel
theorem dX12_no_6 : decode cX12_no 6 = .ok (.lreturn, 1) := by decide +kernel
theorem dX12_met_0 : decode cX12_met 0 = .ok (.aload_n 0, 1) := by decide +kernel
theorem dX12_met_1 : decode cX12_met 1 = .ok (.iload_n 1, 1) := by decide +kernel
theorem dX12_met_2 : decode cX12_met 2 = .ok (.putfield 147, 3) := by decide +kernel
theorem dX12_met_5 : decode cX12_met 5 = .ok (.bipush (-10), 2) := by decide +kernel
theorem dX12_met_7 : decode cX12_met 7 = .ok (.iload_n 1, 1) := by decide +kernel
theorem dX12_met_8 : decode cX12_met 8 = .ok (.isub, 1) := by decide +kernel
theorem dX12_met_9 : decode cX12_met 9 = .ok (.ireturn, 1) := by decide +kernel
theorem dX12_isSheet_0 : decode cX12_isSheet 0 = .ok (.iload_n 0, 1) := by decide +kernel
theorem dX12_isSheet_1 : decode cX12_isSheet 1 = .ok (.i2l, 1) := by decide +kernel
theorem dX12_isSheet_2 : decode cX12_isSheet 2 = .ok (.lconst 0, 1) := by decide +kernel
theorem dX12_isSheet_3 : decode cX12_isSheet 3 = .ok (.ldc2_w 150, 3) := by decide +kernel
theorem dX12_isSheet_6 : decode cX12_isSheet 6 = .ok (.invokestatic 152, 3) := by decide +kernel
theorem dX12_isSheet_9 : decode cX12_isSheet 9 = .ok (.ireturn, 1) := by decide +kernel
theorem dX12_sheet_0 : decode cX12_sheet 0 = .ok (.iload_n 1, 1) := by decide +kernel
theorem dX12_sheet_1 : decode cX12_sheet 1 = .ok (.invokestatic 156, 3) := by decide +kernel
theorem dX12_sheet_4 : decode cX12_sheet 4 = .ok (.ifCond .eq 22, 3) := by decide +kernel
theorem dX12_sheet_7 : decode cX12_sheet 7 = .ok (.iload_n 2, 1) := by decide +kernel
theorem dX12_sheet_8 : decode cX12_sheet 8 = .ok (.i2l, 1) := by decide +kernel
theorem dX12_sheet_9 : decode cX12_sheet 9 = .ok (.lconst 0, 1) := by decide +kernel
theorem dX12_sheet_10 : decode cX12_sheet 10 = .ok (.ldc2_w 160, 3) := by decide +kernel
theorem dX12_sheet_13 : decode cX12_sheet 13 = .ok (.invokestatic 152, 3) := by decide +kernel
theorem dX12_sheet_16 : decode cX12_sheet 16 = .ok (.ifCond .eq 10, 3) := by decide +kernel
theorem dX12_sheet_19 : decode cX12_sheet 19 = .ok (.iload_n 3, 1) := by decide +kernel
theorem dX12_sheet_20 : decode cX12_sheet 20 = .ok (.sipush 400, 3) := by decide +kernel
theorem dX12_sheet_23 : decode cX12_sheet 23 = .ok (.if_icmp .le 6, 3) := by decide +kernel
theorem dX12_sheet_26 : decode cX12_sheet 26 = .ok (.bipush (-2), 2) := by decide +kernel
theorem dX12_sheet_28 : decode cX12_sheet 28 = .ok (.ireturn, 1) := by decide +kernel
theorem dX12_sheet_29 : decode cX12_sheet 29 = .ok (.iload_n 3, 1) := by decide +kernel
theorem dX12_sheet_30 : decode cX12_sheet 30 = .ok (.ifCond .ge 9, 3) := by decide +kernel
theorem dX12_sheet_33 : decode cX12_sheet 33 = .ok (.aload_n 0, 1) := by decide +kernel
theorem dX12_sheet_34 : decode cX12_sheet 34 = .ok (.iconst 5, 1) := by decide +kernel
theorem dX12_sheet_35 : decode cX12_sheet 35 = .ok (.invokevirtual 162, 3) := by decide +kernel
theorem dX12_sheet_38 : decode cX12_sheet 38 = .ok (.ireturn, 1) := by decide +kernel
theorem dX12_sheet_39 : decode cX12_sheet 39 = .ok (.aload_n 0, 1) := by decide +kernel
theorem dX12_sheet_40 : decode cX12_sheet 40 = .ok (.getfield 7, 3) := by decide +kernel
theorem dX12_sheet_43 : decode cX12_sheet 43 = .ok (.iload_n 1, 1) := by decide +kernel
theorem dX12_sheet_44 : decode cX12_sheet 44 = .ok (.iload_n 2, 1) := by decide +kernel
theorem dX12_sheet_45 : decode cX12_sheet 45 = .ok (.iastore, 1) := by decide +kernel
theorem dX12_sheet_46 : decode cX12_sheet 46 = .ok (.aload_n 0, 1) := by decide +kernel
theorem dX12_sheet_47 : decode cX12_sheet 47 = .ok (.getfield 13, 3) := by decide +kernel
theorem dX12_sheet_50 : decode cX12_sheet 50 = .ok (.iload_n 1, 1) := by decide +kernel
theorem dX12_sheet_51 : decode cX12_sheet 51 = .ok (.iload_n 3, 1) := by decide +kernel
theorem dX12_sheet_52 : decode cX12_sheet 52 = .ok (.iastore, 1) := by decide +kernel
theorem dX12_sheet_53 : decode cX12_sheet 53 = .ok (.iconst 0, 1) := by decide +kernel
theorem dX12_sheet_54 : decode cX12_sheet 54 = .ok (.istore 4, 2) := by decide +kernel
theorem dX12_sheet_56 : decode cX12_sheet 56 = .ok (.iload 4, 2) := by decide +kernel
theorem dX12_sheet_58 : decode cX12_sheet 58 = .ok (.iload_n 3, 1) := by decide +kernel
theorem dX12_sheet_59 : decode cX12_sheet 59 = .ok (.if_icmp .ge 23, 3) := by decide +kernel
theorem dX12_sheet_62 : decode cX12_sheet 62 = .ok (.aload_n 0, 1) := by decide +kernel
theorem dX12_sheet_63 : decode cX12_sheet 63 = .ok (.getfield 16, 3) := by decide +kernel
theorem dX12_sheet_66 : decode cX12_sheet 66 = .ok (.sipush 400, 3) := by decide +kernel
theorem dX12_sheet_69 : decode cX12_sheet 69 = .ok (.iload_n 1, 1) := by decide +kernel
theorem dX12_sheet_70 : decode cX12_sheet 70 = .ok (.imul, 1) := by decide +kernel
theorem dX12_sheet_71 : decode cX12_sheet 71 = .ok (.iload 4, 2) := by decide +kernel
theorem dX12_sheet_73 : decode cX12_sheet 73 = .ok (.iadd, 1) := by decide +kernel
theorem dX12_sheet_74 : decode cX12_sheet 74 = .ok (.lconst 0, 1) := by decide +kernel
theorem dX12_sheet_75 : decode cX12_sheet 75 = .ok (.lastore, 1) := by decide +kernel
theorem dX12_sheet_76 : decode cX12_sheet 76 = .ok (.iinc 4 1, 3) := by decide +kernel
theorem dX12_sheet_79 : decode cX12_sheet 79 = .ok (.goto (-23), 3) := by decide +kernel
theorem dX12_sheet_82 : decode cX12_sheet 82 = .ok (.iload_n 3, 1) := by decide +kernel
theorem dX12_sheet_83 : decode cX12_sheet 83 = .ok (.ireturn, 1) := by decide +kernel
theorem dX12_lose_0 : decode cX12_lose 0 = .ok (.iload_n 1, 1) := by decide +kernel
theorem dX12_lose_1 : decode cX12_lose 1 = .ok (.invokestatic 156, 3) := by decide +kernel
theorem dX12_lose_4 : decode cX12_lose 4 = .ok (.ifCond .ne 6, 3) := by decide +kernel
theorem dX12_lose_7 : decode cX12_lose 7 = .ok (.bipush (-2), 2) := by decide +kernel
theorem dX12_lose_9 : decode cX12_lose 9 = .ok (.ireturn, 1) := by decide +kernel
theorem dX12_lose_10 : decode cX12_lose 10 = .ok (.aload_n 0, 1) := by decide +kernel
theorem dX12_lose_11 : decode cX12_lose 11 = .ok (.getfield 7, 3) := by decide +kernel
theorem dX12_lose_14 : decode cX12_lose 14 = .ok (.iload_n 1, 1) := by decide +kernel
theorem dX12_lose_15 : decode cX12_lose 15 = .ok (.iaload, 1) := by decide +kernel
theorem dX12_lose_16 : decode cX12_lose 16 = .ok (.ifCond .ge 9, 3) := by decide +kernel
theorem dX12_lose_19 : decode cX12_lose 19 = .ok (.aload_n 0, 1) := by decide +kernel
theorem dX12_lose_20 : decode cX12_lose 20 = .ok (.iconst 1, 1) := by decide +kernel
theorem dX12_lose_21 : decode cX12_lose 21 = .ok (.invokevirtual 162, 3) := by decide +kernel
theorem dX12_lose_24 : decode cX12_lose 24 = .ok (.ireturn, 1) := by decide +kernel
theorem dX12_lose_25 : decode cX12_lose 25 = .ok (.aload_n 0, 1) := by decide +kernel
theorem dX12_lose_26 : decode cX12_lose 26 = .ok (.getfield 7, 3) := by decide +kernel
theorem dX12_lose_29 : decode cX12_lose 29 = .ok (.iload_n 1, 1) := by decide +kernel
theorem dX12_lose_30 : decode cX12_lose 30 = .ok (.iconst (-1), 1) := by decide +kernel
theorem dX12_lose_31 : decode cX12_lose 31 = .ok (.iastore, 1) := by decide +kernel
theorem dX12_lose_32 : decode cX12_lose 32 = .ok (.aload_n 0, 1) := by decide +kernel
theorem dX12_lose_33 : decode cX12_lose 33 = .ok (.getfield 13, 3) := by decide +kernel
theorem dX12_lose_36 : decode cX12_lose 36 = .ok (.iload_n 1, 1) := by decide +kernel
theorem dX12_lose_37 : decode cX12_lose 37 = .ok (.iaload, 1) := by decide +kernel
theorem dX12_lose_38 : decode cX12_lose 38 = .ok (.ireturn, 1) := by decide +kernel
theorem dX12_lacks_0 : decode cX12_lacks 0 = .ok (.aload_n 0, 1) := by decide +kernel
theorem dX12_lacks_1 : decode cX12_lacks 1 = .ok (.getfield 7, 3) := by decide +kernel
theorem dX12_lacks_4 : decode cX12_lacks 4 = .ok (.iload_n 1, 1) := by decide +kernel
theorem dX12_lacks_5 : decode cX12_lacks 5 = .ok (.iaload, 1) := by decide +kernel
theorem dX12_lacks_6 : decode cX12_lacks 6 = .ok (.ifCond .ge 9, 3) := by decide +kernel
theorem dX12_lacks_9 : decode cX12_lacks 9 = .ok (.aload_n 0, 1) := by decide +kernel
theorem dX12_lacks_10 : decode cX12_lacks 10 = .ok (.iconst 1, 1) := by decide +kernel
theorem dX12_lacks_11 : decode cX12_lacks 11 = .ok (.invokevirtual 162, 3) := by decide +kernel
theorem dX12_lacks_14 : decode cX12_lacks 14 = .ok (.ireturn, 1) := by decide +kernel
theorem dX12_lacks_15 : decode cX12_lacks 15 = .ok (.aload_n 0, 1) := by decide +kernel
theorem dX12_lacks_16 : decode cX12_lacks 16 = .ok (.getfield 7, 3) := by decide +kernel
theorem dX12_lacks_19 : decode cX12_lacks 19 = .ok (.iload_n 1, 1) := by decide +kernel
theorem dX12_lacks_20 : decode cX12_lacks 20 = .ok (.iaload, 1) := by decide +kernel
theorem dX12_lacks_21 : decode cX12_lacks 21 = .ok (.iload_n 2, 1) := by decide +kernel
theorem dX12_lacks_22 : decode cX12_lacks 22 = .ok (.if_icmp .eq 9, 3) := by decide +kernel
theorem dX12_lacks_25 : decode cX12_lacks 25 = .ok (.aload_n 0, 1) := by decide +kernel
theorem dX12_lacks_26 : decode cX12_lacks 26 = .ok (.iconst 3, 1) := by decide +kernel
theorem dX12_lacks_27 : decode cX12_lacks 27 = .ok (.invokevirtual 162, 3) := by decide +kernel
theorem dX12_lacks_30 : decode cX12_lacks 30 = .ok (.ireturn, 1) := by decide +kernel
theorem dX12_lacks_31 : decode cX12_lacks 31 = .ok (.iload_n 3, 1) := by decide +kernel
theorem dX12_lacks_32 : decode cX12_lacks 32 = .ok (.i2l, 1) := by decide +kernel
theorem dX12_lacks_33 : decode cX12_lacks 33 = .ok (.lconst 0, 1) := by decide +kernel
theorem dX12_lacks_34 : decode cX12_lacks 34 = .ok (.aload_n 0, 1) := by decide +kernel
theorem dX12_lacks_35 : decode cX12_lacks 35 = .ok (.getfield 13, 3) := by decide +kernel
theorem dX12_lacks_38 : decode cX12_lacks 38 = .ok (.iload_n 1, 1) := by decide +kernel
theorem dX12_lacks_39 : decode cX12_lacks 39 = .ok (.iaload, 1) := by decide +kernel
theorem dX12_lacks_40 : decode cX12_lacks 40 = .ok (.iconst 1, 1) := by decide +kernel
theorem dX12_lacks_41 : decode cX12_lacks 41 = .ok (.isub, 1) := by decide +kernel
theorem dX12_lacks_42 : decode cX12_lacks 42 = .ok (.i2l, 1) := by decide +kernel
theorem dX12_lacks_43 : decode cX12_lacks 43 = .ok (.invokestatic 152, 3) := by decide +kernel
theorem dX12_lacks_46 : decode cX12_lacks 46 = .ok (.ifCond .eq 7, 3) := by decide +kernel
theorem dX12_lacks_49 : decode cX12_lacks 49 = .ok (.iconst 0, 1) := by decide +kernel
theorem dX12_lacks_50 : decode cX12_lacks 50 = .ok (.goto 8, 3) := by decide +kernel
theorem dX12_lacks_53 : decode cX12_lacks 53 = .ok (.aload_n 0, 1) := by decide +kernel
theorem dX12_lacks_54 : decode cX12_lacks 54 = .ok (.iconst 2, 1) := by decide +kernel
theorem dX12_lacks_55 : decode cX12_lacks 55 = .ok (.invokevirtual 162, 3) := by decide +kernel
theorem dX12_lacks_58 : decode cX12_lacks 58 = .ok (.ireturn, 1) := by decide +kernel
theorem dX12_cut_0 : decode cX12_cut 0 = .ok (.iload_n 0, 1) := by decide +kernel
theorem dX12_cut_1 : decode cX12_cut 1 = .ok (.ifCond .ne 10, 3) := by decide +kernel
theorem dX12_cut_4 : decode cX12_cut 4 = .ok (.lload_n 1, 1) := by decide +kernel
theorem dX12_cut_5 : decode cX12_cut 5 = .ok (.l2i, 1) := by decide +kernel
theorem dX12_cut_6 : decode cX12_cut 6 = .ok (.i2b, 1) := by decide +kernel
theorem dX12_cut_7 : decode cX12_cut 7 = .ok (.i2l, 1) := by decide +kernel
theorem dX12_cut_8 : decode cX12_cut 8 = .ok (.goto 27, 3) := by decide +kernel
theorem dX12_cut_11 : decode cX12_cut 11 = .ok (.iload_n 0, 1) := by decide +kernel
theorem dX12_cut_12 : decode cX12_cut 12 = .ok (.iconst 1, 1) := by decide +kernel
theorem dX12_cut_13 : decode cX12_cut 13 = .ok (.if_icmp .ne 10, 3) := by decide +kernel
theorem dX12_cut_16 : decode cX12_cut 16 = .ok (.lload_n 1, 1) := by decide +kernel
theorem dX12_cut_17 : decode cX12_cut 17 = .ok (.l2i, 1) := by decide +kernel
theorem dX12_cut_18 : decode cX12_cut 18 = .ok (.i2s, 1) := by decide +kernel
theorem dX12_cut_19 : decode cX12_cut 19 = .ok (.i2l, 1) := by decide +kernel
theorem dX12_cut_20 : decode cX12_cut 20 = .ok (.goto 15, 3) := by decide +kernel
theorem dX12_cut_23 : decode cX12_cut 23 = .ok (.iload_n 0, 1) := by decide +kernel
theorem dX12_cut_24 : decode cX12_cut 24 = .ok (.iconst 2, 1) := by decide +kernel
theorem dX12_cut_25 : decode cX12_cut 25 = .ok (.if_icmp .ne 9, 3) := by decide +kernel
theorem dX12_cut_28 : decode cX12_cut 28 = .ok (.lload_n 1, 1) := by decide +kernel
theorem dX12_cut_29 : decode cX12_cut 29 = .ok (.l2i, 1) := by decide +kernel
theorem dX12_cut_30 : decode cX12_cut 30 = .ok (.i2l, 1) := by decide +kernel
theorem dX12_cut_31 : decode cX12_cut 31 = .ok (.goto 4, 3) := by decide +kernel
theorem dX12_cut_34 : decode cX12_cut 34 = .ok (.lload_n 1, 1) := by decide +kernel
theorem dX12_cut_35 : decode cX12_cut 35 = .ok (.lreturn, 1) := by decide +kernel
theorem dX12_put_0 : decode cX12_put 0 = .ok (.iload_n 1, 1) := by decide +kernel
theorem dX12_put_1 : decode cX12_put 1 = .ok (.invokestatic 156, 3) := by decide +kernel
theorem dX12_put_4 : decode cX12_put 4 = .ok (.ifCond .eq 15, 3) := by decide +kernel
theorem dX12_put_7 : decode cX12_put 7 = .ok (.iload_n 2, 1) := by decide +kernel
theorem dX12_put_8 : decode cX12_put 8 = .ok (.i2l, 1) := by decide +kernel
theorem dX12_put_9 : decode cX12_put 9 = .ok (.lconst 0, 1) := by decide +kernel
theorem dX12_put_10 : decode cX12_put 10 = .ok (.ldc2_w 160, 3) := by decide +kernel
theorem dX12_put_13 : decode cX12_put 13 = .ok (.invokestatic 152, 3) := by decide +kernel
theorem dX12_put_16 : decode cX12_put 16 = .ok (.ifCond .ne 6, 3) := by decide +kernel
theorem dX12_put_19 : decode cX12_put 19 = .ok (.bipush (-2), 2) := by decide +kernel
theorem dX12_put_21 : decode cX12_put 21 = .ok (.ireturn, 1) := by decide +kernel
theorem dX12_put_22 : decode cX12_put 22 = .ok (.aload_n 0, 1) := by decide +kernel
theorem dX12_put_23 : decode cX12_put 23 = .ok (.iload_n 1, 1) := by decide +kernel
theorem dX12_put_24 : decode cX12_put 24 = .ok (.iload_n 2, 1) := by decide +kernel
theorem dX12_put_25 : decode cX12_put 25 = .ok (.iload_n 3, 1) := by decide +kernel
theorem dX12_put_26 : decode cX12_put 26 = .ok (.invokevirtual 166, 3) := by decide +kernel
theorem dX12_put_29 : decode cX12_put 29 = .ok (.istore 6, 2) := by decide +kernel
theorem dX12_put_31 : decode cX12_put 31 = .ok (.iload 6, 2) := by decide +kernel
theorem dX12_put_33 : decode cX12_put 33 = .ok (.ifCond .eq 6, 3) := by decide +kernel
theorem dX12_put_36 : decode cX12_put 36 = .ok (.iload 6, 2) := by decide +kernel
theorem dX12_put_38 : decode cX12_put 38 = .ok (.ireturn, 1) := by decide +kernel
theorem dX12_put_39 : decode cX12_put 39 = .ok (.aload_n 0, 1) := by decide +kernel
theorem dX12_put_40 : decode cX12_put 40 = .ok (.getfield 16, 3) := by decide +kernel
theorem dX12_put_43 : decode cX12_put 43 = .ok (.sipush 400, 3) := by decide +kernel
theorem dX12_put_46 : decode cX12_put 46 = .ok (.iload_n 1, 1) := by decide +kernel
theorem dX12_put_47 : decode cX12_put 47 = .ok (.imul, 1) := by decide +kernel
theorem dX12_put_48 : decode cX12_put 48 = .ok (.iload_n 3, 1) := by decide +kernel
theorem dX12_put_49 : decode cX12_put 49 = .ok (.iadd, 1) := by decide +kernel
theorem dX12_put_50 : decode cX12_put 50 = .ok (.iload_n 2, 1) := by decide +kernel
theorem dX12_put_51 : decode cX12_put 51 = .ok (.lload 4, 2) := by decide +kernel
theorem dX12_put_53 : decode cX12_put 53 = .ok (.invokestatic 170, 3) := by decide +kernel
theorem dX12_put_56 : decode cX12_put 56 = .ok (.lastore, 1) := by decide +kernel
theorem dX12_put_57 : decode cX12_put 57 = .ok (.iconst 1, 1) := by decide +kernel
theorem dX12_put_58 : decode cX12_put 58 = .ok (.ireturn, 1) := by decide +kernel
theorem dX12_get_0 : decode cX12_get 0 = .ok (.iload_n 1, 1) := by decide +kernel
theorem dX12_get_1 : decode cX12_get 1 = .ok (.invokestatic 156, 3) := by decide +kernel
theorem dX12_get_4 : decode cX12_get 4 = .ok (.ifCond .eq 25, 3) := by decide +kernel
theorem dX12_get_7 : decode cX12_get 7 = .ok (.iload_n 2, 1) := by decide +kernel
theorem dX12_get_8 : decode cX12_get 8 = .ok (.i2l, 1) := by decide +kernel
theorem dX12_get_9 : decode cX12_get 9 = .ok (.lconst 0, 1) := by decide +kernel
theorem dX12_get_10 : decode cX12_get 10 = .ok (.ldc2_w 160, 3) := by decide +kernel
theorem dX12_get_13 : decode cX12_get 13 = .ok (.invokestatic 152, 3) := by decide +kernel
theorem dX12_get_16 : decode cX12_get 16 = .ok (.ifCond .eq 13, 3) := by decide +kernel
theorem dX12_get_19 : decode cX12_get 19 = .ok (.aload_n 0, 1) := by decide +kernel
theorem dX12_get_20 : decode cX12_get 20 = .ok (.iload_n 1, 1) := by decide +kernel
theorem dX12_get_21 : decode cX12_get 21 = .ok (.iload_n 2, 1) := by decide +kernel
theorem dX12_get_22 : decode cX12_get 22 = .ok (.iload_n 3, 1) := by decide +kernel
theorem dX12_get_23 : decode cX12_get 23 = .ok (.invokevirtual 166, 3) := by decide +kernel
theorem dX12_get_26 : decode cX12_get 26 = .ok (.ifCond .eq 7, 3) := by decide +kernel
theorem dX12_get_29 : decode cX12_get 29 = .ok (.ldc2_w 145, 3) := by decide +kernel
theorem dX12_get_32 : decode cX12_get 32 = .ok (.lreturn, 1) := by decide +kernel
theorem dX12_get_33 : decode cX12_get 33 = .ok (.aload_n 0, 1) := by decide +kernel
theorem dX12_get_34 : decode cX12_get 34 = .ok (.getfield 16, 3) := by decide +kernel
theorem dX12_get_37 : decode cX12_get 37 = .ok (.sipush 400, 3) := by decide +kernel
theorem dX12_get_40 : decode cX12_get 40 = .ok (.iload_n 1, 1) := by decide +kernel
theorem dX12_get_41 : decode cX12_get 41 = .ok (.imul, 1) := by decide +kernel
theorem dX12_get_42 : decode cX12_get 42 = .ok (.iload_n 3, 1) := by decide +kernel
theorem dX12_get_43 : decode cX12_get 43 = .ok (.iadd, 1) := by decide +kernel
theorem dX12_get_44 : decode cX12_get 44 = .ok (.laload, 1) := by decide +kernel
theorem dX12_get_45 : decode cX12_get 45 = .ok (.lreturn, 1) := by decide +kernel
theorem dX12_copy_0 : decode cX12_copy 0 = .ok (.iload_n 1, 1) := by decide +kernel
theorem dX12_copy_1 : decode cX12_copy 1 = .ok (.invokestatic 156, 3) := by decide +kernel
theorem dX12_copy_4 : decode cX12_copy 4 = .ok (.ifCond .eq 10, 3) := by decide +kernel
theorem dX12_copy_7 : decode cX12_copy 7 = .ok (.iload_n 3, 1) := by decide +kernel
theorem dX12_copy_8 : decode cX12_copy 8 = .ok (.invokestatic 156, 3) := by decide +kernel
theorem dX12_copy_11 : decode cX12_copy 11 = .ok (.ifCond .ne 6, 3) := by decide +kernel
theorem dX12_copy_14 : decode cX12_copy 14 = .ok (.bipush (-2), 2) := by decide +kernel
theorem dX12_copy_16 : decode cX12_copy 16 = .ok (.ireturn, 1) := by decide +kernel
theorem dX12_copy_17 : decode cX12_copy 17 = .ok (.aload_n 0, 1) := by decide +kernel
theorem dX12_copy_18 : decode cX12_copy 18 = .ok (.getfield 7, 3) := by decide +kernel
theorem dX12_copy_21 : decode cX12_copy 21 = .ok (.iload_n 1, 1) := by decide +kernel
theorem dX12_copy_22 : decode cX12_copy 22 = .ok (.iaload, 1) := by decide +kernel
theorem dX12_copy_23 : decode cX12_copy 23 = .ok (.ifCond .lt 12, 3) := by decide +kernel
theorem dX12_copy_26 : decode cX12_copy 26 = .ok (.aload_n 0, 1) := by decide +kernel
theorem dX12_copy_27 : decode cX12_copy 27 = .ok (.getfield 7, 3) := by decide +kernel
theorem dX12_copy_30 : decode cX12_copy 30 = .ok (.iload_n 3, 1) := by decide +kernel
theorem dX12_copy_31 : decode cX12_copy 31 = .ok (.iaload, 1) := by decide +kernel
theorem dX12_copy_32 : decode cX12_copy 32 = .ok (.ifCond .ge 9, 3) := by decide +kernel
theorem dX12_copy_35 : decode cX12_copy 35 = .ok (.aload_n 0, 1) := by decide +kernel
theorem dX12_copy_36 : decode cX12_copy 36 = .ok (.iconst 1, 1) := by decide +kernel
theorem dX12_copy_37 : decode cX12_copy 37 = .ok (.invokevirtual 162, 3) := by decide +kernel
theorem dX12_copy_40 : decode cX12_copy 40 = .ok (.ireturn, 1) := by decide +kernel
theorem dX12_copy_41 : decode cX12_copy 41 = .ok (.aload_n 0, 1) := by decide +kernel
theorem dX12_copy_42 : decode cX12_copy 42 = .ok (.getfield 7, 3) := by decide +kernel
theorem dX12_copy_45 : decode cX12_copy 45 = .ok (.iload_n 1, 1) := by decide +kernel
theorem dX12_copy_46 : decode cX12_copy 46 = .ok (.iaload, 1) := by decide +kernel
theorem dX12_copy_47 : decode cX12_copy 47 = .ok (.aload_n 0, 1) := by decide +kernel
theorem dX12_copy_48 : decode cX12_copy 48 = .ok (.getfield 7, 3) := by decide +kernel
theorem dX12_copy_51 : decode cX12_copy 51 = .ok (.iload_n 3, 1) := by decide +kernel
theorem dX12_copy_52 : decode cX12_copy 52 = .ok (.iaload, 1) := by decide +kernel
theorem dX12_copy_53 : decode cX12_copy 53 = .ok (.if_icmp .eq 9, 3) := by decide +kernel
theorem dX12_copy_56 : decode cX12_copy 56 = .ok (.aload_n 0, 1) := by decide +kernel
theorem dX12_copy_57 : decode cX12_copy 57 = .ok (.iconst 4, 1) := by decide +kernel
theorem dX12_copy_58 : decode cX12_copy 58 = .ok (.invokevirtual 162, 3) := by decide +kernel
theorem dX12_copy_61 : decode cX12_copy 61 = .ok (.ireturn, 1) := by decide +kernel
theorem dX12_copy_62 : decode cX12_copy 62 = .ok (.iload_n 2, 1) := by decide +kernel
theorem dX12_copy_63 : decode cX12_copy 63 = .ok (.ifCond .lt 48, 3) := by decide +kernel
theorem dX12_copy_66 : decode cX12_copy 66 = .ok (.iload 4, 2) := by decide +kernel
theorem dX12_copy_68 : decode cX12_copy 68 = .ok (.ifCond .lt 43, 3) := by decide +kernel
theorem dX12_copy_71 : decode cX12_copy 71 = .ok (.iload 5, 2) := by decide +kernel
theorem dX12_copy_73 : decode cX12_copy 73 = .ok (.ifCond .lt 38, 3) := by decide +kernel
theorem dX12_copy_76 : decode cX12_copy 76 = .ok (.iload_n 2, 1) := by decide +kernel
theorem dX12_copy_77 : decode cX12_copy 77 = .ok (.i2l, 1) := by decide +kernel
theorem dX12_copy_78 : decode cX12_copy 78 = .ok (.iload 5, 2) := by decide +kernel
theorem dX12_copy_80 : decode cX12_copy 80 = .ok (.i2l, 1) := by decide +kernel
theorem dX12_copy_81 : decode cX12_copy 81 = .ok (.ladd, 1) := by decide +kernel
theorem dX12_copy_82 : decode cX12_copy 82 = .ok (.aload_n 0, 1) := by decide +kernel
theorem dX12_copy_83 : decode cX12_copy 83 = .ok (.getfield 13, 3) := by decide +kernel
theorem dX12_copy_86 : decode cX12_copy 86 = .ok (.iload_n 1, 1) := by decide +kernel
theorem dX12_copy_87 : decode cX12_copy 87 = .ok (.iaload, 1) := by decide +kernel
theorem dX12_copy_88 : decode cX12_copy 88 = .ok (.i2l, 1) := by decide +kernel
theorem dX12_copy_89 : decode cX12_copy 89 = .ok (.lcmp, 1) := by decide +kernel
theorem dX12_copy_90 : decode cX12_copy 90 = .ok (.ifCond .gt 21, 3) := by decide +kernel
theorem dX12_copy_93 : decode cX12_copy 93 = .ok (.iload 4, 2) := by decide +kernel
theorem dX12_copy_95 : decode cX12_copy 95 = .ok (.i2l, 1) := by decide +kernel
theorem dX12_copy_96 : decode cX12_copy 96 = .ok (.iload 5, 2) := by decide +kernel
theorem dX12_copy_98 : decode cX12_copy 98 = .ok (.i2l, 1) := by decide +kernel
theorem dX12_copy_99 : decode cX12_copy 99 = .ok (.ladd, 1) := by decide +kernel
theorem dX12_copy_100 : decode cX12_copy 100 = .ok (.aload_n 0, 1) := by decide +kernel
theorem dX12_copy_101 : decode cX12_copy 101 = .ok (.getfield 13, 3) := by decide +kernel
theorem dX12_copy_104 : decode cX12_copy 104 = .ok (.iload_n 3, 1) := by decide +kernel
theorem dX12_copy_105 : decode cX12_copy 105 = .ok (.iaload, 1) := by decide +kernel
theorem dX12_copy_106 : decode cX12_copy 106 = .ok (.i2l, 1) := by decide +kernel
theorem dX12_copy_107 : decode cX12_copy 107 = .ok (.lcmp, 1) := by decide +kernel
theorem dX12_copy_108 : decode cX12_copy 108 = .ok (.ifCond .le 9, 3) := by decide +kernel
theorem dX12_copy_111 : decode cX12_copy 111 = .ok (.aload_n 0, 1) := by decide +kernel
theorem dX12_copy_112 : decode cX12_copy 112 = .ok (.iconst 2, 1) := by decide +kernel
theorem dX12_copy_113 : decode cX12_copy 113 = .ok (.invokevirtual 162, 3) := by decide +kernel
theorem dX12_copy_116 : decode cX12_copy 116 = .ok (.ireturn, 1) := by decide +kernel
theorem dX12_copy_117 : decode cX12_copy 117 = .ok (.iconst 0, 1) := by decide +kernel
theorem dX12_copy_118 : decode cX12_copy 118 = .ok (.istore 6, 2) := by decide +kernel
theorem dX12_copy_120 : decode cX12_copy 120 = .ok (.iload 6, 2) := by decide +kernel
theorem dX12_copy_122 : decode cX12_copy 122 = .ok (.iload 5, 2) := by decide +kernel
theorem dX12_copy_124 : decode cX12_copy 124 = .ok (.if_icmp .ge 31, 3) := by decide +kernel
theorem dX12_copy_127 : decode cX12_copy 127 = .ok (.aload_n 0, 1) := by decide +kernel
theorem dX12_copy_128 : decode cX12_copy 128 = .ok (.getfield 20, 3) := by decide +kernel
theorem dX12_copy_131 : decode cX12_copy 131 = .ok (.iload 6, 2) := by decide +kernel
theorem dX12_copy_133 : decode cX12_copy 133 = .ok (.aload_n 0, 1) := by decide +kernel
theorem dX12_copy_134 : decode cX12_copy 134 = .ok (.getfield 16, 3) := by decide +kernel
theorem dX12_copy_137 : decode cX12_copy 137 = .ok (.sipush 400, 3) := by decide +kernel
theorem dX12_copy_140 : decode cX12_copy 140 = .ok (.iload_n 1, 1) := by decide +kernel
theorem dX12_copy_141 : decode cX12_copy 141 = .ok (.imul, 1) := by decide +kernel
theorem dX12_copy_142 : decode cX12_copy 142 = .ok (.iload_n 2, 1) := by decide +kernel
theorem dX12_copy_143 : decode cX12_copy 143 = .ok (.iadd, 1) := by decide +kernel
theorem dX12_copy_144 : decode cX12_copy 144 = .ok (.iload 6, 2) := by decide +kernel
theorem dX12_copy_146 : decode cX12_copy 146 = .ok (.iadd, 1) := by decide +kernel
theorem dX12_copy_147 : decode cX12_copy 147 = .ok (.laload, 1) := by decide +kernel
theorem dX12_copy_148 : decode cX12_copy 148 = .ok (.lastore, 1) := by decide +kernel
theorem dX12_copy_149 : decode cX12_copy 149 = .ok (.iinc 6 1, 3) := by decide +kernel
theorem dX12_copy_152 : decode cX12_copy 152 = .ok (.goto (-32), 3) := by decide +kernel
theorem dX12_copy_155 : decode cX12_copy 155 = .ok (.iconst 0, 1) := by decide +kernel
theorem dX12_copy_156 : decode cX12_copy 156 = .ok (.istore 6, 2) := by decide +kernel
theorem dX12_copy_158 : decode cX12_copy 158 = .ok (.iload 6, 2) := by decide +kernel
theorem dX12_copy_160 : decode cX12_copy 160 = .ok (.iload 5, 2) := by decide +kernel
theorem dX12_copy_162 : decode cX12_copy 162 = .ok (.if_icmp .ge 32, 3) := by decide +kernel
theorem dX12_copy_165 : decode cX12_copy 165 = .ok (.aload_n 0, 1) := by decide +kernel
theorem dX12_copy_166 : decode cX12_copy 166 = .ok (.getfield 16, 3) := by decide +kernel
theorem dX12_copy_169 : decode cX12_copy 169 = .ok (.sipush 400, 3) := by decide +kernel
theorem dX12_copy_172 : decode cX12_copy 172 = .ok (.iload_n 3, 1) := by decide +kernel
theorem dX12_copy_173 : decode cX12_copy 173 = .ok (.imul, 1) := by decide +kernel
theorem dX12_copy_174 : decode cX12_copy 174 = .ok (.iload 4, 2) := by decide +kernel
theorem dX12_copy_176 : decode cX12_copy 176 = .ok (.iadd, 1) := by decide +kernel
theorem dX12_copy_177 : decode cX12_copy 177 = .ok (.iload 6, 2) := by decide +kernel
theorem dX12_copy_179 : decode cX12_copy 179 = .ok (.iadd, 1) := by decide +kernel
theorem dX12_copy_180 : decode cX12_copy 180 = .ok (.aload_n 0, 1) := by decide +kernel
theorem dX12_copy_181 : decode cX12_copy 181 = .ok (.getfield 20, 3) := by decide +kernel
theorem dX12_copy_184 : decode cX12_copy 184 = .ok (.iload 6, 2) := by decide +kernel
theorem dX12_copy_186 : decode cX12_copy 186 = .ok (.laload, 1) := by decide +kernel
theorem dX12_copy_187 : decode cX12_copy 187 = .ok (.lastore, 1) := by decide +kernel
theorem dX12_copy_188 : decode cX12_copy 188 = .ok (.iinc 6 1, 3) := by decide +kernel
theorem dX12_copy_191 : decode cX12_copy 191 = .ok (.goto (-33), 3) := by decide +kernel
theorem dX12_copy_194 : decode cX12_copy 194 = .ok (.iconst 1, 1) := by decide +kernel
theorem dX12_copy_195 : decode cX12_copy 195 = .ok (.ireturn, 1) := by decide +kernel
theorem dX12_isCell_0 : decode cX12_isCell 0 = .ok (.iload_n 1, 1) := by decide +kernel
theorem dX12_isCell_1 : decode cX12_isCell 1 = .ok (.i2l, 1) := by decide +kernel
theorem dX12_isCell_2 : decode cX12_isCell 2 = .ok (.lconst 0, 1) := by decide +kernel
theorem dX12_isCell_3 : decode cX12_isCell 3 = .ok (.aload_n 0, 1) := by decide +kernel
theorem dX12_isCell_4 : decode cX12_isCell 4 = .ok (.getfield 23, 3) := by decide +kernel
theorem dX12_isCell_7 : decode cX12_isCell 7 = .ok (.aload_n 0, 1) := by decide +kernel
theorem dX12_isCell_8 : decode cX12_isCell 8 = .ok (.getfield 27, 3) := by decide +kernel
theorem dX12_isCell_11 : decode cX12_isCell 11 = .ok (.imul, 1) := by decide +kernel
theorem dX12_isCell_12 : decode cX12_isCell 12 = .ok (.iconst 1, 1) := by decide +kernel
theorem dX12_isCell_13 : decode cX12_isCell 13 = .ok (.isub, 1) := by decide +kernel
theorem dX12_isCell_14 : decode cX12_isCell 14 = .ok (.i2l, 1) := by decide +kernel
theorem dX12_isCell_15 : decode cX12_isCell 15 = .ok (.invokestatic 152, 3) := by decide +kernel
theorem dX12_isCell_18 : decode cX12_isCell 18 = .ok (.ireturn, 1) := by decide +kernel
theorem dX12_land_0 : decode cX12_land 0 = .ok (.iload_n 1, 1) := by decide +kernel
theorem dX12_land_1 : decode cX12_land 1 = .ok (.i2l, 1) := by decide +kernel
theorem dX12_land_2 : decode cX12_land 2 = .ok (.lconst 1, 1) := by decide +kernel
theorem dX12_land_3 : decode cX12_land 3 = .ok (.ldc2_w 174, 3) := by decide +kernel
theorem dX12_land_6 : decode cX12_land 6 = .ok (.invokestatic 152, 3) := by decide +kernel
theorem dX12_land_9 : decode cX12_land 9 = .ok (.ifCond .eq 15, 3) := by decide +kernel
theorem dX12_land_12 : decode cX12_land 12 = .ok (.iload_n 2, 1) := by decide +kernel
theorem dX12_land_13 : decode cX12_land 13 = .ok (.i2l, 1) := by decide +kernel
theorem dX12_land_14 : decode cX12_land 14 = .ok (.lconst 1, 1) := by decide +kernel
theorem dX12_land_15 : decode cX12_land 15 = .ok (.ldc2_w 174, 3) := by decide +kernel
theorem dX12_land_18 : decode cX12_land 18 = .ok (.invokestatic 152, 3) := by decide +kernel
theorem dX12_land_21 : decode cX12_land 21 = .ok (.ifCond .ne 6, 3) := by decide +kernel
theorem dX12_land_24 : decode cX12_land 24 = .ok (.bipush (-2), 2) := by decide +kernel
theorem dX12_land_26 : decode cX12_land 26 = .ok (.ireturn, 1) := by decide +kernel
theorem dX12_land_27 : decode cX12_land 27 = .ok (.aload_n 0, 1) := by decide +kernel
theorem dX12_land_28 : decode cX12_land 28 = .ok (.getfield 176, 3) := by decide +kernel
theorem dX12_land_31 : decode cX12_land 31 = .ok (.aload_n 0, 1) := by decide +kernel
theorem dX12_land_32 : decode cX12_land 32 = .ok (.getfield 179, 3) := by decide +kernel
theorem dX12_land_35 : decode cX12_land 35 = .ok (.iadd, 1) := by decide +kernel
theorem dX12_land_36 : decode cX12_land 36 = .ok (.aload_n 0, 1) := by decide +kernel
theorem dX12_land_37 : decode cX12_land 37 = .ok (.getfield 182, 3) := by decide +kernel
theorem dX12_land_40 : decode cX12_land 40 = .ok (.iadd, 1) := by decide +kernel
theorem dX12_land_41 : decode cX12_land 41 = .ok (.aload_n 0, 1) := by decide +kernel
theorem dX12_land_42 : decode cX12_land 42 = .ok (.getfield 185, 3) := by decide +kernel
theorem dX12_land_45 : decode cX12_land 45 = .ok (.iadd, 1) := by decide +kernel
theorem dX12_land_46 : decode cX12_land 46 = .ok (.ifCond .le 6, 3) := by decide +kernel
theorem dX12_land_49 : decode cX12_land 49 = .ok (.bipush (-3), 2) := by decide +kernel
theorem dX12_land_51 : decode cX12_land 51 = .ok (.ireturn, 1) := by decide +kernel
theorem dX12_land_52 : decode cX12_land 52 = .ok (.aload_n 0, 1) := by decide +kernel
theorem dX12_land_53 : decode cX12_land 53 = .ok (.iload_n 1, 1) := by decide +kernel
theorem dX12_land_54 : decode cX12_land 54 = .ok (.putfield 23, 3) := by decide +kernel
theorem dX12_land_57 : decode cX12_land 57 = .ok (.aload_n 0, 1) := by decide +kernel
theorem dX12_land_58 : decode cX12_land 58 = .ok (.iload_n 2, 1) := by decide +kernel
theorem dX12_land_59 : decode cX12_land 59 = .ok (.putfield 27, 3) := by decide +kernel
theorem dX12_land_62 : decode cX12_land 62 = .ok (.iconst 1, 1) := by decide +kernel
theorem dX12_land_63 : decode cX12_land 63 = .ok (.ireturn, 1) := by decide +kernel
theorem dX12_told_0 : decode cX12_told 0 = .ok (.aload_n 0, 1) := by decide +kernel
theorem dX12_told_1 : decode cX12_told 1 = .ok (.getfield 7, 3) := by decide +kernel
theorem dX12_told_4 : decode cX12_told 4 = .ok (.iload_n 1, 1) := by decide +kernel
theorem dX12_told_5 : decode cX12_told 5 = .ok (.iaload, 1) := by decide +kernel
theorem dX12_told_6 : decode cX12_told 6 = .ok (.ifCond .lt 34, 3) := by decide +kernel
theorem dX12_told_9 : decode cX12_told 9 = .ok (.iload_n 2, 1) := by decide +kernel
theorem dX12_told_10 : decode cX12_told 10 = .ok (.aload_n 0, 1) := by decide +kernel
theorem dX12_told_11 : decode cX12_told 11 = .ok (.getfield 13, 3) := by decide +kernel
theorem dX12_told_14 : decode cX12_told 14 = .ok (.iload_n 1, 1) := by decide +kernel
theorem dX12_told_15 : decode cX12_told 15 = .ok (.iaload, 1) := by decide +kernel
theorem dX12_told_16 : decode cX12_told 16 = .ok (.if_icmp .ge 24, 3) := by decide +kernel
theorem dX12_told_19 : decode cX12_told 19 = .ok (.aload_n 0, 1) := by decide +kernel
theorem dX12_told_20 : decode cX12_told 20 = .ok (.getfield 16, 3) := by decide +kernel
theorem dX12_told_23 : decode cX12_told 23 = .ok (.sipush 400, 3) := by decide +kernel
theorem dX12_told_26 : decode cX12_told 26 = .ok (.iload_n 1, 1) := by decide +kernel
theorem dX12_told_27 : decode cX12_told 27 = .ok (.imul, 1) := by decide +kernel
theorem dX12_told_28 : decode cX12_told 28 = .ok (.iload_n 2, 1) := by decide +kernel
theorem dX12_told_29 : decode cX12_told 29 = .ok (.iadd, 1) := by decide +kernel
theorem dX12_told_30 : decode cX12_told 30 = .ok (.laload, 1) := by decide +kernel
theorem dX12_told_31 : decode cX12_told 31 = .ok (.lconst 0, 1) := by decide +kernel
theorem dX12_told_32 : decode cX12_told 32 = .ok (.iload_n 3, 1) := by decide +kernel
theorem dX12_told_33 : decode cX12_told 33 = .ok (.i2l, 1) := by decide +kernel
theorem dX12_told_34 : decode cX12_told 34 = .ok (.invokestatic 152, 3) := by decide +kernel
theorem dX12_told_37 : decode cX12_told 37 = .ok (.ifCond .ne 5, 3) := by decide +kernel
theorem dX12_told_40 : decode cX12_told 40 = .ok (.iconst (-1), 1) := by decide +kernel
theorem dX12_told_41 : decode cX12_told 41 = .ok (.ireturn, 1) := by decide +kernel
theorem dX12_told_42 : decode cX12_told 42 = .ok (.aload_n 0, 1) := by decide +kernel
theorem dX12_told_43 : decode cX12_told 43 = .ok (.getfield 16, 3) := by decide +kernel
theorem dX12_told_46 : decode cX12_told 46 = .ok (.sipush 400, 3) := by decide +kernel
theorem dX12_told_49 : decode cX12_told 49 = .ok (.iload_n 1, 1) := by decide +kernel
theorem dX12_told_50 : decode cX12_told 50 = .ok (.imul, 1) := by decide +kernel
theorem dX12_told_51 : decode cX12_told 51 = .ok (.iload_n 2, 1) := by decide +kernel
theorem dX12_told_52 : decode cX12_told 52 = .ok (.iadd, 1) := by decide +kernel
theorem dX12_told_53 : decode cX12_told 53 = .ok (.laload, 1) := by decide +kernel
theorem dX12_told_54 : decode cX12_told 54 = .ok (.l2i, 1) := by decide +kernel
theorem dX12_told_55 : decode cX12_told 55 = .ok (.ireturn, 1) := by decide +kernel
theorem dX12_hillOf_0 : decode cX12_hillOf 0 = .ok (.aload_n 0, 1) := by decide +kernel
theorem dX12_hillOf_1 : decode cX12_hillOf 1 = .ok (.iconst 0, 1) := by decide +kernel
theorem dX12_hillOf_2 : decode cX12_hillOf 2 = .ok (.iload_n 1, 1) := by decide +kernel
theorem dX12_hillOf_3 : decode cX12_hillOf 3 = .ok (.bipush 99, 2) := by decide +kernel
theorem dX12_hillOf_5 : decode cX12_hillOf 5 = .ok (.invokevirtual 188, 3) := by decide +kernel
theorem dX12_hillOf_8 : decode cX12_hillOf 8 = .ok (.ireturn, 1) := by decide +kernel
theorem dX12_woodOf_0 : decode cX12_woodOf 0 = .ok (.aload_n 0, 1) := by decide +kernel
theorem dX12_woodOf_1 : decode cX12_woodOf 1 = .ok (.iconst 1, 1) := by decide +kernel
theorem dX12_woodOf_2 : decode cX12_woodOf 2 = .ok (.iload_n 1, 1) := by decide +kernel
theorem dX12_woodOf_3 : decode cX12_woodOf 3 = .ok (.bipush 9, 2) := by decide +kernel
theorem dX12_woodOf_5 : decode cX12_woodOf 5 = .ok (.invokevirtual 188, 3) := by decide +kernel
theorem dX12_woodOf_8 : decode cX12_woodOf 8 = .ok (.ireturn, 1) := by decide +kernel
theorem dX12_ground_0 : decode cX12_ground 0 = .ok (.aload_n 0, 1) := by decide +kernel
theorem dX12_ground_1 : decode cX12_ground 1 = .ok (.iload_n 1, 1) := by decide +kernel
theorem dX12_ground_2 : decode cX12_ground 2 = .ok (.invokevirtual 191, 3) := by decide +kernel
theorem dX12_ground_5 : decode cX12_ground 5 = .ok (.ifCond .eq 13, 3) := by decide +kernel
theorem dX12_ground_8 : decode cX12_ground 8 = .ok (.iload_n 2, 1) := by decide +kernel
theorem dX12_ground_9 : decode cX12_ground 9 = .ok (.i2l, 1) := by decide +kernel
theorem dX12_ground_10 : decode cX12_ground 10 = .ok (.lconst 0, 1) := by decide +kernel
theorem dX12_ground_11 : decode cX12_ground 11 = .ok (.lconst 1, 1) := by decide +kernel
theorem dX12_ground_12 : decode cX12_ground 12 = .ok (.invokestatic 152, 3) := by decide +kernel
theorem dX12_ground_15 : decode cX12_ground 15 = .ok (.ifCond .ne 6, 3) := by decide +kernel
theorem dX12_ground_18 : decode cX12_ground 18 = .ok (.bipush (-2), 2) := by decide +kernel
theorem dX12_ground_20 : decode cX12_ground 20 = .ok (.ireturn, 1) := by decide +kernel
theorem dX12_ground_21 : decode cX12_ground 21 = .ok (.iload_n 2, 1) := by decide +kernel
theorem dX12_ground_22 : decode cX12_ground 22 = .ok (.ifCond .ne 11, 3) := by decide +kernel
theorem dX12_ground_25 : decode cX12_ground 25 = .ok (.aload_n 0, 1) := by decide +kernel
theorem dX12_ground_26 : decode cX12_ground 26 = .ok (.iload_n 1, 1) := by decide +kernel
theorem dX12_ground_27 : decode cX12_ground 27 = .ok (.invokevirtual 194, 3) := by decide +kernel
theorem dX12_ground_30 : decode cX12_ground 30 = .ok (.goto 8, 3) := by decide +kernel
theorem dX12_ground_33 : decode cX12_ground 33 = .ok (.aload_n 0, 1) := by decide +kernel
theorem dX12_ground_34 : decode cX12_ground 34 = .ok (.iload_n 1, 1) := by decide +kernel
theorem dX12_ground_35 : decode cX12_ground 35 = .ok (.invokevirtual 197, 3) := by decide +kernel
theorem dX12_ground_38 : decode cX12_ground 38 = .ok (.ireturn, 1) := by decide +kernel
theorem dX12_set_0 : decode cX12_set 0 = .ok (.iload_n 1, 1) := by decide +kernel
theorem dX12_set_1 : decode cX12_set 1 = .ok (.ifCond .ne 15, 3) := by decide +kernel
theorem dX12_set_4 : decode cX12_set 4 = .ok (.iload_n 2, 1) := by decide +kernel
theorem dX12_set_5 : decode cX12_set 5 = .ok (.i2l, 1) := by decide +kernel
theorem dX12_set_6 : decode cX12_set 6 = .ok (.lconst 0, 1) := by decide +kernel
theorem dX12_set_7 : decode cX12_set 7 = .ok (.ldc2_w 200, 3) := by decide +kernel
theorem dX12_set_10 : decode cX12_set 10 = .ok (.invokestatic 152, 3) := by decide +kernel
theorem dX12_set_13 : decode cX12_set 13 = .ok (.goto 68, 3) := by decide +kernel
theorem dX12_set_16 : decode cX12_set 16 = .ok (.iload_n 1, 1) := by decide +kernel
theorem dX12_set_17 : decode cX12_set 17 = .ok (.iconst 1, 1) := by decide +kernel
theorem dX12_set_18 : decode cX12_set 18 = .ok (.if_icmp .ne 15, 3) := by decide +kernel
theorem dX12_set_21 : decode cX12_set 21 = .ok (.iload_n 2, 1) := by decide +kernel
theorem dX12_set_22 : decode cX12_set 22 = .ok (.i2l, 1) := by decide +kernel
theorem dX12_set_23 : decode cX12_set 23 = .ok (.lconst 0, 1) := by decide +kernel
theorem dX12_set_24 : decode cX12_set 24 = .ok (.ldc2_w 202, 3) := by decide +kernel
theorem dX12_set_27 : decode cX12_set 27 = .ok (.invokestatic 152, 3) := by decide +kernel
theorem dX12_set_30 : decode cX12_set 30 = .ok (.goto 51, 3) := by decide +kernel
theorem dX12_set_33 : decode cX12_set 33 = .ok (.iload_n 1, 1) := by decide +kernel
theorem dX12_set_34 : decode cX12_set 34 = .ok (.iconst 2, 1) := by decide +kernel
theorem dX12_set_35 : decode cX12_set 35 = .ok (.if_icmp .ne 15, 3) := by decide +kernel
theorem dX12_set_38 : decode cX12_set 38 = .ok (.iload_n 2, 1) := by decide +kernel
theorem dX12_set_39 : decode cX12_set 39 = .ok (.i2l, 1) := by decide +kernel
theorem dX12_set_40 : decode cX12_set 40 = .ok (.lconst 1, 1) := by decide +kernel
theorem dX12_set_41 : decode cX12_set 41 = .ok (.ldc2_w 204, 3) := by decide +kernel
theorem dX12_set_44 : decode cX12_set 44 = .ok (.invokestatic 152, 3) := by decide +kernel
theorem dX12_set_47 : decode cX12_set 47 = .ok (.goto 34, 3) := by decide +kernel
theorem dX12_set_50 : decode cX12_set 50 = .ok (.iload_n 1, 1) := by decide +kernel
theorem dX12_set_51 : decode cX12_set 51 = .ok (.i2l, 1) := by decide +kernel
theorem dX12_set_52 : decode cX12_set 52 = .ok (.ldc2_w 160, 3) := by decide +kernel
theorem dX12_set_55 : decode cX12_set 55 = .ok (.ldc2_w 206, 3) := by decide +kernel
theorem dX12_set_58 : decode cX12_set 58 = .ok (.invokestatic 152, 3) := by decide +kernel
theorem dX12_set_61 : decode cX12_set 61 = .ok (.ifCond .eq 19, 3) := by decide +kernel
theorem dX12_set_64 : decode cX12_set 64 = .ok (.iload_n 2, 1) := by decide +kernel
theorem dX12_set_65 : decode cX12_set 65 = .ok (.i2l, 1) := by decide +kernel
theorem dX12_set_66 : decode cX12_set 66 = .ok (.lconst 1, 1) := by decide +kernel
theorem dX12_set_67 : decode cX12_set 67 = .ok (.ldc2_w 208, 3) := by decide +kernel
theorem dX12_set_70 : decode cX12_set 70 = .ok (.invokestatic 152, 3) := by decide +kernel
theorem dX12_set_73 : decode cX12_set 73 = .ok (.ifCond .eq 7, 3) := by decide +kernel
theorem dX12_set_76 : decode cX12_set 76 = .ok (.iconst 1, 1) := by decide +kernel
theorem dX12_set_77 : decode cX12_set 77 = .ok (.goto 4, 3) := by decide +kernel
theorem dX12_set_80 : decode cX12_set 80 = .ok (.iconst 0, 1) := by decide +kernel
theorem dX12_set_81 : decode cX12_set 81 = .ok (.istore_n 3, 1) := by decide +kernel
theorem dX12_set_82 : decode cX12_set 82 = .ok (.iload_n 3, 1) := by decide +kernel
theorem dX12_set_83 : decode cX12_set 83 = .ok (.ifCond .ne 6, 3) := by decide +kernel
theorem dX12_set_86 : decode cX12_set 86 = .ok (.bipush (-2), 2) := by decide +kernel
theorem dX12_set_88 : decode cX12_set 88 = .ok (.ireturn, 1) := by decide +kernel
theorem dX12_set_89 : decode cX12_set 89 = .ok (.aload_n 0, 1) := by decide +kernel
theorem dX12_set_90 : decode cX12_set 90 = .ok (.getfield 30, 3) := by decide +kernel
theorem dX12_set_93 : decode cX12_set 93 = .ok (.iload_n 1, 1) := by decide +kernel
theorem dX12_set_94 : decode cX12_set 94 = .ok (.iaload, 1) := by decide +kernel
theorem dX12_set_95 : decode cX12_set 95 = .ok (.istore 4, 2) := by decide +kernel
theorem dX12_set_97 : decode cX12_set 97 = .ok (.aload_n 0, 1) := by decide +kernel
theorem dX12_set_98 : decode cX12_set 98 = .ok (.getfield 30, 3) := by decide +kernel
theorem dX12_set_101 : decode cX12_set 101 = .ok (.iload_n 1, 1) := by decide +kernel
theorem dX12_set_102 : decode cX12_set 102 = .ok (.iload_n 2, 1) := by decide +kernel
theorem dX12_set_103 : decode cX12_set 103 = .ok (.iastore, 1) := by decide +kernel
theorem dX12_set_104 : decode cX12_set 104 = .ok (.iload 4, 2) := by decide +kernel
theorem dX12_set_106 : decode cX12_set 106 = .ok (.ireturn, 1) := by decide +kernel
theorem dX12_floorBy_0 : decode cX12_floorBy 0 = .ok (.iload_n 0, 1) := by decide +kernel
theorem dX12_floorBy_1 : decode cX12_floorBy 1 = .ok (.ifCond .ge 14, 3) := by decide +kernel
theorem dX12_floorBy_4 : decode cX12_floorBy 4 = .ok (.iload_n 1, 1) := by decide +kernel
theorem dX12_floorBy_5 : decode cX12_floorBy 5 = .ok (.iconst 1, 1) := by decide +kernel
theorem dX12_floorBy_6 : decode cX12_floorBy 6 = .ok (.isub, 1) := by decide +kernel
theorem dX12_floorBy_7 : decode cX12_floorBy 7 = .ok (.iload_n 0, 1) := by decide +kernel
theorem dX12_floorBy_8 : decode cX12_floorBy 8 = .ok (.isub, 1) := by decide +kernel
theorem dX12_floorBy_9 : decode cX12_floorBy 9 = .ok (.iload_n 1, 1) := by decide +kernel
theorem dX12_floorBy_10 : decode cX12_floorBy 10 = .ok (.idiv, 1) := by decide +kernel
theorem dX12_floorBy_11 : decode cX12_floorBy 11 = .ok (.ineg, 1) := by decide +kernel
theorem dX12_floorBy_12 : decode cX12_floorBy 12 = .ok (.goto 6, 3) := by decide +kernel
theorem dX12_floorBy_15 : decode cX12_floorBy 15 = .ok (.iload_n 0, 1) := by decide +kernel
theorem dX12_floorBy_16 : decode cX12_floorBy 16 = .ok (.iload_n 1, 1) := by decide +kernel
theorem dX12_floorBy_17 : decode cX12_floorBy 17 = .ok (.idiv, 1) := by decide +kernel
theorem dX12_floorBy_18 : decode cX12_floorBy 18 = .ok (.ireturn, 1) := by decide +kernel
theorem dX12_atLeast0_0 : decode cX12_atLeast0 0 = .ok (.iload_n 0, 1) := by decide +kernel
theorem dX12_atLeast0_1 : decode cX12_atLeast0 1 = .ok (.ifCond .le 7, 3) := by decide +kernel
theorem dX12_atLeast0_4 : decode cX12_atLeast0 4 = .ok (.iload_n 0, 1) := by decide +kernel
theorem dX12_atLeast0_5 : decode cX12_atLeast0 5 = .ok (.goto 4, 3) := by decide +kernel
theorem dX12_atLeast0_8 : decode cX12_atLeast0 8 = .ok (.iconst 0, 1) := by decide +kernel
theorem dX12_atLeast0_9 : decode cX12_atLeast0 9 = .ok (.ireturn, 1) := by decide +kernel
theorem dX12_lossOf_0 : decode cX12_lossOf 0 = .ok (.iload_n 3, 1) := by decide +kernel
theorem dX12_lossOf_1 : decode cX12_lossOf 1 = .ok (.aload_n 0, 1) := by decide +kernel
theorem dX12_lossOf_2 : decode cX12_lossOf 2 = .ok (.getfield 23, 3) := by decide +kernel
theorem dX12_lossOf_5 : decode cX12_lossOf 5 = .ok (.irem, 1) := by decide +kernel
theorem dX12_lossOf_6 : decode cX12_lossOf 6 = .ok (.iload_n 1, 1) := by decide +kernel
theorem dX12_lossOf_7 : decode cX12_lossOf 7 = .ok (.aload_n 0, 1) := by decide +kernel
theorem dX12_lossOf_8 : decode cX12_lossOf 8 = .ok (.getfield 23, 3) := by decide +kernel
theorem dX12_lossOf_11 : decode cX12_lossOf 11 = .ok (.irem, 1) := by decide +kernel
theorem dX12_lossOf_12 : decode cX12_lossOf 12 = .ok (.isub, 1) := by decide +kernel
theorem dX12_lossOf_13 : decode cX12_lossOf 13 = .ok (.istore 6, 2) := by decide +kernel
theorem dX12_lossOf_15 : decode cX12_lossOf 15 = .ok (.iload_n 3, 1) := by decide +kernel
theorem dX12_lossOf_16 : decode cX12_lossOf 16 = .ok (.aload_n 0, 1) := by decide +kernel
theorem dX12_lossOf_17 : decode cX12_lossOf 17 = .ok (.getfield 23, 3) := by decide +kernel
theorem dX12_lossOf_20 : decode cX12_lossOf 20 = .ok (.idiv, 1) := by decide +kernel
theorem dX12_lossOf_21 : decode cX12_lossOf 21 = .ok (.iload_n 1, 1) := by decide +kernel
theorem dX12_lossOf_22 : decode cX12_lossOf 22 = .ok (.aload_n 0, 1) := by decide +kernel
theorem dX12_lossOf_23 : decode cX12_lossOf 23 = .ok (.getfield 23, 3) := by decide +kernel
theorem dX12_lossOf_26 : decode cX12_lossOf 26 = .ok (.idiv, 1) := by decide +kernel
theorem dX12_lossOf_27 : decode cX12_lossOf 27 = .ok (.isub, 1) := by decide +kernel
theorem dX12_lossOf_28 : decode cX12_lossOf 28 = .ok (.istore 7, 2) := by decide +kernel
theorem dX12_lossOf_30 : decode cX12_lossOf 30 = .ok (.iload 6, 2) := by decide +kernel
theorem dX12_lossOf_32 : decode cX12_lossOf 32 = .ok (.ifCond .ge 9, 3) := by decide +kernel
theorem dX12_lossOf_35 : decode cX12_lossOf 35 = .ok (.iload 6, 2) := by decide +kernel
theorem dX12_lossOf_37 : decode cX12_lossOf 37 = .ok (.ineg, 1) := by decide +kernel
theorem dX12_lossOf_38 : decode cX12_lossOf 38 = .ok (.goto 5, 3) := by decide +kernel
theorem dX12_lossOf_41 : decode cX12_lossOf 41 = .ok (.iload 6, 2) := by decide +kernel
theorem dX12_lossOf_43 : decode cX12_lossOf 43 = .ok (.istore 8, 2) := by decide +kernel
theorem dX12_lossOf_45 : decode cX12_lossOf 45 = .ok (.iload 7, 2) := by decide +kernel
theorem dX12_lossOf_47 : decode cX12_lossOf 47 = .ok (.ifCond .ge 9, 3) := by decide +kernel
theorem dX12_lossOf_50 : decode cX12_lossOf 50 = .ok (.iload 7, 2) := by decide +kernel
theorem dX12_lossOf_52 : decode cX12_lossOf 52 = .ok (.ineg, 1) := by decide +kernel
theorem dX12_lossOf_53 : decode cX12_lossOf 53 = .ok (.goto 5, 3) := by decide +kernel
theorem dX12_lossOf_56 : decode cX12_lossOf 56 = .ok (.iload 7, 2) := by decide +kernel
theorem dX12_lossOf_58 : decode cX12_lossOf 58 = .ok (.istore 9, 2) := by decide +kernel
theorem dX12_lossOf_60 : decode cX12_lossOf 60 = .ok (.iload 8, 2) := by decide +kernel
theorem dX12_lossOf_62 : decode cX12_lossOf 62 = .ok (.iload 9, 2) := by decide +kernel
theorem dX12_lossOf_64 : decode cX12_lossOf 64 = .ok (.if_icmp .le 8, 3) := by decide +kernel
theorem dX12_lossOf_67 : decode cX12_lossOf 67 = .ok (.iload 8, 2) := by decide +kernel
theorem dX12_lossOf_69 : decode cX12_lossOf 69 = .ok (.goto 5, 3) := by decide +kernel
theorem dX12_lossOf_72 : decode cX12_lossOf 72 = .ok (.iload 9, 2) := by decide +kernel
theorem dX12_lossOf_74 : decode cX12_lossOf 74 = .ok (.istore 10, 2) := by decide +kernel
theorem dX12_lossOf_76 : decode cX12_lossOf 76 = .ok (.iload_n 2, 1) := by decide +kernel
theorem dX12_lossOf_77 : decode cX12_lossOf 77 = .ok (.aload_n 0, 1) := by decide +kernel
theorem dX12_lossOf_78 : decode cX12_lossOf 78 = .ok (.iload_n 1, 1) := by decide +kernel
theorem dX12_lossOf_79 : decode cX12_lossOf 79 = .ok (.invokevirtual 194, 3) := by decide +kernel
theorem dX12_lossOf_82 : decode cX12_lossOf 82 = .ok (.invokestatic 210, 3) := by decide +kernel
theorem dX12_lossOf_85 : decode cX12_lossOf 85 = .ok (.iadd, 1) := by decide +kernel
theorem dX12_lossOf_86 : decode cX12_lossOf 86 = .ok (.istore 11, 2) := by decide +kernel
theorem dX12_lossOf_88 : decode cX12_lossOf 88 = .ok (.iload 4, 2) := by decide +kernel
theorem dX12_lossOf_90 : decode cX12_lossOf 90 = .ok (.aload_n 0, 1) := by decide +kernel
theorem dX12_lossOf_91 : decode cX12_lossOf 91 = .ok (.iload_n 3, 1) := by decide +kernel
theorem dX12_lossOf_92 : decode cX12_lossOf 92 = .ok (.invokevirtual 194, 3) := by decide +kernel
theorem dX12_lossOf_95 : decode cX12_lossOf 95 = .ok (.invokestatic 210, 3) := by decide +kernel
theorem dX12_lossOf_98 : decode cX12_lossOf 98 = .ok (.iadd, 1) := by decide +kernel
theorem dX12_lossOf_99 : decode cX12_lossOf 99 = .ok (.istore 12, 2) := by decide +kernel
theorem dX12_lossOf_101 : decode cX12_lossOf 101 = .ok (.iconst 1, 1) := by decide +kernel
theorem dX12_lossOf_102 : decode cX12_lossOf 102 = .ok (.iload 6, 2) := by decide +kernel
theorem dX12_lossOf_104 : decode cX12_lossOf 104 = .ok (.iload 6, 2) := by decide +kernel
theorem dX12_lossOf_106 : decode cX12_lossOf 106 = .ok (.imul, 1) := by decide +kernel
theorem dX12_lossOf_107 : decode cX12_lossOf 107 = .ok (.iadd, 1) := by decide +kernel
theorem dX12_lossOf_108 : decode cX12_lossOf 108 = .ok (.iload 7, 2) := by decide +kernel
theorem dX12_lossOf_110 : decode cX12_lossOf 110 = .ok (.iload 7, 2) := by decide +kernel
theorem dX12_lossOf_112 : decode cX12_lossOf 112 = .ok (.imul, 1) := by decide +kernel
theorem dX12_lossOf_113 : decode cX12_lossOf 113 = .ok (.iadd, 1) := by decide +kernel
theorem dX12_lossOf_114 : decode cX12_lossOf 114 = .ok (.istore 13, 2) := by decide +kernel
theorem dX12_lossOf_116 : decode cX12_lossOf 116 = .ok (.iconst 1, 1) := by decide +kernel
theorem dX12_lossOf_117 : decode cX12_lossOf 117 = .ok (.istore 14, 2) := by decide +kernel
theorem dX12_lossOf_119 : decode cX12_lossOf 119 = .ok (.iload 14, 2) := by decide +kernel
theorem dX12_lossOf_121 : decode cX12_lossOf 121 = .ok (.iload 10, 2) := by decide +kernel
theorem dX12_lossOf_123 : decode cX12_lossOf 123 = .ok (.if_icmp .ge 188, 3) := by decide +kernel
theorem dX12_lossOf_126 : decode cX12_lossOf 126 = .ok (.iload_n 1, 1) := by decide +kernel
theorem dX12_lossOf_127 : decode cX12_lossOf 127 = .ok (.aload_n 0, 1) := by decide +kernel
theorem dX12_lossOf_128 : decode cX12_lossOf 128 = .ok (.getfield 23, 3) := by decide +kernel
theorem dX12_lossOf_131 : decode cX12_lossOf 131 = .ok (.irem, 1) := by decide +kernel
theorem dX12_lossOf_132 : decode cX12_lossOf 132 = .ok (.iconst 2, 1) := by decide +kernel
theorem dX12_lossOf_133 : decode cX12_lossOf 133 = .ok (.iload 14, 2) := by decide +kernel
theorem dX12_lossOf_135 : decode cX12_lossOf 135 = .ok (.imul, 1) := by decide +kernel
theorem dX12_lossOf_136 : decode cX12_lossOf 136 = .ok (.iload 6, 2) := by decide +kernel
theorem dX12_lossOf_138 : decode cX12_lossOf 138 = .ok (.imul, 1) := by decide +kernel
theorem dX12_lossOf_139 : decode cX12_lossOf 139 = .ok (.iload 10, 2) := by decide +kernel
theorem dX12_lossOf_141 : decode cX12_lossOf 141 = .ok (.iadd, 1) := by decide +kernel
theorem dX12_lossOf_142 : decode cX12_lossOf 142 = .ok (.iconst 2, 1) := by decide +kernel
theorem dX12_lossOf_143 : decode cX12_lossOf 143 = .ok (.iload 10, 2) := by decide +kernel
theorem dX12_lossOf_145 : decode cX12_lossOf 145 = .ok (.imul, 1) := by decide +kernel
theorem dX12_lossOf_146 : decode cX12_lossOf 146 = .ok (.invokestatic 213, 3) := by decide +kernel
theorem dX12_lossOf_149 : decode cX12_lossOf 149 = .ok (.iadd, 1) := by decide +kernel
theorem dX12_lossOf_150 : decode cX12_lossOf 150 = .ok (.istore 15, 2) := by decide +kernel
theorem dX12_lossOf_152 : decode cX12_lossOf 152 = .ok (.iload_n 1, 1) := by decide +kernel
theorem dX12_lossOf_153 : decode cX12_lossOf 153 = .ok (.aload_n 0, 1) := by decide +kernel
theorem dX12_lossOf_154 : decode cX12_lossOf 154 = .ok (.getfield 23, 3) := by decide +kernel
theorem dX12_lossOf_157 : decode cX12_lossOf 157 = .ok (.idiv, 1) := by decide +kernel
theorem dX12_lossOf_158 : decode cX12_lossOf 158 = .ok (.iconst 2, 1) := by decide +kernel
theorem dX12_lossOf_159 : decode cX12_lossOf 159 = .ok (.iload 14, 2) := by decide +kernel
theorem dX12_lossOf_161 : decode cX12_lossOf 161 = .ok (.imul, 1) := by decide +kernel
theorem dX12_lossOf_162 : decode cX12_lossOf 162 = .ok (.iload 7, 2) := by decide +kernel
theorem dX12_lossOf_164 : decode cX12_lossOf 164 = .ok (.imul, 1) := by decide +kernel
theorem dX12_lossOf_165 : decode cX12_lossOf 165 = .ok (.iload 10, 2) := by decide +kernel
theorem dX12_lossOf_167 : decode cX12_lossOf 167 = .ok (.iadd, 1) := by decide +kernel
theorem dX12_lossOf_168 : decode cX12_lossOf 168 = .ok (.iconst 2, 1) := by decide +kernel
theorem dX12_lossOf_169 : decode cX12_lossOf 169 = .ok (.iload 10, 2) := by decide +kernel
theorem dX12_lossOf_171 : decode cX12_lossOf 171 = .ok (.imul, 1) := by decide +kernel
theorem dX12_lossOf_172 : decode cX12_lossOf 172 = .ok (.invokestatic 213, 3) := by decide +kernel
theorem dX12_lossOf_175 : decode cX12_lossOf 175 = .ok (.iadd, 1) := by decide +kernel
theorem dX12_lossOf_176 : decode cX12_lossOf 176 = .ok (.istore 16, 2) := by decide +kernel
theorem dX12_lossOf_178 : decode cX12_lossOf 178 = .ok (.aload_n 0, 1) := by decide +kernel
theorem dX12_lossOf_179 : decode cX12_lossOf 179 = .ok (.iload 16, 2) := by decide +kernel
theorem dX12_lossOf_181 : decode cX12_lossOf 181 = .ok (.aload_n 0, 1) := by decide +kernel
theorem dX12_lossOf_182 : decode cX12_lossOf 182 = .ok (.getfield 23, 3) := by decide +kernel
theorem dX12_lossOf_185 : decode cX12_lossOf 185 = .ok (.imul, 1) := by decide +kernel
theorem dX12_lossOf_186 : decode cX12_lossOf 186 = .ok (.iload 15, 2) := by decide +kernel
theorem dX12_lossOf_188 : decode cX12_lossOf 188 = .ok (.iadd, 1) := by decide +kernel
theorem dX12_lossOf_189 : decode cX12_lossOf 189 = .ok (.invokevirtual 197, 3) := by decide +kernel
theorem dX12_lossOf_192 : decode cX12_lossOf 192 = .ok (.istore 17, 2) := by decide +kernel
theorem dX12_lossOf_194 : decode cX12_lossOf 194 = .ok (.aload_n 0, 1) := by decide +kernel
theorem dX12_lossOf_195 : decode cX12_lossOf 195 = .ok (.iload 16, 2) := by decide +kernel
theorem dX12_lossOf_197 : decode cX12_lossOf 197 = .ok (.aload_n 0, 1) := by decide +kernel
theorem dX12_lossOf_198 : decode cX12_lossOf 198 = .ok (.getfield 23, 3) := by decide +kernel
theorem dX12_lossOf_201 : decode cX12_lossOf 201 = .ok (.imul, 1) := by decide +kernel
theorem dX12_lossOf_202 : decode cX12_lossOf 202 = .ok (.iload 15, 2) := by decide +kernel
theorem dX12_lossOf_204 : decode cX12_lossOf 204 = .ok (.iadd, 1) := by decide +kernel
theorem dX12_lossOf_205 : decode cX12_lossOf 205 = .ok (.invokevirtual 194, 3) := by decide +kernel
theorem dX12_lossOf_208 : decode cX12_lossOf 208 = .ok (.istore 18, 2) := by decide +kernel
theorem dX12_lossOf_210 : decode cX12_lossOf 210 = .ok (.iload 17, 2) := by decide +kernel
theorem dX12_lossOf_212 : decode cX12_lossOf 212 = .ok (.iconst (-1), 1) := by decide +kernel
theorem dX12_lossOf_213 : decode cX12_lossOf 213 = .ok (.if_icmp .ne 18, 3) := by decide +kernel
theorem dX12_lossOf_216 : decode cX12_lossOf 216 = .ok (.iload 5, 2) := by decide +kernel
theorem dX12_lossOf_218 : decode cX12_lossOf 218 = .ok (.iconst 1, 1) := by decide +kernel
theorem dX12_lossOf_219 : decode cX12_lossOf 219 = .ok (.if_icmp .ne 8, 3) := by decide +kernel
theorem dX12_lossOf_222 : decode cX12_lossOf 222 = .ok (.bipush 9, 2) := by decide +kernel
theorem dX12_lossOf_224 : decode cX12_lossOf 224 = .ok (.goto 9, 3) := by decide +kernel
theorem dX12_lossOf_227 : decode cX12_lossOf 227 = .ok (.iconst 0, 1) := by decide +kernel
theorem dX12_lossOf_228 : decode cX12_lossOf 228 = .ok (.goto 5, 3) := by decide +kernel
theorem dX12_lossOf_231 : decode cX12_lossOf 231 = .ok (.iload 17, 2) := by decide +kernel
theorem dX12_lossOf_233 : decode cX12_lossOf 233 = .ok (.istore 17, 2) := by decide +kernel
theorem dX12_lossOf_235 : decode cX12_lossOf 235 = .ok (.iload 18, 2) := by decide +kernel
theorem dX12_lossOf_237 : decode cX12_lossOf 237 = .ok (.iconst (-1), 1) := by decide +kernel
theorem dX12_lossOf_238 : decode cX12_lossOf 238 = .ok (.if_icmp .ne 18, 3) := by decide +kernel
theorem dX12_lossOf_241 : decode cX12_lossOf 241 = .ok (.iload 5, 2) := by decide +kernel
theorem dX12_lossOf_243 : decode cX12_lossOf 243 = .ok (.iconst 1, 1) := by decide +kernel
theorem dX12_lossOf_244 : decode cX12_lossOf 244 = .ok (.if_icmp .ne 8, 3) := by decide +kernel
theorem dX12_lossOf_247 : decode cX12_lossOf 247 = .ok (.bipush 99, 2) := by decide +kernel
theorem dX12_lossOf_249 : decode cX12_lossOf 249 = .ok (.goto 9, 3) := by decide +kernel
theorem dX12_lossOf_252 : decode cX12_lossOf 252 = .ok (.iconst 0, 1) := by decide +kernel
theorem dX12_lossOf_253 : decode cX12_lossOf 253 = .ok (.goto 5, 3) := by decide +kernel
theorem dX12_lossOf_256 : decode cX12_lossOf 256 = .ok (.iload 18, 2) := by decide +kernel
theorem dX12_lossOf_258 : decode cX12_lossOf 258 = .ok (.istore 18, 2) := by decide +kernel
theorem dX12_lossOf_260 : decode cX12_lossOf 260 = .ok (.iload 13, 2) := by decide +kernel
theorem dX12_lossOf_262 : decode cX12_lossOf 262 = .ok (.aload_n 0, 1) := by decide +kernel
theorem dX12_lossOf_263 : decode cX12_lossOf 263 = .ok (.getfield 30, 3) := by decide +kernel
theorem dX12_lossOf_266 : decode cX12_lossOf 266 = .ok (.iconst 0, 1) := by decide +kernel
theorem dX12_lossOf_267 : decode cX12_lossOf 267 = .ok (.iaload, 1) := by decide +kernel
theorem dX12_lossOf_268 : decode cX12_lossOf 268 = .ok (.iload 17, 2) := by decide +kernel
theorem dX12_lossOf_270 : decode cX12_lossOf 270 = .ok (.imul, 1) := by decide +kernel
theorem dX12_lossOf_271 : decode cX12_lossOf 271 = .ok (.aload_n 0, 1) := by decide +kernel
theorem dX12_lossOf_272 : decode cX12_lossOf 272 = .ok (.getfield 30, 3) := by decide +kernel
theorem dX12_lossOf_275 : decode cX12_lossOf 275 = .ok (.iconst 1, 1) := by decide +kernel
theorem dX12_lossOf_276 : decode cX12_lossOf 276 = .ok (.iaload, 1) := by decide +kernel
theorem dX12_lossOf_277 : decode cX12_lossOf 277 = .ok (.iload 10, 2) := by decide +kernel
theorem dX12_lossOf_279 : decode cX12_lossOf 279 = .ok (.iload 18, 2) := by decide +kernel
theorem dX12_lossOf_281 : decode cX12_lossOf 281 = .ok (.iload 11, 2) := by decide +kernel
theorem dX12_lossOf_283 : decode cX12_lossOf 283 = .ok (.isub, 1) := by decide +kernel
theorem dX12_lossOf_284 : decode cX12_lossOf 284 = .ok (.imul, 1) := by decide +kernel
theorem dX12_lossOf_285 : decode cX12_lossOf 285 = .ok (.iload 14, 2) := by decide +kernel
theorem dX12_lossOf_287 : decode cX12_lossOf 287 = .ok (.iload 12, 2) := by decide +kernel
theorem dX12_lossOf_289 : decode cX12_lossOf 289 = .ok (.iload 11, 2) := by decide +kernel
theorem dX12_lossOf_291 : decode cX12_lossOf 291 = .ok (.isub, 1) := by decide +kernel
theorem dX12_lossOf_292 : decode cX12_lossOf 292 = .ok (.imul, 1) := by decide +kernel
theorem dX12_lossOf_293 : decode cX12_lossOf 293 = .ok (.isub, 1) := by decide +kernel
theorem dX12_lossOf_294 : decode cX12_lossOf 294 = .ok (.iload 10, 2) := by decide +kernel
theorem dX12_lossOf_296 : decode cX12_lossOf 296 = .ok (.idiv, 1) := by decide +kernel
theorem dX12_lossOf_297 : decode cX12_lossOf 297 = .ok (.invokestatic 210, 3) := by decide +kernel
theorem dX12_lossOf_300 : decode cX12_lossOf 300 = .ok (.imul, 1) := by decide +kernel
theorem dX12_lossOf_301 : decode cX12_lossOf 301 = .ok (.iadd, 1) := by decide +kernel
theorem dX12_lossOf_302 : decode cX12_lossOf 302 = .ok (.iadd, 1) := by decide +kernel
theorem dX12_lossOf_303 : decode cX12_lossOf 303 = .ok (.istore 13, 2) := by decide +kernel
theorem dX12_lossOf_305 : decode cX12_lossOf 305 = .ok (.iinc 14 1, 3) := by decide +kernel
theorem dX12_lossOf_308 : decode cX12_lossOf 308 = .ok (.goto (-189), 3) := by decide +kernel
theorem dX12_lossOf_311 : decode cX12_lossOf 311 = .ok (.iload 13, 2) := by decide +kernel
theorem dX12_lossOf_313 : decode cX12_lossOf 313 = .ok (.ireturn, 1) := by decide +kernel
theorem dX12_isMast_0 : decode cX12_isMast 0 = .ok (.iload_n 0, 1) := by decide +kernel
theorem dX12_isMast_1 : decode cX12_isMast 1 = .ok (.i2l, 1) := by decide +kernel
theorem dX12_isMast_2 : decode cX12_isMast 2 = .ok (.lconst 0, 1) := by decide +kernel
theorem dX12_isMast_3 : decode cX12_isMast 3 = .ok (.ldc2_w 174, 3) := by decide +kernel
theorem dX12_isMast_6 : decode cX12_isMast 6 = .ok (.invokestatic 152, 3) := by decide +kernel
theorem dX12_isMast_9 : decode cX12_isMast 9 = .ok (.ireturn, 1) := by decide +kernel
theorem dX12_loss_0 : decode cX12_loss 0 = .ok (.aload_n 0, 1) := by decide +kernel
theorem dX12_loss_1 : decode cX12_loss 1 = .ok (.iload_n 1, 1) := by decide +kernel
theorem dX12_loss_2 : decode cX12_loss 2 = .ok (.invokevirtual 191, 3) := by decide +kernel
theorem dX12_loss_5 : decode cX12_loss 5 = .ok (.ifCond .eq 51, 3) := by decide +kernel
theorem dX12_loss_8 : decode cX12_loss 8 = .ok (.iload_n 2, 1) := by decide +kernel
theorem dX12_loss_9 : decode cX12_loss 9 = .ok (.invokestatic 217, 3) := by decide +kernel
theorem dX12_loss_12 : decode cX12_loss 12 = .ok (.ifCond .eq 44, 3) := by decide +kernel
theorem dX12_loss_15 : decode cX12_loss 15 = .ok (.aload_n 0, 1) := by decide +kernel
theorem dX12_loss_16 : decode cX12_loss 16 = .ok (.iload_n 3, 1) := by decide +kernel
theorem dX12_loss_17 : decode cX12_loss 17 = .ok (.invokevirtual 191, 3) := by decide +kernel
theorem dX12_loss_20 : decode cX12_loss 20 = .ok (.ifCond .eq 36, 3) := by decide +kernel
theorem dX12_loss_23 : decode cX12_loss 23 = .ok (.iload 4, 2) := by decide +kernel
theorem dX12_loss_25 : decode cX12_loss 25 = .ok (.invokestatic 217, 3) := by decide +kernel
theorem dX12_loss_28 : decode cX12_loss 28 = .ok (.ifCond .eq 28, 3) := by decide +kernel
theorem dX12_loss_31 : decode cX12_loss 31 = .ok (.iload 5, 2) := by decide +kernel
theorem dX12_loss_33 : decode cX12_loss 33 = .ok (.i2l, 1) := by decide +kernel
theorem dX12_loss_34 : decode cX12_loss 34 = .ok (.lconst 0, 1) := by decide +kernel
theorem dX12_loss_35 : decode cX12_loss 35 = .ok (.lconst 1, 1) := by decide +kernel
theorem dX12_loss_36 : decode cX12_loss 36 = .ok (.invokestatic 152, 3) := by decide +kernel
theorem dX12_loss_39 : decode cX12_loss 39 = .ok (.ifCond .eq 17, 3) := by decide +kernel
theorem dX12_loss_42 : decode cX12_loss 42 = .ok (.aload_n 0, 1) := by decide +kernel
theorem dX12_loss_43 : decode cX12_loss 43 = .ok (.iload_n 1, 1) := by decide +kernel
theorem dX12_loss_44 : decode cX12_loss 44 = .ok (.iload_n 2, 1) := by decide +kernel
theorem dX12_loss_45 : decode cX12_loss 45 = .ok (.iload_n 3, 1) := by decide +kernel
theorem dX12_loss_46 : decode cX12_loss 46 = .ok (.iload 4, 2) := by decide +kernel
theorem dX12_loss_48 : decode cX12_loss 48 = .ok (.iload 5, 2) := by decide +kernel
theorem dX12_loss_50 : decode cX12_loss 50 = .ok (.invokevirtual 220, 3) := by decide +kernel
theorem dX12_loss_53 : decode cX12_loss 53 = .ok (.goto 5, 3) := by decide +kernel
theorem dX12_loss_56 : decode cX12_loss 56 = .ok (.bipush (-2), 2) := by decide +kernel
theorem dX12_loss_58 : decode cX12_loss 58 = .ok (.ireturn, 1) := by decide +kernel
theorem dX12_pass_0 : decode cX12_pass 0 = .ok (.iload_n 1, 1) := by decide +kernel
theorem dX12_pass_1 : decode cX12_pass 1 = .ok (.i2l, 1) := by decide +kernel
theorem dX12_pass_2 : decode cX12_pass 2 = .ok (.lconst 1, 1) := by decide +kernel
theorem dX12_pass_3 : decode cX12_pass 3 = .ok (.ldc2_w 224, 3) := by decide +kernel
theorem dX12_pass_6 : decode cX12_pass 6 = .ok (.invokestatic 152, 3) := by decide +kernel
theorem dX12_pass_9 : decode cX12_pass 9 = .ok (.ifCond .ne 6, 3) := by decide +kernel
theorem dX12_pass_12 : decode cX12_pass 12 = .ok (.bipush (-2), 2) := by decide +kernel
theorem dX12_pass_14 : decode cX12_pass 14 = .ok (.ireturn, 1) := by decide +kernel
theorem dX12_pass_15 : decode cX12_pass 15 = .ok (.aload_n 0, 1) := by decide +kernel
theorem dX12_pass_16 : decode cX12_pass 16 = .ok (.dup, 1) := by decide +kernel
theorem dX12_pass_17 : decode cX12_pass 17 = .ok (.getfield 226, 3) := by decide +kernel
theorem dX12_pass_20 : decode cX12_pass 20 = .ok (.iload_n 1, 1) := by decide +kernel
theorem dX12_pass_21 : decode cX12_pass 21 = .ok (.iadd, 1) := by decide +kernel
theorem dX12_pass_22 : decode cX12_pass 22 = .ok (.putfield 226, 3) := by decide +kernel
theorem dX12_pass_25 : decode cX12_pass 25 = .ok (.aload_n 0, 1) := by decide +kernel
theorem dX12_pass_26 : decode cX12_pass 26 = .ok (.getfield 226, 3) := by decide +kernel
theorem dX12_pass_29 : decode cX12_pass 29 = .ok (.ireturn, 1) := by decide +kernel
theorem dX12_isSender_0 : decode cX12_isSender 0 = .ok (.iload_n 1, 1) := by decide +kernel
theorem dX12_isSender_1 : decode cX12_isSender 1 = .ok (.i2l, 1) := by decide +kernel
theorem dX12_isSender_2 : decode cX12_isSender 2 = .ok (.lconst 0, 1) := by decide +kernel
theorem dX12_isSender_3 : decode cX12_isSender 3 = .ok (.aload_n 0, 1) := by decide +kernel
theorem dX12_isSender_4 : decode cX12_isSender 4 = .ok (.getfield 176, 3) := by decide +kernel
theorem dX12_isSender_7 : decode cX12_isSender 7 = .ok (.iconst 1, 1) := by decide +kernel
theorem dX12_isSender_8 : decode cX12_isSender 8 = .ok (.isub, 1) := by decide +kernel
theorem dX12_isSender_9 : decode cX12_isSender 9 = .ok (.i2l, 1) := by decide +kernel
theorem dX12_isSender_10 : decode cX12_isSender 10 = .ok (.invokestatic 152, 3) := by decide +kernel
theorem dX12_isSender_13 : decode cX12_isSender 13 = .ok (.ireturn, 1) := by decide +kernel
theorem dX12_isStrength_0 : decode cX12_isStrength 0 = .ok (.iload_n 0, 1) := by decide +kernel
theorem dX12_isStrength_1 : decode cX12_isStrength 1 = .ok (.i2l, 1) := by decide +kernel
theorem dX12_isStrength_2 : decode cX12_isStrength 2 = .ok (.lconst 1, 1) := by decide +kernel
theorem dX12_isStrength_3 : decode cX12_isStrength 3 = .ok (.ldc2_w 208, 3) := by decide +kernel
theorem dX12_isStrength_6 : decode cX12_isStrength 6 = .ok (.invokestatic 152, 3) := by decide +kernel
theorem dX12_isStrength_9 : decode cX12_isStrength 9 = .ok (.ireturn, 1) := by decide +kernel
theorem dX12_sender_0 : decode cX12_sender 0 = .ok (.iload_n 1, 1) := by decide +kernel
theorem dX12_sender_1 : decode cX12_sender 1 = .ok (.i2l, 1) := by decide +kernel
theorem dX12_sender_2 : decode cX12_sender 2 = .ok (.lconst 0, 1) := by decide +kernel
theorem dX12_sender_3 : decode cX12_sender 3 = .ok (.ldc2_w 150, 3) := by decide +kernel
theorem dX12_sender_6 : decode cX12_sender 6 = .ok (.invokestatic 152, 3) := by decide +kernel
theorem dX12_sender_9 : decode cX12_sender 9 = .ok (.ifCond .eq 48, 3) := by decide +kernel
theorem dX12_sender_12 : decode cX12_sender 12 = .ok (.aload_n 0, 1) := by decide +kernel
theorem dX12_sender_13 : decode cX12_sender 13 = .ok (.iload_n 2, 1) := by decide +kernel
theorem dX12_sender_14 : decode cX12_sender 14 = .ok (.invokevirtual 191, 3) := by decide +kernel
theorem dX12_sender_17 : decode cX12_sender 17 = .ok (.ifCond .eq 40, 3) := by decide +kernel
theorem dX12_sender_20 : decode cX12_sender 20 = .ok (.iload_n 3, 1) := by decide +kernel
theorem dX12_sender_21 : decode cX12_sender 21 = .ok (.invokestatic 229, 3) := by decide +kernel
theorem dX12_sender_24 : decode cX12_sender 24 = .ok (.ifCond .eq 33, 3) := by decide +kernel
theorem dX12_sender_27 : decode cX12_sender 27 = .ok (.iload 4, 2) := by decide +kernel
theorem dX12_sender_29 : decode cX12_sender 29 = .ok (.invokestatic 217, 3) := by decide +kernel
theorem dX12_sender_32 : decode cX12_sender 32 = .ok (.ifCond .eq 25, 3) := by decide +kernel
theorem dX12_sender_35 : decode cX12_sender 35 = .ok (.iload 5, 2) := by decide +kernel
theorem dX12_sender_37 : decode cX12_sender 37 = .ok (.i2l, 1) := by decide +kernel
theorem dX12_sender_38 : decode cX12_sender 38 = .ok (.lconst 1, 1) := by decide +kernel
theorem dX12_sender_39 : decode cX12_sender 39 = .ok (.ldc2_w 204, 3) := by decide +kernel
theorem dX12_sender_42 : decode cX12_sender 42 = .ok (.invokestatic 152, 3) := by decide +kernel
theorem dX12_sender_45 : decode cX12_sender 45 = .ok (.ifCond .eq 12, 3) := by decide +kernel
theorem dX12_sender_48 : decode cX12_sender 48 = .ok (.aload_n 0, 1) := by decide +kernel
theorem dX12_sender_49 : decode cX12_sender 49 = .ok (.iload 6, 2) := by decide +kernel
theorem dX12_sender_51 : decode cX12_sender 51 = .ok (.invokevirtual 191, 3) := by decide +kernel
theorem dX12_sender_54 : decode cX12_sender 54 = .ok (.ifCond .ne 6, 3) := by decide +kernel
theorem dX12_sender_57 : decode cX12_sender 57 = .ok (.bipush (-2), 2) := by decide +kernel
theorem dX12_sender_59 : decode cX12_sender 59 = .ok (.ireturn, 1) := by decide +kernel
theorem dX12_sender_60 : decode cX12_sender 60 = .ok (.aload_n 0, 1) := by decide +kernel
theorem dX12_sender_61 : decode cX12_sender 61 = .ok (.getfield 176, 3) := by decide +kernel
theorem dX12_sender_64 : decode cX12_sender 64 = .ok (.bipush 20, 2) := by decide +kernel
theorem dX12_sender_66 : decode cX12_sender 66 = .ok (.if_icmp .ne 6, 3) := by decide +kernel
theorem dX12_sender_69 : decode cX12_sender 69 = .ok (.bipush (-4), 2) := by decide +kernel
theorem dX12_sender_71 : decode cX12_sender 71 = .ok (.ireturn, 1) := by decide +kernel
theorem dX12_sender_72 : decode cX12_sender 72 = .ok (.aload_n 0, 1) := by decide +kernel
theorem dX12_sender_73 : decode cX12_sender 73 = .ok (.getfield 33, 3) := by decide +kernel
theorem dX12_sender_76 : decode cX12_sender 76 = .ok (.aload_n 0, 1) := by decide +kernel
theorem dX12_sender_77 : decode cX12_sender 77 = .ok (.getfield 176, 3) := by decide +kernel
theorem dX12_sender_80 : decode cX12_sender 80 = .ok (.iload_n 1, 1) := by decide +kernel
theorem dX12_sender_81 : decode cX12_sender 81 = .ok (.iastore, 1) := by decide +kernel
theorem dX12_sender_82 : decode cX12_sender 82 = .ok (.aload_n 0, 1) := by decide +kernel
theorem dX12_sender_83 : decode cX12_sender 83 = .ok (.getfield 36, 3) := by decide +kernel
theorem dX12_sender_86 : decode cX12_sender 86 = .ok (.aload_n 0, 1) := by decide +kernel
theorem dX12_sender_87 : decode cX12_sender 87 = .ok (.getfield 176, 3) := by decide +kernel
theorem dX12_sender_90 : decode cX12_sender 90 = .ok (.iload_n 2, 1) := by decide +kernel
theorem dX12_sender_91 : decode cX12_sender 91 = .ok (.iastore, 1) := by decide +kernel
theorem dX12_sender_92 : decode cX12_sender 92 = .ok (.aload_n 0, 1) := by decide +kernel
theorem dX12_sender_93 : decode cX12_sender 93 = .ok (.getfield 39, 3) := by decide +kernel
theorem dX12_sender_96 : decode cX12_sender 96 = .ok (.aload_n 0, 1) := by decide +kernel
theorem dX12_sender_97 : decode cX12_sender 97 = .ok (.getfield 176, 3) := by decide +kernel
theorem dX12_sender_100 : decode cX12_sender 100 = .ok (.iload_n 3, 1) := by decide +kernel
theorem dX12_sender_101 : decode cX12_sender 101 = .ok (.iastore, 1) := by decide +kernel
theorem dX12_sender_102 : decode cX12_sender 102 = .ok (.aload_n 0, 1) := by decide +kernel
theorem dX12_sender_103 : decode cX12_sender 103 = .ok (.getfield 42, 3) := by decide +kernel
theorem dX12_sender_106 : decode cX12_sender 106 = .ok (.aload_n 0, 1) := by decide +kernel
theorem dX12_sender_107 : decode cX12_sender 107 = .ok (.getfield 176, 3) := by decide +kernel
theorem dX12_sender_110 : decode cX12_sender 110 = .ok (.iload 4, 2) := by decide +kernel
theorem dX12_sender_112 : decode cX12_sender 112 = .ok (.iastore, 1) := by decide +kernel
theorem dX12_sender_113 : decode cX12_sender 113 = .ok (.aload_n 0, 1) := by decide +kernel
theorem dX12_sender_114 : decode cX12_sender 114 = .ok (.getfield 45, 3) := by decide +kernel
theorem dX12_sender_117 : decode cX12_sender 117 = .ok (.aload_n 0, 1) := by decide +kernel
theorem dX12_sender_118 : decode cX12_sender 118 = .ok (.getfield 176, 3) := by decide +kernel
theorem dX12_sender_121 : decode cX12_sender 121 = .ok (.iload 5, 2) := by decide +kernel
theorem dX12_sender_123 : decode cX12_sender 123 = .ok (.iastore, 1) := by decide +kernel
theorem dX12_sender_124 : decode cX12_sender 124 = .ok (.aload_n 0, 1) := by decide +kernel
theorem dX12_sender_125 : decode cX12_sender 125 = .ok (.getfield 48, 3) := by decide +kernel
theorem dX12_sender_128 : decode cX12_sender 128 = .ok (.aload_n 0, 1) := by decide +kernel
theorem dX12_sender_129 : decode cX12_sender 129 = .ok (.getfield 176, 3) := by decide +kernel
theorem dX12_sender_132 : decode cX12_sender 132 = .ok (.iload 6, 2) := by decide +kernel
theorem dX12_sender_134 : decode cX12_sender 134 = .ok (.iastore, 1) := by decide +kernel
theorem dX12_sender_135 : decode cX12_sender 135 = .ok (.aload_n 0, 1) := by decide +kernel
theorem dX12_sender_136 : decode cX12_sender 136 = .ok (.getfield 51, 3) := by decide +kernel
theorem dX12_sender_139 : decode cX12_sender 139 = .ok (.aload_n 0, 1) := by decide +kernel
theorem dX12_sender_140 : decode cX12_sender 140 = .ok (.getfield 176, 3) := by decide +kernel
theorem dX12_sender_143 : decode cX12_sender 143 = .ok (.iconst 1, 1) := by decide +kernel
theorem dX12_sender_144 : decode cX12_sender 144 = .ok (.iastore, 1) := by decide +kernel
theorem dX12_sender_145 : decode cX12_sender 145 = .ok (.aload_n 0, 1) := by decide +kernel
theorem dX12_sender_146 : decode cX12_sender 146 = .ok (.getfield 54, 3) := by decide +kernel
theorem dX12_sender_149 : decode cX12_sender 149 = .ok (.aload_n 0, 1) := by decide +kernel
theorem dX12_sender_150 : decode cX12_sender 150 = .ok (.getfield 176, 3) := by decide +kernel
theorem dX12_sender_153 : decode cX12_sender 153 = .ok (.iconst 0, 1) := by decide +kernel
theorem dX12_sender_154 : decode cX12_sender 154 = .ok (.iastore, 1) := by decide +kernel
theorem dX12_sender_155 : decode cX12_sender 155 = .ok (.aload_n 0, 1) := by decide +kernel
theorem dX12_sender_156 : decode cX12_sender 156 = .ok (.getfield 57, 3) := by decide +kernel
theorem dX12_sender_159 : decode cX12_sender 159 = .ok (.aload_n 0, 1) := by decide +kernel
theorem dX12_sender_160 : decode cX12_sender 160 = .ok (.getfield 176, 3) := by decide +kernel
theorem dX12_sender_163 : decode cX12_sender 163 = .ok (.iconst 1, 1) := by decide +kernel
theorem dX12_sender_164 : decode cX12_sender 164 = .ok (.iastore, 1) := by decide +kernel
theorem dX12_sender_165 : decode cX12_sender 165 = .ok (.aload_n 0, 1) := by decide +kernel
theorem dX12_sender_166 : decode cX12_sender 166 = .ok (.getfield 60, 3) := by decide +kernel
theorem dX12_sender_169 : decode cX12_sender 169 = .ok (.aload_n 0, 1) := by decide +kernel
theorem dX12_sender_170 : decode cX12_sender 170 = .ok (.getfield 176, 3) := by decide +kernel
theorem dX12_sender_173 : decode cX12_sender 173 = .ok (.iconst (-1), 1) := by decide +kernel
theorem dX12_sender_174 : decode cX12_sender 174 = .ok (.iastore, 1) := by decide +kernel
theorem dX12_sender_175 : decode cX12_sender 175 = .ok (.aload_n 0, 1) := by decide +kernel
theorem dX12_sender_176 : decode cX12_sender 176 = .ok (.getfield 63, 3) := by decide +kernel
theorem dX12_sender_179 : decode cX12_sender 179 = .ok (.aload_n 0, 1) := by decide +kernel
theorem dX12_sender_180 : decode cX12_sender 180 = .ok (.getfield 176, 3) := by decide +kernel
theorem dX12_sender_183 : decode cX12_sender 183 = .ok (.iconst 1, 1) := by decide +kernel
theorem dX12_sender_184 : decode cX12_sender 184 = .ok (.bastore, 1) := by decide +kernel
theorem dX12_sender_185 : decode cX12_sender 185 = .ok (.aload_n 0, 1) := by decide +kernel
theorem dX12_sender_186 : decode cX12_sender 186 = .ok (.dup, 1) := by decide +kernel
theorem dX12_sender_187 : decode cX12_sender 187 = .ok (.getfield 176, 3) := by decide +kernel
theorem dX12_sender_190 : decode cX12_sender 190 = .ok (.iconst 1, 1) := by decide +kernel
theorem dX12_sender_191 : decode cX12_sender 191 = .ok (.iadd, 1) := by decide +kernel
theorem dX12_sender_192 : decode cX12_sender 192 = .ok (.putfield 176, 3) := by decide +kernel
theorem dX12_sender_195 : decode cX12_sender 195 = .ok (.aload_n 0, 1) := by decide +kernel
theorem dX12_sender_196 : decode cX12_sender 196 = .ok (.getfield 176, 3) := by decide +kernel
theorem dX12_sender_199 : decode cX12_sender 199 = .ok (.iconst 1, 1) := by decide +kernel
theorem dX12_sender_200 : decode cX12_sender 200 = .ok (.isub, 1) := by decide +kernel
theorem dX12_sender_201 : decode cX12_sender 201 = .ok (.ireturn, 1) := by decide +kernel
theorem dX12_cellNow_0 : decode cX12_cellNow 0 = .ok (.aload_n 0, 1) := by decide +kernel
theorem dX12_cellNow_1 : decode cX12_cellNow 1 = .ok (.getfield 33, 3) := by decide +kernel
theorem dX12_cellNow_4 : decode cX12_cellNow 4 = .ok (.iload_n 1, 1) := by decide +kernel
theorem dX12_cellNow_5 : decode cX12_cellNow 5 = .ok (.iaload, 1) := by decide +kernel
theorem dX12_cellNow_6 : decode cX12_cellNow 6 = .ok (.iconst 1, 1) := by decide +kernel
theorem dX12_cellNow_7 : decode cX12_cellNow 7 = .ok (.if_icmp .ne 13, 3) := by decide +kernel
theorem dX12_cellNow_10 : decode cX12_cellNow 10 = .ok (.aload_n 0, 1) := by decide +kernel
theorem dX12_cellNow_11 : decode cX12_cellNow 11 = .ok (.getfield 60, 3) := by decide +kernel
theorem dX12_cellNow_14 : decode cX12_cellNow 14 = .ok (.iload_n 1, 1) := by decide +kernel
theorem dX12_cellNow_15 : decode cX12_cellNow 15 = .ok (.iaload, 1) := by decide +kernel
theorem dX12_cellNow_16 : decode cX12_cellNow 16 = .ok (.iconst (-1), 1) := by decide +kernel
theorem dX12_cellNow_17 : decode cX12_cellNow 17 = .ok (.if_icmp .ne 10, 3) := by decide +kernel
theorem dX12_cellNow_20 : decode cX12_cellNow 20 = .ok (.aload_n 0, 1) := by decide +kernel
theorem dX12_cellNow_21 : decode cX12_cellNow 21 = .ok (.getfield 36, 3) := by decide +kernel
theorem dX12_cellNow_24 : decode cX12_cellNow 24 = .ok (.iload_n 1, 1) := by decide +kernel
theorem dX12_cellNow_25 : decode cX12_cellNow 25 = .ok (.iaload, 1) := by decide +kernel
theorem dX12_cellNow_26 : decode cX12_cellNow 26 = .ok (.ireturn, 1) := by decide +kernel
theorem dX12_cellNow_27 : decode cX12_cellNow 27 = .ok (.aload_n 0, 1) := by decide +kernel
theorem dX12_cellNow_28 : decode cX12_cellNow 28 = .ok (.aload_n 0, 1) := by decide +kernel
theorem dX12_cellNow_29 : decode cX12_cellNow 29 = .ok (.getfield 60, 3) := by decide +kernel
theorem dX12_cellNow_32 : decode cX12_cellNow 32 = .ok (.iload_n 1, 1) := by decide +kernel
theorem dX12_cellNow_33 : decode cX12_cellNow 33 = .ok (.iaload, 1) := by decide +kernel
theorem dX12_cellNow_34 : decode cX12_cellNow 34 = .ok (.aload_n 0, 1) := by decide +kernel
theorem dX12_cellNow_35 : decode cX12_cellNow 35 = .ok (.getfield 226, 3) := by decide +kernel
theorem dX12_cellNow_38 : decode cX12_cellNow 38 = .ok (.aload_n 0, 1) := by decide +kernel
theorem dX12_cellNow_39 : decode cX12_cellNow 39 = .ok (.getfield 23, 3) := by decide +kernel
theorem dX12_cellNow_42 : decode cX12_cellNow 42 = .ok (.aload_n 0, 1) := by decide +kernel
theorem dX12_cellNow_43 : decode cX12_cellNow 43 = .ok (.getfield 27, 3) := by decide +kernel
theorem dX12_cellNow_46 : decode cX12_cellNow 46 = .ok (.imul, 1) := by decide +kernel
theorem dX12_cellNow_47 : decode cX12_cellNow 47 = .ok (.iconst 1, 1) := by decide +kernel
theorem dX12_cellNow_48 : decode cX12_cellNow 48 = .ok (.isub, 1) := by decide +kernel
theorem dX12_cellNow_49 : decode cX12_cellNow 49 = .ok (.invokevirtual 188, 3) := by decide +kernel
theorem dX12_cellNow_52 : decode cX12_cellNow 52 = .ok (.istore_n 2, 1) := by decide +kernel
theorem dX12_cellNow_53 : decode cX12_cellNow 53 = .ok (.iload_n 2, 1) := by decide +kernel
theorem dX12_cellNow_54 : decode cX12_cellNow 54 = .ok (.iconst (-1), 1) := by decide +kernel
theorem dX12_cellNow_55 : decode cX12_cellNow 55 = .ok (.if_icmp .ne 12, 3) := by decide +kernel
theorem dX12_cellNow_58 : decode cX12_cellNow 58 = .ok (.aload_n 0, 1) := by decide +kernel
theorem dX12_cellNow_59 : decode cX12_cellNow 59 = .ok (.getfield 36, 3) := by decide +kernel
theorem dX12_cellNow_62 : decode cX12_cellNow 62 = .ok (.iload_n 1, 1) := by decide +kernel
theorem dX12_cellNow_63 : decode cX12_cellNow 63 = .ok (.iaload, 1) := by decide +kernel
theorem dX12_cellNow_64 : decode cX12_cellNow 64 = .ok (.goto 4, 3) := by decide +kernel
theorem dX12_cellNow_67 : decode cX12_cellNow 67 = .ok (.iload_n 2, 1) := by decide +kernel
theorem dX12_cellNow_68 : decode cX12_cellNow 68 = .ok (.ireturn, 1) := by decide +kernel
theorem dX12_isHopping_0 : decode cX12_isHopping 0 = .ok (.aload_n 0, 1) := by decide +kernel
theorem dX12_isHopping_1 : decode cX12_isHopping 1 = .ok (.getfield 33, 3) := by decide +kernel
theorem dX12_isHopping_4 : decode cX12_isHopping 4 = .ok (.iload_n 1, 1) := by decide +kernel
theorem dX12_isHopping_5 : decode cX12_isHopping 5 = .ok (.iaload, 1) := by decide +kernel
theorem dX12_isHopping_6 : decode cX12_isHopping 6 = .ok (.iconst 2, 1) := by decide +kernel
theorem dX12_isHopping_7 : decode cX12_isHopping 7 = .ok (.if_icmp .eq 13, 3) := by decide +kernel
theorem dX12_isHopping_10 : decode cX12_isHopping 10 = .ok (.aload_n 0, 1) := by decide +kernel
theorem dX12_isHopping_11 : decode cX12_isHopping 11 = .ok (.getfield 33, 3) := by decide +kernel
theorem dX12_isHopping_14 : decode cX12_isHopping 14 = .ok (.iload_n 1, 1) := by decide +kernel
theorem dX12_isHopping_15 : decode cX12_isHopping 15 = .ok (.iaload, 1) := by decide +kernel
theorem dX12_isHopping_16 : decode cX12_isHopping 16 = .ok (.iconst 5, 1) := by decide +kernel
theorem dX12_isHopping_17 : decode cX12_isHopping 17 = .ok (.if_icmp .ne 7, 3) := by decide +kernel
theorem dX12_isHopping_20 : decode cX12_isHopping 20 = .ok (.iconst 1, 1) := by decide +kernel
theorem dX12_isHopping_21 : decode cX12_isHopping 21 = .ok (.goto 4, 3) := by decide +kernel
theorem dX12_isHopping_24 : decode cX12_isHopping 24 = .ok (.iconst 0, 1) := by decide +kernel
theorem dX12_isHopping_25 : decode cX12_isHopping 25 = .ok (.ireturn, 1) := by decide +kernel
theorem dX12_slotNow_0 : decode cX12_slotNow 0 = .ok (.aload_n 0, 1) := by decide +kernel
theorem dX12_slotNow_1 : decode cX12_slotNow 1 = .ok (.iload_n 1, 1) := by decide +kernel
theorem dX12_slotNow_2 : decode cX12_slotNow 2 = .ok (.invokevirtual 232, 3) := by decide +kernel
theorem dX12_slotNow_5 : decode cX12_slotNow 5 = .ok (.ifCond .eq 32, 3) := by decide +kernel
theorem dX12_slotNow_8 : decode cX12_slotNow 8 = .ok (.aload_n 0, 1) := by decide +kernel
theorem dX12_slotNow_9 : decode cX12_slotNow 9 = .ok (.getfield 54, 3) := by decide +kernel
theorem dX12_slotNow_12 : decode cX12_slotNow 12 = .ok (.iload_n 1, 1) := by decide +kernel
theorem dX12_slotNow_13 : decode cX12_slotNow 13 = .ok (.iaload, 1) := by decide +kernel
theorem dX12_slotNow_14 : decode cX12_slotNow 14 = .ok (.i2l, 1) := by decide +kernel
theorem dX12_slotNow_15 : decode cX12_slotNow 15 = .ok (.aload_n 0, 1) := by decide +kernel
theorem dX12_slotNow_16 : decode cX12_slotNow 16 = .ok (.getfield 57, 3) := by decide +kernel
theorem dX12_slotNow_19 : decode cX12_slotNow 19 = .ok (.iload_n 1, 1) := by decide +kernel
theorem dX12_slotNow_20 : decode cX12_slotNow 20 = .ok (.iaload, 1) := by decide +kernel
theorem dX12_slotNow_21 : decode cX12_slotNow 21 = .ok (.i2l, 1) := by decide +kernel
theorem dX12_slotNow_22 : decode cX12_slotNow 22 = .ok (.aload_n 0, 1) := by decide +kernel
theorem dX12_slotNow_23 : decode cX12_slotNow 23 = .ok (.getfield 226, 3) := by decide +kernel
theorem dX12_slotNow_26 : decode cX12_slotNow 26 = .ok (.i2l, 1) := by decide +kernel
theorem dX12_slotNow_27 : decode cX12_slotNow 27 = .ok (.lmul, 1) := by decide +kernel
theorem dX12_slotNow_28 : decode cX12_slotNow 28 = .ok (.ladd, 1) := by decide +kernel
theorem dX12_slotNow_29 : decode cX12_slotNow 29 = .ok (.ldc2_w 235, 3) := by decide +kernel
theorem dX12_slotNow_32 : decode cX12_slotNow 32 = .ok (.lrem, 1) := by decide +kernel
theorem dX12_slotNow_33 : decode cX12_slotNow 33 = .ok (.l2i, 1) := by decide +kernel
theorem dX12_slotNow_34 : decode cX12_slotNow 34 = .ok (.goto 9, 3) := by decide +kernel
theorem dX12_slotNow_37 : decode cX12_slotNow 37 = .ok (.aload_n 0, 1) := by decide +kernel
theorem dX12_slotNow_38 : decode cX12_slotNow 38 = .ok (.getfield 54, 3) := by decide +kernel
theorem dX12_slotNow_41 : decode cX12_slotNow 41 = .ok (.iload_n 1, 1) := by decide +kernel
theorem dX12_slotNow_42 : decode cX12_slotNow 42 = .ok (.iaload, 1) := by decide +kernel
theorem dX12_slotNow_43 : decode cX12_slotNow 43 = .ok (.ireturn, 1) := by decide +kernel
theorem dX12_about_0 : decode cX12_about 0 = .ok (.aload_n 0, 1) := by decide +kernel
theorem dX12_about_1 : decode cX12_about 1 = .ok (.iload_n 1, 1) := by decide +kernel
theorem dX12_about_2 : decode cX12_about 2 = .ok (.invokevirtual 237, 3) := by decide +kernel
theorem dX12_about_5 : decode cX12_about 5 = .ok (.ifCond .ne 6, 3) := by decide +kernel
theorem dX12_about_8 : decode cX12_about 8 = .ok (.ldc 240, 2) := by decide +kernel
theorem dX12_about_10 : decode cX12_about 10 = .ok (.ireturn, 1) := by decide +kernel
theorem dX12_about_11 : decode cX12_about 11 = .ok (.iload_n 2, 1) := by decide +kernel
theorem dX12_about_12 : decode cX12_about 12 = .ok (.tableswitch 143 0 10 #[60, 67, 73, 80, 87, 94, 101, 108, 114, 129, 136], 60) := by decide +kernel
theorem dX12_about_72 : decode cX12_about 72 = .ok (.aload_n 0, 1) := by decide +kernel
theorem dX12_about_73 : decode cX12_about 73 = .ok (.getfield 33, 3) := by decide +kernel
theorem dX12_about_76 : decode cX12_about 76 = .ok (.iload_n 1, 1) := by decide +kernel
theorem dX12_about_77 : decode cX12_about 77 = .ok (.iaload, 1) := by decide +kernel
theorem dX12_about_78 : decode cX12_about 78 = .ok (.ireturn, 1) := by decide +kernel
theorem dX12_about_79 : decode cX12_about 79 = .ok (.aload_n 0, 1) := by decide +kernel
theorem dX12_about_80 : decode cX12_about 80 = .ok (.iload_n 1, 1) := by decide +kernel
theorem dX12_about_81 : decode cX12_about 81 = .ok (.invokevirtual 241, 3) := by decide +kernel
theorem dX12_about_84 : decode cX12_about 84 = .ok (.ireturn, 1) := by decide +kernel
theorem dX12_about_85 : decode cX12_about 85 = .ok (.aload_n 0, 1) := by decide +kernel
theorem dX12_about_86 : decode cX12_about 86 = .ok (.getfield 39, 3) := by decide +kernel
theorem dX12_about_89 : decode cX12_about 89 = .ok (.iload_n 1, 1) := by decide +kernel
theorem dX12_about_90 : decode cX12_about 90 = .ok (.iaload, 1) := by decide +kernel
theorem dX12_about_91 : decode cX12_about 91 = .ok (.ireturn, 1) := by decide +kernel
theorem dX12_about_92 : decode cX12_about 92 = .ok (.aload_n 0, 1) := by decide +kernel
theorem dX12_about_93 : decode cX12_about 93 = .ok (.getfield 42, 3) := by decide +kernel
theorem dX12_about_96 : decode cX12_about 96 = .ok (.iload_n 1, 1) := by decide +kernel
theorem dX12_about_97 : decode cX12_about 97 = .ok (.iaload, 1) := by decide +kernel
theorem dX12_about_98 : decode cX12_about 98 = .ok (.ireturn, 1) := by decide +kernel
theorem dX12_about_99 : decode cX12_about 99 = .ok (.aload_n 0, 1) := by decide +kernel
theorem dX12_about_100 : decode cX12_about 100 = .ok (.getfield 45, 3) := by decide +kernel
theorem dX12_about_103 : decode cX12_about 103 = .ok (.iload_n 1, 1) := by decide +kernel
theorem dX12_about_104 : decode cX12_about 104 = .ok (.iaload, 1) := by decide +kernel
theorem dX12_about_105 : decode cX12_about 105 = .ok (.ireturn, 1) := by decide +kernel
theorem dX12_about_106 : decode cX12_about 106 = .ok (.aload_n 0, 1) := by decide +kernel
theorem dX12_about_107 : decode cX12_about 107 = .ok (.getfield 48, 3) := by decide +kernel
theorem dX12_about_110 : decode cX12_about 110 = .ok (.iload_n 1, 1) := by decide +kernel
theorem dX12_about_111 : decode cX12_about 111 = .ok (.iaload, 1) := by decide +kernel
theorem dX12_about_112 : decode cX12_about 112 = .ok (.ireturn, 1) := by decide +kernel
theorem dX12_about_113 : decode cX12_about 113 = .ok (.aload_n 0, 1) := by decide +kernel
theorem dX12_about_114 : decode cX12_about 114 = .ok (.getfield 51, 3) := by decide +kernel
theorem dX12_about_117 : decode cX12_about 117 = .ok (.iload_n 1, 1) := by decide +kernel
theorem dX12_about_118 : decode cX12_about 118 = .ok (.iaload, 1) := by decide +kernel
theorem dX12_about_119 : decode cX12_about 119 = .ok (.ireturn, 1) := by decide +kernel
theorem dX12_about_120 : decode cX12_about 120 = .ok (.aload_n 0, 1) := by decide +kernel
theorem dX12_about_121 : decode cX12_about 121 = .ok (.iload_n 1, 1) := by decide +kernel
theorem dX12_about_122 : decode cX12_about 122 = .ok (.invokevirtual 244, 3) := by decide +kernel
theorem dX12_about_125 : decode cX12_about 125 = .ok (.ireturn, 1) := by decide +kernel
theorem dX12_about_126 : decode cX12_about 126 = .ok (.aload_n 0, 1) := by decide +kernel
theorem dX12_about_127 : decode cX12_about 127 = .ok (.getfield 63, 3) := by decide +kernel
theorem dX12_about_130 : decode cX12_about 130 = .ok (.iload_n 1, 1) := by decide +kernel
theorem dX12_about_131 : decode cX12_about 131 = .ok (.baload, 1) := by decide +kernel
theorem dX12_about_132 : decode cX12_about 132 = .ok (.ifCond .eq 7, 3) := by decide +kernel
theorem dX12_about_135 : decode cX12_about 135 = .ok (.iconst 1, 1) := by decide +kernel
theorem dX12_about_136 : decode cX12_about 136 = .ok (.goto 4, 3) := by decide +kernel
theorem dX12_about_139 : decode cX12_about 139 = .ok (.iconst 0, 1) := by decide +kernel
theorem dX12_about_140 : decode cX12_about 140 = .ok (.ireturn, 1) := by decide +kernel
theorem dX12_about_141 : decode cX12_about 141 = .ok (.aload_n 0, 1) := by decide +kernel
theorem dX12_about_142 : decode cX12_about 142 = .ok (.getfield 36, 3) := by decide +kernel
theorem dX12_about_145 : decode cX12_about 145 = .ok (.iload_n 1, 1) := by decide +kernel
theorem dX12_about_146 : decode cX12_about 146 = .ok (.iaload, 1) := by decide +kernel
theorem dX12_about_147 : decode cX12_about 147 = .ok (.ireturn, 1) := by decide +kernel
theorem dX12_about_148 : decode cX12_about 148 = .ok (.aload_n 0, 1) := by decide +kernel
theorem dX12_about_149 : decode cX12_about 149 = .ok (.getfield 54, 3) := by decide +kernel
theorem dX12_about_152 : decode cX12_about 152 = .ok (.iload_n 1, 1) := by decide +kernel
theorem dX12_about_153 : decode cX12_about 153 = .ok (.iaload, 1) := by decide +kernel
theorem dX12_about_154 : decode cX12_about 154 = .ok (.ireturn, 1) := by decide +kernel
theorem dX12_about_155 : decode cX12_about 155 = .ok (.ldc 240, 2) := by decide +kernel
theorem dX12_about_157 : decode cX12_about 157 = .ok (.ireturn, 1) := by decide +kernel
theorem dX12_change_0 : decode cX12_change 0 = .ok (.aload_n 0, 1) := by decide +kernel
theorem dX12_change_1 : decode cX12_change 1 = .ok (.iload_n 1, 1) := by decide +kernel
theorem dX12_change_2 : decode cX12_change 2 = .ok (.invokevirtual 237, 3) := by decide +kernel
theorem dX12_change_5 : decode cX12_change 5 = .ok (.ifCond .ne 6, 3) := by decide +kernel
theorem dX12_change_8 : decode cX12_change 8 = .ok (.bipush (-2), 2) := by decide +kernel
theorem dX12_change_10 : decode cX12_change 10 = .ok (.ireturn, 1) := by decide +kernel
theorem dX12_change_11 : decode cX12_change 11 = .ok (.iload_n 2, 1) := by decide +kernel
theorem dX12_change_12 : decode cX12_change 12 = .ok (.ifCond .ne 10, 3) := by decide +kernel
theorem dX12_change_15 : decode cX12_change 15 = .ok (.iload_n 3, 1) := by decide +kernel
theorem dX12_change_16 : decode cX12_change 16 = .ok (.invokestatic 229, 3) := by decide +kernel
theorem dX12_change_19 : decode cX12_change 19 = .ok (.goto 104, 3) := by decide +kernel
theorem dX12_change_22 : decode cX12_change 22 = .ok (.iload_n 2, 1) := by decide +kernel
theorem dX12_change_23 : decode cX12_change 23 = .ok (.iconst 1, 1) := by decide +kernel
theorem dX12_change_24 : decode cX12_change 24 = .ok (.if_icmp .ne 15, 3) := by decide +kernel
theorem dX12_change_27 : decode cX12_change 27 = .ok (.iload_n 3, 1) := by decide +kernel
theorem dX12_change_28 : decode cX12_change 28 = .ok (.i2l, 1) := by decide +kernel
theorem dX12_change_29 : decode cX12_change 29 = .ok (.lconst 0, 1) := by decide +kernel
theorem dX12_change_30 : decode cX12_change 30 = .ok (.ldc2_w 224, 3) := by decide +kernel
theorem dX12_change_33 : decode cX12_change 33 = .ok (.invokestatic 152, 3) := by decide +kernel
theorem dX12_change_36 : decode cX12_change 36 = .ok (.goto 87, 3) := by decide +kernel
theorem dX12_change_39 : decode cX12_change 39 = .ok (.iload_n 2, 1) := by decide +kernel
theorem dX12_change_40 : decode cX12_change 40 = .ok (.iconst 2, 1) := by decide +kernel
theorem dX12_change_41 : decode cX12_change 41 = .ok (.if_icmp .ne 15, 3) := by decide +kernel
theorem dX12_change_44 : decode cX12_change 44 = .ok (.iload_n 3, 1) := by decide +kernel
theorem dX12_change_45 : decode cX12_change 45 = .ok (.i2l, 1) := by decide +kernel
theorem dX12_change_46 : decode cX12_change 46 = .ok (.lconst 0, 1) := by decide +kernel
theorem dX12_change_47 : decode cX12_change 47 = .ok (.ldc2_w 247, 3) := by decide +kernel
theorem dX12_change_50 : decode cX12_change 50 = .ok (.invokestatic 152, 3) := by decide +kernel
theorem dX12_change_53 : decode cX12_change 53 = .ok (.goto 70, 3) := by decide +kernel
theorem dX12_change_56 : decode cX12_change 56 = .ok (.iload_n 2, 1) := by decide +kernel
theorem dX12_change_57 : decode cX12_change 57 = .ok (.iconst 3, 1) := by decide +kernel
theorem dX12_change_58 : decode cX12_change 58 = .ok (.if_icmp .ne 31, 3) := by decide +kernel
theorem dX12_change_61 : decode cX12_change 61 = .ok (.aload_n 0, 1) := by decide +kernel
theorem dX12_change_62 : decode cX12_change 62 = .ok (.iload_n 1, 1) := by decide +kernel
theorem dX12_change_63 : decode cX12_change 63 = .ok (.invokevirtual 232, 3) := by decide +kernel
theorem dX12_change_66 : decode cX12_change 66 = .ok (.ifCond .eq 19, 3) := by decide +kernel
theorem dX12_change_69 : decode cX12_change 69 = .ok (.iload_n 3, 1) := by decide +kernel
theorem dX12_change_70 : decode cX12_change 70 = .ok (.i2l, 1) := by decide +kernel
theorem dX12_change_71 : decode cX12_change 71 = .ok (.lconst 0, 1) := by decide +kernel
theorem dX12_change_72 : decode cX12_change 72 = .ok (.ldc2_w 247, 3) := by decide +kernel
theorem dX12_change_75 : decode cX12_change 75 = .ok (.invokestatic 152, 3) := by decide +kernel
theorem dX12_change_78 : decode cX12_change 78 = .ok (.ifCond .eq 7, 3) := by decide +kernel
theorem dX12_change_81 : decode cX12_change 81 = .ok (.iconst 1, 1) := by decide +kernel
theorem dX12_change_82 : decode cX12_change 82 = .ok (.goto 41, 3) := by decide +kernel
theorem dX12_change_85 : decode cX12_change 85 = .ok (.iconst 0, 1) := by decide +kernel
theorem dX12_change_86 : decode cX12_change 86 = .ok (.goto 37, 3) := by decide +kernel
theorem dX12_change_89 : decode cX12_change 89 = .ok (.iload_n 2, 1) := by decide +kernel
theorem dX12_change_90 : decode cX12_change 90 = .ok (.iconst 4, 1) := by decide +kernel
theorem dX12_change_91 : decode cX12_change 91 = .ok (.if_icmp .ne 31, 3) := by decide +kernel
theorem dX12_change_94 : decode cX12_change 94 = .ok (.aload_n 0, 1) := by decide +kernel
theorem dX12_change_95 : decode cX12_change 95 = .ok (.getfield 33, 3) := by decide +kernel
theorem dX12_change_98 : decode cX12_change 98 = .ok (.iload_n 1, 1) := by decide +kernel
theorem dX12_change_99 : decode cX12_change 99 = .ok (.iaload, 1) := by decide +kernel
theorem dX12_change_100 : decode cX12_change 100 = .ok (.iconst 1, 1) := by decide +kernel
theorem dX12_change_101 : decode cX12_change 101 = .ok (.if_icmp .ne 21, 3) := by decide +kernel
theorem dX12_change_104 : decode cX12_change 104 = .ok (.iload_n 3, 1) := by decide +kernel
theorem dX12_change_105 : decode cX12_change 105 = .ok (.i2l, 1) := by decide +kernel
theorem dX12_change_106 : decode cX12_change 106 = .ok (.ldc2_w 249, 3) := by decide +kernel
theorem dX12_change_109 : decode cX12_change 109 = .ok (.ldc2_w 150, 3) := by decide +kernel
theorem dX12_change_112 : decode cX12_change 112 = .ok (.invokestatic 152, 3) := by decide +kernel
theorem dX12_change_115 : decode cX12_change 115 = .ok (.ifCond .eq 7, 3) := by decide +kernel
theorem dX12_change_118 : decode cX12_change 118 = .ok (.iconst 1, 1) := by decide +kernel
theorem dX12_change_119 : decode cX12_change 119 = .ok (.goto 4, 3) := by decide +kernel
theorem dX12_change_122 : decode cX12_change 122 = .ok (.iconst 0, 1) := by decide +kernel
theorem dX12_change_123 : decode cX12_change 123 = .ok (.istore 4, 2) := by decide +kernel
theorem dX12_change_125 : decode cX12_change 125 = .ok (.iload 4, 2) := by decide +kernel
theorem dX12_change_127 : decode cX12_change 127 = .ok (.ifCond .ne 6, 3) := by decide +kernel
theorem dX12_change_130 : decode cX12_change 130 = .ok (.bipush (-2), 2) := by decide +kernel
theorem dX12_change_132 : decode cX12_change 132 = .ok (.ireturn, 1) := by decide +kernel
theorem dX12_change_133 : decode cX12_change 133 = .ok (.iload_n 2, 1) := by decide +kernel
theorem dX12_change_134 : decode cX12_change 134 = .ok (.tableswitch 102 0 3 #[30, 48, 66, 84], 30) := by decide +kernel
theorem dX12_change_164 : decode cX12_change 164 = .ok (.aload_n 0, 1) := by decide +kernel
theorem dX12_change_165 : decode cX12_change 165 = .ok (.getfield 39, 3) := by decide +kernel
theorem dX12_change_168 : decode cX12_change 168 = .ok (.iload_n 1, 1) := by decide +kernel
theorem dX12_change_169 : decode cX12_change 169 = .ok (.iaload, 1) := by decide +kernel
theorem dX12_change_170 : decode cX12_change 170 = .ok (.istore 5, 2) := by decide +kernel
theorem dX12_change_172 : decode cX12_change 172 = .ok (.aload_n 0, 1) := by decide +kernel
theorem dX12_change_173 : decode cX12_change 173 = .ok (.getfield 39, 3) := by decide +kernel
theorem dX12_change_176 : decode cX12_change 176 = .ok (.iload_n 1, 1) := by decide +kernel
theorem dX12_change_177 : decode cX12_change 177 = .ok (.iload_n 3, 1) := by decide +kernel
theorem dX12_change_178 : decode cX12_change 178 = .ok (.iastore, 1) := by decide +kernel
theorem dX12_change_179 : decode cX12_change 179 = .ok (.iload 5, 2) := by decide +kernel
theorem dX12_change_181 : decode cX12_change 181 = .ok (.ireturn, 1) := by decide +kernel
theorem dX12_change_182 : decode cX12_change 182 = .ok (.aload_n 0, 1) := by decide +kernel
theorem dX12_change_183 : decode cX12_change 183 = .ok (.getfield 51, 3) := by decide +kernel
theorem dX12_change_186 : decode cX12_change 186 = .ok (.iload_n 1, 1) := by decide +kernel
theorem dX12_change_187 : decode cX12_change 187 = .ok (.iaload, 1) := by decide +kernel
theorem dX12_change_188 : decode cX12_change 188 = .ok (.istore 5, 2) := by decide +kernel
theorem dX12_change_190 : decode cX12_change 190 = .ok (.aload_n 0, 1) := by decide +kernel
theorem dX12_change_191 : decode cX12_change 191 = .ok (.getfield 51, 3) := by decide +kernel
theorem dX12_change_194 : decode cX12_change 194 = .ok (.iload_n 1, 1) := by decide +kernel
theorem dX12_change_195 : decode cX12_change 195 = .ok (.iload_n 3, 1) := by decide +kernel
theorem dX12_change_196 : decode cX12_change 196 = .ok (.iastore, 1) := by decide +kernel
theorem dX12_change_197 : decode cX12_change 197 = .ok (.iload 5, 2) := by decide +kernel
theorem dX12_change_199 : decode cX12_change 199 = .ok (.ireturn, 1) := by decide +kernel
theorem dX12_change_200 : decode cX12_change 200 = .ok (.aload_n 0, 1) := by decide +kernel
theorem dX12_change_201 : decode cX12_change 201 = .ok (.getfield 54, 3) := by decide +kernel
theorem dX12_change_204 : decode cX12_change 204 = .ok (.iload_n 1, 1) := by decide +kernel
theorem dX12_change_205 : decode cX12_change 205 = .ok (.iaload, 1) := by decide +kernel
theorem dX12_change_206 : decode cX12_change 206 = .ok (.istore 5, 2) := by decide +kernel
theorem dX12_change_208 : decode cX12_change 208 = .ok (.aload_n 0, 1) := by decide +kernel
theorem dX12_change_209 : decode cX12_change 209 = .ok (.getfield 54, 3) := by decide +kernel
theorem dX12_change_212 : decode cX12_change 212 = .ok (.iload_n 1, 1) := by decide +kernel
theorem dX12_change_213 : decode cX12_change 213 = .ok (.iload_n 3, 1) := by decide +kernel
theorem dX12_change_214 : decode cX12_change 214 = .ok (.iastore, 1) := by decide +kernel
theorem dX12_change_215 : decode cX12_change 215 = .ok (.iload 5, 2) := by decide +kernel
theorem dX12_change_217 : decode cX12_change 217 = .ok (.ireturn, 1) := by decide +kernel
theorem dX12_change_218 : decode cX12_change 218 = .ok (.aload_n 0, 1) := by decide +kernel
theorem dX12_change_219 : decode cX12_change 219 = .ok (.getfield 57, 3) := by decide +kernel
theorem dX12_change_222 : decode cX12_change 222 = .ok (.iload_n 1, 1) := by decide +kernel
theorem dX12_change_223 : decode cX12_change 223 = .ok (.iaload, 1) := by decide +kernel
theorem dX12_change_224 : decode cX12_change 224 = .ok (.istore 5, 2) := by decide +kernel
theorem dX12_change_226 : decode cX12_change 226 = .ok (.aload_n 0, 1) := by decide +kernel
theorem dX12_change_227 : decode cX12_change 227 = .ok (.getfield 57, 3) := by decide +kernel
theorem dX12_change_230 : decode cX12_change 230 = .ok (.iload_n 1, 1) := by decide +kernel
theorem dX12_change_231 : decode cX12_change 231 = .ok (.iload_n 3, 1) := by decide +kernel
theorem dX12_change_232 : decode cX12_change 232 = .ok (.iastore, 1) := by decide +kernel
theorem dX12_change_233 : decode cX12_change 233 = .ok (.iload 5, 2) := by decide +kernel
theorem dX12_change_235 : decode cX12_change 235 = .ok (.ireturn, 1) := by decide +kernel
theorem dX12_change_236 : decode cX12_change 236 = .ok (.aload_n 0, 1) := by decide +kernel
theorem dX12_change_237 : decode cX12_change 237 = .ok (.getfield 60, 3) := by decide +kernel
theorem dX12_change_240 : decode cX12_change 240 = .ok (.iload_n 1, 1) := by decide +kernel
theorem dX12_change_241 : decode cX12_change 241 = .ok (.iaload, 1) := by decide +kernel
theorem dX12_change_242 : decode cX12_change 242 = .ok (.istore 5, 2) := by decide +kernel
theorem dX12_change_244 : decode cX12_change 244 = .ok (.aload_n 0, 1) := by decide +kernel
theorem dX12_change_245 : decode cX12_change 245 = .ok (.getfield 60, 3) := by decide +kernel
theorem dX12_change_248 : decode cX12_change 248 = .ok (.iload_n 1, 1) := by decide +kernel
theorem dX12_change_249 : decode cX12_change 249 = .ok (.iload_n 3, 1) := by decide +kernel
theorem dX12_change_250 : decode cX12_change 250 = .ok (.iastore, 1) := by decide +kernel
theorem dX12_change_251 : decode cX12_change 251 = .ok (.iload 5, 2) := by decide +kernel
theorem dX12_change_253 : decode cX12_change 253 = .ok (.ireturn, 1) := by decide +kernel
theorem dX12_on_0 : decode cX12_on 0 = .ok (.aload_n 0, 1) := by decide +kernel
theorem dX12_on_1 : decode cX12_on 1 = .ok (.iload_n 1, 1) := by decide +kernel
theorem dX12_on_2 : decode cX12_on 2 = .ok (.invokevirtual 237, 3) := by decide +kernel
theorem dX12_on_5 : decode cX12_on 5 = .ok (.ifCond .ne 6, 3) := by decide +kernel
theorem dX12_on_8 : decode cX12_on 8 = .ok (.bipush (-2), 2) := by decide +kernel
theorem dX12_on_10 : decode cX12_on 10 = .ok (.ireturn, 1) := by decide +kernel
theorem dX12_on_11 : decode cX12_on 11 = .ok (.aload_n 0, 1) := by decide +kernel
theorem dX12_on_12 : decode cX12_on 12 = .ok (.getfield 63, 3) := by decide +kernel
theorem dX12_on_15 : decode cX12_on 15 = .ok (.iload_n 1, 1) := by decide +kernel
theorem dX12_on_16 : decode cX12_on 16 = .ok (.baload, 1) := by decide +kernel
theorem dX12_on_17 : decode cX12_on 17 = .ok (.iload_n 2, 1) := by decide +kernel
theorem dX12_on_18 : decode cX12_on 18 = .ok (.if_icmp .eq 7, 3) := by decide +kernel
theorem dX12_on_21 : decode cX12_on 21 = .ok (.iconst 1, 1) := by decide +kernel
theorem dX12_on_22 : decode cX12_on 22 = .ok (.goto 4, 3) := by decide +kernel
theorem dX12_on_25 : decode cX12_on 25 = .ok (.iconst 0, 1) := by decide +kernel
theorem dX12_on_26 : decode cX12_on 26 = .ok (.istore_n 3, 1) := by decide +kernel
theorem dX12_on_27 : decode cX12_on 27 = .ok (.aload_n 0, 1) := by decide +kernel
theorem dX12_on_28 : decode cX12_on 28 = .ok (.getfield 63, 3) := by decide +kernel
theorem dX12_on_31 : decode cX12_on 31 = .ok (.iload_n 1, 1) := by decide +kernel
theorem dX12_on_32 : decode cX12_on 32 = .ok (.iload_n 2, 1) := by decide +kernel
theorem dX12_on_33 : decode cX12_on 33 = .ok (.bastore, 1) := by decide +kernel
theorem dX12_on_34 : decode cX12_on 34 = .ok (.iload_n 3, 1) := by decide +kernel
theorem dX12_on_35 : decode cX12_on 35 = .ok (.ifCond .eq 7, 3) := by decide +kernel
theorem dX12_on_38 : decode cX12_on 38 = .ok (.iconst 1, 1) := by decide +kernel
theorem dX12_on_39 : decode cX12_on 39 = .ok (.goto 4, 3) := by decide +kernel
theorem dX12_on_42 : decode cX12_on 42 = .ok (.iconst 0, 1) := by decide +kernel
theorem dX12_on_43 : decode cX12_on 43 = .ok (.ireturn, 1) := by decide +kernel
theorem dX12_gotOf_0 : decode cX12_gotOf 0 = .ok (.bipush 100, 2) := by decide +kernel
theorem dX12_gotOf_2 : decode cX12_gotOf 2 = .ok (.aload_n 0, 1) := by decide +kernel
theorem dX12_gotOf_3 : decode cX12_gotOf 3 = .ok (.getfield 39, 3) := by decide +kernel
theorem dX12_gotOf_6 : decode cX12_gotOf 6 = .ok (.iload_n 1, 1) := by decide +kernel
theorem dX12_gotOf_7 : decode cX12_gotOf 7 = .ok (.iaload, 1) := by decide +kernel
theorem dX12_gotOf_8 : decode cX12_gotOf 8 = .ok (.imul, 1) := by decide +kernel
theorem dX12_gotOf_9 : decode cX12_gotOf 9 = .ok (.aload_n 0, 1) := by decide +kernel
theorem dX12_gotOf_10 : decode cX12_gotOf 10 = .ok (.aload_n 0, 1) := by decide +kernel
theorem dX12_gotOf_11 : decode cX12_gotOf 11 = .ok (.iload_n 1, 1) := by decide +kernel
theorem dX12_gotOf_12 : decode cX12_gotOf 12 = .ok (.invokevirtual 241, 3) := by decide +kernel
theorem dX12_gotOf_15 : decode cX12_gotOf 15 = .ok (.aload_n 0, 1) := by decide +kernel
theorem dX12_gotOf_16 : decode cX12_gotOf 16 = .ok (.getfield 42, 3) := by decide +kernel
theorem dX12_gotOf_19 : decode cX12_gotOf 19 = .ok (.iload_n 1, 1) := by decide +kernel
theorem dX12_gotOf_20 : decode cX12_gotOf 20 = .ok (.iaload, 1) := by decide +kernel
theorem dX12_gotOf_21 : decode cX12_gotOf 21 = .ok (.iload_n 2, 1) := by decide +kernel
theorem dX12_gotOf_22 : decode cX12_gotOf 22 = .ok (.iconst 0, 1) := by decide +kernel
theorem dX12_gotOf_23 : decode cX12_gotOf 23 = .ok (.iload_n 3, 1) := by decide +kernel
theorem dX12_gotOf_24 : decode cX12_gotOf 24 = .ok (.invokevirtual 220, 3) := by decide +kernel
theorem dX12_gotOf_27 : decode cX12_gotOf 27 = .ok (.idiv, 1) := by decide +kernel
theorem dX12_gotOf_28 : decode cX12_gotOf 28 = .ok (.ireturn, 1) := by decide +kernel
theorem dX12_own_0 : decode cX12_own 0 = .ok (.aload_n 0, 1) := by decide +kernel
theorem dX12_own_1 : decode cX12_own 1 = .ok (.iload_n 1, 1) := by decide +kernel
theorem dX12_own_2 : decode cX12_own 2 = .ok (.iload_n 2, 1) := by decide +kernel
theorem dX12_own_3 : decode cX12_own 3 = .ok (.aload_n 0, 1) := by decide +kernel
theorem dX12_own_4 : decode cX12_own 4 = .ok (.getfield 33, 3) := by decide +kernel
theorem dX12_own_7 : decode cX12_own 7 = .ok (.iload_n 1, 1) := by decide +kernel
theorem dX12_own_8 : decode cX12_own 8 = .ok (.iaload, 1) := by decide +kernel
theorem dX12_own_9 : decode cX12_own 9 = .ok (.iconst 4, 1) := by decide +kernel
theorem dX12_own_10 : decode cX12_own 10 = .ok (.if_icmp .ne 7, 3) := by decide +kernel
theorem dX12_own_13 : decode cX12_own 13 = .ok (.iconst 1, 1) := by decide +kernel
theorem dX12_own_14 : decode cX12_own 14 = .ok (.goto 4, 3) := by decide +kernel
theorem dX12_own_17 : decode cX12_own 17 = .ok (.iconst 0, 1) := by decide +kernel
theorem dX12_own_18 : decode cX12_own 18 = .ok (.invokevirtual 251, 3) := by decide +kernel
theorem dX12_own_21 : decode cX12_own 21 = .ok (.ireturn, 1) := by decide +kernel
theorem dX12_got_0 : decode cX12_got 0 = .ok (.aload_n 0, 1) := by decide +kernel
theorem dX12_got_1 : decode cX12_got 1 = .ok (.iload_n 1, 1) := by decide +kernel
theorem dX12_got_2 : decode cX12_got 2 = .ok (.invokevirtual 237, 3) := by decide +kernel
theorem dX12_got_5 : decode cX12_got 5 = .ok (.ifCond .eq 20, 3) := by decide +kernel
theorem dX12_got_8 : decode cX12_got 8 = .ok (.aload_n 0, 1) := by decide +kernel
theorem dX12_got_9 : decode cX12_got 9 = .ok (.iload_n 2, 1) := by decide +kernel
theorem dX12_got_10 : decode cX12_got 10 = .ok (.invokevirtual 191, 3) := by decide +kernel
theorem dX12_got_13 : decode cX12_got 13 = .ok (.ifCond .eq 12, 3) := by decide +kernel
theorem dX12_got_16 : decode cX12_got 16 = .ok (.aload_n 0, 1) := by decide +kernel
theorem dX12_got_17 : decode cX12_got 17 = .ok (.iload_n 1, 1) := by decide +kernel
theorem dX12_got_18 : decode cX12_got 18 = .ok (.iload_n 2, 1) := by decide +kernel
theorem dX12_got_19 : decode cX12_got 19 = .ok (.invokevirtual 254, 3) := by decide +kernel
theorem dX12_got_22 : decode cX12_got 22 = .ok (.goto 5, 3) := by decide +kernel
theorem dX12_got_25 : decode cX12_got 25 = .ok (.bipush (-2), 2) := by decide +kernel
theorem dX12_got_27 : decode cX12_got 27 = .ok (.ireturn, 1) := by decide +kernel
theorem dX12_isHeard_0 : decode cX12_isHeard 0 = .ok (.ldc2_w 257, 3) := by decide +kernel
theorem dX12_isHeard_3 : decode cX12_isHeard 3 = .ok (.aload_n 0, 1) := by decide +kernel
theorem dX12_isHeard_4 : decode cX12_isHeard 4 = .ok (.iload_n 1, 1) := by decide +kernel
theorem dX12_isHeard_5 : decode cX12_isHeard 5 = .ok (.aload_n 0, 1) := by decide +kernel
theorem dX12_isHeard_6 : decode cX12_isHeard 6 = .ok (.getfield 48, 3) := by decide +kernel
theorem dX12_isHeard_9 : decode cX12_isHeard 9 = .ok (.iload_n 1, 1) := by decide +kernel
theorem dX12_isHeard_10 : decode cX12_isHeard 10 = .ok (.iaload, 1) := by decide +kernel
theorem dX12_isHeard_11 : decode cX12_isHeard 11 = .ok (.invokevirtual 254, 3) := by decide +kernel
theorem dX12_isHeard_14 : decode cX12_isHeard 14 = .ok (.i2l, 1) := by decide +kernel
theorem dX12_isHeard_15 : decode cX12_isHeard 15 = .ok (.lmul, 1) := by decide +kernel
theorem dX12_isHeard_16 : decode cX12_isHeard 16 = .ok (.aload_n 0, 1) := by decide +kernel
theorem dX12_isHeard_17 : decode cX12_isHeard 17 = .ok (.getfield 45, 3) := by decide +kernel
theorem dX12_isHeard_20 : decode cX12_isHeard 20 = .ok (.iload_n 1, 1) := by decide +kernel
theorem dX12_isHeard_21 : decode cX12_isHeard 21 = .ok (.iaload, 1) := by decide +kernel
theorem dX12_isHeard_22 : decode cX12_isHeard 22 = .ok (.i2l, 1) := by decide +kernel
theorem dX12_isHeard_23 : decode cX12_isHeard 23 = .ok (.lload_n 2, 1) := by decide +kernel
theorem dX12_isHeard_24 : decode cX12_isHeard 24 = .ok (.lmul, 1) := by decide +kernel
theorem dX12_isHeard_25 : decode cX12_isHeard 25 = .ok (.lcmp, 1) := by decide +kernel
theorem dX12_isHeard_26 : decode cX12_isHeard 26 = .ok (.ifCond .lt 7, 3) := by decide +kernel
theorem dX12_isHeard_29 : decode cX12_isHeard 29 = .ok (.iconst 1, 1) := by decide +kernel
