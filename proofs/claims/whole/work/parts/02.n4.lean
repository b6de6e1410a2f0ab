theorem dX10_init_40 : decode cX10_init 40 = .ok (.putfield 22, 3) := by decide +kernel
theorem dX10_init_43 : decode cX10_init 43 = .ok (.aload_n 0, 1) := by decide +kernel
theorem dX10_init_44 : decode cX10_init 44 = .ok (.bipush 40, 2) := by decide +kernel
theorem dX10_init_46 : decode cX10_init 46 = .ok (.newarray .int, 2) := by decide +kernel
theorem dX10_init_48 : decode cX10_init 48 = .ok (.putfield 25, 3) := by decide +kernel
theorem dX10_init_51 : decode cX10_init 51 = .ok (.aload_n 0, 1) := by decide +kernel
theorem dX10_init_52 : decode cX10_init 52 = .ok (.bipush 40, 2) := by decide +kernel
theorem dX10_init_54 : decode cX10_init 54 = .ok (.newarray .int, 2) := by decide +kernel
theorem dX10_init_56 : decode cX10_init 56 = .ok (.putfield 28, 3) := by decide +kernel
theorem dX10_init_59 : decode cX10_init 59 = .ok (.aload_n 0, 1) := by decide +kernel
theorem dX10_init_60 : decode cX10_init 60 = .ok (.bipush 40, 2) := by decide +kernel
theorem dX10_init_62 : decode cX10_init 62 = .ok (.newarray .int, 2) := by decide +kernel
theorem dX10_init_64 : decode cX10_init 64 = .ok (.putfield 31, 3) := by decide +kernel
theorem dX10_init_67 : decode cX10_init 67 = .ok (.aload_n 0, 1) := by decide +kernel
theorem dX10_init_68 : decode cX10_init 68 = .ok (.bipush 40, 2) := by decide +kernel
theorem dX10_init_70 : decode cX10_init 70 = .ok (.newarray .int, 2) := by decide +kernel
theorem dX10_init_72 : decode cX10_init 72 = .ok (.putfield 34, 3) := by decide +kernel
theorem dX10_init_75 : decode cX10_init 75 = .ok (.aload_n 0, 1) := by decide +kernel
theorem dX10_init_76 : decode cX10_init 76 = .ok (.bipush 40, 2) := by decide +kernel
theorem dX10_init_78 : decode cX10_init 78 = .ok (.newarray .int, 2) := by decide +kernel
theorem dX10_init_80 : decode cX10_init 80 = .ok (.putfield 37, 3) := by decide +kernel
theorem dX10_init_83 : decode cX10_init 83 = .ok (.aload_n 0, 1) := by decide +kernel
theorem dX10_init_84 : decode cX10_init 84 = .ok (.bipush 40, 2) := by decide +kernel
theorem dX10_init_86 : decode cX10_init 86 = .ok (.newarray .int, 2) := by decide +kernel
theorem dX10_init_88 : decode cX10_init 88 = .ok (.putfield 40, 3) := by decide +kernel
theorem dX10_init_91 : decode cX10_init 91 = .ok (.aload_n 0, 1) := by decide +kernel
theorem dX10_init_92 : decode cX10_init 92 = .ok (.bipush 40, 2) := by decide +kernel
theorem dX10_init_94 : decode cX10_init 94 = .ok (.newarray .int, 2) := by decide +kernel
theorem dX10_init_96 : decode cX10_init 96 = .ok (.putfield 43, 3) := by decide +kernel
theorem dX10_init_99 : decode cX10_init 99 = .ok (.aload_n 0, 1) := by decide +kernel
theorem dX10_init_100 : decode cX10_init 100 = .ok (.iconst 5, 1) := by decide +kernel
theorem dX10_init_101 : decode cX10_init 101 = .ok (.newarray .int, 2) := by decide +kernel
theorem dX10_init_103 : decode cX10_init 103 = .ok (.putfield 46, 3) := by decide +kernel
theorem dX10_init_106 : decode cX10_init 106 = .ok (.aload_n 0, 1) := by decide +kernel
theorem dX10_init_107 : decode cX10_init 107 = .ok (.iconst 5, 1) := by decide +kernel
theorem dX10_init_108 : decode cX10_init 108 = .ok (.newarray .int, 2) := by decide +kernel
theorem dX10_init_110 : decode cX10_init 110 = .ok (.putfield 49, 3) := by decide +kernel
theorem dX10_init_113 : decode cX10_init 113 = .ok (.aload_n 0, 1) := by decide +kernel
theorem dX10_init_114 : decode cX10_init 114 = .ok (.iconst 5, 1) := by decide +kernel
theorem dX10_init_115 : decode cX10_init 115 = .ok (.newarray .int, 2) := by decide +kernel
theorem dX10_init_117 : decode cX10_init 117 = .ok (.putfield 52, 3) := by decide +kernel
theorem dX10_init_120 : decode cX10_init 120 = .ok (.aload_n 0, 1) := by decide +kernel
theorem dX10_init_121 : decode cX10_init 121 = .ok (.iconst 5, 1) := by decide +kernel
theorem dX10_init_122 : decode cX10_init 122 = .ok (.newarray .int, 2) := by decide +kernel
theorem dX10_init_124 : decode cX10_init 124 = .ok (.putfield 55, 3) := by decide +kernel
theorem dX10_init_127 : decode cX10_init 127 = .ok (.aload_n 0, 1) := by decide +kernel
theorem dX10_init_128 : decode cX10_init 128 = .ok (.iconst 5, 1) := by decide +kernel
theorem dX10_init_129 : decode cX10_init 129 = .ok (.newarray .int, 2) := by decide +kernel
theorem dX10_init_131 : decode cX10_init 131 = .ok (.putfield 58, 3) := by decide +kernel
theorem dX10_init_134 : decode cX10_init 134 = .ok (.aload_n 0, 1) := by decide +kernel
theorem dX10_init_135 : decode cX10_init 135 = .ok (.iconst 5, 1) := by decide +kernel
theorem dX10_init_136 : decode cX10_init 136 = .ok (.newarray .int, 2) := by decide +kernel
theorem dX10_init_138 : decode cX10_init 138 = .ok (.putfield 61, 3) := by decide +kernel
theorem dX10_init_141 : decode cX10_init 141 = .ok (.aload_n 0, 1) := by decide +kernel
theorem dX10_init_142 : decode cX10_init 142 = .ok (.iconst 5, 1) := by decide +kernel
theorem dX10_init_143 : decode cX10_init 143 = .ok (.newarray .int, 2) := by decide +kernel
theorem dX10_init_145 : decode cX10_init 145 = .ok (.putfield 64, 3) := by decide +kernel
theorem dX10_init_148 : decode cX10_init 148 = .ok (.aload_n 0, 1) := by decide +kernel
theorem dX10_init_149 : decode cX10_init 149 = .ok (.iconst 5, 1) := by decide +kernel
theorem dX10_init_150 : decode cX10_init 150 = .ok (.newarray .int, 2) := by decide +kernel
theorem dX10_init_152 : decode cX10_init 152 = .ok (.putfield 67, 3) := by decide +kernel
theorem dX10_init_155 : decode cX10_init 155 = .ok (.aload_n 0, 1) := by decide +kernel
theorem dX10_init_156 : decode cX10_init 156 = .ok (.bipush 20, 2) := by decide +kernel
theorem dX10_init_158 : decode cX10_init 158 = .ok (.newarray .int, 2) := by decide +kernel
theorem dX10_init_160 : decode cX10_init 160 = .ok (.putfield 70, 3) := by decide +kernel
theorem dX10_init_163 : decode cX10_init 163 = .ok (.aload_n 0, 1) := by decide +kernel
theorem dX10_init_164 : decode cX10_init 164 = .ok (.bipush 20, 2) := by decide +kernel
theorem dX10_init_166 : decode cX10_init 166 = .ok (.newarray .int, 2) := by decide +kernel
theorem dX10_init_168 : decode cX10_init 168 = .ok (.putfield 73, 3) := by decide +kernel
theorem dX10_init_171 : decode cX10_init 171 = .ok (.aload_n 0, 1) := by decide +kernel
theorem dX10_init_172 : decode cX10_init 172 = .ok (.bipush 20, 2) := by decide +kernel
theorem dX10_init_174 : decode cX10_init 174 = .ok (.newarray .int, 2) := by decide +kernel
theorem dX10_init_176 : decode cX10_init 176 = .ok (.putfield 76, 3) := by decide +kernel
theorem dX10_init_179 : decode cX10_init 179 = .ok (.aload_n 0, 1) := by decide +kernel
theorem dX10_init_180 : decode cX10_init 180 = .ok (.bipush 20, 2) := by decide +kernel
theorem dX10_init_182 : decode cX10_init 182 = .ok (.newarray .int, 2) := by decide +kernel
theorem dX10_init_184 : decode cX10_init 184 = .ok (.putfield 79, 3) := by decide +kernel
theorem dX10_init_187 : decode cX10_init 187 = .ok (.aload_n 0, 1) := by decide +kernel
theorem dX10_init_188 : decode cX10_init 188 = .ok (.bipush 20, 2) := by decide +kernel
theorem dX10_init_190 : decode cX10_init 190 = .ok (.newarray .int, 2) := by decide +kernel
theorem dX10_init_192 : decode cX10_init 192 = .ok (.putfield 82, 3) := by decide +kernel
theorem dX10_init_195 : decode cX10_init 195 = .ok (.aload_n 0, 1) := by decide +kernel
theorem dX10_init_196 : decode cX10_init 196 = .ok (.bipush 20, 2) := by decide +kernel
theorem dX10_init_198 : decode cX10_init 198 = .ok (.newarray .int, 2) := by decide +kernel
theorem dX10_init_200 : decode cX10_init 200 = .ok (.putfield 85, 3) := by decide +kernel
theorem dX10_init_203 : decode cX10_init 203 = .ok (.aload_n 0, 1) := by decide +kernel
theorem dX10_init_204 : decode cX10_init 204 = .ok (.bipush 60, 2) := by decide +kernel
theorem dX10_init_206 : decode cX10_init 206 = .ok (.newarray .int, 2) := by decide +kernel
theorem dX10_init_208 : decode cX10_init 208 = .ok (.putfield 88, 3) := by decide +kernel
theorem dX10_init_211 : decode cX10_init 211 = .ok (.aload_n 0, 1) := by decide +kernel
theorem dX10_init_212 : decode cX10_init 212 = .ok (.bipush 60, 2) := by decide +kernel
theorem dX10_init_214 : decode cX10_init 214 = .ok (.newarray .int, 2) := by decide +kernel
theorem dX10_init_216 : decode cX10_init 216 = .ok (.putfield 91, 3) := by decide +kernel
theorem dX10_init_219 : decode cX10_init 219 = .ok (.aload_n 0, 1) := by decide +kernel
theorem dX10_init_220 : decode cX10_init 220 = .ok (.bipush 60, 2) := by decide +kernel
theorem dX10_init_222 : decode cX10_init 222 = .ok (.newarray .int, 2) := by decide +kernel
theorem dX10_init_224 : decode cX10_init 224 = .ok (.putfield 94, 3) := by decide +kernel
theorem dX10_init_227 : decode cX10_init 227 = .ok (.aload_n 0, 1) := by decide +kernel
theorem dX10_init_228 : decode cX10_init 228 = .ok (.bipush 60, 2) := by decide +kernel
theorem dX10_init_230 : decode cX10_init 230 = .ok (.newarray .int, 2) := by decide +kernel
theorem dX10_init_232 : decode cX10_init 232 = .ok (.putfield 97, 3) := by decide +kernel
theorem dX10_init_235 : decode cX10_init 235 = .ok (.aload_n 0, 1) := by decide +kernel
theorem dX10_init_236 : decode cX10_init 236 = .ok (.bipush 60, 2) := by decide +kernel
theorem dX10_init_238 : decode cX10_init 238 = .ok (.newarray .int, 2) := by decide +kernel
theorem dX10_init_240 : decode cX10_init 240 = .ok (.putfield 100, 3) := by decide +kernel
theorem dX10_init_243 : decode cX10_init 243 = .ok (.aload_n 0, 1) := by decide +kernel
theorem dX10_init_244 : decode cX10_init 244 = .ok (.bipush 60, 2) := by decide +kernel
theorem dX10_init_246 : decode cX10_init 246 = .ok (.newarray .int, 2) := by decide +kernel
theorem dX10_init_248 : decode cX10_init 248 = .ok (.putfield 103, 3) := by decide +kernel
theorem dX10_init_251 : decode cX10_init 251 = .ok (.aload_n 0, 1) := by decide +kernel
theorem dX10_init_252 : decode cX10_init 252 = .ok (.bipush 60, 2) := by decide +kernel
theorem dX10_init_254 : decode cX10_init 254 = .ok (.newarray .int, 2) := by decide +kernel
theorem dX10_init_256 : decode cX10_init 256 = .ok (.putfield 106, 3) := by decide +kernel
theorem dX10_init_259 : decode cX10_init 259 = .ok (.aload_n 0, 1) := by decide +kernel
theorem dX10_init_260 : decode cX10_init 260 = .ok (.bipush 10, 2) := by decide +kernel
theorem dX10_init_262 : decode cX10_init 262 = .ok (.newarray .int, 2) := by decide +kernel
theorem dX10_init_264 : decode cX10_init 264 = .ok (.putfield 109, 3) := by decide +kernel
theorem dX10_init_267 : decode cX10_init 267 = .ok (.aload_n 0, 1) := by decide +kernel
theorem dX10_init_268 : decode cX10_init 268 = .ok (.sipush 300, 3) := by decide +kernel
theorem dX10_init_271 : decode cX10_init 271 = .ok (.newarray .int, 2) := by decide +kernel
theorem dX10_init_273 : decode cX10_init 273 = .ok (.putfield 112, 3) := by decide +kernel
theorem dX10_init_276 : decode cX10_init 276 = .ok (.aload_n 0, 1) := by decide +kernel
theorem dX10_init_277 : decode cX10_init 277 = .ok (.sipush 300, 3) := by decide +kernel
theorem dX10_init_280 : decode cX10_init 280 = .ok (.newarray .int, 2) := by decide +kernel
theorem dX10_init_282 : decode cX10_init 282 = .ok (.putfield 115, 3) := by decide +kernel
theorem dX10_init_285 : decode cX10_init 285 = .ok (.aload_n 0, 1) := by decide +kernel
theorem dX10_init_286 : decode cX10_init 286 = .ok (.sipush 300, 3) := by decide +kernel
theorem dX10_init_289 : decode cX10_init 289 = .ok (.newarray .int, 2) := by decide +kernel
theorem dX10_init_291 : decode cX10_init 291 = .ok (.putfield 118, 3) := by decide +kernel
theorem dX10_init_294 : decode cX10_init 294 = .ok (.aload_n 0, 1) := by decide +kernel
theorem dX10_init_295 : decode cX10_init 295 = .ok (.sipush 300, 3) := by decide +kernel
theorem dX10_init_298 : decode cX10_init 298 = .ok (.newarray .int, 2) := by decide +kernel
theorem dX10_init_300 : decode cX10_init 300 = .ok (.putfield 121, 3) := by decide +kernel
theorem dX10_init_303 : decode cX10_init 303 = .ok (.aload_n 0, 1) := by decide +kernel
theorem dX10_init_304 : decode cX10_init 304 = .ok (.sipush 300, 3) := by decide +kernel
theorem dX10_init_307 : decode cX10_init 307 = .ok (.newarray .int, 2) := by decide +kernel
theorem dX10_init_309 : decode cX10_init 309 = .ok (.putfield 124, 3) := by decide +kernel
theorem dX10_init_312 : decode cX10_init 312 = .ok (.aload_n 0, 1) := by decide +kernel
theorem dX10_init_313 : decode cX10_init 313 = .ok (.sipush 300, 3) := by decide +kernel
theorem dX10_init_316 : decode cX10_init 316 = .ok (.newarray .int, 2) := by decide +kernel
theorem dX10_init_318 : decode cX10_init 318 = .ok (.putfield 127, 3) := by decide +kernel
theorem dX10_init_321 : decode cX10_init 321 = .ok (.aload_n 0, 1) := by decide +kernel
theorem dX10_init_322 : decode cX10_init 322 = .ok (.bipush 120, 2) := by decide +kernel
theorem dX10_init_324 : decode cX10_init 324 = .ok (.newarray .int, 2) := by decide +kernel
theorem dX10_init_326 : decode cX10_init 326 = .ok (.putfield 130, 3) := by decide +kernel
theorem dX10_init_329 : decode cX10_init 329 = .ok (.aload_n 0, 1) := by decide +kernel
theorem dX10_init_330 : decode cX10_init 330 = .ok (.sipush 720, 3) := by decide +kernel
theorem dX10_init_333 : decode cX10_init 333 = .ok (.newarray .int, 2) := by decide +kernel
theorem dX10_init_335 : decode cX10_init 335 = .ok (.putfield 133, 3) := by decide +kernel
theorem dX10_init_338 : decode cX10_init 338 = .ok (.aload_n 0, 1) := by decide +kernel
theorem dX10_init_339 : decode cX10_init 339 = .ok (.sipush 720, 3) := by decide +kernel
theorem dX10_init_342 : decode cX10_init 342 = .ok (.newarray .int, 2) := by decide +kernel
theorem dX10_init_344 : decode cX10_init 344 = .ok (.putfield 136, 3) := by decide +kernel
theorem dX10_init_347 : decode cX10_init 347 = .ok (.aload_n 0, 1) := by decide +kernel
theorem dX10_init_348 : decode cX10_init 348 = .ok (.sipush 720, 3) := by decide +kernel
theorem dX10_init_351 : decode cX10_init 351 = .ok (.newarray .int, 2) := by decide +kernel
theorem dX10_init_353 : decode cX10_init 353 = .ok (.putfield 139, 3) := by decide +kernel
theorem dX10_init_356 : decode cX10_init 356 = .ok (.aload_n 0, 1) := by decide +kernel
theorem dX10_init_357 : decode cX10_init 357 = .ok (.bipush 60, 2) := by decide +kernel
theorem dX10_init_359 : decode cX10_init 359 = .ok (.newarray .int, 2) := by decide +kernel
theorem dX10_init_361 : decode cX10_init 361 = .ok (.putfield 142, 3) := by decide +kernel
theorem dX10_init_364 : decode cX10_init 364 = .ok (.aload_n 0, 1) := by decide +kernel
theorem dX10_init_365 : decode cX10_init 365 = .ok (.bipush 60, 2) := by decide +kernel
theorem dX10_init_367 : decode cX10_init 367 = .ok (.newarray .int, 2) := by decide +kernel
theorem dX10_init_369 : decode cX10_init 369 = .ok (.putfield 145, 3) := by decide +kernel
theorem dX10_init_372 : decode cX10_init 372 = .ok (.aload_n 0, 1) := by decide +kernel
theorem dX10_init_373 : decode cX10_init 373 = .ok (.bipush 10, 2) := by decide +kernel
theorem dX10_init_375 : decode cX10_init 375 = .ok (.newarray .int, 2) := by decide +kernel
theorem dX10_init_377 : decode cX10_init 377 = .ok (.putfield 148, 3) := by decide +kernel
theorem dX10_init_380 : decode cX10_init 380 = .ok (.aload_n 0, 1) := by decide +kernel
theorem dX10_init_381 : decode cX10_init 381 = .ok (.bipush 12, 2) := by decide +kernel
theorem dX10_init_383 : decode cX10_init 383 = .ok (.newarray .int, 2) := by decide +kernel
theorem dX10_init_385 : decode cX10_init 385 = .ok (.putfield 151, 3) := by decide +kernel
theorem dX10_init_388 : decode cX10_init 388 = .ok (.aload_n 0, 1) := by decide +kernel
theorem dX10_init_389 : decode cX10_init 389 = .ok (.sipush 401, 3) := by decide +kernel
theorem dX10_init_392 : decode cX10_init 392 = .ok (.newarray .int, 2) := by decide +kernel
theorem dX10_init_394 : decode cX10_init 394 = .ok (.putfield 154, 3) := by decide +kernel
theorem dX10_init_397 : decode cX10_init 397 = .ok (.aload_n 0, 1) := by decide +kernel
theorem dX10_init_398 : decode cX10_init 398 = .ok (.sipush 401, 3) := by decide +kernel
theorem dX10_init_401 : decode cX10_init 401 = .ok (.newarray .int, 2) := by decide +kernel
theorem dX10_init_403 : decode cX10_init 403 = .ok (.putfield 157, 3) := by decide +kernel
theorem dX10_init_406 : decode cX10_init 406 = .ok (.aload_n 0, 1) := by decide +kernel
theorem dX10_init_407 : decode cX10_init 407 = .ok (.sipush 1932, 3) := by decide +kernel
theorem dX10_init_410 : decode cX10_init 410 = .ok (.newarray .int, 2) := by decide +kernel
theorem dX10_init_412 : decode cX10_init 412 = .ok (.putfield 160, 3) := by decide +kernel
theorem dX10_init_415 : decode cX10_init 415 = .ok (.aload_n 0, 1) := by decide +kernel
theorem dX10_init_416 : decode cX10_init 416 = .ok (.sipush 1932, 3) := by decide +kernel
theorem dX10_init_419 : decode cX10_init 419 = .ok (.newarray .int, 2) := by decide +kernel
theorem dX10_init_421 : decode cX10_init 421 = .ok (.putfield 163, 3) := by decide +kernel
theorem dX10_init_424 : decode cX10_init 424 = .ok (.aload_n 0, 1) := by decide +kernel
theorem dX10_init_425 : decode cX10_init 425 = .ok (.bipush 12, 2) := by decide +kernel
theorem dX10_init_427 : decode cX10_init 427 = .ok (.newarray .int, 2) := by decide +kernel
theorem dX10_init_429 : decode cX10_init 429 = .ok (.putfield 166, 3) := by decide +kernel
theorem dX10_init_432 : decode cX10_init 432 = .ok (.aload_n 0, 1) := by decide +kernel
theorem dX10_init_433 : decode cX10_init 433 = .ok (.bipush 12, 2) := by decide +kernel
theorem dX10_init_435 : decode cX10_init 435 = .ok (.newarray .int, 2) := by decide +kernel
theorem dX10_init_437 : decode cX10_init 437 = .ok (.putfield 169, 3) := by decide +kernel
theorem dX10_init_440 : decode cX10_init 440 = .ok (.aload_n 0, 1) := by decide +kernel
theorem dX10_init_441 : decode cX10_init 441 = .ok (.bipush 12, 2) := by decide +kernel
theorem dX10_init_443 : decode cX10_init 443 = .ok (.newarray .int, 2) := by decide +kernel
theorem dX10_init_445 : decode cX10_init 445 = .ok (.putfield 172, 3) := by decide +kernel
theorem dX10_init_448 : decode cX10_init 448 = .ok (.iconst 0, 1) := by decide +kernel
theorem dX10_init_449 : decode cX10_init 449 = .ok (.istore_n 1, 1) := by decide +kernel
theorem dX10_init_450 : decode cX10_init 450 = .ok (.iload_n 1, 1) := by decide +kernel
theorem dX10_init_451 : decode cX10_init 451 = .ok (.iconst 3, 1) := by decide +kernel
theorem dX10_init_452 : decode cX10_init 452 = .ok (.if_icmp .ge 16, 3) := by decide +kernel
theorem dX10_init_455 : decode cX10_init 455 = .ok (.aload_n 0, 1) := by decide +kernel
theorem dX10_init_456 : decode cX10_init 456 = .ok (.getfield 7, 3) := by decide +kernel
theorem dX10_init_459 : decode cX10_init 459 = .ok (.iload_n 1, 1) := by decide +kernel
theorem dX10_init_460 : decode cX10_init 460 = .ok (.iconst 5, 1) := by decide +kernel
theorem dX10_init_461 : decode cX10_init 461 = .ok (.iastore, 1) := by decide +kernel
theorem dX10_init_462 : decode cX10_init 462 = .ok (.iinc 1 1, 3) := by decide +kernel
theorem dX10_init_465 : decode cX10_init 465 = .ok (.goto (-15), 3) := by decide +kernel
theorem dX10_init_468 : decode cX10_init 468 = .ok (.return_, 1) := by decide +kernel
theorem dX10_thrown_0 : decode cX10_thrown 0 = .ok (.aload_n 0, 1) := by decide +kernel
theorem dX10_thrown_1 : decode cX10_thrown 1 = .ok (.getfield 175, 3) := by decide +kernel
theorem dX10_thrown_4 : decode cX10_thrown 4 = .ok (.ireturn, 1) := by decide +kernel
theorem dX10_in_0 : decode cX10_in 0 = .ok (.iload_n 0, 1) := by decide +kernel
theorem dX10_in_1 : decode cX10_in 1 = .ok (.iload_n 1, 1) := by decide +kernel
theorem dX10_in_2 : decode cX10_in 2 = .ok (.if_icmp .lt 12, 3) := by decide +kernel
theorem dX10_in_5 : decode cX10_in 5 = .ok (.iload_n 0, 1) := by decide +kernel
theorem dX10_in_6 : decode cX10_in 6 = .ok (.iload_n 2, 1) := by decide +kernel
theorem dX10_in_7 : decode cX10_in 7 = .ok (.if_icmp .gt 7, 3) := by decide +kernel
theorem dX10_in_10 : decode cX10_in 10 = .ok (.iconst 1, 1) := by decide +kernel
theorem dX10_in_11 : decode cX10_in 11 = .ok (.goto 4, 3) := by decide +kernel
theorem dX10_in_14 : decode cX10_in 14 = .ok (.iconst 0, 1) := by decide +kernel
theorem dX10_in_15 : decode cX10_in 15 = .ok (.ireturn, 1) := by decide +kernel
set_option maxRecDepth 20000 in
theorem ggX10_isFirm_X10_in : GoodIn wsX10_isFirm wsX10_in := goodIn_r _ [4] (by decide +kernel) (by decide +kernel)
set_option maxRecDepth 20000 in
theorem gX10_isFirm_X10_in : GoodIn wsX10_isFirm (va_wsS RX10 179 yX10_in wsX10_in) := goodIn_app (goodIn_of _ (by decide +kernel)) ggX10_isFirm_X10_in
theorem dX10_isFirm_0 : decode cX10_isFirm 0 = .ok (.iload_n 0, 1) := by decide +kernel
theorem dX10_isFirm_1 : decode cX10_isFirm 1 = .ok (.iconst 0, 1) := by decide +kernel
theorem dX10_isFirm_2 : decode cX10_isFirm 2 = .ok (.iconst 5, 1) := by decide +kernel
theorem dX10_isFirm_3 : decode cX10_isFirm 3 = .ok (.invokestatic 179, 3) := by decide +kernel
theorem dX10_isFirm_6 : decode cX10_isFirm 6 = .ok (.ireturn, 1) := by decide +kernel
set_option maxRecDepth 20000 in
theorem ggX10_isZone_X10_in : GoodIn wsX10_isZone wsX10_in := goodIn_r _ [4] (by decide +kernel) (by decide +kernel)
set_option maxRecDepth 20000 in
theorem gX10_isZone_X10_in : GoodIn wsX10_isZone (va_wsS RX10 179 yX10_in wsX10_in) := goodIn_app (goodIn_of _ (by decide +kernel)) ggX10_isZone_X10_in
theorem dX10_isZone_0 : decode cX10_isZone 0 = .ok (.iload_n 0, 1) := by decide +kernel
theorem dX10_isZone_1 : decode cX10_isZone 1 = .ok (.iconst 0, 1) := by decide +kernel
theorem dX10_isZone_2 : decode cX10_isZone 2 = .ok (.iconst 2, 1) := by decide +kernel
theorem dX10_isZone_3 : decode cX10_isZone 3 = .ok (.invokestatic 179, 3) := by decide +kernel
theorem dX10_isZone_6 : decode cX10_isZone 6 = .ok (.ireturn, 1) := by decide +kernel
set_option maxRecDepth 20000 in
theorem ggX10_isHour_X10_in : GoodIn wsX10_isHour wsX10_in := goodIn_r _ [4] (by decide +kernel) (by decide +kernel)
set_option maxRecDepth 20000 in
theorem gX10_isHour_X10_in : GoodIn wsX10_isHour (va_wsS RX10 179 yX10_in wsX10_in) := goodIn_app (goodIn_of _ (by decide +kernel)) ggX10_isHour_X10_in
theorem dX10_isHour_0 : decode cX10_isHour 0 = .ok (.iload_n 0, 1) := by decide +kernel
theorem dX10_isHour_1 : decode cX10_isHour 1 = .ok (.iconst 0, 1) := by decide +kernel
theorem dX10_isHour_2 : decode cX10_isHour 2 = .ok (.iconst 3, 1) := by decide +kernel
theorem dX10_isHour_3 : decode cX10_isHour 3 = .ok (.invokestatic 179, 3) := by decide +kernel
theorem dX10_isHour_6 : decode cX10_isHour 6 = .ok (.ireturn, 1) := by decide +kernel
set_option maxRecDepth 20000 in
theorem ggX10_isClosed_X10_in : GoodIn wsX10_isClosed wsX10_in := goodIn_r _ [5] (by decide +kernel) (by decide +kernel)
set_option maxRecDepth 20000 in
theorem gX10_isClosed_X10_in : GoodIn wsX10_isClosed (va_wsS RX10 179 yX10_in wsX10_in) := goodIn_app (goodIn_of _ (by decide +kernel)) ggX10_isClosed_X10_in
theorem dX10_isClosed_0 : decode cX10_isClosed 0 = .ok (.iload_n 1, 1) := by decide +kernel
theorem dX10_isClosed_1 : decode cX10_isClosed 1 = .ok (.iconst 0, 1) := by decide +kernel
theorem dX10_isClosed_2 : decode cX10_isClosed 2 = .ok (.aload_n 0, 1) := by decide +kernel
theorem dX10_isClosed_3 : decode cX10_isClosed 3 = .ok (.getfield 183, 3) := by decide +kernel
theorem dX10_isClosed_6 : decode cX10_isClosed 6 = .ok (.iconst 1, 1) := by decide +kernel
theorem dX10_isClosed_7 : decode cX10_isClosed 7 = .ok (.isub, 1) := by decide +kernel
theorem dX10_isClosed_8 : decode cX10_isClosed 8 = .ok (.invokestatic 179, 3) := by decide +kernel
theorem dX10_isClosed_11 : decode cX10_isClosed 11 = .ok (.ireturn, 1) := by decide +kernel
set_option maxRecDepth 20000 in
theorem ggX10_deposit_X10_isFirm : GoodIn wsX10_deposit wsX10_isFirm := goodIn_r _ [10, 11, 12, 9, 13] (by decide +kernel) (by decide +kernel)
set_option maxRecDepth 20000 in
theorem gX10_deposit_X10_isFirm : GoodIn wsX10_deposit (va_wsS RX10 186 yX10_isFirm wsX10_isFirm) := goodIn_app (goodIn_of _ (by decide +kernel)) ggX10_deposit_X10_isFirm
set_option maxRecDepth 20000 in
theorem ggX10_deposit_X10_in : GoodIn wsX10_deposit wsX10_in := goodIn_r _ [13] (by decide +kernel) (by decide +kernel)
set_option maxRecDepth 20000 in
theorem gX10_deposit_X10_in : GoodIn wsX10_deposit (va_wsS RX10 179 yX10_in wsX10_in) := goodIn_app (goodIn_of _ (by decide +kernel)) ggX10_deposit_X10_in
theorem dX10_deposit_0 : decode cX10_deposit 0 = .ok (.aload_n 0, 1) := by decide +kernel
theorem dX10_deposit_1 : decode cX10_deposit 1 = .ok (.iload_n 1, 1) := by decide +kernel
theorem dX10_deposit_2 : decode cX10_deposit 2 = .ok (.invokestatic 186, 3) := by decide +kernel
theorem dX10_deposit_5 : decode cX10_deposit 5 = .ok (.ifCond .ne 7, 3) := by decide +kernel
theorem dX10_deposit_8 : decode cX10_deposit 8 = .ok (.iconst 1, 1) := by decide +kernel
theorem dX10_deposit_9 : decode cX10_deposit 9 = .ok (.goto 45, 3) := by decide +kernel
theorem dX10_deposit_12 : decode cX10_deposit 12 = .ok (.iload_n 2, 1) := by decide +kernel
theorem dX10_deposit_13 : decode cX10_deposit 13 = .ok (.iconst 1, 1) := by decide +kernel
theorem dX10_deposit_14 : decode cX10_deposit 14 = .ok (.ldc 190, 2) := by decide +kernel
theorem dX10_deposit_16 : decode cX10_deposit 16 = .ok (.invokestatic 179, 3) := by decide +kernel
theorem dX10_deposit_19 : decode cX10_deposit 19 = .ok (.ifCond .ne 7, 3) := by decide +kernel
theorem dX10_deposit_22 : decode cX10_deposit 22 = .ok (.iconst 2, 1) := by decide +kernel
theorem dX10_deposit_23 : decode cX10_deposit 23 = .ok (.goto 31, 3) := by decide +kernel
theorem dX10_deposit_26 : decode cX10_deposit 26 = .ok (.aload_n 0, 1) := by decide +kernel
theorem dX10_deposit_27 : decode cX10_deposit 27 = .ok (.getfield 19, 3) := by decide +kernel
theorem dX10_deposit_30 : decode cX10_deposit 30 = .ok (.iload_n 1, 1) := by decide +kernel
theorem dX10_deposit_31 : decode cX10_deposit 31 = .ok (.iaload, 1) := by decide +kernel
theorem dX10_deposit_32 : decode cX10_deposit 32 = .ok (.iconst 1, 1) := by decide +kernel
theorem dX10_deposit_33 : decode cX10_deposit 33 = .ok (.if_icmp .eq 16, 3) := by decide +kernel
theorem dX10_deposit_36 : decode cX10_deposit 36 = .ok (.aload_n 0, 1) := by decide +kernel
theorem dX10_deposit_37 : decode cX10_deposit 37 = .ok (.getfield 16, 3) := by decide +kernel
theorem dX10_deposit_40 : decode cX10_deposit 40 = .ok (.iload_n 1, 1) := by decide +kernel
theorem dX10_deposit_41 : decode cX10_deposit 41 = .ok (.iaload, 1) := by decide +kernel
theorem dX10_deposit_42 : decode cX10_deposit 42 = .ok (.iload_n 2, 1) := by decide +kernel
theorem dX10_deposit_43 : decode cX10_deposit 43 = .ok (.iadd, 1) := by decide +kernel
theorem dX10_deposit_44 : decode cX10_deposit 44 = .ok (.ldc 191, 2) := by decide +kernel
theorem dX10_deposit_46 : decode cX10_deposit 46 = .ok (.if_icmp .le 7, 3) := by decide +kernel
theorem dX10_deposit_49 : decode cX10_deposit 49 = .ok (.iconst 3, 1) := by decide +kernel
theorem dX10_deposit_50 : decode cX10_deposit 50 = .ok (.goto 4, 3) := by decide +kernel
theorem dX10_deposit_53 : decode cX10_deposit 53 = .ok (.iconst 0, 1) := by decide +kernel
theorem dX10_deposit_54 : decode cX10_deposit 54 = .ok (.putfield 175, 3) := by decide +kernel
theorem dX10_deposit_57 : decode cX10_deposit 57 = .ok (.aload_n 0, 1) := by decide +kernel
theorem dX10_deposit_58 : decode cX10_deposit 58 = .ok (.getfield 175, 3) := by decide +kernel
theorem dX10_deposit_61 : decode cX10_deposit 61 = .ok (.ifCond .le 5, 3) := by decide +kernel
theorem dX10_deposit_64 : decode cX10_deposit 64 = .ok (.iconst 0, 1) := by decide +kernel
theorem dX10_deposit_65 : decode cX10_deposit 65 = .ok (.ireturn, 1) := by decide +kernel
theorem dX10_deposit_66 : decode cX10_deposit 66 = .ok (.aload_n 0, 1) := by decide +kernel
theorem dX10_deposit_67 : decode cX10_deposit 67 = .ok (.getfield 16, 3) := by decide +kernel
theorem dX10_deposit_70 : decode cX10_deposit 70 = .ok (.iload_n 1, 1) := by decide +kernel
theorem dX10_deposit_71 : decode cX10_deposit 71 = .ok (.dup2, 1) := by decide +kernel
theorem dX10_deposit_72 : decode cX10_deposit 72 = .ok (.iaload, 1) := by decide +kernel
theorem dX10_deposit_73 : decode cX10_deposit 73 = .ok (.iload_n 2, 1) := by decide +kernel
theorem dX10_deposit_74 : decode cX10_deposit 74 = .ok (.iadd, 1) := by decide +kernel
theorem dX10_deposit_75 : decode cX10_deposit 75 = .ok (.iastore, 1) := by decide +kernel
theorem dX10_deposit_76 : decode cX10_deposit 76 = .ok (.aload_n 0, 1) := by decide +kernel
theorem dX10_deposit_77 : decode cX10_deposit 77 = .ok (.getfield 13, 3) := by decide +kernel
theorem dX10_deposit_80 : decode cX10_deposit 80 = .ok (.iload_n 1, 1) := by decide +kernel
theorem dX10_deposit_81 : decode cX10_deposit 81 = .ok (.dup2, 1) := by decide +kernel
theorem dX10_deposit_82 : decode cX10_deposit 82 = .ok (.iaload, 1) := by decide +kernel
theorem dX10_deposit_83 : decode cX10_deposit 83 = .ok (.iload_n 2, 1) := by decide +kernel
theorem dX10_deposit_84 : decode cX10_deposit 84 = .ok (.iadd, 1) := by decide +kernel
theorem dX10_deposit_85 : decode cX10_deposit 85 = .ok (.iastore, 1) := by decide +kernel
theorem dX10_deposit_86 : decode cX10_deposit 86 = .ok (.aload_n 0, 1) := by decide +kernel
theorem dX10_deposit_87 : decode cX10_deposit 87 = .ok (.getfield 13, 3) := by decide +kernel
theorem dX10_deposit_90 : decode cX10_deposit 90 = .ok (.iload_n 1, 1) := by decide +kernel
theorem dX10_deposit_91 : decode cX10_deposit 91 = .ok (.iaload, 1) := by decide +kernel
theorem dX10_deposit_92 : decode cX10_deposit 92 = .ok (.ireturn, 1) := by decide +kernel
set_option maxRecDepth 20000 in
theorem ggX10_setLimit_X10_in : GoodIn wsX10_setLimit wsX10_in := goodIn_r _ [7] (by decide +kernel) (by decide +kernel)
set_option maxRecDepth 20000 in
theorem gX10_setLimit_X10_in : GoodIn wsX10_setLimit (va_wsS RX10 179 yX10_in wsX10_in) := goodIn_app (goodIn_of _ (by decide +kernel)) ggX10_setLimit_X10_in
theorem dX10_setLimit_0 : decode cX10_setLimit 0 = .ok (.aload_n 0, 1) := by decide +kernel
theorem dX10_setLimit_1 : decode cX10_setLimit 1 = .ok (.iload_n 1, 1) := by decide +kernel
theorem dX10_setLimit_2 : decode cX10_setLimit 2 = .ok (.iconst 0, 1) := by decide +kernel
theorem dX10_setLimit_3 : decode cX10_setLimit 3 = .ok (.iconst 2, 1) := by decide +kernel
theorem dX10_setLimit_4 : decode cX10_setLimit 4 = .ok (.invokestatic 179, 3) := by decide +kernel
theorem dX10_setLimit_7 : decode cX10_setLimit 7 = .ok (.ifCond .ne 7, 3) := by decide +kernel
theorem dX10_setLimit_10 : decode cX10_setLimit 10 = .ok (.iconst 1, 1) := by decide +kernel
theorem dX10_setLimit_11 : decode cX10_setLimit 11 = .ok (.goto 30, 3) := by decide +kernel
theorem dX10_setLimit_14 : decode cX10_setLimit 14 = .ok (.iload_n 2, 1) := by decide +kernel
theorem dX10_setLimit_15 : decode cX10_setLimit 15 = .ok (.iconst 0, 1) := by decide +kernel
theorem dX10_setLimit_16 : decode cX10_setLimit 16 = .ok (.bipush 10, 2) := by decide +kernel
theorem dX10_setLimit_18 : decode cX10_setLimit 18 = .ok (.invokestatic 179, 3) := by decide +kernel
theorem dX10_setLimit_21 : decode cX10_setLimit 21 = .ok (.ifCond .ne 7, 3) := by decide +kernel
theorem dX10_setLimit_24 : decode cX10_setLimit 24 = .ok (.iconst 2, 1) := by decide +kernel
theorem dX10_setLimit_25 : decode cX10_setLimit 25 = .ok (.goto 16, 3) := by decide +kernel
theorem dX10_setLimit_28 : decode cX10_setLimit 28 = .ok (.aload_n 0, 1) := by decide +kernel
theorem dX10_setLimit_29 : decode cX10_setLimit 29 = .ok (.getfield 192, 3) := by decide +kernel
theorem dX10_setLimit_32 : decode cX10_setLimit 32 = .ok (.iconst 1, 1) := by decide +kernel
theorem dX10_setLimit_33 : decode cX10_setLimit 33 = .ok (.if_icmp .ne 7, 3) := by decide +kernel
theorem dX10_setLimit_36 : decode cX10_setLimit 36 = .ok (.iconst 3, 1) := by decide +kernel
theorem dX10_setLimit_37 : decode cX10_setLimit 37 = .ok (.goto 4, 3) := by decide +kernel
theorem dX10_setLimit_40 : decode cX10_setLimit 40 = .ok (.iconst 0, 1) := by decide +kernel
theorem dX10_setLimit_41 : decode cX10_setLimit 41 = .ok (.putfield 175, 3) := by decide +kernel
theorem dX10_setLimit_44 : decode cX10_setLimit 44 = .ok (.aload_n 0, 1) := by decide +kernel
theorem dX10_setLimit_45 : decode cX10_setLimit 45 = .ok (.getfield 175, 3) := by decide +kernel
theorem dX10_setLimit_48 : decode cX10_setLimit 48 = .ok (.ifCond .le 5, 3) := by decide +kernel
theorem dX10_setLimit_51 : decode cX10_setLimit 51 = .ok (.iconst 0, 1) := by decide +kernel
theorem dX10_setLimit_52 : decode cX10_setLimit 52 = .ok (.ireturn, 1) := by decide +kernel
theorem dX10_setLimit_53 : decode cX10_setLimit 53 = .ok (.aload_n 0, 1) := by decide +kernel
theorem dX10_setLimit_54 : decode cX10_setLimit 54 = .ok (.getfield 7, 3) := by decide +kernel
theorem dX10_setLimit_57 : decode cX10_setLimit 57 = .ok (.iload_n 1, 1) := by decide +kernel
theorem dX10_setLimit_58 : decode cX10_setLimit 58 = .ok (.iaload, 1) := by decide +kernel
theorem dX10_setLimit_59 : decode cX10_setLimit 59 = .ok (.istore_n 3, 1) := by decide +kernel
theorem dX10_setLimit_60 : decode cX10_setLimit 60 = .ok (.aload_n 0, 1) := by decide +kernel
theorem dX10_setLimit_61 : decode cX10_setLimit 61 = .ok (.getfield 7, 3) := by decide +kernel
theorem dX10_setLimit_64 : decode cX10_setLimit 64 = .ok (.iload_n 1, 1) := by decide +kernel
theorem dX10_setLimit_65 : decode cX10_setLimit 65 = .ok (.iload_n 2, 1) := by decide +kernel
theorem dX10_setLimit_66 : decode cX10_setLimit 66 = .ok (.iastore, 1) := by decide +kernel
theorem dX10_setLimit_67 : decode cX10_setLimit 67 = .ok (.iload_n 3, 1) := by decide +kernel
theorem dX10_setLimit_68 : decode cX10_setLimit 68 = .ok (.ireturn, 1) := by decide +kernel
set_option maxRecDepth 20000 in
theorem ggX10_bid_X10_isFirm : GoodIn wsX10_bid wsX10_isFirm := goodIn_r _ [14, 15, 16, 13, 17] (by decide +kernel) (by decide +kernel)
set_option maxRecDepth 20000 in
theorem gX10_bid_X10_isFirm : GoodIn wsX10_bid (va_wsS RX10 186 yX10_isFirm wsX10_isFirm) := goodIn_app (goodIn_of _ (by decide +kernel)) ggX10_bid_X10_isFirm
set_option maxRecDepth 20000 in
theorem ggX10_bid_X10_isZone : GoodIn wsX10_bid wsX10_isZone := goodIn_r _ [20, 15, 16, 13, 17] (by decide +kernel) (by decide +kernel)
set_option maxRecDepth 20000 in
theorem gX10_bid_X10_isZone : GoodIn wsX10_bid (va_wsS RX10 195 yX10_isZone wsX10_isZone) := goodIn_app (goodIn_of _ (by decide +kernel)) ggX10_bid_X10_isZone
set_option maxRecDepth 20000 in
theorem ggX10_bid_X10_isHour : GoodIn wsX10_bid wsX10_isHour := goodIn_r _ [23, 15, 16, 13, 17] (by decide +kernel) (by decide +kernel)
set_option maxRecDepth 20000 in
theorem gX10_bid_X10_isHour : GoodIn wsX10_bid (va_wsS RX10 198 yX10_isHour wsX10_isHour) := goodIn_app (goodIn_of _ (by decide +kernel)) ggX10_bid_X10_isHour
set_option maxRecDepth 20000 in
theorem ggX10_bid_X10_in : GoodIn wsX10_bid wsX10_in := goodIn_r _ [17] (by decide +kernel) (by decide +kernel)
set_option maxRecDepth 20000 in
theorem gX10_bid_X10_in : GoodIn wsX10_bid (va_wsS RX10 179 yX10_in wsX10_in) := goodIn_app (goodIn_of _ (by decide +kernel)) ggX10_bid_X10_in
theorem dX10_bid_0 : decode cX10_bid 0 = .ok (.aload_n 0, 1) := by decide +kernel
theorem dX10_bid_1 : decode cX10_bid 1 = .ok (.iload_n 1, 1) := by decide +kernel
theorem dX10_bid_2 : decode cX10_bid 2 = .ok (.invokestatic 186, 3) := by decide +kernel
theorem dX10_bid_5 : decode cX10_bid 5 = .ok (.ifCond .eq 17, 3) := by decide +kernel
theorem dX10_bid_8 : decode cX10_bid 8 = .ok (.iload_n 2, 1) := by decide +kernel
theorem dX10_bid_9 : decode cX10_bid 9 = .ok (.invokestatic 195, 3) := by decide +kernel
theorem dX10_bid_12 : decode cX10_bid 12 = .ok (.ifCond .eq 10, 3) := by decide +kernel
theorem dX10_bid_15 : decode cX10_bid 15 = .ok (.iload_n 3, 1) := by decide +kernel
theorem dX10_bid_16 : decode cX10_bid 16 = .ok (.invokestatic 198, 3) := by decide +kernel
theorem dX10_bid_19 : decode cX10_bid 19 = .ok (.ifCond .ne 7, 3) := by decide +kernel
theorem dX10_bid_22 : decode cX10_bid 22 = .ok (.iconst 1, 1) := by decide +kernel
theorem dX10_bid_23 : decode cX10_bid 23 = .ok (.goto 31, 3) := by decide +kernel
theorem dX10_bid_26 : decode cX10_bid 26 = .ok (.iload 5, 2) := by decide +kernel
theorem dX10_bid_28 : decode cX10_bid 28 = .ok (.iconst 0, 1) := by decide +kernel
theorem dX10_bid_29 : decode cX10_bid 29 = .ok (.sipush 200, 3) := by decide +kernel
theorem dX10_bid_32 : decode cX10_bid 32 = .ok (.invokestatic 179, 3) := by decide +kernel
theorem dX10_bid_35 : decode cX10_bid 35 = .ok (.ifCond .eq 14, 3) := by decide +kernel
theorem dX10_bid_38 : decode cX10_bid 38 = .ok (.iload 6, 2) := by decide +kernel
theorem dX10_bid_40 : decode cX10_bid 40 = .ok (.iconst 1, 1) := by decide +kernel
theorem dX10_bid_41 : decode cX10_bid 41 = .ok (.bipush 10, 2) := by decide +kernel
theorem dX10_bid_43 : decode cX10_bid 43 = .ok (.invokestatic 179, 3) := by decide +kernel
theorem dX10_bid_46 : decode cX10_bid 46 = .ok (.ifCond .ne 7, 3) := by decide +kernel
theorem dX10_bid_49 : decode cX10_bid 49 = .ok (.iconst 2, 1) := by decide +kernel
theorem dX10_bid_50 : decode cX10_bid 50 = .ok (.goto 4, 3) := by decide +kernel
theorem dX10_bid_53 : decode cX10_bid 53 = .ok (.iconst 0, 1) := by decide +kernel
theorem dX10_bid_54 : decode cX10_bid 54 = .ok (.putfield 175, 3) := by decide +kernel
theorem dX10_bid_57 : decode cX10_bid 57 = .ok (.aload_n 0, 1) := by decide +kernel
theorem dX10_bid_58 : decode cX10_bid 58 = .ok (.getfield 175, 3) := by decide +kernel
theorem dX10_bid_61 : decode cX10_bid 61 = .ok (.ifCond .ne 39, 3) := by decide +kernel
theorem dX10_bid_64 : decode cX10_bid 64 = .ok (.aload_n 0, 1) := by decide +kernel
theorem dX10_bid_65 : decode cX10_bid 65 = .ok (.aload_n 0, 1) := by decide +kernel
theorem dX10_bid_66 : decode cX10_bid 66 = .ok (.getfield 19, 3) := by decide +kernel
theorem dX10_bid_69 : decode cX10_bid 69 = .ok (.iload_n 1, 1) := by decide +kernel
theorem dX10_bid_70 : decode cX10_bid 70 = .ok (.iaload, 1) := by decide +kernel
theorem dX10_bid_71 : decode cX10_bid 71 = .ok (.iconst 1, 1) := by decide +kernel
theorem dX10_bid_72 : decode cX10_bid 72 = .ok (.if_icmp .eq 20, 3) := by decide +kernel
theorem dX10_bid_75 : decode cX10_bid 75 = .ok (.aload_n 0, 1) := by decide +kernel
theorem dX10_bid_76 : decode cX10_bid 76 = .ok (.getfield 192, 3) := by decide +kernel
theorem dX10_bid_79 : decode cX10_bid 79 = .ok (.iconst 1, 1) := by decide +kernel
theorem dX10_bid_80 : decode cX10_bid 80 = .ok (.if_icmp .eq 12, 3) := by decide +kernel
theorem dX10_bid_83 : decode cX10_bid 83 = .ok (.aload_n 0, 1) := by decide +kernel
theorem dX10_bid_84 : decode cX10_bid 84 = .ok (.getfield 201, 3) := by decide +kernel
theorem dX10_bid_87 : decode cX10_bid 87 = .ok (.bipush 40, 2) := by decide +kernel
theorem dX10_bid_89 : decode cX10_bid 89 = .ok (.if_icmp .ne 7, 3) := by decide +kernel
theorem dX10_bid_92 : decode cX10_bid 92 = .ok (.iconst 3, 1) := by decide +kernel
theorem dX10_bid_93 : decode cX10_bid 93 = .ok (.goto 4, 3) := by decide +kernel
theorem dX10_bid_96 : decode cX10_bid 96 = .ok (.iconst 0, 1) := by decide +kernel
theorem dX10_bid_97 : decode cX10_bid 97 = .ok (.putfield 175, 3) := by decide +kernel
theorem dX10_bid_100 : decode cX10_bid 100 = .ok (.aload_n 0, 1) := by decide +kernel
theorem dX10_bid_101 : decode cX10_bid 101 = .ok (.getfield 175, 3) := by decide +kernel
theorem dX10_bid_104 : decode cX10_bid 104 = .ok (.ifCond .le 5, 3) := by decide +kernel
theorem dX10_bid_107 : decode cX10_bid 107 = .ok (.iconst 0, 1) := by decide +kernel
theorem dX10_bid_108 : decode cX10_bid 108 = .ok (.ireturn, 1) := by decide +kernel
theorem dX10_bid_109 : decode cX10_bid 109 = .ok (.aload_n 0, 1) := by decide +kernel
theorem dX10_bid_110 : decode cX10_bid 110 = .ok (.getfield 22, 3) := by decide +kernel
theorem dX10_bid_113 : decode cX10_bid 113 = .ok (.aload_n 0, 1) := by decide +kernel
theorem dX10_bid_114 : decode cX10_bid 114 = .ok (.getfield 201, 3) := by decide +kernel
theorem dX10_bid_117 : decode cX10_bid 117 = .ok (.iload_n 1, 1) := by decide +kernel
theorem dX10_bid_118 : decode cX10_bid 118 = .ok (.iastore, 1) := by decide +kernel
theorem dX10_bid_119 : decode cX10_bid 119 = .ok (.aload_n 0, 1) := by decide +kernel
theorem dX10_bid_120 : decode cX10_bid 120 = .ok (.getfield 25, 3) := by decide +kernel
theorem dX10_bid_123 : decode cX10_bid 123 = .ok (.aload_n 0, 1) := by decide +kernel
theorem dX10_bid_124 : decode cX10_bid 124 = .ok (.getfield 201, 3) := by decide +kernel
theorem dX10_bid_127 : decode cX10_bid 127 = .ok (.iload_n 2, 1) := by decide +kernel
theorem dX10_bid_128 : decode cX10_bid 128 = .ok (.iastore, 1) := by decide +kernel
theorem dX10_bid_129 : decode cX10_bid 129 = .ok (.aload_n 0, 1) := by decide +kernel
theorem dX10_bid_130 : decode cX10_bid 130 = .ok (.getfield 28, 3) := by decide +kernel
theorem dX10_bid_133 : decode cX10_bid 133 = .ok (.aload_n 0, 1) := by decide +kernel
theorem dX10_bid_134 : decode cX10_bid 134 = .ok (.getfield 201, 3) := by decide +kernel
theorem dX10_bid_137 : decode cX10_bid 137 = .ok (.iload_n 3, 1) := by decide +kernel
theorem dX10_bid_138 : decode cX10_bid 138 = .ok (.iastore, 1) := by decide +kernel
theorem dX10_bid_139 : decode cX10_bid 139 = .ok (.aload_n 0, 1) := by decide +kernel
theorem dX10_bid_140 : decode cX10_bid 140 = .ok (.getfield 31, 3) := by decide +kernel
theorem dX10_bid_143 : decode cX10_bid 143 = .ok (.aload_n 0, 1) := by decide +kernel
theorem dX10_bid_144 : decode cX10_bid 144 = .ok (.getfield 201, 3) := by decide +kernel
theorem dX10_bid_147 : decode cX10_bid 147 = .ok (.iload 4, 2) := by decide +kernel
theorem dX10_bid_149 : decode cX10_bid 149 = .ok (.ifCond .eq 7, 3) := by decide +kernel
theorem dX10_bid_152 : decode cX10_bid 152 = .ok (.iconst 1, 1) := by decide +kernel
theorem dX10_bid_153 : decode cX10_bid 153 = .ok (.goto 4, 3) := by decide +kernel
theorem dX10_bid_156 : decode cX10_bid 156 = .ok (.iconst 0, 1) := by decide +kernel
theorem dX10_bid_157 : decode cX10_bid 157 = .ok (.iastore, 1) := by decide +kernel
theorem dX10_bid_158 : decode cX10_bid 158 = .ok (.aload_n 0, 1) := by decide +kernel
theorem dX10_bid_159 : decode cX10_bid 159 = .ok (.getfield 34, 3) := by decide +kernel
theorem dX10_bid_162 : decode cX10_bid 162 = .ok (.aload_n 0, 1) := by decide +kernel
theorem dX10_bid_163 : decode cX10_bid 163 = .ok (.getfield 201, 3) := by decide +kernel
theorem dX10_bid_166 : decode cX10_bid 166 = .ok (.iload 5, 2) := by decide +kernel
theorem dX10_bid_168 : decode cX10_bid 168 = .ok (.iastore, 1) := by decide +kernel
theorem dX10_bid_169 : decode cX10_bid 169 = .ok (.aload_n 0, 1) := by decide +kernel
theorem dX10_bid_170 : decode cX10_bid 170 = .ok (.getfield 37, 3) := by decide +kernel
theorem dX10_bid_173 : decode cX10_bid 173 = .ok (.aload_n 0, 1) := by decide +kernel
theorem dX10_bid_174 : decode cX10_bid 174 = .ok (.getfield 201, 3) := by decide +kernel
theorem dX10_bid_177 : decode cX10_bid 177 = .ok (.iload 6, 2) := by decide +kernel
theorem dX10_bid_179 : decode cX10_bid 179 = .ok (.iastore, 1) := by decide +kernel
theorem dX10_bid_180 : decode cX10_bid 180 = .ok (.aload_n 0, 1) := by decide +kernel
theorem dX10_bid_181 : decode cX10_bid 181 = .ok (.dup, 1) := by decide +kernel
theorem dX10_bid_182 : decode cX10_bid 182 = .ok (.getfield 201, 3) := by decide +kernel
theorem dX10_bid_185 : decode cX10_bid 185 = .ok (.iconst 1, 1) := by decide +kernel
theorem dX10_bid_186 : decode cX10_bid 186 = .ok (.iadd, 1) := by decide +kernel
theorem dX10_bid_187 : decode cX10_bid 187 = .ok (.putfield 201, 3) := by decide +kernel
theorem dX10_bid_190 : decode cX10_bid 190 = .ok (.aload_n 0, 1) := by decide +kernel
theorem dX10_bid_191 : decode cX10_bid 191 = .ok (.getfield 201, 3) := by decide +kernel
theorem dX10_bid_194 : decode cX10_bid 194 = .ok (.iconst 1, 1) := by decide +kernel
theorem dX10_bid_195 : decode cX10_bid 195 = .ok (.isub, 1) := by decide +kernel
theorem dX10_bid_196 : decode cX10_bid 196 = .ok (.ireturn, 1) := by decide +kernel
set_option maxRecDepth 20000 in
theorem ggX10_block_X10_isFirm : GoodIn wsX10_block wsX10_isFirm := goodIn_r _ [16, 17, 18, 15, 19] (by decide +kernel) (by decide +kernel)
set_option maxRecDepth 20000 in
theorem gX10_block_X10_isFirm : GoodIn wsX10_block (va_wsS RX10 186 yX10_isFirm wsX10_isFirm) := goodIn_app (goodIn_of _ (by decide +kernel)) ggX10_block_X10_isFirm
set_option maxRecDepth 20000 in
theorem ggX10_block_X10_isZone : GoodIn wsX10_block wsX10_isZone := goodIn_r _ [22, 17, 18, 15, 19] (by decide +kernel) (by decide +kernel)
set_option maxRecDepth 20000 in
theorem gX10_block_X10_isZone : GoodIn wsX10_block (va_wsS RX10 195 yX10_isZone wsX10_isZone) := goodIn_app (goodIn_of _ (by decide +kernel)) ggX10_block_X10_isZone
set_option maxRecDepth 20000 in
theorem ggX10_block_X10_in : GoodIn wsX10_block wsX10_in := goodIn_r _ [19] (by decide +kernel) (by decide +kernel)
set_option maxRecDepth 20000 in
theorem gX10_block_X10_in : GoodIn wsX10_block (va_wsS RX10 179 yX10_in wsX10_in) := goodIn_app (goodIn_of _ (by decide +kernel)) ggX10_block_X10_in
theorem dX10_block_0 : decode cX10_block 0 = .ok (.aload_n 0, 1) := by decide +kernel
theorem dX10_block_1 : decode cX10_block 1 = .ok (.iload_n 1, 1) := by decide +kernel
theorem dX10_block_2 : decode cX10_block 2 = .ok (.invokestatic 186, 3) := by decide +kernel
theorem dX10_block_5 : decode cX10_block 5 = .ok (.ifCond .eq 10, 3) := by decide +kernel
theorem dX10_block_8 : decode cX10_block 8 = .ok (.iload_n 2, 1) := by decide +kernel
theorem dX10_block_9 : decode cX10_block 9 = .ok (.invokestatic 195, 3) := by decide +kernel
theorem dX10_block_12 : decode cX10_block 12 = .ok (.ifCond .ne 7, 3) := by decide +kernel
theorem dX10_block_15 : decode cX10_block 15 = .ok (.iconst 1, 1) := by decide +kernel
theorem dX10_block_16 : decode cX10_block 16 = .ok (.goto 41, 3) := by decide +kernel
theorem dX10_block_19 : decode cX10_block 19 = .ok (.iload_n 3, 1) := by decide +kernel
theorem dX10_block_20 : decode cX10_block 20 = .ok (.iconst 1, 1) := by decide +kernel
theorem dX10_block_21 : decode cX10_block 21 = .ok (.bipush 15, 2) := by decide +kernel
theorem dX10_block_23 : decode cX10_block 23 = .ok (.invokestatic 179, 3) := by decide +kernel
theorem dX10_block_26 : decode cX10_block 26 = .ok (.ifCond .eq 26, 3) := by decide +kernel
theorem dX10_block_29 : decode cX10_block 29 = .ok (.iload 5, 2) := by decide +kernel
theorem dX10_block_31 : decode cX10_block 31 = .ok (.iconst 0, 1) := by decide +kernel
theorem dX10_block_32 : decode cX10_block 32 = .ok (.sipush 200, 3) := by decide +kernel
theorem dX10_block_35 : decode cX10_block 35 = .ok (.invokestatic 179, 3) := by decide +kernel
theorem dX10_block_38 : decode cX10_block 38 = .ok (.ifCond .eq 14, 3) := by decide +kernel
theorem dX10_block_41 : decode cX10_block 41 = .ok (.iload 6, 2) := by decide +kernel
theorem dX10_block_43 : decode cX10_block 43 = .ok (.iconst 1, 1) := by decide +kernel
theorem dX10_block_44 : decode cX10_block 44 = .ok (.bipush 10, 2) := by decide +kernel
theorem dX10_block_46 : decode cX10_block 46 = .ok (.invokestatic 179, 3) := by decide +kernel
theorem dX10_block_49 : decode cX10_block 49 = .ok (.ifCond .ne 7, 3) := by decide +kernel
theorem dX10_block_52 : decode cX10_block 52 = .ok (.iconst 2, 1) := by decide +kernel
theorem dX10_block_53 : decode cX10_block 53 = .ok (.goto 4, 3) := by decide +kernel
theorem dX10_block_56 : decode cX10_block 56 = .ok (.iconst 0, 1) := by decide +kernel
theorem dX10_block_57 : decode cX10_block 57 = .ok (.putfield 175, 3) := by decide +kernel
theorem dX10_block_60 : decode cX10_block 60 = .ok (.aload_n 0, 1) := by decide +kernel
theorem dX10_block_61 : decode cX10_block 61 = .ok (.getfield 175, 3) := by decide +kernel
theorem dX10_block_64 : decode cX10_block 64 = .ok (.ifCond .ne 38, 3) := by decide +kernel
theorem dX10_block_67 : decode cX10_block 67 = .ok (.aload_n 0, 1) := by decide +kernel
theorem dX10_block_68 : decode cX10_block 68 = .ok (.aload_n 0, 1) := by decide +kernel
theorem dX10_block_69 : decode cX10_block 69 = .ok (.getfield 19, 3) := by decide +kernel
theorem dX10_block_72 : decode cX10_block 72 = .ok (.iload_n 1, 1) := by decide +kernel
theorem dX10_block_73 : decode cX10_block 73 = .ok (.iaload, 1) := by decide +kernel
theorem dX10_block_74 : decode cX10_block 74 = .ok (.iconst 1, 1) := by decide +kernel
theorem dX10_block_75 : decode cX10_block 75 = .ok (.if_icmp .eq 19, 3) := by decide +kernel
theorem dX10_block_78 : decode cX10_block 78 = .ok (.aload_n 0, 1) := by decide +kernel
theorem dX10_block_79 : decode cX10_block 79 = .ok (.getfield 192, 3) := by decide +kernel
theorem dX10_block_82 : decode cX10_block 82 = .ok (.iconst 1, 1) := by decide +kernel
theorem dX10_block_83 : decode cX10_block 83 = .ok (.if_icmp .eq 11, 3) := by decide +kernel
theorem dX10_block_86 : decode cX10_block 86 = .ok (.aload_n 0, 1) := by decide +kernel
theorem dX10_block_87 : decode cX10_block 87 = .ok (.getfield 204, 3) := by decide +kernel
theorem dX10_block_90 : decode cX10_block 90 = .ok (.iconst 5, 1) := by decide +kernel
theorem dX10_block_91 : decode cX10_block 91 = .ok (.if_icmp .ne 7, 3) := by decide +kernel
theorem dX10_block_94 : decode cX10_block 94 = .ok (.iconst 3, 1) := by decide +kernel
theorem dX10_block_95 : decode cX10_block 95 = .ok (.goto 4, 3) := by decide +kernel
theorem dX10_block_98 : decode cX10_block 98 = .ok (.iconst 0, 1) := by decide +kernel
theorem dX10_block_99 : decode cX10_block 99 = .ok (.putfield 175, 3) := by decide +kernel
theorem dX10_block_102 : decode cX10_block 102 = .ok (.aload_n 0, 1) := by decide +kernel
theorem dX10_block_103 : decode cX10_block 103 = .ok (.getfield 175, 3) := by decide +kernel
theorem dX10_block_106 : decode cX10_block 106 = .ok (.ifCond .le 5, 3) := by decide +kernel
theorem dX10_block_109 : decode cX10_block 109 = .ok (.iconst 0, 1) := by decide +kernel
theorem dX10_block_110 : decode cX10_block 110 = .ok (.ireturn, 1) := by decide +kernel
theorem dX10_block_111 : decode cX10_block 111 = .ok (.aload_n 0, 1) := by decide +kernel
theorem dX10_block_112 : decode cX10_block 112 = .ok (.getfield 46, 3) := by decide +kernel
theorem dX10_block_115 : decode cX10_block 115 = .ok (.aload_n 0, 1) := by decide +kernel
theorem dX10_block_116 : decode cX10_block 116 = .ok (.getfield 204, 3) := by decide +kernel
theorem dX10_block_119 : decode cX10_block 119 = .ok (.iload_n 1, 1) := by decide +kernel
theorem dX10_block_120 : decode cX10_block 120 = .ok (.iastore, 1) := by decide +kernel
theorem dX10_block_121 : decode cX10_block 121 = .ok (.aload_n 0, 1) := by decide +kernel
theorem dX10_block_122 : decode cX10_block 122 = .ok (.getfield 49, 3) := by decide +kernel
theorem dX10_block_125 : decode cX10_block 125 = .ok (.aload_n 0, 1) := by decide +kernel
theorem dX10_block_126 : decode cX10_block 126 = .ok (.getfield 204, 3) := by decide +kernel
theorem dX10_block_129 : decode cX10_block 129 = .ok (.iload_n 2, 1) := by decide +kernel
theorem dX10_block_130 : decode cX10_block 130 = .ok (.iastore, 1) := by decide +kernel
theorem dX10_block_131 : decode cX10_block 131 = .ok (.aload_n 0, 1) := by decide +kernel
theorem dX10_block_132 : decode cX10_block 132 = .ok (.getfield 52, 3) := by decide +kernel
theorem dX10_block_135 : decode cX10_block 135 = .ok (.aload_n 0, 1) := by decide +kernel
theorem dX10_block_136 : decode cX10_block 136 = .ok (.getfield 204, 3) := by decide +kernel
theorem dX10_block_139 : decode cX10_block 139 = .ok (.iload_n 3, 1) := by decide +kernel
theorem dX10_block_140 : decode cX10_block 140 = .ok (.iastore, 1) := by decide +kernel
theorem dX10_block_141 : decode cX10_block 141 = .ok (.aload_n 0, 1) := by decide +kernel
theorem dX10_block_142 : decode cX10_block 142 = .ok (.getfield 55, 3) := by decide +kernel
theorem dX10_block_145 : decode cX10_block 145 = .ok (.aload_n 0, 1) := by decide +kernel
theorem dX10_block_146 : decode cX10_block 146 = .ok (.getfield 204, 3) := by decide +kernel
theorem dX10_block_149 : decode cX10_block 149 = .ok (.iload 4, 2) := by decide +kernel
theorem dX10_block_151 : decode cX10_block 151 = .ok (.ifCond .eq 7, 3) := by decide +kernel
theorem dX10_block_154 : decode cX10_block 154 = .ok (.iconst 1, 1) := by decide +kernel
theorem dX10_block_155 : decode cX10_block 155 = .ok (.goto 4, 3) := by decide +kernel
theorem dX10_block_158 : decode cX10_block 158 = .ok (.iconst 0, 1) := by decide +kernel
theorem dX10_block_159 : decode cX10_block 159 = .ok (.iastore, 1) := by decide +kernel
theorem dX10_block_160 : decode cX10_block 160 = .ok (.aload_n 0, 1) := by decide +kernel
theorem dX10_block_161 : decode cX10_block 161 = .ok (.getfield 58, 3) := by decide +kernel
theorem dX10_block_164 : decode cX10_block 164 = .ok (.aload_n 0, 1) := by decide +kernel
theorem dX10_block_165 : decode cX10_block 165 = .ok (.getfield 204, 3) := by decide +kernel
theorem dX10_block_168 : decode cX10_block 168 = .ok (.iload 5, 2) := by decide +kernel
theorem dX10_block_170 : decode cX10_block 170 = .ok (.iastore, 1) := by decide +kernel
theorem dX10_block_171 : decode cX10_block 171 = .ok (.aload_n 0, 1) := by decide +kernel
theorem dX10_block_172 : decode cX10_block 172 = .ok (.getfield 61, 3) := by decide +kernel
theorem dX10_block_175 : decode cX10_block 175 = .ok (.aload_n 0, 1) := by decide +kernel
theorem dX10_block_176 : decode cX10_block 176 = .ok (.getfield 204, 3) := by decide +kernel
theorem dX10_block_179 : decode cX10_block 179 = .ok (.iload 6, 2) := by decide +kernel
theorem dX10_block_181 : decode cX10_block 181 = .ok (.iastore, 1) := by decide +kernel
theorem dX10_block_182 : decode cX10_block 182 = .ok (.aload_n 0, 1) := by decide +kernel
theorem dX10_block_183 : decode cX10_block 183 = .ok (.getfield 64, 3) := by decide +kernel
theorem dX10_block_186 : decode cX10_block 186 = .ok (.aload_n 0, 1) := by decide +kernel
theorem dX10_block_187 : decode cX10_block 187 = .ok (.getfield 204, 3) := by decide +kernel
theorem dX10_block_190 : decode cX10_block 190 = .ok (.iconst 0, 1) := by decide +kernel
theorem dX10_block_191 : decode cX10_block 191 = .ok (.iastore, 1) := by decide +kernel
theorem dX10_block_192 : decode cX10_block 192 = .ok (.aload_n 0, 1) := by decide +kernel
theorem dX10_block_193 : decode cX10_block 193 = .ok (.getfield 67, 3) := by decide +kernel
theorem dX10_block_196 : decode cX10_block 196 = .ok (.aload_n 0, 1) := by decide +kernel
theorem dX10_block_197 : decode cX10_block 197 = .ok (.getfield 204, 3) := by decide +kernel
theorem dX10_block_200 : decode cX10_block 200 = .ok (.iconst 0, 1) := by decide +kernel
theorem dX10_block_201 : decode cX10_block 201 = .ok (.iastore, 1) := by decide +kernel
theorem dX10_block_202 : decode cX10_block 202 = .ok (.aload_n 0, 1) := by decide +kernel
theorem dX10_block_203 : decode cX10_block 203 = .ok (.dup, 1) := by decide +kernel
theorem dX10_block_204 : decode cX10_block 204 = .ok (.getfield 204, 3) := by decide +kernel
theorem dX10_block_207 : decode cX10_block 207 = .ok (.iconst 1, 1) := by decide +kernel
theorem dX10_block_208 : decode cX10_block 208 = .ok (.iadd, 1) := by decide +kernel
theorem dX10_block_209 : decode cX10_block 209 = .ok (.putfield 204, 3) := by decide +kernel
theorem dX10_block_212 : decode cX10_block 212 = .ok (.aload_n 0, 1) := by decide +kernel
theorem dX10_block_213 : decode cX10_block 213 = .ok (.getfield 204, 3) := by decide +kernel
theorem dX10_block_216 : decode cX10_block 216 = .ok (.iconst 1, 1) := by decide +kernel
theorem dX10_block_217 : decode cX10_block 217 = .ok (.isub, 1) := by decide +kernel
theorem dX10_block_218 : decode cX10_block 218 = .ok (.ireturn, 1) := by decide +kernel
set_option maxRecDepth 20000 in
theorem ggX10_link_X10_in : GoodIn wsX10_link wsX10_in := goodIn_r _ [9] (by decide +kernel) (by decide +kernel)
set_option maxRecDepth 20000 in
theorem gX10_link_X10_in : GoodIn wsX10_link (va_wsS RX10 179 yX10_in wsX10_in) := goodIn_app (goodIn_of _ (by decide +kernel)) ggX10_link_X10_in
theorem dX10_link_0 : decode cX10_link 0 = .ok (.aload_n 0, 1) := by decide +kernel
theorem dX10_link_1 : decode cX10_link 1 = .ok (.iload_n 1, 1) := by decide +kernel
theorem dX10_link_2 : decode cX10_link 2 = .ok (.iconst 0, 1) := by decide +kernel
theorem dX10_link_3 : decode cX10_link 3 = .ok (.aload_n 0, 1) := by decide +kernel
theorem dX10_link_4 : decode cX10_link 4 = .ok (.getfield 204, 3) := by decide +kernel
theorem dX10_link_7 : decode cX10_link 7 = .ok (.iconst 1, 1) := by decide +kernel
theorem dX10_link_8 : decode cX10_link 8 = .ok (.isub, 1) := by decide +kernel
theorem dX10_link_9 : decode cX10_link 9 = .ok (.invokestatic 179, 3) := by decide +kernel
theorem dX10_link_12 : decode cX10_link 12 = .ok (.ifCond .ne 7, 3) := by decide +kernel
theorem dX10_link_15 : decode cX10_link 15 = .ok (.iconst 1, 1) := by decide +kernel
theorem dX10_link_16 : decode cX10_link 16 = .ok (.goto 40, 3) := by decide +kernel
theorem dX10_link_19 : decode cX10_link 19 = .ok (.iload_n 2, 1) := by decide +kernel
theorem dX10_link_20 : decode cX10_link 20 = .ok (.iconst (-1), 1) := by decide +kernel
theorem dX10_link_21 : decode cX10_link 21 = .ok (.iload_n 1, 1) := by decide +kernel
theorem dX10_link_22 : decode cX10_link 22 = .ok (.iconst 1, 1) := by decide +kernel
theorem dX10_link_23 : decode cX10_link 23 = .ok (.isub, 1) := by decide +kernel
theorem dX10_link_24 : decode cX10_link 24 = .ok (.invokestatic 179, 3) := by decide +kernel
theorem dX10_link_27 : decode cX10_link 27 = .ok (.ifCond .eq 12, 3) := by decide +kernel
theorem dX10_link_30 : decode cX10_link 30 = .ok (.iload_n 3, 1) := by decide +kernel
theorem dX10_link_31 : decode cX10_link 31 = .ok (.iconst (-1), 1) := by decide +kernel
theorem dX10_link_32 : decode cX10_link 32 = .ok (.iconst 2, 1) := by decide +kernel
theorem dX10_link_33 : decode cX10_link 33 = .ok (.invokestatic 179, 3) := by decide +kernel
theorem dX10_link_36 : decode cX10_link 36 = .ok (.ifCond .ne 7, 3) := by decide +kernel
theorem dX10_link_39 : decode cX10_link 39 = .ok (.iconst 2, 1) := by decide +kernel
theorem dX10_link_40 : decode cX10_link 40 = .ok (.goto 16, 3) := by decide +kernel
theorem dX10_link_43 : decode cX10_link 43 = .ok (.aload_n 0, 1) := by decide +kernel
theorem dX10_link_44 : decode cX10_link 44 = .ok (.getfield 192, 3) := by decide +kernel
theorem dX10_link_47 : decode cX10_link 47 = .ok (.iconst 1, 1) := by decide +kernel
theorem dX10_link_48 : decode cX10_link 48 = .ok (.if_icmp .ne 7, 3) := by decide +kernel
theorem dX10_link_51 : decode cX10_link 51 = .ok (.iconst 3, 1) := by decide +kernel
theorem dX10_link_52 : decode cX10_link 52 = .ok (.goto 4, 3) := by decide +kernel
theorem dX10_link_55 : decode cX10_link 55 = .ok (.iconst 0, 1) := by decide +kernel
theorem dX10_link_56 : decode cX10_link 56 = .ok (.putfield 175, 3) := by decide +kernel
theorem dX10_link_59 : decode cX10_link 59 = .ok (.aload_n 0, 1) := by decide +kernel
theorem dX10_link_60 : decode cX10_link 60 = .ok (.getfield 175, 3) := by decide +kernel
theorem dX10_link_63 : decode cX10_link 63 = .ok (.ifCond .ne 21, 3) := by decide +kernel
theorem dX10_link_66 : decode cX10_link 66 = .ok (.aload_n 0, 1) := by decide +kernel
theorem dX10_link_67 : decode cX10_link 67 = .ok (.getfield 64, 3) := by decide +kernel
theorem dX10_link_70 : decode cX10_link 70 = .ok (.iload_n 1, 1) := by decide +kernel
theorem dX10_link_71 : decode cX10_link 71 = .ok (.iload_n 2, 1) := by decide +kernel
theorem dX10_link_72 : decode cX10_link 72 = .ok (.iconst 1, 1) := by decide +kernel
theorem dX10_link_73 : decode cX10_link 73 = .ok (.iadd, 1) := by decide +kernel
theorem dX10_link_74 : decode cX10_link 74 = .ok (.iastore, 1) := by decide +kernel
theorem dX10_link_75 : decode cX10_link 75 = .ok (.aload_n 0, 1) := by decide +kernel
theorem dX10_link_76 : decode cX10_link 76 = .ok (.getfield 67, 3) := by decide +kernel
theorem dX10_link_79 : decode cX10_link 79 = .ok (.iload_n 1, 1) := by decide +kernel
theorem dX10_link_80 : decode cX10_link 80 = .ok (.iload_n 3, 1) := by decide +kernel
theorem dX10_link_81 : decode cX10_link 81 = .ok (.iconst 1, 1) := by decide +kernel
theorem dX10_link_82 : decode cX10_link 82 = .ok (.iadd, 1) := by decide +kernel
theorem dX10_link_83 : decode cX10_link 83 = .ok (.iastore, 1) := by decide +kernel
theorem dX10_link_84 : decode cX10_link 84 = .ok (.return_, 1) := by decide +kernel
set_option maxRecDepth 20000 in
theorem ggX10_ask_X10_isFirm : GoodIn wsX10_ask wsX10_isFirm := goodIn_r _ [13, 14, 15, 12, 16] (by decide +kernel) (by decide +kernel)
set_option maxRecDepth 20000 in
theorem gX10_ask_X10_isFirm : GoodIn wsX10_ask (va_wsS RX10 186 yX10_isFirm wsX10_isFirm) := goodIn_app (goodIn_of _ (by decide +kernel)) ggX10_ask_X10_isFirm
set_option maxRecDepth 20000 in
theorem ggX10_ask_X10_isZone : GoodIn wsX10_ask wsX10_isZone := goodIn_r _ [19, 14, 15, 12, 16] (by decide +kernel) (by decide +kernel)
set_option maxRecDepth 20000 in
theorem gX10_ask_X10_isZone : GoodIn wsX10_ask (va_wsS RX10 195 yX10_isZone wsX10_isZone) := goodIn_app (goodIn_of _ (by decide +kernel)) ggX10_ask_X10_isZone
set_option maxRecDepth 20000 in
theorem ggX10_ask_X10_in : GoodIn wsX10_ask wsX10_in := goodIn_r _ [16] (by decide +kernel) (by decide +kernel)
set_option maxRecDepth 20000 in
theorem gX10_ask_X10_in : GoodIn wsX10_ask (va_wsS RX10 179 yX10_in wsX10_in) := goodIn_app (goodIn_of _ (by decide +kernel)) ggX10_ask_X10_in
theorem dX10_ask_0 : decode cX10_ask 0 = .ok (.aload_n 0, 1) := by decide +kernel
theorem dX10_ask_1 : decode cX10_ask 1 = .ok (.iload_n 1, 1) := by decide +kernel
theorem dX10_ask_2 : decode cX10_ask 2 = .ok (.invokestatic 186, 3) := by decide +kernel
theorem dX10_ask_5 : decode cX10_ask 5 = .ok (.ifCond .eq 17, 3) := by decide +kernel
theorem dX10_ask_8 : decode cX10_ask 8 = .ok (.iload_n 2, 1) := by decide +kernel
theorem dX10_ask_9 : decode cX10_ask 9 = .ok (.invokestatic 195, 3) := by decide +kernel
theorem dX10_ask_12 : decode cX10_ask 12 = .ok (.ifCond .eq 10, 3) := by decide +kernel
theorem dX10_ask_15 : decode cX10_ask 15 = .ok (.iload_n 3, 1) := by decide +kernel
theorem dX10_ask_16 : decode cX10_ask 16 = .ok (.invokestatic 195, 3) := by decide +kernel
theorem dX10_ask_19 : decode cX10_ask 19 = .ok (.ifCond .ne 7, 3) := by decide +kernel
theorem dX10_ask_22 : decode cX10_ask 22 = .ok (.iconst 1, 1) := by decide +kernel
theorem dX10_ask_23 : decode cX10_ask 23 = .ok (.goto 36, 3) := by decide +kernel
theorem dX10_ask_26 : decode cX10_ask 26 = .ok (.iload_n 2, 1) := by decide +kernel
theorem dX10_ask_27 : decode cX10_ask 27 = .ok (.iload_n 3, 1) := by decide +kernel
theorem dX10_ask_28 : decode cX10_ask 28 = .ok (.if_icmp .eq 26, 3) := by decide +kernel
theorem dX10_ask_31 : decode cX10_ask 31 = .ok (.iload 4, 2) := by decide +kernel
theorem dX10_ask_33 : decode cX10_ask 33 = .ok (.iconst 1, 1) := by decide +kernel
theorem dX10_ask_34 : decode cX10_ask 34 = .ok (.bipush 10, 2) := by decide +kernel
theorem dX10_ask_36 : decode cX10_ask 36 = .ok (.invokestatic 179, 3) := by decide +kernel
theorem dX10_ask_39 : decode cX10_ask 39 = .ok (.ifCond .eq 15, 3) := by decide +kernel
theorem dX10_ask_42 : decode cX10_ask 42 = .ok (.iload 5, 2) := by decide +kernel
theorem dX10_ask_44 : decode cX10_ask 44 = .ok (.iconst 0, 1) := by decide +kernel
theorem dX10_ask_45 : decode cX10_ask 45 = .ok (.sipush 500, 3) := by decide +kernel
theorem dX10_ask_48 : decode cX10_ask 48 = .ok (.invokestatic 179, 3) := by decide +kernel
theorem dX10_ask_51 : decode cX10_ask 51 = .ok (.ifCond .ne 7, 3) := by decide +kernel
theorem dX10_ask_54 : decode cX10_ask 54 = .ok (.iconst 2, 1) := by decide +kernel
theorem dX10_ask_55 : decode cX10_ask 55 = .ok (.goto 4, 3) := by decide +kernel
theorem dX10_ask_58 : decode cX10_ask 58 = .ok (.iconst 0, 1) := by decide +kernel
theorem dX10_ask_59 : decode cX10_ask 59 = .ok (.putfield 175, 3) := by decide +kernel
theorem dX10_ask_62 : decode cX10_ask 62 = .ok (.aload_n 0, 1) := by decide +kernel
theorem dX10_ask_63 : decode cX10_ask 63 = .ok (.getfield 175, 3) := by decide +kernel
theorem dX10_ask_66 : decode cX10_ask 66 = .ok (.ifCond .ne 39, 3) := by decide +kernel
theorem dX10_ask_69 : decode cX10_ask 69 = .ok (.aload_n 0, 1) := by decide +kernel
theorem dX10_ask_70 : decode cX10_ask 70 = .ok (.aload_n 0, 1) := by decide +kernel
theorem dX10_ask_71 : decode cX10_ask 71 = .ok (.getfield 19, 3) := by decide +kernel
theorem dX10_ask_74 : decode cX10_ask 74 = .ok (.iload_n 1, 1) := by decide +kernel
theorem dX10_ask_75 : decode cX10_ask 75 = .ok (.iaload, 1) := by decide +kernel
theorem dX10_ask_76 : decode cX10_ask 76 = .ok (.iconst 1, 1) := by decide +kernel
theorem dX10_ask_77 : decode cX10_ask 77 = .ok (.if_icmp .eq 20, 3) := by decide +kernel
theorem dX10_ask_80 : decode cX10_ask 80 = .ok (.aload_n 0, 1) := by decide +kernel
theorem dX10_ask_81 : decode cX10_ask 81 = .ok (.getfield 192, 3) := by decide +kernel
theorem dX10_ask_84 : decode cX10_ask 84 = .ok (.iconst 1, 1) := by decide +kernel
theorem dX10_ask_85 : decode cX10_ask 85 = .ok (.if_icmp .eq 12, 3) := by decide +kernel
theorem dX10_ask_88 : decode cX10_ask 88 = .ok (.aload_n 0, 1) := by decide +kernel
theorem dX10_ask_89 : decode cX10_ask 89 = .ok (.getfield 207, 3) := by decide +kernel
theorem dX10_ask_92 : decode cX10_ask 92 = .ok (.bipush 20, 2) := by decide +kernel
theorem dX10_ask_94 : decode cX10_ask 94 = .ok (.if_icmp .ne 7, 3) := by decide +kernel
theorem dX10_ask_97 : decode cX10_ask 97 = .ok (.iconst 3, 1) := by decide +kernel
theorem dX10_ask_98 : decode cX10_ask 98 = .ok (.goto 4, 3) := by decide +kernel
theorem dX10_ask_101 : decode cX10_ask 101 = .ok (.iconst 0, 1) := by decide +kernel
theorem dX10_ask_102 : decode cX10_ask 102 = .ok (.putfield 175, 3) := by decide +kernel
theorem dX10_ask_105 : decode cX10_ask 105 = .ok (.aload_n 0, 1) := by decide +kernel
theorem dX10_ask_106 : decode cX10_ask 106 = .ok (.getfield 175, 3) := by decide +kernel
theorem dX10_ask_109 : decode cX10_ask 109 = .ok (.ifCond .le 5, 3) := by decide +kernel
theorem dX10_ask_112 : decode cX10_ask 112 = .ok (.iconst 0, 1) := by decide +kernel
theorem dX10_ask_113 : decode cX10_ask 113 = .ok (.ireturn, 1) := by decide +kernel
theorem dX10_ask_114 : decode cX10_ask 114 = .ok (.aload_n 0, 1) := by decide +kernel
theorem dX10_ask_115 : decode cX10_ask 115 = .ok (.getfield 70, 3) := by decide +kernel
theorem dX10_ask_118 : decode cX10_ask 118 = .ok (.aload_n 0, 1) := by decide +kernel
theorem dX10_ask_119 : decode cX10_ask 119 = .ok (.getfield 207, 3) := by decide +kernel
theorem dX10_ask_122 : decode cX10_ask 122 = .ok (.iload_n 1, 1) := by decide +kernel
theorem dX10_ask_123 : decode cX10_ask 123 = .ok (.iastore, 1) := by decide +kernel
theorem dX10_ask_124 : decode cX10_ask 124 = .ok (.aload_n 0, 1) := by decide +kernel
theorem dX10_ask_125 : decode cX10_ask 125 = .ok (.getfield 73, 3) := by decide +kernel
theorem dX10_ask_128 : decode cX10_ask 128 = .ok (.aload_n 0, 1) := by decide +kernel
theorem dX10_ask_129 : decode cX10_ask 129 = .ok (.getfield 207, 3) := by decide +kernel
theorem dX10_ask_132 : decode cX10_ask 132 = .ok (.iload_n 2, 1) := by decide +kernel
theorem dX10_ask_133 : decode cX10_ask 133 = .ok (.iastore, 1) := by decide +kernel
theorem dX10_ask_134 : decode cX10_ask 134 = .ok (.aload_n 0, 1) := by decide +kernel
theorem dX10_ask_135 : decode cX10_ask 135 = .ok (.getfield 76, 3) := by decide +kernel
theorem dX10_ask_138 : decode cX10_ask 138 = .ok (.aload_n 0, 1) := by decide +kernel
theorem dX10_ask_139 : decode cX10_ask 139 = .ok (.getfield 207, 3) := by decide +kernel
theorem dX10_ask_142 : decode cX10_ask 142 = .ok (.iload_n 3, 1) := by decide +kernel
theorem dX10_ask_143 : decode cX10_ask 143 = .ok (.iastore, 1) := by decide +kernel
theorem dX10_ask_144 : decode cX10_ask 144 = .ok (.aload_n 0, 1) := by decide +kernel
theorem dX10_ask_145 : decode cX10_ask 145 = .ok (.getfield 79, 3) := by decide +kernel
theorem dX10_ask_148 : decode cX10_ask 148 = .ok (.aload_n 0, 1) := by decide +kernel
theorem dX10_ask_149 : decode cX10_ask 149 = .ok (.getfield 207, 3) := by decide +kernel
theorem dX10_ask_152 : decode cX10_ask 152 = .ok (.iload 4, 2) := by decide +kernel
theorem dX10_ask_154 : decode cX10_ask 154 = .ok (.iastore, 1) := by decide +kernel
theorem dX10_ask_155 : decode cX10_ask 155 = .ok (.aload_n 0, 1) := by decide +kernel
theorem dX10_ask_156 : decode cX10_ask 156 = .ok (.getfield 82, 3) := by decide +kernel
theorem dX10_ask_159 : decode cX10_ask 159 = .ok (.aload_n 0, 1) := by decide +kernel
theorem dX10_ask_160 : decode cX10_ask 160 = .ok (.getfield 207, 3) := by decide +kernel
theorem dX10_ask_163 : decode cX10_ask 163 = .ok (.iload 5, 2) := by decide +kernel
theorem dX10_ask_165 : decode cX10_ask 165 = .ok (.iastore, 1) := by decide +kernel
theorem dX10_ask_166 : decode cX10_ask 166 = .ok (.aload_n 0, 1) := by decide +kernel
theorem dX10_ask_167 : decode cX10_ask 167 = .ok (.dup, 1) := by decide +kernel
theorem dX10_ask_168 : decode cX10_ask 168 = .ok (.getfield 207, 3) := by decide +kernel
theorem dX10_ask_171 : decode cX10_ask 171 = .ok (.iconst 1, 1) := by decide +kernel
theorem dX10_ask_172 : decode cX10_ask 172 = .ok (.iadd, 1) := by decide +kernel
theorem dX10_ask_173 : decode cX10_ask 173 = .ok (.putfield 207, 3) := by decide +kernel
theorem dX10_ask_176 : decode cX10_ask 176 = .ok (.aload_n 0, 1) := by decide +kernel
theorem dX10_ask_177 : decode cX10_ask 177 = .ok (.getfield 207, 3) := by decide +kernel
theorem dX10_ask_180 : decode cX10_ask 180 = .ok (.iconst 1, 1) := by decide +kernel
theorem dX10_ask_181 : decode cX10_ask 181 = .ok (.isub, 1) := by decide +kernel
theorem dX10_ask_182 : decode cX10_ask 182 = .ok (.ireturn, 1) := by decide +kernel
theorem dX10_nextBid_0 : decode cX10_nextBid 0 = .ok (.iconst (-1), 1) := by decide +kernel
theorem dX10_nextBid_1 : decode cX10_nextBid 1 = .ok (.istore 4, 2) := by decide +kernel
theorem dX10_nextBid_3 : decode cX10_nextBid 3 = .ok (.iconst 0, 1) := by decide +kernel
theorem dX10_nextBid_4 : decode cX10_nextBid 4 = .ok (.istore 5, 2) := by decide +kernel
theorem dX10_nextBid_6 : decode cX10_nextBid 6 = .ok (.iload 5, 2) := by decide +kernel
theorem dX10_nextBid_8 : decode cX10_nextBid 8 = .ok (.aload_n 0, 1) := by decide +kernel
theorem dX10_nextBid_9 : decode cX10_nextBid 9 = .ok (.getfield 201, 3) := by decide +kernel
theorem dX10_nextBid_12 : decode cX10_nextBid 12 = .ok (.if_icmp .ge 133, 3) := by decide +kernel
theorem dX10_nextBid_15 : decode cX10_nextBid 15 = .ok (.aload_n 0, 1) := by decide +kernel
theorem dX10_nextBid_16 : decode cX10_nextBid 16 = .ok (.getfield 43, 3) := by decide +kernel
theorem dX10_nextBid_19 : decode cX10_nextBid 19 = .ok (.iload 5, 2) := by decide +kernel
theorem dX10_nextBid_21 : decode cX10_nextBid 21 = .ok (.iaload, 1) := by decide +kernel
theorem dX10_nextBid_22 : decode cX10_nextBid 22 = .ok (.ifCond .ne 40, 3) := by decide +kernel
theorem dX10_nextBid_25 : decode cX10_nextBid 25 = .ok (.aload_n 0, 1) := by decide +kernel
theorem dX10_nextBid_26 : decode cX10_nextBid 26 = .ok (.getfield 25, 3) := by decide +kernel
theorem dX10_nextBid_29 : decode cX10_nextBid 29 = .ok (.iload 5, 2) := by decide +kernel
theorem dX10_nextBid_31 : decode cX10_nextBid 31 = .ok (.iaload, 1) := by decide +kernel
theorem dX10_nextBid_32 : decode cX10_nextBid 32 = .ok (.iload_n 1, 1) := by decide +kernel
theorem dX10_nextBid_33 : decode cX10_nextBid 33 = .ok (.if_icmp .ne 29, 3) := by decide +kernel
theorem dX10_nextBid_36 : decode cX10_nextBid 36 = .ok (.aload_n 0, 1) := by decide +kernel
theorem dX10_nextBid_37 : decode cX10_nextBid 37 = .ok (.getfield 28, 3) := by decide +kernel
theorem dX10_nextBid_40 : decode cX10_nextBid 40 = .ok (.iload 5, 2) := by decide +kernel
theorem dX10_nextBid_42 : decode cX10_nextBid 42 = .ok (.iaload, 1) := by decide +kernel
theorem dX10_nextBid_43 : decode cX10_nextBid 43 = .ok (.iload_n 2, 1) := by decide +kernel
theorem dX10_nextBid_44 : decode cX10_nextBid 44 = .ok (.if_icmp .ne 18, 3) := by decide +kernel
theorem dX10_nextBid_47 : decode cX10_nextBid 47 = .ok (.aload_n 0, 1) := by decide +kernel
theorem dX10_nextBid_48 : decode cX10_nextBid 48 = .ok (.getfield 31, 3) := by decide +kernel
theorem dX10_nextBid_51 : decode cX10_nextBid 51 = .ok (.iload 5, 2) := by decide +kernel
theorem dX10_nextBid_53 : decode cX10_nextBid 53 = .ok (.iaload, 1) := by decide +kernel
theorem dX10_nextBid_54 : decode cX10_nextBid 54 = .ok (.iload_n 3, 1) := by decide +kernel
theorem dX10_nextBid_55 : decode cX10_nextBid 55 = .ok (.if_icmp .ne 7, 3) := by decide +kernel
theorem dX10_nextBid_58 : decode cX10_nextBid 58 = .ok (.iconst 1, 1) := by decide +kernel
theorem dX10_nextBid_59 : decode cX10_nextBid 59 = .ok (.goto 4, 3) := by decide +kernel
theorem dX10_nextBid_62 : decode cX10_nextBid 62 = .ok (.iconst 0, 1) := by decide +kernel
theorem dX10_nextBid_63 : decode cX10_nextBid 63 = .ok (.istore 6, 2) := by decide +kernel
theorem dX10_nextBid_65 : decode cX10_nextBid 65 = .ok (.iload 4, 2) := by decide +kernel
theorem dX10_nextBid_67 : decode cX10_nextBid 67 = .ok (.iconst (-1), 1) := by decide +kernel
theorem dX10_nextBid_68 : decode cX10_nextBid 68 = .ok (.if_icmp .eq 45, 3) := by decide +kernel
theorem dX10_nextBid_71 : decode cX10_nextBid 71 = .ok (.iload_n 3, 1) := by decide +kernel
theorem dX10_nextBid_72 : decode cX10_nextBid 72 = .ok (.iconst 1, 1) := by decide +kernel
theorem dX10_nextBid_73 : decode cX10_nextBid 73 = .ok (.if_icmp .ne 23, 3) := by decide +kernel
theorem dX10_nextBid_76 : decode cX10_nextBid 76 = .ok (.aload_n 0, 1) := by decide +kernel
theorem dX10_nextBid_77 : decode cX10_nextBid 77 = .ok (.getfield 34, 3) := by decide +kernel
theorem dX10_nextBid_80 : decode cX10_nextBid 80 = .ok (.iload 5, 2) := by decide +kernel
theorem dX10_nextBid_82 : decode cX10_nextBid 82 = .ok (.iaload, 1) := by decide +kernel
theorem dX10_nextBid_83 : decode cX10_nextBid 83 = .ok (.aload_n 0, 1) := by decide +kernel
theorem dX10_nextBid_84 : decode cX10_nextBid 84 = .ok (.getfield 34, 3) := by decide +kernel
theorem dX10_nextBid_87 : decode cX10_nextBid 87 = .ok (.iload 4, 2) := by decide +kernel
theorem dX10_nextBid_89 : decode cX10_nextBid 89 = .ok (.iaload, 1) := by decide +kernel
theorem dX10_nextBid_90 : decode cX10_nextBid 90 = .ok (.if_icmp .le 27, 3) := by decide +kernel
theorem dX10_nextBid_93 : decode cX10_nextBid 93 = .ok (.goto 20, 3) := by decide +kernel
theorem dX10_nextBid_96 : decode cX10_nextBid 96 = .ok (.aload_n 0, 1) := by decide +kernel
theorem dX10_nextBid_97 : decode cX10_nextBid 97 = .ok (.getfield 34, 3) := by decide +kernel
theorem dX10_nextBid_100 : decode cX10_nextBid 100 = .ok (.iload 5, 2) := by decide +kernel
theorem dX10_nextBid_102 : decode cX10_nextBid 102 = .ok (.iaload, 1) := by decide +kernel
theorem dX10_nextBid_103 : decode cX10_nextBid 103 = .ok (.aload_n 0, 1) := by decide +kernel
theorem dX10_nextBid_104 : decode cX10_nextBid 104 = .ok (.getfield 34, 3) := by decide +kernel
theorem dX10_nextBid_107 : decode cX10_nextBid 107 = .ok (.iload 4, 2) := by decide +kernel
theorem dX10_nextBid_109 : decode cX10_nextBid 109 = .ok (.iaload, 1) := by decide +kernel
theorem dX10_nextBid_110 : decode cX10_nextBid 110 = .ok (.if_icmp .ge 7, 3) := by decide +kernel
theorem dX10_nextBid_113 : decode cX10_nextBid 113 = .ok (.iconst 1, 1) := by decide +kernel
theorem dX10_nextBid_114 : decode cX10_nextBid 114 = .ok (.goto 4, 3) := by decide +kernel
theorem dX10_nextBid_117 : decode cX10_nextBid 117 = .ok (.iconst 0, 1) := by decide +kernel
theorem dX10_nextBid_118 : decode cX10_nextBid 118 = .ok (.istore 7, 2) := by decide +kernel
theorem dX10_nextBid_120 : decode cX10_nextBid 120 = .ok (.iload 6, 2) := by decide +kernel
theorem dX10_nextBid_122 : decode cX10_nextBid 122 = .ok (.ifCond .eq 13, 3) := by decide +kernel
theorem dX10_nextBid_125 : decode cX10_nextBid 125 = .ok (.iload 7, 2) := by decide +kernel
theorem dX10_nextBid_127 : decode cX10_nextBid 127 = .ok (.ifCond .eq 8, 3) := by decide +kernel
theorem dX10_nextBid_130 : decode cX10_nextBid 130 = .ok (.iload 5, 2) := by decide +kernel
theorem dX10_nextBid_132 : decode cX10_nextBid 132 = .ok (.goto 5, 3) := by decide +kernel
theorem dX10_nextBid_135 : decode cX10_nextBid 135 = .ok (.iload 4, 2) := by decide +kernel
theorem dX10_nextBid_137 : decode cX10_nextBid 137 = .ok (.istore 4, 2) := by decide +kernel
theorem dX10_nextBid_139 : decode cX10_nextBid 139 = .ok (.iinc 5 1, 3) := by decide +kernel
theorem dX10_nextBid_142 : decode cX10_nextBid 142 = .ok (.goto (-136), 3) := by decide +kernel
theorem dX10_nextBid_145 : decode cX10_nextBid 145 = .ok (.iload 4, 2) := by decide +kernel
theorem dX10_nextBid_147 : decode cX10_nextBid 147 = .ok (.ireturn, 1) := by decide +kernel
theorem dX10_forgets_0 : decode cX10_forgets 0 = .ok (.iconst 0, 1) := by decide +kernel
theorem dX10_forgets_1 : decode cX10_forgets 1 = .ok (.istore_n 1, 1) := by decide +kernel
theorem dX10_forgets_2 : decode cX10_forgets 2 = .ok (.iload_n 1, 1) := by decide +kernel
theorem dX10_forgets_3 : decode cX10_forgets 3 = .ok (.bipush 40, 2) := by decide +kernel
theorem dX10_forgets_5 : decode cX10_forgets 5 = .ok (.if_icmp .ge 16, 3) := by decide +kernel
theorem dX10_forgets_8 : decode cX10_forgets 8 = .ok (.aload_n 0, 1) := by decide +kernel
theorem dX10_forgets_9 : decode cX10_forgets 9 = .ok (.getfield 43, 3) := by decide +kernel
theorem dX10_forgets_12 : decode cX10_forgets 12 = .ok (.iload_n 1, 1) := by decide +kernel
theorem dX10_forgets_13 : decode cX10_forgets 13 = .ok (.iconst 0, 1) := by decide +kernel
theorem dX10_forgets_14 : decode cX10_forgets 14 = .ok (.iastore, 1) := by decide +kernel
theorem dX10_forgets_15 : decode cX10_forgets 15 = .ok (.iinc 1 1, 3) := by decide +kernel
theorem dX10_forgets_18 : decode cX10_forgets 18 = .ok (.goto (-16), 3) := by decide +kernel
theorem dX10_forgets_21 : decode cX10_forgets 21 = .ok (.return_, 1) := by decide +kernel
set_option maxRecDepth 20000 in
theorem ggX10_sums_X10_nextBid : GoodIn wsX10_sums wsX10_nextBid := goodIn_r _ [10, 11, 1, 12, 13, 14, 4, 15, 16, 17, 18, 19, 20, 21, 22, 23, 24, 25, 26, 27, 28, 29, 30, 31, 32, 33, 34, 35, 36, 37, 38, 39, 40, 41, 42, 43, 44, 45, 46, 47, 48, 49, 50, 51, 52, 53, 54, 55, 56, 57, 58, 59, 60, 61, 62, 63, 64, 65, 66, 67, 68, 69, 70, 71, 72, 73, 74, 75, 76, 77, 78, 79, 80, 81, 82] (by decide +kernel) (by decide +kernel)
set_option maxRecDepth 20000 in
theorem gX10_sums_X10_nextBid : GoodIn wsX10_sums (wsV RX10 210 RX10 yX10_nextBid wsX10_nextBid) := goodIn_app (goodIn_of _ (by decide +kernel)) ggX10_sums_X10_nextBid
theorem dX10_sums_0 : decode cX10_sums 0 = .ok (.iconst 0, 1) := by decide +kernel
theorem dX10_sums_1 : decode cX10_sums 1 = .ok (.istore 4, 2) := by decide +kernel
theorem dX10_sums_3 : decode cX10_sums 3 = .ok (.aload_n 0, 1) := by decide +kernel
theorem dX10_sums_4 : decode cX10_sums 4 = .ok (.iload_n 1, 1) := by decide +kernel
theorem dX10_sums_5 : decode cX10_sums 5 = .ok (.iload_n 2, 1) := by decide +kernel
theorem dX10_sums_6 : decode cX10_sums 6 = .ok (.iload_n 3, 1) := by decide +kernel
theorem dX10_sums_7 : decode cX10_sums 7 = .ok (.invokevirtual 210, 3) := by decide +kernel
theorem dX10_sums_10 : decode cX10_sums 10 = .ok (.istore 5, 2) := by decide +kernel
theorem dX10_sums_12 : decode cX10_sums 12 = .ok (.iload 5, 2) := by decide +kernel
theorem dX10_sums_14 : decode cX10_sums 14 = .ok (.iconst (-1), 1) := by decide +kernel
theorem dX10_sums_15 : decode cX10_sums 15 = .ok (.if_icmp .eq 103, 3) := by decide +kernel
theorem dX10_sums_18 : decode cX10_sums 18 = .ok (.aload_n 0, 1) := by decide +kernel
theorem dX10_sums_19 : decode cX10_sums 19 = .ok (.getfield 43, 3) := by decide +kernel
theorem dX10_sums_22 : decode cX10_sums 22 = .ok (.iload 5, 2) := by decide +kernel
theorem dX10_sums_24 : decode cX10_sums 24 = .ok (.iconst 1, 1) := by decide +kernel
theorem dX10_sums_25 : decode cX10_sums 25 = .ok (.iastore, 1) := by decide +kernel
theorem dX10_sums_26 : decode cX10_sums 26 = .ok (.iconst 0, 1) := by decide +kernel
theorem dX10_sums_27 : decode cX10_sums 27 = .ok (.istore 6, 2) := by decide +kernel
theorem dX10_sums_29 : decode cX10_sums 29 = .ok (.iload 6, 2) := by decide +kernel
theorem dX10_sums_31 : decode cX10_sums 31 = .ok (.aload_n 0, 1) := by decide +kernel
theorem dX10_sums_32 : decode cX10_sums 32 = .ok (.getfield 37, 3) := by decide +kernel
theorem dX10_sums_35 : decode cX10_sums 35 = .ok (.iload 5, 2) := by decide +kernel
theorem dX10_sums_37 : decode cX10_sums 37 = .ok (.iaload, 1) := by decide +kernel
theorem dX10_sums_38 : decode cX10_sums 38 = .ok (.if_icmp .ge 68, 3) := by decide +kernel
theorem dX10_sums_41 : decode cX10_sums 41 = .ok (.iinc 4 1, 3) := by decide +kernel
theorem dX10_sums_44 : decode cX10_sums 44 = .ok (.iload_n 3, 1) := by decide +kernel
theorem dX10_sums_45 : decode cX10_sums 45 = .ok (.iconst 1, 1) := by decide +kernel
theorem dX10_sums_46 : decode cX10_sums 46 = .ok (.if_icmp .ne 30, 3) := by decide +kernel
theorem dX10_sums_49 : decode cX10_sums 49 = .ok (.aload_n 0, 1) := by decide +kernel
theorem dX10_sums_50 : decode cX10_sums 50 = .ok (.getfield 157, 3) := by decide +kernel
theorem dX10_sums_53 : decode cX10_sums 53 = .ok (.iload 4, 2) := by decide +kernel
theorem dX10_sums_55 : decode cX10_sums 55 = .ok (.aload_n 0, 1) := by decide +kernel
theorem dX10_sums_56 : decode cX10_sums 56 = .ok (.getfield 157, 3) := by decide +kernel
theorem dX10_sums_59 : decode cX10_sums 59 = .ok (.iload 4, 2) := by decide +kernel
theorem dX10_sums_61 : decode cX10_sums 61 = .ok (.iconst 1, 1) := by decide +kernel
theorem dX10_sums_62 : decode cX10_sums 62 = .ok (.isub, 1) := by decide +kernel
theorem dX10_sums_63 : decode cX10_sums 63 = .ok (.iaload, 1) := by decide +kernel
theorem dX10_sums_64 : decode cX10_sums 64 = .ok (.aload_n 0, 1) := by decide +kernel
theorem dX10_sums_65 : decode cX10_sums 65 = .ok (.getfield 34, 3) := by decide +kernel
theorem dX10_sums_68 : decode cX10_sums 68 = .ok (.iload 5, 2) := by decide +kernel
theorem dX10_sums_70 : decode cX10_sums 70 = .ok (.iaload, 1) := by decide +kernel
theorem dX10_sums_71 : decode cX10_sums 71 = .ok (.iadd, 1) := by decide +kernel
theorem dX10_sums_72 : decode cX10_sums 72 = .ok (.iastore, 1) := by decide +kernel
theorem dX10_sums_73 : decode cX10_sums 73 = .ok (.goto 27, 3) := by decide +kernel
theorem dX10_sums_76 : decode cX10_sums 76 = .ok (.aload_n 0, 1) := by decide +kernel
theorem dX10_sums_77 : decode cX10_sums 77 = .ok (.getfield 154, 3) := by decide +kernel
theorem dX10_sums_80 : decode cX10_sums 80 = .ok (.iload 4, 2) := by decide +kernel
theorem dX10_sums_82 : decode cX10_sums 82 = .ok (.aload_n 0, 1) := by decide +kernel
theorem dX10_sums_83 : decode cX10_sums 83 = .ok (.getfield 154, 3) := by decide +kernel
theorem dX10_sums_86 : decode cX10_sums 86 = .ok (.iload 4, 2) := by decide +kernel
theorem dX10_sums_88 : decode cX10_sums 88 = .ok (.iconst 1, 1) := by decide +kernel
theorem dX10_sums_89 : decode cX10_sums 89 = .ok (.isub, 1) := by decide +kernel
theorem dX10_sums_90 : decode cX10_sums 90 = .ok (.iaload, 1) := by decide +kernel
theorem dX10_sums_91 : decode cX10_sums 91 = .ok (.aload_n 0, 1) := by decide +kernel
theorem dX10_sums_92 : decode cX10_sums 92 = .ok (.getfield 34, 3) := by decide +kernel
theorem dX10_sums_95 : decode cX10_sums 95 = .ok (.iload 5, 2) := by decide +kernel
theorem dX10_sums_97 : decode cX10_sums 97 = .ok (.iaload, 1) := by decide +kernel
theorem dX10_sums_98 : decode cX10_sums 98 = .ok (.iadd, 1) := by decide +kernel
theorem dX10_sums_99 : decode cX10_sums 99 = .ok (.iastore, 1) := by decide +kernel
theorem dX10_sums_100 : decode cX10_sums 100 = .ok (.iinc 6 1, 3) := by decide +kernel
theorem dX10_sums_103 : decode cX10_sums 103 = .ok (.goto (-74), 3) := by decide +kernel
theorem dX10_sums_106 : decode cX10_sums 106 = .ok (.aload_n 0, 1) := by decide +kernel
theorem dX10_sums_107 : decode cX10_sums 107 = .ok (.iload_n 1, 1) := by decide +kernel
theorem dX10_sums_108 : decode cX10_sums 108 = .ok (.iload_n 2, 1) := by decide +kernel
theorem dX10_sums_109 : decode cX10_sums 109 = .ok (.iload_n 3, 1) := by decide +kernel
theorem dX10_sums_110 : decode cX10_sums 110 = .ok (.invokevirtual 210, 3) := by decide +kernel
theorem dX10_sums_113 : decode cX10_sums 113 = .ok (.istore 5, 2) := by decide +kernel
theorem dX10_sums_115 : decode cX10_sums 115 = .ok (.goto (-103), 3) := by decide +kernel
theorem dX10_sums_118 : decode cX10_sums 118 = .ok (.iload 4, 2) := by decide +kernel
theorem dX10_sums_120 : decode cX10_sums 120 = .ok (.ireturn, 1) := by decide +kernel
set_option maxRecDepth 20000 in
theorem ggX10_weighs_X10_sums : GoodIn wsX10_weighs wsX10_sums := goodIn_r _ [12, 13, 14, 6, 15, 7, 16, 17, 18, 11, 19, 20, 21, 22, 23, 24, 25, 26, 27, 28, 29, 30, 31, 32, 33, 34, 35, 36, 37, 38, 39, 40, 41, 42, 43, 44, 45, 46, 47, 48, 49, 50, 51, 52, 53, 54, 55, 56, 57, 58, 59, 60, 61, 62, 63, 64, 65, 66, 67, 68, 69, 70, 71, 72, 73, 74, 75, 76, 77, 78, 79, 80, 81, 82, 83, 84, 85, 86, 87, 88, 89, 90, 91] (by decide +kernel) (by decide +kernel)
set_option maxRecDepth 20000 in
theorem gX10_weighs_X10_sums : GoodIn wsX10_weighs (wsV RX10 214 RX10 yX10_sums wsX10_sums) := goodIn_app (goodIn_of _ (by decide +kernel)) ggX10_weighs_X10_sums
theorem dX10_weighs_0 : decode cX10_weighs 0 = .ok (.aload_n 0, 1) := by decide +kernel
theorem dX10_weighs_1 : decode cX10_weighs 1 = .ok (.aload_n 0, 1) := by decide +kernel
theorem dX10_weighs_2 : decode cX10_weighs 2 = .ok (.iload_n 1, 1) := by decide +kernel
theorem dX10_weighs_3 : decode cX10_weighs 3 = .ok (.iload_n 2, 1) := by decide +kernel
theorem dX10_weighs_4 : decode cX10_weighs 4 = .ok (.iconst 0, 1) := by decide +kernel
theorem dX10_weighs_5 : decode cX10_weighs 5 = .ok (.invokevirtual 214, 3) := by decide +kernel
theorem dX10_weighs_8 : decode cX10_weighs 8 = .ok (.putfield 217, 3) := by decide +kernel
theorem dX10_weighs_11 : decode cX10_weighs 11 = .ok (.aload_n 0, 1) := by decide +kernel
theorem dX10_weighs_12 : decode cX10_weighs 12 = .ok (.aload_n 0, 1) := by decide +kernel
theorem dX10_weighs_13 : decode cX10_weighs 13 = .ok (.iload_n 1, 1) := by decide +kernel
theorem dX10_weighs_14 : decode cX10_weighs 14 = .ok (.iload_n 2, 1) := by decide +kernel
theorem dX10_weighs_15 : decode cX10_weighs 15 = .ok (.iconst 1, 1) := by decide +kernel
theorem dX10_weighs_16 : decode cX10_weighs 16 = .ok (.invokevirtual 214, 3) := by decide +kernel
theorem dX10_weighs_19 : decode cX10_weighs 19 = .ok (.putfield 220, 3) := by decide +kernel
theorem dX10_weighs_22 : decode cX10_weighs 22 = .ok (.iconst 0, 1) := by decide +kernel
theorem dX10_weighs_23 : decode cX10_weighs 23 = .ok (.istore_n 3, 1) := by decide +kernel
theorem dX10_weighs_24 : decode cX10_weighs 24 = .ok (.iload_n 3, 1) := by decide +kernel
theorem dX10_weighs_25 : decode cX10_weighs 25 = .ok (.sipush 161, 3) := by decide +kernel
theorem dX10_weighs_28 : decode cX10_weighs 28 = .ok (.if_icmp .ge 136, 3) := by decide +kernel
theorem dX10_weighs_31 : decode cX10_weighs 31 = .ok (.sipush 161, 3) := by decide +kernel
theorem dX10_weighs_34 : decode cX10_weighs 34 = .ok (.iconst 4, 1) := by decide +kernel
theorem dX10_weighs_35 : decode cX10_weighs 35 = .ok (.iload_n 1, 1) := by decide +kernel
theorem dX10_weighs_36 : decode cX10_weighs 36 = .ok (.imul, 1) := by decide +kernel
theorem dX10_weighs_37 : decode cX10_weighs 37 = .ok (.iload_n 2, 1) := by decide +kernel
theorem dX10_weighs_38 : decode cX10_weighs 38 = .ok (.iadd, 1) := by decide +kernel
theorem dX10_weighs_39 : decode cX10_weighs 39 = .ok (.imul, 1) := by decide +kernel
theorem dX10_weighs_40 : decode cX10_weighs 40 = .ok (.iload_n 3, 1) := by decide +kernel
theorem dX10_weighs_41 : decode cX10_weighs 41 = .ok (.iadd, 1) := by decide +kernel
theorem dX10_weighs_42 : decode cX10_weighs 42 = .ok (.istore 4, 2) := by decide +kernel
theorem dX10_weighs_44 : decode cX10_weighs 44 = .ok (.iload_n 3, 1) := by decide +kernel
theorem dX10_weighs_45 : decode cX10_weighs 45 = .ok (.bipush 80, 2) := by decide +kernel
theorem dX10_weighs_47 : decode cX10_weighs 47 = .ok (.isub, 1) := by decide +kernel
theorem dX10_weighs_48 : decode cX10_weighs 48 = .ok (.istore 5, 2) := by decide +kernel
theorem dX10_weighs_50 : decode cX10_weighs 50 = .ok (.aload_n 0, 1) := by decide +kernel
theorem dX10_weighs_51 : decode cX10_weighs 51 = .ok (.getfield 160, 3) := by decide +kernel
theorem dX10_weighs_54 : decode cX10_weighs 54 = .ok (.iload 4, 2) := by decide +kernel
theorem dX10_weighs_56 : decode cX10_weighs 56 = .ok (.ldc 223, 2) := by decide +kernel
theorem dX10_weighs_58 : decode cX10_weighs 58 = .ok (.iastore, 1) := by decide +kernel
theorem dX10_weighs_59 : decode cX10_weighs 59 = .ok (.aload_n 0, 1) := by decide +kernel
theorem dX10_weighs_60 : decode cX10_weighs 60 = .ok (.getfield 163, 3) := by decide +kernel
theorem dX10_weighs_63 : decode cX10_weighs 63 = .ok (.iload 4, 2) := by decide +kernel
theorem dX10_weighs_65 : decode cX10_weighs 65 = .ok (.iconst 0, 1) := by decide +kernel
theorem dX10_weighs_66 : decode cX10_weighs 66 = .ok (.iastore, 1) := by decide +kernel
theorem dX10_weighs_67 : decode cX10_weighs 67 = .ok (.iload 5, 2) := by decide +kernel
theorem dX10_weighs_69 : decode cX10_weighs 69 = .ok (.ifCond .ge 9, 3) := by decide +kernel
theorem dX10_weighs_72 : decode cX10_weighs 72 = .ok (.iload 5, 2) := by decide +kernel
theorem dX10_weighs_74 : decode cX10_weighs 74 = .ok (.ineg, 1) := by decide +kernel
theorem dX10_weighs_75 : decode cX10_weighs 75 = .ok (.goto 4, 3) := by decide +kernel
theorem dX10_weighs_78 : decode cX10_weighs 78 = .ok (.iconst 0, 1) := by decide +kernel
theorem dX10_weighs_79 : decode cX10_weighs 79 = .ok (.istore 6, 2) := by decide +kernel
theorem dX10_weighs_81 : decode cX10_weighs 81 = .ok (.iload 6, 2) := by decide +kernel
theorem dX10_weighs_83 : decode cX10_weighs 83 = .ok (.aload_n 0, 1) := by decide +kernel
theorem dX10_weighs_84 : decode cX10_weighs 84 = .ok (.getfield 220, 3) := by decide +kernel
theorem dX10_weighs_87 : decode cX10_weighs 87 = .ok (.if_icmp .gt 71, 3) := by decide +kernel
theorem dX10_weighs_90 : decode cX10_weighs 90 = .ok (.iload 5, 2) := by decide +kernel
theorem dX10_weighs_92 : decode cX10_weighs 92 = .ok (.iload 6, 2) := by decide +kernel
theorem dX10_weighs_94 : decode cX10_weighs 94 = .ok (.iadd, 1) := by decide +kernel
theorem dX10_weighs_95 : decode cX10_weighs 95 = .ok (.aload_n 0, 1) := by decide +kernel
theorem dX10_weighs_96 : decode cX10_weighs 96 = .ok (.getfield 217, 3) := by decide +kernel
theorem dX10_weighs_99 : decode cX10_weighs 99 = .ok (.if_icmp .gt 59, 3) := by decide +kernel
theorem dX10_weighs_102 : decode cX10_weighs 102 = .ok (.aload_n 0, 1) := by decide +kernel
theorem dX10_weighs_103 : decode cX10_weighs 103 = .ok (.getfield 157, 3) := by decide +kernel
theorem dX10_weighs_106 : decode cX10_weighs 106 = .ok (.iload 6, 2) := by decide +kernel
theorem dX10_weighs_108 : decode cX10_weighs 108 = .ok (.iaload, 1) := by decide +kernel
theorem dX10_weighs_109 : decode cX10_weighs 109 = .ok (.aload_n 0, 1) := by decide +kernel
theorem dX10_weighs_110 : decode cX10_weighs 110 = .ok (.getfield 154, 3) := by decide +kernel
theorem dX10_weighs_113 : decode cX10_weighs 113 = .ok (.iload 5, 2) := by decide +kernel
theorem dX10_weighs_115 : decode cX10_weighs 115 = .ok (.iload 6, 2) := by decide +kernel
theorem dX10_weighs_117 : decode cX10_weighs 117 = .ok (.iadd, 1) := by decide +kernel
theorem dX10_weighs_118 : decode cX10_weighs 118 = .ok (.iaload, 1) := by decide +kernel
theorem dX10_weighs_119 : decode cX10_weighs 119 = .ok (.isub, 1) := by decide +kernel
theorem dX10_weighs_120 : decode cX10_weighs 120 = .ok (.istore 7, 2) := by decide +kernel
theorem dX10_weighs_122 : decode cX10_weighs 122 = .ok (.iload 7, 2) := by decide +kernel
theorem dX10_weighs_124 : decode cX10_weighs 124 = .ok (.aload_n 0, 1) := by decide +kernel
theorem dX10_weighs_125 : decode cX10_weighs 125 = .ok (.getfield 160, 3) := by decide +kernel
theorem dX10_weighs_128 : decode cX10_weighs 128 = .ok (.iload 4, 2) := by decide +kernel
theorem dX10_weighs_130 : decode cX10_weighs 130 = .ok (.iaload, 1) := by decide +kernel
theorem dX10_weighs_131 : decode cX10_weighs 131 = .ok (.if_icmp .le 21, 3) := by decide +kernel
theorem dX10_weighs_134 : decode cX10_weighs 134 = .ok (.aload_n 0, 1) := by decide +kernel
theorem dX10_weighs_135 : decode cX10_weighs 135 = .ok (.getfield 160, 3) := by decide +kernel
theorem dX10_weighs_138 : decode cX10_weighs 138 = .ok (.iload 4, 2) := by decide +kernel
theorem dX10_weighs_140 : decode cX10_weighs 140 = .ok (.iload 7, 2) := by decide +kernel
theorem dX10_weighs_142 : decode cX10_weighs 142 = .ok (.iastore, 1) := by decide +kernel
theorem dX10_weighs_143 : decode cX10_weighs 143 = .ok (.aload_n 0, 1) := by decide +kernel
theorem dX10_weighs_144 : decode cX10_weighs 144 = .ok (.getfield 163, 3) := by decide +kernel
theorem dX10_weighs_147 : decode cX10_weighs 147 = .ok (.iload 4, 2) := by decide +kernel
theorem dX10_weighs_149 : decode cX10_weighs 149 = .ok (.iload 6, 2) := by decide +kernel
theorem dX10_weighs_151 : decode cX10_weighs 151 = .ok (.iastore, 1) := by decide +kernel
theorem dX10_weighs_152 : decode cX10_weighs 152 = .ok (.iinc 6 1, 3) := by decide +kernel
theorem dX10_weighs_155 : decode cX10_weighs 155 = .ok (.goto (-74), 3) := by decide +kernel
theorem dX10_weighs_158 : decode cX10_weighs 158 = .ok (.iinc 3 1, 3) := by decide +kernel
theorem dX10_weighs_161 : decode cX10_weighs 161 = .ok (.goto (-137), 3) := by decide +kernel
theorem dX10_weighs_164 : decode cX10_weighs 164 = .ok (.return_, 1) := by decide +kernel
theorem dX10_away_0 : decode cX10_away 0 = .ok (.iload_n 0, 1) := by decide +kernel
theorem dX10_away_1 : decode cX10_away 1 = .ok (.ifCond .ge 8, 3) := by decide +kernel
theorem dX10_away_4 : decode cX10_away 4 = .ok (.iload_n 0, 1) := by decide +kernel
theorem dX10_away_5 : decode cX10_away 5 = .ok (.ineg, 1) := by decide +kernel
theorem dX10_away_6 : decode cX10_away 6 = .ok (.goto 4, 3) := by decide +kernel
theorem dX10_away_9 : decode cX10_away 9 = .ok (.iload_n 0, 1) := by decide +kernel
theorem dX10_away_10 : decode cX10_away 10 = .ok (.ireturn, 1) := by decide +kernel
set_option maxRecDepth 20000 in
theorem ggX10_fits_X10_away : GoodIn wsX10_fits wsX10_away := goodIn_r _ [5] (by decide +kernel) (by decide +kernel)
set_option maxRecDepth 20000 in
theorem gX10_fits_X10_away : GoodIn wsX10_fits (va_wsS RX10 224 yX10_away wsX10_away) := goodIn_app (goodIn_of _ (by decide +kernel)) ggX10_fits_X10_away
theorem dX10_fits_0 : decode cX10_fits 0 = .ok (.iload_n 1, 1) := by decide +kernel
theorem dX10_fits_1 : decode cX10_fits 1 = .ok (.iload_n 2, 1) := by decide +kernel
theorem dX10_fits_2 : decode cX10_fits 2 = .ok (.isub, 1) := by decide +kernel
theorem dX10_fits_3 : decode cX10_fits 3 = .ok (.invokestatic 224, 3) := by decide +kernel
theorem dX10_fits_6 : decode cX10_fits 6 = .ok (.iconst 3, 1) := by decide +kernel
theorem dX10_fits_7 : decode cX10_fits 7 = .ok (.aload_n 0, 1) := by decide +kernel
theorem dX10_fits_8 : decode cX10_fits 8 = .ok (.getfield 7, 3) := by decide +kernel
theorem dX10_fits_11 : decode cX10_fits 11 = .ok (.iconst 0, 1) := by decide +kernel
theorem dX10_fits_12 : decode cX10_fits 12 = .ok (.iaload, 1) := by decide +kernel
theorem dX10_fits_13 : decode cX10_fits 13 = .ok (.imul, 1) := by decide +kernel
theorem dX10_fits_14 : decode cX10_fits 14 = .ok (.if_icmp .gt 41, 3) := by decide +kernel
theorem dX10_fits_17 : decode cX10_fits 17 = .ok (.iload_n 2, 1) := by decide +kernel
theorem dX10_fits_18 : decode cX10_fits 18 = .ok (.iload_n 3, 1) := by decide +kernel
theorem dX10_fits_19 : decode cX10_fits 19 = .ok (.isub, 1) := by decide +kernel
theorem dX10_fits_20 : decode cX10_fits 20 = .ok (.invokestatic 224, 3) := by decide +kernel
theorem dX10_fits_23 : decode cX10_fits 23 = .ok (.iconst 3, 1) := by decide +kernel
theorem dX10_fits_24 : decode cX10_fits 24 = .ok (.aload_n 0, 1) := by decide +kernel
theorem dX10_fits_25 : decode cX10_fits 25 = .ok (.getfield 7, 3) := by decide +kernel
theorem dX10_fits_28 : decode cX10_fits 28 = .ok (.iconst 1, 1) := by decide +kernel
theorem dX10_fits_29 : decode cX10_fits 29 = .ok (.iaload, 1) := by decide +kernel
theorem dX10_fits_30 : decode cX10_fits 30 = .ok (.imul, 1) := by decide +kernel
theorem dX10_fits_31 : decode cX10_fits 31 = .ok (.if_icmp .gt 24, 3) := by decide +kernel
theorem dX10_fits_34 : decode cX10_fits 34 = .ok (.iload_n 1, 1) := by decide +kernel
theorem dX10_fits_35 : decode cX10_fits 35 = .ok (.iload_n 3, 1) := by decide +kernel
theorem dX10_fits_36 : decode cX10_fits 36 = .ok (.isub, 1) := by decide +kernel
theorem dX10_fits_37 : decode cX10_fits 37 = .ok (.invokestatic 224, 3) := by decide +kernel
theorem dX10_fits_40 : decode cX10_fits 40 = .ok (.iconst 3, 1) := by decide +kernel
theorem dX10_fits_41 : decode cX10_fits 41 = .ok (.aload_n 0, 1) := by decide +kernel
theorem dX10_fits_42 : decode cX10_fits 42 = .ok (.getfield 7, 3) := by decide +kernel
theorem dX10_fits_45 : decode cX10_fits 45 = .ok (.iconst 2, 1) := by decide +kernel
theorem dX10_fits_46 : decode cX10_fits 46 = .ok (.iaload, 1) := by decide +kernel
theorem dX10_fits_47 : decode cX10_fits 47 = .ok (.imul, 1) := by decide +kernel
theorem dX10_fits_48 : decode cX10_fits 48 = .ok (.if_icmp .gt 7, 3) := by decide +kernel
theorem dX10_fits_51 : decode cX10_fits 51 = .ok (.iconst 1, 1) := by decide +kernel
theorem dX10_fits_52 : decode cX10_fits 52 = .ok (.goto 4, 3) := by decide +kernel
theorem dX10_fits_55 : decode cX10_fits 55 = .ok (.iconst 0, 1) := by decide +kernel
theorem dX10_fits_56 : decode cX10_fits 56 = .ok (.ireturn, 1) := by decide +kernel
theorem dX10_worthOf_0 : decode cX10_worthOf 0 = .ok (.aload_n 0, 1) := by decide +kernel
theorem dX10_worthOf_1 : decode cX10_worthOf 1 = .ok (.getfield 160, 3) := by decide +kernel
theorem dX10_worthOf_4 : decode cX10_worthOf 4 = .ok (.sipush 161, 3) := by decide +kernel
theorem dX10_worthOf_7 : decode cX10_worthOf 7 = .ok (.iconst 4, 1) := by decide +kernel
theorem dX10_worthOf_8 : decode cX10_worthOf 8 = .ok (.iload_n 1, 1) := by decide +kernel
theorem dX10_worthOf_9 : decode cX10_worthOf 9 = .ok (.imul, 1) := by decide +kernel
theorem dX10_worthOf_10 : decode cX10_worthOf 10 = .ok (.iload_n 2, 1) := by decide +kernel
theorem dX10_worthOf_11 : decode cX10_worthOf 11 = .ok (.iadd, 1) := by decide +kernel
theorem dX10_worthOf_12 : decode cX10_worthOf 12 = .ok (.imul, 1) := by decide +kernel
theorem dX10_worthOf_13 : decode cX10_worthOf 13 = .ok (.bipush 80, 2) := by decide +kernel
theorem dX10_worthOf_15 : decode cX10_worthOf 15 = .ok (.iadd, 1) := by decide +kernel
theorem dX10_worthOf_16 : decode cX10_worthOf 16 = .ok (.iload_n 3, 1) := by decide +kernel
theorem dX10_worthOf_17 : decode cX10_worthOf 17 = .ok (.iadd, 1) := by decide +kernel
theorem dX10_worthOf_18 : decode cX10_worthOf 18 = .ok (.aload_n 0, 1) := by decide +kernel
theorem dX10_worthOf_19 : decode cX10_worthOf 19 = .ok (.getfield 166, 3) := by decide +kernel
theorem dX10_worthOf_22 : decode cX10_worthOf 22 = .ok (.iconst 4, 1) := by decide +kernel
theorem dX10_worthOf_23 : decode cX10_worthOf 23 = .ok (.iload_n 1, 1) := by decide +kernel
theorem dX10_worthOf_24 : decode cX10_worthOf 24 = .ok (.imul, 1) := by decide +kernel
theorem dX10_worthOf_25 : decode cX10_worthOf 25 = .ok (.iload_n 2, 1) := by decide +kernel
theorem dX10_worthOf_26 : decode cX10_worthOf 26 = .ok (.iadd, 1) := by decide +kernel
theorem dX10_worthOf_27 : decode cX10_worthOf 27 = .ok (.iaload, 1) := by decide +kernel
theorem dX10_worthOf_28 : decode cX10_worthOf 28 = .ok (.isub, 1) := by decide +kernel
theorem dX10_worthOf_29 : decode cX10_worthOf 29 = .ok (.iaload, 1) := by decide +kernel
theorem dX10_worthOf_30 : decode cX10_worthOf 30 = .ok (.ireturn, 1) := by decide +kernel
set_option maxRecDepth 20000 in
theorem ggX10_goes_X10_away : GoodIn wsX10_goes wsX10_away := goodIn_r _ [4] (by decide +kernel) (by decide +kernel)
set_option maxRecDepth 20000 in
theorem gX10_goes_X10_away : GoodIn wsX10_goes (va_wsS RX10 224 yX10_away wsX10_away) := goodIn_app (goodIn_of _ (by decide +kernel)) ggX10_goes_X10_away
theorem dX10_goes_0 : decode cX10_goes 0 = .ok (.iload_n 0, 1) := by decide +kernel
theorem dX10_goes_1 : decode cX10_goes 1 = .ok (.ineg, 1) := by decide +kernel
theorem dX10_goes_2 : decode cX10_goes 2 = .ok (.iload_n 1, 1) := by decide +kernel
theorem dX10_goes_3 : decode cX10_goes 3 = .ok (.isub, 1) := by decide +kernel
theorem dX10_goes_4 : decode cX10_goes 4 = .ok (.istore_n 2, 1) := by decide +kernel
theorem dX10_goes_5 : decode cX10_goes 5 = .ok (.iload_n 0, 1) := by decide +kernel
theorem dX10_goes_6 : decode cX10_goes 6 = .ok (.iload_n 1, 1) := by decide +kernel
theorem dX10_goes_7 : decode cX10_goes 7 = .ok (.isub, 1) := by decide +kernel
theorem dX10_goes_8 : decode cX10_goes 8 = .ok (.invokestatic 224, 3) := by decide +kernel
theorem dX10_goes_11 : decode cX10_goes 11 = .ok (.iload_n 1, 1) := by decide +kernel
theorem dX10_goes_12 : decode cX10_goes 12 = .ok (.iload_n 2, 1) := by decide +kernel
theorem dX10_goes_13 : decode cX10_goes 13 = .ok (.isub, 1) := by decide +kernel
theorem dX10_goes_14 : decode cX10_goes 14 = .ok (.invokestatic 224, 3) := by decide +kernel
theorem dX10_goes_17 : decode cX10_goes 17 = .ok (.iadd, 1) := by decide +kernel
theorem dX10_goes_18 : decode cX10_goes 18 = .ok (.iload_n 0, 1) := by decide +kernel
theorem dX10_goes_19 : decode cX10_goes 19 = .ok (.iload_n 2, 1) := by decide +kernel
theorem dX10_goes_20 : decode cX10_goes 20 = .ok (.isub, 1) := by decide +kernel
theorem dX10_goes_21 : decode cX10_goes 21 = .ok (.invokestatic 224, 3) := by decide +kernel
theorem dX10_goes_24 : decode cX10_goes 24 = .ok (.iadd, 1) := by decide +kernel
theorem dX10_goes_25 : decode cX10_goes 25 = .ok (.ireturn, 1) := by decide +kernel
set_option maxRecDepth 20000 in
theorem ggX10_most_X10_fits : GoodIn wsX10_most wsX10_fits := goodIn_r _ [8, 9, 10, 11, 7, 12, 22, 23, 24, 25, 26, 27, 28, 29, 30, 31, 32, 33, 34, 35, 36, 37, 38, 39, 40, 41, 42, 43, 44, 45, 46, 47, 48, 49, 50, 51, 52, 53, 54, 55, 56, 57, 58, 59, 60, 61, 62, 63, 64, 65, 66, 67, 68, 69, 70, 71, 72, 73, 74, 75, 76, 77, 78, 79, 80, 81, 82, 83, 84, 85, 86, 87, 88, 89] (by decide +kernel) (by decide +kernel)
set_option maxRecDepth 20000 in
theorem gX10_most_X10_fits : GoodIn wsX10_most (wsV RX10 228 RX10 yX10_fits wsX10_fits) := goodIn_app (goodIn_of _ (by decide +kernel)) ggX10_most_X10_fits
set_option maxRecDepth 20000 in
theorem ggX10_most_X10_worthOf : GoodIn wsX10_most wsX10_worthOf := goodIn_r _ [16, 17, 18, 22, 23, 24, 25, 26, 27, 28, 29, 30, 31, 32, 33, 34, 35, 36, 37, 38, 39, 40, 41, 42, 43, 44, 45, 46, 47, 48, 49, 50, 51, 52, 53, 54, 55, 56, 57, 58, 59, 60, 61, 62, 63, 64, 65, 66, 67, 68, 69, 70, 71, 72, 73, 74, 75, 76, 77, 78, 79, 80, 81, 82, 83, 84, 85, 86, 87, 88, 89] (by decide +kernel) (by decide +kernel)
set_option maxRecDepth 20000 in
theorem gX10_most_X10_worthOf : GoodIn wsX10_most (wsV RX10 231 RX10 yX10_worthOf wsX10_worthOf) := goodIn_app (goodIn_of _ (by decide +kernel)) ggX10_most_X10_worthOf
set_option maxRecDepth 20000 in
theorem ggX10_most_X10_goes : GoodIn wsX10_most wsX10_goes := goodIn_r _ [21, 10, 11, 7, 12] (by decide +kernel) (by decide +kernel)
set_option maxRecDepth 20000 in
theorem gX10_most_X10_goes : GoodIn wsX10_most (va_wsS RX10 234 yX10_goes wsX10_goes) := goodIn_app (goodIn_of _ (by decide +kernel)) ggX10_most_X10_goes
theorem dX10_most_0 : decode cX10_most 0 = .ok (.ldc 223, 2) := by decide +kernel
theorem dX10_most_2 : decode cX10_most 2 = .ok (.istore_n 3, 1) := by decide +kernel
theorem dX10_most_3 : decode cX10_most 3 = .ok (.bipush (-20), 2) := by decide +kernel
theorem dX10_most_5 : decode cX10_most 5 = .ok (.istore 4, 2) := by decide +kernel
theorem dX10_most_7 : decode cX10_most 7 = .ok (.iload 4, 2) := by decide +kernel
theorem dX10_most_9 : decode cX10_most 9 = .ok (.bipush 20, 2) := by decide +kernel
theorem dX10_most_11 : decode cX10_most 11 = .ok (.if_icmp .gt 215, 3) := by decide +kernel
theorem dX10_most_14 : decode cX10_most 14 = .ok (.bipush (-20), 2) := by decide +kernel
theorem dX10_most_16 : decode cX10_most 16 = .ok (.istore 5, 2) := by decide +kernel
theorem dX10_most_18 : decode cX10_most 18 = .ok (.iload 5, 2) := by decide +kernel
theorem dX10_most_20 : decode cX10_most 20 = .ok (.bipush 20, 2) := by decide +kernel
theorem dX10_most_22 : decode cX10_most 22 = .ok (.if_icmp .gt 198, 3) := by decide +kernel
theorem dX10_most_25 : decode cX10_most 25 = .ok (.iload 4, 2) := by decide +kernel
theorem dX10_most_27 : decode cX10_most 27 = .ok (.ineg, 1) := by decide +kernel
theorem dX10_most_28 : decode cX10_most 28 = .ok (.iload 5, 2) := by decide +kernel
theorem dX10_most_30 : decode cX10_most 30 = .ok (.isub, 1) := by decide +kernel
theorem dX10_most_31 : decode cX10_most 31 = .ok (.istore 6, 2) := by decide +kernel
theorem dX10_most_33 : decode cX10_most 33 = .ok (.aload_n 0, 1) := by decide +kernel
theorem dX10_most_34 : decode cX10_most 34 = .ok (.iload 4, 2) := by decide +kernel
theorem dX10_most_36 : decode cX10_most 36 = .ok (.iload 5, 2) := by decide +kernel
theorem dX10_most_38 : decode cX10_most 38 = .ok (.iload 6, 2) := by decide +kernel
theorem dX10_most_40 : decode cX10_most 40 = .ok (.invokevirtual 228, 3) := by decide +kernel
theorem dX10_most_43 : decode cX10_most 43 = .ok (.ifCond .eq 171, 3) := by decide +kernel
theorem dX10_most_46 : decode cX10_most 46 = .ok (.aload_n 0, 1) := by decide +kernel
theorem dX10_most_47 : decode cX10_most 47 = .ok (.iconst 0, 1) := by decide +kernel
theorem dX10_most_48 : decode cX10_most 48 = .ok (.iload_n 1, 1) := by decide +kernel
theorem dX10_most_49 : decode cX10_most 49 = .ok (.iload_n 2, 1) := by decide +kernel
theorem dX10_most_50 : decode cX10_most 50 = .ok (.ifCond .ne 10, 3) := by decide +kernel
theorem dX10_most_53 : decode cX10_most 53 = .ok (.iload 4, 2) := by decide +kernel
theorem dX10_most_55 : decode cX10_most 55 = .ok (.iconst 1, 1) := by decide +kernel
theorem dX10_most_56 : decode cX10_most 56 = .ok (.isub, 1) := by decide +kernel
theorem dX10_most_57 : decode cX10_most 57 = .ok (.goto 5, 3) := by decide +kernel
theorem dX10_most_60 : decode cX10_most 60 = .ok (.iload 4, 2) := by decide +kernel
theorem dX10_most_62 : decode cX10_most 62 = .ok (.invokevirtual 231, 3) := by decide +kernel
theorem dX10_most_65 : decode cX10_most 65 = .ok (.istore 7, 2) := by decide +kernel
theorem dX10_most_67 : decode cX10_most 67 = .ok (.aload_n 0, 1) := by decide +kernel
theorem dX10_most_68 : decode cX10_most 68 = .ok (.iconst 1, 1) := by decide +kernel
theorem dX10_most_69 : decode cX10_most 69 = .ok (.iload_n 1, 1) := by decide +kernel
theorem dX10_most_70 : decode cX10_most 70 = .ok (.iload_n 2, 1) := by decide +kernel
theorem dX10_most_71 : decode cX10_most 71 = .ok (.iconst 1, 1) := by decide +kernel
theorem dX10_most_72 : decode cX10_most 72 = .ok (.if_icmp .ne 10, 3) := by decide +kernel
theorem dX10_most_75 : decode cX10_most 75 = .ok (.iload 5, 2) := by decide +kernel
theorem dX10_most_77 : decode cX10_most 77 = .ok (.iconst 1, 1) := by decide +kernel
theorem dX10_most_78 : decode cX10_most 78 = .ok (.isub, 1) := by decide +kernel
theorem dX10_most_79 : decode cX10_most 79 = .ok (.goto 5, 3) := by decide +kernel
theorem dX10_most_82 : decode cX10_most 82 = .ok (.iload 5, 2) := by decide +kernel
theorem dX10_most_84 : decode cX10_most 84 = .ok (.invokevirtual 231, 3) := by decide +kernel
theorem dX10_most_87 : decode cX10_most 87 = .ok (.istore 8, 2) := by decide +kernel
theorem dX10_most_89 : decode cX10_most 89 = .ok (.aload_n 0, 1) := by decide +kernel
theorem dX10_most_90 : decode cX10_most 90 = .ok (.iconst 2, 1) := by decide +kernel
theorem dX10_most_91 : decode cX10_most 91 = .ok (.iload_n 1, 1) := by decide +kernel
theorem dX10_most_92 : decode cX10_most 92 = .ok (.iload_n 2, 1) := by decide +kernel
theorem dX10_most_93 : decode cX10_most 93 = .ok (.iconst 2, 1) := by decide +kernel
theorem dX10_most_94 : decode cX10_most 94 = .ok (.if_icmp .ne 10, 3) := by decide +kernel
theorem dX10_most_97 : decode cX10_most 97 = .ok (.iload 6, 2) := by decide +kernel
theorem dX10_most_99 : decode cX10_most 99 = .ok (.iconst 1, 1) := by decide +kernel
theorem dX10_most_100 : decode cX10_most 100 = .ok (.isub, 1) := by decide +kernel
theorem dX10_most_101 : decode cX10_most 101 = .ok (.goto 5, 3) := by decide +kernel
theorem dX10_most_104 : decode cX10_most 104 = .ok (.iload 6, 2) := by decide +kernel
theorem dX10_most_106 : decode cX10_most 106 = .ok (.invokevirtual 231, 3) := by decide +kernel
theorem dX10_most_109 : decode cX10_most 109 = .ok (.istore 9, 2) := by decide +kernel
theorem dX10_most_111 : decode cX10_most 111 = .ok (.iload 7, 2) := by decide +kernel
theorem dX10_most_113 : decode cX10_most 113 = .ok (.ldc 223, 2) := by decide +kernel
theorem dX10_most_115 : decode cX10_most 115 = .ok (.if_icmp .eq 17, 3) := by decide +kernel
theorem dX10_most_118 : decode cX10_most 118 = .ok (.iload 8, 2) := by decide +kernel
theorem dX10_most_120 : decode cX10_most 120 = .ok (.ldc 223, 2) := by decide +kernel
theorem dX10_most_122 : decode cX10_most 122 = .ok (.if_icmp .eq 10, 3) := by decide +kernel
theorem dX10_most_125 : decode cX10_most 125 = .ok (.iload 9, 2) := by decide +kernel
theorem dX10_most_127 : decode cX10_most 127 = .ok (.ldc 223, 2) := by decide +kernel
theorem dX10_most_129 : decode cX10_most 129 = .ok (.if_icmp .ne 8, 3) := by decide +kernel
theorem dX10_most_132 : decode cX10_most 132 = .ok (.ldc 223, 2) := by decide +kernel
theorem dX10_most_134 : decode cX10_most 134 = .ok (.goto 11, 3) := by decide +kernel
theorem dX10_most_137 : decode cX10_most 137 = .ok (.iload 7, 2) := by decide +kernel
theorem dX10_most_139 : decode cX10_most 139 = .ok (.iload 8, 2) := by decide +kernel
theorem dX10_most_141 : decode cX10_most 141 = .ok (.iadd, 1) := by decide +kernel
theorem dX10_most_142 : decode cX10_most 142 = .ok (.iload 9, 2) := by decide +kernel
theorem dX10_most_144 : decode cX10_most 144 = .ok (.iadd, 1) := by decide +kernel
theorem dX10_most_145 : decode cX10_most 145 = .ok (.istore 10, 2) := by decide +kernel
theorem dX10_most_147 : decode cX10_most 147 = .ok (.iload 10, 2) := by decide +kernel
theorem dX10_most_149 : decode cX10_most 149 = .ok (.ldc 223, 2) := by decide +kernel
theorem dX10_most_151 : decode cX10_most 151 = .ok (.if_icmp .le 34, 3) := by decide +kernel
theorem dX10_most_154 : decode cX10_most 154 = .ok (.iload 10, 2) := by decide +kernel
theorem dX10_most_156 : decode cX10_most 156 = .ok (.iload_n 3, 1) := by decide +kernel
theorem dX10_most_157 : decode cX10_most 157 = .ok (.if_icmp .ne 28, 3) := by decide +kernel
theorem dX10_most_160 : decode cX10_most 160 = .ok (.iload 4, 2) := by decide +kernel
theorem dX10_most_162 : decode cX10_most 162 = .ok (.iload 5, 2) := by decide +kernel
theorem dX10_most_164 : decode cX10_most 164 = .ok (.invokestatic 234, 3) := by decide +kernel
theorem dX10_most_167 : decode cX10_most 167 = .ok (.aload_n 0, 1) := by decide +kernel
theorem dX10_most_168 : decode cX10_most 168 = .ok (.getfield 238, 3) := by decide +kernel
theorem dX10_most_171 : decode cX10_most 171 = .ok (.aload_n 0, 1) := by decide +kernel
theorem dX10_most_172 : decode cX10_most 172 = .ok (.getfield 241, 3) := by decide +kernel
theorem dX10_most_175 : decode cX10_most 175 = .ok (.invokestatic 234, 3) := by decide +kernel
theorem dX10_most_178 : decode cX10_most 178 = .ok (.if_icmp .ge 7, 3) := by decide +kernel
theorem dX10_most_181 : decode cX10_most 181 = .ok (.iconst 1, 1) := by decide +kernel
theorem dX10_most_182 : decode cX10_most 182 = .ok (.goto 4, 3) := by decide +kernel
theorem dX10_most_185 : decode cX10_most 185 = .ok (.iconst 0, 1) := by decide +kernel
theorem dX10_most_186 : decode cX10_most 186 = .ok (.istore 11, 2) := by decide +kernel
theorem dX10_most_188 : decode cX10_most 188 = .ok (.iload 10, 2) := by decide +kernel
theorem dX10_most_190 : decode cX10_most 190 = .ok (.iload_n 3, 1) := by decide +kernel
theorem dX10_most_191 : decode cX10_most 191 = .ok (.if_icmp .gt 8, 3) := by decide +kernel
theorem dX10_most_194 : decode cX10_most 194 = .ok (.iload 11, 2) := by decide +kernel
theorem dX10_most_196 : decode cX10_most 196 = .ok (.ifCond .eq 18, 3) := by decide +kernel
theorem dX10_most_199 : decode cX10_most 199 = .ok (.iload 10, 2) := by decide +kernel
theorem dX10_most_201 : decode cX10_most 201 = .ok (.istore_n 3, 1) := by decide +kernel
theorem dX10_most_202 : decode cX10_most 202 = .ok (.aload_n 0, 1) := by decide +kernel
theorem dX10_most_203 : decode cX10_most 203 = .ok (.iload 4, 2) := by decide +kernel
theorem dX10_most_205 : decode cX10_most 205 = .ok (.putfield 238, 3) := by decide +kernel
theorem dX10_most_208 : decode cX10_most 208 = .ok (.aload_n 0, 1) := by decide +kernel
theorem dX10_most_209 : decode cX10_most 209 = .ok (.iload 5, 2) := by decide +kernel
theorem dX10_most_211 : decode cX10_most 211 = .ok (.putfield 241, 3) := by decide +kernel
theorem dX10_most_214 : decode cX10_most 214 = .ok (.iinc 5 1, 3) := by decide +kernel
theorem dX10_most_217 : decode cX10_most 217 = .ok (.goto (-199), 3) := by decide +kernel
theorem dX10_most_220 : decode cX10_most 220 = .ok (.iinc 4 1, 3) := by decide +kernel
theorem dX10_most_223 : decode cX10_most 223 = .ok (.goto (-216), 3) := by decide +kernel
theorem dX10_most_226 : decode cX10_most 226 = .ok (.iload_n 3, 1) := by decide +kernel
theorem dX10_most_227 : decode cX10_most 227 = .ok (.ireturn, 1) := by decide +kernel
theorem dX10_isAllowed_0 : decode cX10_isAllowed 0 = .ok (.iconst 1, 1) := by decide +kernel
theorem dX10_isAllowed_1 : decode cX10_isAllowed 1 = .ok (.istore_n 2, 1) := by decide +kernel
theorem dX10_isAllowed_2 : decode cX10_isAllowed 2 = .ok (.iconst 0, 1) := by decide +kernel
theorem dX10_isAllowed_3 : decode cX10_isAllowed 3 = .ok (.istore_n 3, 1) := by decide +kernel
theorem dX10_isAllowed_4 : decode cX10_isAllowed 4 = .ok (.iload_n 3, 1) := by decide +kernel
theorem dX10_isAllowed_5 : decode cX10_isAllowed 5 = .ok (.aload_n 0, 1) := by decide +kernel
theorem dX10_isAllowed_6 : decode cX10_isAllowed 6 = .ok (.getfield 204, 3) := by decide +kernel
theorem dX10_isAllowed_9 : decode cX10_isAllowed 9 = .ok (.if_icmp .ge 130, 3) := by decide +kernel
theorem dX10_isAllowed_12 : decode cX10_isAllowed 12 = .ok (.iload_n 1, 1) := by decide +kernel
theorem dX10_isAllowed_13 : decode cX10_isAllowed 13 = .ok (.iload_n 3, 1) := by decide +kernel
theorem dX10_isAllowed_14 : decode cX10_isAllowed 14 = .ok (.ishr, 1) := by decide +kernel
theorem dX10_isAllowed_15 : decode cX10_isAllowed 15 = .ok (.iconst 1, 1) := by decide +kernel
theorem dX10_isAllowed_16 : decode cX10_isAllowed 16 = .ok (.iand, 1) := by decide +kernel
theorem dX10_isAllowed_17 : decode cX10_isAllowed 17 = .ok (.iconst 1, 1) := by decide +kernel
theorem dX10_isAllowed_18 : decode cX10_isAllowed 18 = .ok (.if_icmp .ne 7, 3) := by decide +kernel
theorem dX10_isAllowed_21 : decode cX10_isAllowed 21 = .ok (.iconst 1, 1) := by decide +kernel
theorem dX10_isAllowed_22 : decode cX10_isAllowed 22 = .ok (.goto 4, 3) := by decide +kernel
theorem dX10_isAllowed_25 : decode cX10_isAllowed 25 = .ok (.iconst 0, 1) := by decide +kernel
theorem dX10_isAllowed_26 : decode cX10_isAllowed 26 = .ok (.istore 4, 2) := by decide +kernel
theorem dX10_isAllowed_28 : decode cX10_isAllowed 28 = .ok (.iload_n 2, 1) := by decide +kernel
theorem dX10_isAllowed_29 : decode cX10_isAllowed 29 = .ok (.ifCond .eq 37, 3) := by decide +kernel
theorem dX10_isAllowed_32 : decode cX10_isAllowed 32 = .ok (.iload 4, 2) := by decide +kernel
theorem dX10_isAllowed_34 : decode cX10_isAllowed 34 = .ok (.ifCond .eq 28, 3) := by decide +kernel
theorem dX10_isAllowed_37 : decode cX10_isAllowed 37 = .ok (.aload_n 0, 1) := by decide +kernel
theorem dX10_isAllowed_38 : decode cX10_isAllowed 38 = .ok (.getfield 64, 3) := by decide +kernel
theorem dX10_isAllowed_41 : decode cX10_isAllowed 41 = .ok (.iload_n 3, 1) := by decide +kernel
theorem dX10_isAllowed_42 : decode cX10_isAllowed 42 = .ok (.iaload, 1) := by decide +kernel
theorem dX10_isAllowed_43 : decode cX10_isAllowed 43 = .ok (.ifCond .eq 19, 3) := by decide +kernel
theorem dX10_isAllowed_46 : decode cX10_isAllowed 46 = .ok (.iload_n 1, 1) := by decide +kernel
theorem dX10_isAllowed_47 : decode cX10_isAllowed 47 = .ok (.aload_n 0, 1) := by decide +kernel
theorem dX10_isAllowed_48 : decode cX10_isAllowed 48 = .ok (.getfield 64, 3) := by decide +kernel
theorem dX10_isAllowed_51 : decode cX10_isAllowed 51 = .ok (.iload_n 3, 1) := by decide +kernel
theorem dX10_isAllowed_52 : decode cX10_isAllowed 52 = .ok (.iaload, 1) := by decide +kernel
theorem dX10_isAllowed_53 : decode cX10_isAllowed 53 = .ok (.iconst 1, 1) := by decide +kernel
theorem dX10_isAllowed_54 : decode cX10_isAllowed 54 = .ok (.isub, 1) := by decide +kernel
theorem dX10_isAllowed_55 : decode cX10_isAllowed 55 = .ok (.ishr, 1) := by decide +kernel
theorem dX10_isAllowed_56 : decode cX10_isAllowed 56 = .ok (.iconst 1, 1) := by decide +kernel
theorem dX10_isAllowed_57 : decode cX10_isAllowed 57 = .ok (.iand, 1) := by decide +kernel
theorem dX10_isAllowed_58 : decode cX10_isAllowed 58 = .ok (.iconst 1, 1) := by decide +kernel
theorem dX10_isAllowed_59 : decode cX10_isAllowed 59 = .ok (.if_icmp .ne 7, 3) := by decide +kernel
theorem dX10_isAllowed_62 : decode cX10_isAllowed 62 = .ok (.iconst 1, 1) := by decide +kernel
theorem dX10_isAllowed_63 : decode cX10_isAllowed 63 = .ok (.goto 4, 3) := by decide +kernel
theorem dX10_isAllowed_66 : decode cX10_isAllowed 66 = .ok (.iconst 0, 1) := by decide +kernel
theorem dX10_isAllowed_67 : decode cX10_isAllowed 67 = .ok (.istore_n 2, 1) := by decide +kernel
theorem dX10_isAllowed_68 : decode cX10_isAllowed 68 = .ok (.iconst 0, 1) := by decide +kernel
theorem dX10_isAllowed_69 : decode cX10_isAllowed 69 = .ok (.istore 5, 2) := by decide +kernel
theorem dX10_isAllowed_71 : decode cX10_isAllowed 71 = .ok (.iload 5, 2) := by decide +kernel
theorem dX10_isAllowed_73 : decode cX10_isAllowed 73 = .ok (.iload_n 3, 1) := by decide +kernel
theorem dX10_isAllowed_74 : decode cX10_isAllowed 74 = .ok (.if_icmp .ge 59, 3) := by decide +kernel
theorem dX10_isAllowed_77 : decode cX10_isAllowed 77 = .ok (.iload_n 2, 1) := by decide +kernel
theorem dX10_isAllowed_78 : decode cX10_isAllowed 78 = .ok (.ifCond .eq 47, 3) := by decide +kernel
theorem dX10_isAllowed_81 : decode cX10_isAllowed 81 = .ok (.iload 4, 2) := by decide +kernel
theorem dX10_isAllowed_83 : decode cX10_isAllowed 83 = .ok (.ifCond .eq 38, 3) := by decide +kernel
theorem dX10_isAllowed_86 : decode cX10_isAllowed 86 = .ok (.iload_n 1, 1) := by decide +kernel
theorem dX10_isAllowed_87 : decode cX10_isAllowed 87 = .ok (.iload 5, 2) := by decide +kernel
theorem dX10_isAllowed_89 : decode cX10_isAllowed 89 = .ok (.ishr, 1) := by decide +kernel
theorem dX10_isAllowed_90 : decode cX10_isAllowed 90 = .ok (.iconst 1, 1) := by decide +kernel
theorem dX10_isAllowed_91 : decode cX10_isAllowed 91 = .ok (.iand, 1) := by decide +kernel
theorem dX10_isAllowed_92 : decode cX10_isAllowed 92 = .ok (.iconst 1, 1) := by decide +kernel
theorem dX10_isAllowed_93 : decode cX10_isAllowed 93 = .ok (.if_icmp .ne 28, 3) := by decide +kernel
theorem dX10_isAllowed_96 : decode cX10_isAllowed 96 = .ok (.aload_n 0, 1) := by decide +kernel
theorem dX10_isAllowed_97 : decode cX10_isAllowed 97 = .ok (.getfield 67, 3) := by decide +kernel
theorem dX10_isAllowed_100 : decode cX10_isAllowed 100 = .ok (.iload_n 3, 1) := by decide +kernel
theorem dX10_isAllowed_101 : decode cX10_isAllowed 101 = .ok (.iaload, 1) := by decide +kernel
theorem dX10_isAllowed_102 : decode cX10_isAllowed 102 = .ok (.ifCond .le 19, 3) := by decide +kernel
theorem dX10_isAllowed_105 : decode cX10_isAllowed 105 = .ok (.aload_n 0, 1) := by decide +kernel
theorem dX10_isAllowed_106 : decode cX10_isAllowed 106 = .ok (.getfield 67, 3) := by decide +kernel
theorem dX10_isAllowed_109 : decode cX10_isAllowed 109 = .ok (.iload_n 3, 1) := by decide +kernel
theorem dX10_isAllowed_110 : decode cX10_isAllowed 110 = .ok (.iaload, 1) := by decide +kernel
theorem dX10_isAllowed_111 : decode cX10_isAllowed 111 = .ok (.aload_n 0, 1) := by decide +kernel
theorem dX10_isAllowed_112 : decode cX10_isAllowed 112 = .ok (.getfield 67, 3) := by decide +kernel
theorem dX10_isAllowed_115 : decode cX10_isAllowed 115 = .ok (.iload 5, 2) := by decide +kernel
theorem dX10_isAllowed_117 : decode cX10_isAllowed 117 = .ok (.iaload, 1) := by decide +kernel
theorem dX10_isAllowed_118 : decode cX10_isAllowed 118 = .ok (.if_icmp .eq 7, 3) := by decide +kernel
theorem dX10_isAllowed_121 : decode cX10_isAllowed 121 = .ok (.iconst 1, 1) := by decide +kernel
theorem dX10_isAllowed_122 : decode cX10_isAllowed 122 = .ok (.goto 4, 3) := by decide +kernel
theorem dX10_isAllowed_125 : decode cX10_isAllowed 125 = .ok (.iconst 0, 1) := by decide +kernel
theorem dX10_isAllowed_126 : decode cX10_isAllowed 126 = .ok (.istore_n 2, 1) := by decide +kernel
theorem dX10_isAllowed_127 : decode cX10_isAllowed 127 = .ok (.iinc 5 1, 3) := by decide +kernel
theorem dX10_isAllowed_130 : decode cX10_isAllowed 130 = .ok (.goto (-59), 3) := by decide +kernel
theorem dX10_isAllowed_133 : decode cX10_isAllowed 133 = .ok (.iinc 3 1, 3) := by decide +kernel
theorem dX10_isAllowed_136 : decode cX10_isAllowed 136 = .ok (.goto (-132), 3) := by decide +kernel
theorem dX10_isAllowed_139 : decode cX10_isAllowed 139 = .ok (.iload_n 2, 1) := by decide +kernel
theorem dX10_isAllowed_140 : decode cX10_isAllowed 140 = .ok (.ireturn, 1) := by decide +kernel
theorem dX10_pricesOf_0 : decode cX10_pricesOf 0 = .ok (.iconst 0, 1) := by decide +kernel
theorem dX10_pricesOf_1 : decode cX10_pricesOf 1 = .ok (.istore 4, 2) := by decide +kernel
theorem dX10_pricesOf_3 : decode cX10_pricesOf 3 = .ok (.iconst 0, 1) := by decide +kernel
theorem dX10_pricesOf_4 : decode cX10_pricesOf 4 = .ok (.istore 5, 2) := by decide +kernel
theorem dX10_pricesOf_6 : decode cX10_pricesOf 6 = .ok (.iload 5, 2) := by decide +kernel
theorem dX10_pricesOf_8 : decode cX10_pricesOf 8 = .ok (.iconst 4, 1) := by decide +kernel
theorem dX10_pricesOf_9 : decode cX10_pricesOf 9 = .ok (.if_icmp .ge 48, 3) := by decide +kernel
theorem dX10_pricesOf_12 : decode cX10_pricesOf 12 = .ok (.iload 4, 2) := by decide +kernel
theorem dX10_pricesOf_14 : decode cX10_pricesOf 14 = .ok (.aload_n 0, 1) := by decide +kernel
theorem dX10_pricesOf_15 : decode cX10_pricesOf 15 = .ok (.getfield 52, 3) := by decide +kernel
theorem dX10_pricesOf_18 : decode cX10_pricesOf 18 = .ok (.iload_n 1, 1) := by decide +kernel
theorem dX10_pricesOf_19 : decode cX10_pricesOf 19 = .ok (.iaload, 1) := by decide +kernel
theorem dX10_pricesOf_20 : decode cX10_pricesOf 20 = .ok (.iload 5, 2) := by decide +kernel
theorem dX10_pricesOf_22 : decode cX10_pricesOf 22 = .ok (.ishr, 1) := by decide +kernel
theorem dX10_pricesOf_23 : decode cX10_pricesOf 23 = .ok (.iconst 1, 1) := by decide +kernel
theorem dX10_pricesOf_24 : decode cX10_pricesOf 24 = .ok (.iand, 1) := by decide +kernel
theorem dX10_pricesOf_25 : decode cX10_pricesOf 25 = .ok (.iconst 1, 1) := by decide +kernel
theorem dX10_pricesOf_26 : decode cX10_pricesOf 26 = .ok (.if_icmp .ne 21, 3) := by decide +kernel
theorem dX10_pricesOf_29 : decode cX10_pricesOf 29 = .ok (.aload_n 2, 1) := by decide +kernel
theorem dX10_pricesOf_30 : decode cX10_pricesOf 30 = .ok (.iload_n 3, 1) := by decide +kernel
theorem dX10_pricesOf_31 : decode cX10_pricesOf 31 = .ok (.iconst 4, 1) := by decide +kernel
theorem dX10_pricesOf_32 : decode cX10_pricesOf 32 = .ok (.aload_n 0, 1) := by decide +kernel
theorem dX10_pricesOf_33 : decode cX10_pricesOf 33 = .ok (.getfield 49, 3) := by decide +kernel
theorem dX10_pricesOf_36 : decode cX10_pricesOf 36 = .ok (.iload_n 1, 1) := by decide +kernel
theorem dX10_pricesOf_37 : decode cX10_pricesOf 37 = .ok (.iaload, 1) := by decide +kernel
theorem dX10_pricesOf_38 : decode cX10_pricesOf 38 = .ok (.imul, 1) := by decide +kernel
theorem dX10_pricesOf_39 : decode cX10_pricesOf 39 = .ok (.iadd, 1) := by decide +kernel
theorem dX10_pricesOf_40 : decode cX10_pricesOf 40 = .ok (.iload 5, 2) := by decide +kernel
theorem dX10_pricesOf_42 : decode cX10_pricesOf 42 = .ok (.iadd, 1) := by decide +kernel
theorem dX10_pricesOf_43 : decode cX10_pricesOf 43 = .ok (.iaload, 1) := by decide +kernel
theorem dX10_pricesOf_44 : decode cX10_pricesOf 44 = .ok (.goto 4, 3) := by decide +kernel
theorem dX10_pricesOf_47 : decode cX10_pricesOf 47 = .ok (.iconst 0, 1) := by decide +kernel
theorem dX10_pricesOf_48 : decode cX10_pricesOf 48 = .ok (.iadd, 1) := by decide +kernel
theorem dX10_pricesOf_49 : decode cX10_pricesOf 49 = .ok (.istore 4, 2) := by decide +kernel
theorem dX10_pricesOf_51 : decode cX10_pricesOf 51 = .ok (.iinc 5 1, 3) := by decide +kernel
theorem dX10_pricesOf_54 : decode cX10_pricesOf 54 = .ok (.goto (-48), 3) := by decide +kernel
theorem dX10_pricesOf_57 : decode cX10_pricesOf 57 = .ok (.iload 4, 2) := by decide +kernel
theorem dX10_pricesOf_59 : decode cX10_pricesOf 59 = .ok (.ireturn, 1) := by decide +kernel
theorem dX10_hoursOf_0 : decode cX10_hoursOf 0 = .ok (.iconst 0, 1) := by decide +kernel
theorem dX10_hoursOf_1 : decode cX10_hoursOf 1 = .ok (.istore_n 2, 1) := by decide +kernel
theorem dX10_hoursOf_2 : decode cX10_hoursOf 2 = .ok (.iconst 0, 1) := by decide +kernel
theorem dX10_hoursOf_3 : decode cX10_hoursOf 3 = .ok (.istore_n 3, 1) := by decide +kernel
theorem dX10_hoursOf_4 : decode cX10_hoursOf 4 = .ok (.iload_n 3, 1) := by decide +kernel
theorem dX10_hoursOf_5 : decode cX10_hoursOf 5 = .ok (.iconst 4, 1) := by decide +kernel
theorem dX10_hoursOf_6 : decode cX10_hoursOf 6 = .ok (.if_icmp .ge 22, 3) := by decide +kernel
theorem dX10_hoursOf_9 : decode cX10_hoursOf 9 = .ok (.iload_n 2, 1) := by decide +kernel
theorem dX10_hoursOf_10 : decode cX10_hoursOf 10 = .ok (.aload_n 0, 1) := by decide +kernel
theorem dX10_hoursOf_11 : decode cX10_hoursOf 11 = .ok (.getfield 52, 3) := by decide +kernel
theorem dX10_hoursOf_14 : decode cX10_hoursOf 14 = .ok (.iload_n 1, 1) := by decide +kernel
theorem dX10_hoursOf_15 : decode cX10_hoursOf 15 = .ok (.iaload, 1) := by decide +kernel
theorem dX10_hoursOf_16 : decode cX10_hoursOf 16 = .ok (.iload_n 3, 1) := by decide +kernel
theorem dX10_hoursOf_17 : decode cX10_hoursOf 17 = .ok (.ishr, 1) := by decide +kernel
theorem dX10_hoursOf_18 : decode cX10_hoursOf 18 = .ok (.iconst 1, 1) := by decide +kernel
theorem dX10_hoursOf_19 : decode cX10_hoursOf 19 = .ok (.iand, 1) := by decide +kernel
theorem dX10_hoursOf_20 : decode cX10_hoursOf 20 = .ok (.iadd, 1) := by decide +kernel
theorem dX10_hoursOf_21 : decode cX10_hoursOf 21 = .ok (.istore_n 2, 1) := by decide +kernel
theorem dX10_hoursOf_22 : decode cX10_hoursOf 22 = .ok (.iinc 3 1, 3) := by decide +kernel
theorem dX10_hoursOf_25 : decode cX10_hoursOf 25 = .ok (.goto (-21), 3) := by decide +kernel
theorem dX10_hoursOf_28 : decode cX10_hoursOf 28 = .ok (.iload_n 2, 1) := by decide +kernel
theorem dX10_hoursOf_29 : decode cX10_hoursOf 29 = .ok (.ireturn, 1) := by decide +kernel
set_option maxRecDepth 20000 in
theorem ggX10_gainOf_X10_pricesOf : GoodIn wsX10_gainOf wsX10_pricesOf := goodIn_r _ [7, 8, 9, 14, 15, 16, 17, 18, 19, 20, 21, 22, 23, 24, 25, 26, 27, 28, 29, 30, 31, 32, 33, 34, 35, 36, 37, 38, 39, 40, 41, 42, 43, 44, 45, 46, 47, 48, 49, 50, 51, 52, 53, 54, 55, 56, 57, 58, 59, 60, 61, 62, 63, 64, 65, 66, 67, 68, 69, 70, 71, 72, 73, 74, 75, 76, 77, 78, 79, 80, 81] (by decide +kernel) (by decide +kernel)
set_option maxRecDepth 20000 in
theorem gX10_gainOf_X10_pricesOf : GoodIn wsX10_gainOf (wsV RX10 244 RX10 yX10_pricesOf wsX10_pricesOf) := goodIn_app (goodIn_of _ (by decide +kernel)) ggX10_gainOf_X10_pricesOf
set_option maxRecDepth 20000 in
theorem ggX10_gainOf_X10_hoursOf : GoodIn wsX10_gainOf wsX10_hoursOf := goodIn_r _ [13, 8, 14, 15, 16, 17, 18, 19, 20, 21, 22, 23, 24, 25, 26, 27, 28, 29, 30, 31, 32, 33, 34, 35, 36, 37, 38, 39, 40, 41, 42, 43, 44, 45, 46, 47, 48, 49, 50, 51, 52, 53, 54, 55, 56, 57, 58, 59, 60, 61, 62, 63, 64, 65, 66, 67, 68, 69, 70, 71, 72, 73, 74, 75, 76, 77, 78, 79, 80, 81] (by decide +kernel) (by decide +kernel)
set_option maxRecDepth 20000 in
theorem gX10_gainOf_X10_hoursOf : GoodIn wsX10_gainOf (wsV RX10 248 RX10 yX10_hoursOf wsX10_hoursOf) := goodIn_app (goodIn_of _ (by decide +kernel)) ggX10_gainOf_X10_hoursOf
theorem dX10_gainOf_0 : decode cX10_gainOf 0 = .ok (.aload_n 0, 1) := by decide +kernel
theorem dX10_gainOf_1 : decode cX10_gainOf 1 = .ok (.iload_n 1, 1) := by decide +kernel
theorem dX10_gainOf_2 : decode cX10_gainOf 2 = .ok (.aload_n 2, 1) := by decide +kernel
theorem dX10_gainOf_3 : decode cX10_gainOf 3 = .ok (.iload_n 3, 1) := by decide +kernel
theorem dX10_gainOf_4 : decode cX10_gainOf 4 = .ok (.invokevirtual 244, 3) := by decide +kernel
theorem dX10_gainOf_7 : decode cX10_gainOf 7 = .ok (.aload_n 0, 1) := by decide +kernel
theorem dX10_gainOf_8 : decode cX10_gainOf 8 = .ok (.getfield 58, 3) := by decide +kernel
theorem dX10_gainOf_11 : decode cX10_gainOf 11 = .ok (.iload_n 1, 1) := by decide +kernel
theorem dX10_gainOf_12 : decode cX10_gainOf 12 = .ok (.iaload, 1) := by decide +kernel
theorem dX10_gainOf_13 : decode cX10_gainOf 13 = .ok (.aload_n 0, 1) := by decide +kernel
theorem dX10_gainOf_14 : decode cX10_gainOf 14 = .ok (.iload_n 1, 1) := by decide +kernel
theorem dX10_gainOf_15 : decode cX10_gainOf 15 = .ok (.invokevirtual 248, 3) := by decide +kernel
theorem dX10_gainOf_18 : decode cX10_gainOf 18 = .ok (.imul, 1) := by decide +kernel
theorem dX10_gainOf_19 : decode cX10_gainOf 19 = .ok (.isub, 1) := by decide +kernel
theorem dX10_gainOf_20 : decode cX10_gainOf 20 = .ok (.istore 4, 2) := by decide +kernel
theorem dX10_gainOf_22 : decode cX10_gainOf 22 = .ok (.aload_n 0, 1) := by decide +kernel
theorem dX10_gainOf_23 : decode cX10_gainOf 23 = .ok (.getfield 55, 3) := by decide +kernel
theorem dX10_gainOf_26 : decode cX10_gainOf 26 = .ok (.iload_n 1, 1) := by decide +kernel
theorem dX10_gainOf_27 : decode cX10_gainOf 27 = .ok (.iaload, 1) := by decide +kernel
theorem dX10_gainOf_28 : decode cX10_gainOf 28 = .ok (.iconst 1, 1) := by decide +kernel
theorem dX10_gainOf_29 : decode cX10_gainOf 29 = .ok (.if_icmp .ne 9, 3) := by decide +kernel
theorem dX10_gainOf_32 : decode cX10_gainOf 32 = .ok (.iload 4, 2) := by decide +kernel
theorem dX10_gainOf_34 : decode cX10_gainOf 34 = .ok (.ineg, 1) := by decide +kernel
theorem dX10_gainOf_35 : decode cX10_gainOf 35 = .ok (.goto 5, 3) := by decide +kernel
theorem dX10_gainOf_38 : decode cX10_gainOf 38 = .ok (.iload 4, 2) := by decide +kernel
theorem dX10_gainOf_40 : decode cX10_gainOf 40 = .ok (.ireturn, 1) := by decide +kernel
theorem dX10_lays_0 : decode cX10_lays 0 = .ok (.iconst 0, 1) := by decide +kernel
theorem dX10_lays_1 : decode cX10_lays 1 = .ok (.istore_n 2, 1) := by decide +kernel
theorem dX10_lays_2 : decode cX10_lays 2 = .ok (.iload_n 2, 1) := by decide +kernel
theorem dX10_lays_3 : decode cX10_lays 3 = .ok (.bipush 12, 2) := by decide +kernel
theorem dX10_lays_5 : decode cX10_lays 5 = .ok (.if_icmp .ge 16, 3) := by decide +kernel
theorem dX10_lays_8 : decode cX10_lays 8 = .ok (.aload_n 0, 1) := by decide +kernel
theorem dX10_lays_9 : decode cX10_lays 9 = .ok (.getfield 166, 3) := by decide +kernel
theorem dX10_lays_12 : decode cX10_lays 12 = .ok (.iload_n 2, 1) := by decide +kernel
theorem dX10_lays_13 : decode cX10_lays 13 = .ok (.iconst 0, 1) := by decide +kernel
theorem dX10_lays_14 : decode cX10_lays 14 = .ok (.iastore, 1) := by decide +kernel
theorem dX10_lays_15 : decode cX10_lays 15 = .ok (.iinc 2 1, 3) := by decide +kernel
theorem dX10_lays_18 : decode cX10_lays 18 = .ok (.goto (-16), 3) := by decide +kernel
theorem dX10_lays_21 : decode cX10_lays 21 = .ok (.iconst 0, 1) := by decide +kernel
theorem dX10_lays_22 : decode cX10_lays 22 = .ok (.istore_n 2, 1) := by decide +kernel
theorem dX10_lays_23 : decode cX10_lays 23 = .ok (.iload_n 2, 1) := by decide +kernel
theorem dX10_lays_24 : decode cX10_lays 24 = .ok (.aload_n 0, 1) := by decide +kernel
theorem dX10_lays_25 : decode cX10_lays 25 = .ok (.getfield 204, 3) := by decide +kernel
theorem dX10_lays_28 : decode cX10_lays 28 = .ok (.if_icmp .ge 105, 3) := by decide +kernel
theorem dX10_lays_31 : decode cX10_lays 31 = .ok (.iconst 0, 1) := by decide +kernel
theorem dX10_lays_32 : decode cX10_lays 32 = .ok (.istore_n 3, 1) := by decide +kernel
theorem dX10_lays_33 : decode cX10_lays 33 = .ok (.iload_n 3, 1) := by decide +kernel
theorem dX10_lays_34 : decode cX10_lays 34 = .ok (.iconst 4, 1) := by decide +kernel
theorem dX10_lays_35 : decode cX10_lays 35 = .ok (.if_icmp .ge 92, 3) := by decide +kernel
theorem dX10_lays_38 : decode cX10_lays 38 = .ok (.iload_n 1, 1) := by decide +kernel
theorem dX10_lays_39 : decode cX10_lays 39 = .ok (.iload_n 2, 1) := by decide +kernel
theorem dX10_lays_40 : decode cX10_lays 40 = .ok (.ishr, 1) := by decide +kernel
theorem dX10_lays_41 : decode cX10_lays 41 = .ok (.iconst 1, 1) := by decide +kernel
theorem dX10_lays_42 : decode cX10_lays 42 = .ok (.iand, 1) := by decide +kernel
theorem dX10_lays_43 : decode cX10_lays 43 = .ok (.iconst 1, 1) := by decide +kernel
theorem dX10_lays_44 : decode cX10_lays 44 = .ok (.if_icmp .ne 21, 3) := by decide +kernel
theorem dX10_lays_47 : decode cX10_lays 47 = .ok (.aload_n 0, 1) := by decide +kernel
theorem dX10_lays_48 : decode cX10_lays 48 = .ok (.getfield 52, 3) := by decide +kernel
theorem dX10_lays_51 : decode cX10_lays 51 = .ok (.iload_n 2, 1) := by decide +kernel
theorem dX10_lays_52 : decode cX10_lays 52 = .ok (.iaload, 1) := by decide +kernel
theorem dX10_lays_53 : decode cX10_lays 53 = .ok (.iload_n 3, 1) := by decide +kernel
theorem dX10_lays_54 : decode cX10_lays 54 = .ok (.ishr, 1) := by decide +kernel
theorem dX10_lays_55 : decode cX10_lays 55 = .ok (.iconst 1, 1) := by decide +kernel
theorem dX10_lays_56 : decode cX10_lays 56 = .ok (.iand, 1) := by decide +kernel
theorem dX10_lays_57 : decode cX10_lays 57 = .ok (.iconst 1, 1) := by decide +kernel
theorem dX10_lays_58 : decode cX10_lays 58 = .ok (.if_icmp .ne 7, 3) := by decide +kernel
theorem dX10_lays_61 : decode cX10_lays 61 = .ok (.iconst 1, 1) := by decide +kernel
theorem dX10_lays_62 : decode cX10_lays 62 = .ok (.goto 4, 3) := by decide +kernel
theorem dX10_lays_65 : decode cX10_lays 65 = .ok (.iconst 0, 1) := by decide +kernel
theorem dX10_lays_66 : decode cX10_lays 66 = .ok (.istore 4, 2) := by decide +kernel
theorem dX10_lays_68 : decode cX10_lays 68 = .ok (.aload_n 0, 1) := by decide +kernel
theorem dX10_lays_69 : decode cX10_lays 69 = .ok (.getfield 166, 3) := by decide +kernel
theorem dX10_lays_72 : decode cX10_lays 72 = .ok (.iconst 4, 1) := by decide +kernel
theorem dX10_lays_73 : decode cX10_lays 73 = .ok (.aload_n 0, 1) := by decide +kernel
theorem dX10_lays_74 : decode cX10_lays 74 = .ok (.getfield 49, 3) := by decide +kernel
theorem dX10_lays_77 : decode cX10_lays 77 = .ok (.iload_n 2, 1) := by decide +kernel
theorem dX10_lays_78 : decode cX10_lays 78 = .ok (.iaload, 1) := by decide +kernel
theorem dX10_lays_79 : decode cX10_lays 79 = .ok (.imul, 1) := by decide +kernel
theorem dX10_lays_80 : decode cX10_lays 80 = .ok (.iload_n 3, 1) := by decide +kernel
theorem dX10_lays_81 : decode cX10_lays 81 = .ok (.iadd, 1) := by decide +kernel
theorem dX10_lays_82 : decode cX10_lays 82 = .ok (.dup2, 1) := by decide +kernel
theorem dX10_lays_83 : decode cX10_lays 83 = .ok (.iaload, 1) := by decide +kernel
theorem dX10_lays_84 : decode cX10_lays 84 = .ok (.iload 4, 2) := by decide +kernel
theorem dX10_lays_86 : decode cX10_lays 86 = .ok (.ifCond .ne 7, 3) := by decide +kernel
theorem dX10_lays_89 : decode cX10_lays 89 = .ok (.iconst 0, 1) := by decide +kernel
theorem dX10_lays_90 : decode cX10_lays 90 = .ok (.goto 29, 3) := by decide +kernel
theorem dX10_lays_93 : decode cX10_lays 93 = .ok (.aload_n 0, 1) := by decide +kernel
theorem dX10_lays_94 : decode cX10_lays 94 = .ok (.getfield 55, 3) := by decide +kernel
theorem dX10_lays_97 : decode cX10_lays 97 = .ok (.iload_n 2, 1) := by decide +kernel
theorem dX10_lays_98 : decode cX10_lays 98 = .ok (.iaload, 1) := by decide +kernel
theorem dX10_lays_99 : decode cX10_lays 99 = .ok (.iconst 1, 1) := by decide +kernel
theorem dX10_lays_100 : decode cX10_lays 100 = .ok (.if_icmp .ne 13, 3) := by decide +kernel
theorem dX10_lays_103 : decode cX10_lays 103 = .ok (.aload_n 0, 1) := by decide +kernel
theorem dX10_lays_104 : decode cX10_lays 104 = .ok (.getfield 61, 3) := by decide +kernel
theorem dX10_lays_107 : decode cX10_lays 107 = .ok (.iload_n 2, 1) := by decide +kernel
theorem dX10_lays_108 : decode cX10_lays 108 = .ok (.iaload, 1) := by decide +kernel
theorem dX10_lays_109 : decode cX10_lays 109 = .ok (.ineg, 1) := by decide +kernel
theorem dX10_lays_110 : decode cX10_lays 110 = .ok (.goto 9, 3) := by decide +kernel
theorem dX10_lays_113 : decode cX10_lays 113 = .ok (.aload_n 0, 1) := by decide +kernel
theorem dX10_lays_114 : decode cX10_lays 114 = .ok (.getfield 61, 3) := by decide +kernel
theorem dX10_lays_117 : decode cX10_lays 117 = .ok (.iload_n 2, 1) := by decide +kernel
theorem dX10_lays_118 : decode cX10_lays 118 = .ok (.iaload, 1) := by decide +kernel
theorem dX10_lays_119 : decode cX10_lays 119 = .ok (.iadd, 1) := by decide +kernel
theorem dX10_lays_120 : decode cX10_lays 120 = .ok (.iastore, 1) := by decide +kernel
theorem dX10_lays_121 : decode cX10_lays 121 = .ok (.iinc 3 1, 3) := by decide +kernel
theorem dX10_lays_124 : decode cX10_lays 124 = .ok (.goto (-91), 3) := by decide +kernel
theorem dX10_lays_127 : decode cX10_lays 127 = .ok (.iinc 2 1, 3) := by decide +kernel
theorem dX10_lays_130 : decode cX10_lays 130 = .ok (.goto (-107), 3) := by decide +kernel
theorem dX10_lays_133 : decode cX10_lays 133 = .ok (.return_, 1) := by decide +kernel
set_option maxRecDepth 20000 in
theorem ggX10_worthOfBlocks_X10_hoursOf : GoodIn wsX10_worthOfBlocks wsX10_hoursOf := goodIn_r _ [9, 10, 11, 12, 13, 14, 15, 16, 17, 18, 19, 20, 21, 22, 23, 24, 25, 26, 27, 28, 29, 30, 31, 32, 33, 34, 35, 36, 37, 38, 39, 40, 41, 42, 43, 44, 45, 46, 47, 48, 49, 50, 51, 52, 53, 54, 55, 56, 57, 58, 59, 60, 61, 62, 63, 64, 65, 66, 67, 68, 69, 70, 71, 72, 73, 74, 75, 76, 77, 78] (by decide +kernel) (by decide +kernel)
set_option maxRecDepth 20000 in
theorem gX10_worthOfBlocks_X10_hoursOf : GoodIn wsX10_worthOfBlocks (wsV RX10 248 RX10 yX10_hoursOf wsX10_hoursOf) := goodIn_app (goodIn_of _ (by decide +kernel)) ggX10_worthOfBlocks_X10_hoursOf
theorem dX10_worthOfBlocks_0 : decode cX10_worthOfBlocks 0 = .ok (.iconst 0, 1) := by decide +kernel
theorem dX10_worthOfBlocks_1 : decode cX10_worthOfBlocks 1 = .ok (.istore_n 2, 1) := by decide +kernel
theorem dX10_worthOfBlocks_2 : decode cX10_worthOfBlocks 2 = .ok (.iconst 0, 1) := by decide +kernel
theorem dX10_worthOfBlocks_3 : decode cX10_worthOfBlocks 3 = .ok (.istore_n 3, 1) := by decide +kernel
theorem dX10_worthOfBlocks_4 : decode cX10_worthOfBlocks 4 = .ok (.iload_n 3, 1) := by decide +kernel
theorem dX10_worthOfBlocks_5 : decode cX10_worthOfBlocks 5 = .ok (.aload_n 0, 1) := by decide +kernel
theorem dX10_worthOfBlocks_6 : decode cX10_worthOfBlocks 6 = .ok (.getfield 204, 3) := by decide +kernel
theorem dX10_worthOfBlocks_9 : decode cX10_worthOfBlocks 9 = .ok (.if_icmp .ge 63, 3) := by decide +kernel
theorem dX10_worthOfBlocks_12 : decode cX10_worthOfBlocks 12 = .ok (.aload_n 0, 1) := by decide +kernel
theorem dX10_worthOfBlocks_13 : decode cX10_worthOfBlocks 13 = .ok (.getfield 58, 3) := by decide +kernel
theorem dX10_worthOfBlocks_16 : decode cX10_worthOfBlocks 16 = .ok (.iload_n 3, 1) := by decide +kernel
theorem dX10_worthOfBlocks_17 : decode cX10_worthOfBlocks 17 = .ok (.iaload, 1) := by decide +kernel
theorem dX10_worthOfBlocks_18 : decode cX10_worthOfBlocks 18 = .ok (.aload_n 0, 1) := by decide +kernel
theorem dX10_worthOfBlocks_19 : decode cX10_worthOfBlocks 19 = .ok (.getfield 61, 3) := by decide +kernel
theorem dX10_worthOfBlocks_22 : decode cX10_worthOfBlocks 22 = .ok (.iload_n 3, 1) := by decide +kernel
theorem dX10_worthOfBlocks_23 : decode cX10_worthOfBlocks 23 = .ok (.iaload, 1) := by decide +kernel
theorem dX10_worthOfBlocks_24 : decode cX10_worthOfBlocks 24 = .ok (.imul, 1) := by decide +kernel
theorem dX10_worthOfBlocks_25 : decode cX10_worthOfBlocks 25 = .ok (.aload_n 0, 1) := by decide +kernel
theorem dX10_worthOfBlocks_26 : decode cX10_worthOfBlocks 26 = .ok (.iload_n 3, 1) := by decide +kernel
theorem dX10_worthOfBlocks_27 : decode cX10_worthOfBlocks 27 = .ok (.invokevirtual 248, 3) := by decide +kernel
theorem dX10_worthOfBlocks_30 : decode cX10_worthOfBlocks 30 = .ok (.imul, 1) := by decide +kernel
theorem dX10_worthOfBlocks_31 : decode cX10_worthOfBlocks 31 = .ok (.istore 4, 2) := by decide +kernel
theorem dX10_worthOfBlocks_33 : decode cX10_worthOfBlocks 33 = .ok (.iload_n 2, 1) := by decide +kernel
theorem dX10_worthOfBlocks_34 : decode cX10_worthOfBlocks 34 = .ok (.iload_n 1, 1) := by decide +kernel
theorem dX10_worthOfBlocks_35 : decode cX10_worthOfBlocks 35 = .ok (.iload_n 3, 1) := by decide +kernel
theorem dX10_worthOfBlocks_36 : decode cX10_worthOfBlocks 36 = .ok (.ishr, 1) := by decide +kernel
theorem dX10_worthOfBlocks_37 : decode cX10_worthOfBlocks 37 = .ok (.iconst 1, 1) := by decide +kernel
theorem dX10_worthOfBlocks_38 : decode cX10_worthOfBlocks 38 = .ok (.iand, 1) := by decide +kernel
theorem dX10_worthOfBlocks_39 : decode cX10_worthOfBlocks 39 = .ok (.ifCond .ne 7, 3) := by decide +kernel
theorem dX10_worthOfBlocks_42 : decode cX10_worthOfBlocks 42 = .ok (.iconst 0, 1) := by decide +kernel
theorem dX10_worthOfBlocks_43 : decode cX10_worthOfBlocks 43 = .ok (.goto 21, 3) := by decide +kernel
theorem dX10_worthOfBlocks_46 : decode cX10_worthOfBlocks 46 = .ok (.aload_n 0, 1) := by decide +kernel
theorem dX10_worthOfBlocks_47 : decode cX10_worthOfBlocks 47 = .ok (.getfield 55, 3) := by decide +kernel
theorem dX10_worthOfBlocks_50 : decode cX10_worthOfBlocks 50 = .ok (.iload_n 3, 1) := by decide +kernel
theorem dX10_worthOfBlocks_51 : decode cX10_worthOfBlocks 51 = .ok (.iaload, 1) := by decide +kernel
theorem dX10_worthOfBlocks_52 : decode cX10_worthOfBlocks 52 = .ok (.iconst 1, 1) := by decide +kernel
theorem dX10_worthOfBlocks_53 : decode cX10_worthOfBlocks 53 = .ok (.if_icmp .ne 8, 3) := by decide +kernel
theorem dX10_worthOfBlocks_56 : decode cX10_worthOfBlocks 56 = .ok (.iload 4, 2) := by decide +kernel
theorem dX10_worthOfBlocks_58 : decode cX10_worthOfBlocks 58 = .ok (.goto 6, 3) := by decide +kernel
theorem dX10_worthOfBlocks_61 : decode cX10_worthOfBlocks 61 = .ok (.iload 4, 2) := by decide +kernel
theorem dX10_worthOfBlocks_63 : decode cX10_worthOfBlocks 63 = .ok (.ineg, 1) := by decide +kernel
theorem dX10_worthOfBlocks_64 : decode cX10_worthOfBlocks 64 = .ok (.iadd, 1) := by decide +kernel
theorem dX10_worthOfBlocks_65 : decode cX10_worthOfBlocks 65 = .ok (.istore_n 2, 1) := by decide +kernel
theorem dX10_worthOfBlocks_66 : decode cX10_worthOfBlocks 66 = .ok (.iinc 3 1, 3) := by decide +kernel
theorem dX10_worthOfBlocks_69 : decode cX10_worthOfBlocks 69 = .ok (.goto (-65), 3) := by decide +kernel
theorem dX10_worthOfBlocks_72 : decode cX10_worthOfBlocks 72 = .ok (.iload_n 2, 1) := by decide +kernel
theorem dX10_worthOfBlocks_73 : decode cX10_worthOfBlocks 73 = .ok (.ireturn, 1) := by decide +kernel
set_option maxRecDepth 20000 in
theorem ggX10_tries_X10_lays : GoodIn wsX10_tries wsX10_lays := goodIn_r _ [11, 12, 6, 13, 14, 15, 16, 54, 55, 56, 57, 58, 59, 60, 61, 62, 63, 64, 65, 66, 67, 68, 69, 70, 71, 72, 73, 74, 75, 76, 77, 78, 79, 80, 81, 82, 83, 84, 85, 86, 87, 88, 89, 90, 91, 92, 93, 94, 95, 96, 97, 98, 99, 100, 101, 102, 103, 104, 105, 106, 107, 108, 109, 110, 111, 112, 113, 114, 115, 116, 117, 118, 119, 120, 121] (by decide +kernel) (by decide +kernel)
set_option maxRecDepth 20000 in
theorem gX10_tries_X10_lays : GoodIn wsX10_tries (wsV RX10 251 RX10 yX10_lays wsX10_lays) := goodIn_app (goodIn_of _ (by decide +kernel)) ggX10_tries_X10_lays
set_option maxRecDepth 20000 in
theorem ggX10_tries_X10_worthOfBlocks : GoodIn wsX10_tries wsX10_worthOfBlocks := goodIn_r _ [20, 6, 21, 16, 15, 22, 23, 24, 10, 25, 13, 54, 55, 56, 57, 58, 59, 60, 61, 62, 63, 64, 65, 66, 67, 68, 69, 70, 71, 72, 73, 74, 75, 76, 77, 78, 79, 80, 81, 82, 83, 84, 85, 86, 87, 88, 89, 90, 91, 92, 93, 94, 95, 96, 97, 98, 99, 100, 101, 102, 103, 104, 105, 106, 107, 108, 109, 110, 111, 112, 113, 114, 115, 116, 117, 118, 119, 120, 121] (by decide +kernel) (by decide +kernel)
set_option maxRecDepth 20000 in
theorem gX10_tries_X10_worthOfBlocks : GoodIn wsX10_tries (wsV RX10 255 RX10 yX10_worthOfBlocks wsX10_worthOfBlocks) := goodIn_app (goodIn_of _ (by decide +kernel)) ggX10_tries_X10_worthOfBlocks
set_option maxRecDepth 20000 in
theorem ggX10_tries_X10_most : GoodIn wsX10_tries wsX10_most := goodIn_r _ [29, 1, 3, 4, 30, 31, 32, 10, 33, 34, 35, 36, 37, 38, 39, 40, 41, 42, 12, 43, 44, 45, 54, 55, 56, 57, 58, 59, 60, 61, 62, 63, 64, 65, 66, 67, 68, 69, 70, 71, 72, 73, 74, 75, 76, 77, 78, 79, 80, 81, 82, 83, 84, 85, 86, 87, 88, 89, 90, 91, 92, 93, 94, 95, 96, 97, 98, 99, 100, 101, 102, 103, 104, 105, 106, 107, 108, 109, 110, 111, 112, 113, 114, 115, 116, 117, 118, 119, 120, 121] (by decide +kernel) (by decide +kernel)
set_option maxRecDepth 20000 in
theorem gX10_tries_X10_most : GoodIn wsX10_tries (wsV RX10 258 RX10 yX10_most wsX10_most) := goodIn_app (goodIn_of _ (by decide +kernel)) ggX10_tries_X10_most
set_option maxRecDepth 20000 in
theorem ggX10_tries_X10_gainOf : GoodIn wsX10_tries wsX10_gainOf := goodIn_r _ [49, 21, 15, 50, 51, 52, 10, 53, 13, 14, 22, 23, 24, 25, 54, 55, 56, 57, 58, 59, 60, 61, 62, 63, 64, 65, 66, 67, 68, 69, 70, 71, 72, 73, 74, 75, 76, 77, 78, 79, 80, 81, 82, 83, 84, 85, 86, 87, 88, 89, 90, 91, 92, 93, 94, 95, 96, 97, 98, 99, 100, 101, 102, 103, 104, 105, 106, 107, 108, 109, 110, 111, 112, 113, 114, 115, 116, 117, 118, 119, 120, 121] (by decide +kernel) (by decide +kernel)
set_option maxRecDepth 20000 in
theorem gX10_tries_X10_gainOf : GoodIn wsX10_tries (wsV RX10 261 RX10 yX10_gainOf wsX10_gainOf) := goodIn_app (goodIn_of _ (by decide +kernel)) ggX10_tries_X10_gainOf
theorem dX10_tries_0 : decode cX10_tries 0 = .ok (.aload_n 0, 1) := by decide +kernel
theorem dX10_tries_1 : decode cX10_tries 1 = .ok (.iload_n 1, 1) := by decide +kernel
theorem dX10_tries_2 : decode cX10_tries 2 = .ok (.invokevirtual 251, 3) := by decide +kernel
theorem dX10_tries_5 : decode cX10_tries 5 = .ok (.aload_n 0, 1) := by decide +kernel
theorem dX10_tries_6 : decode cX10_tries 6 = .ok (.iload_n 1, 1) := by decide +kernel
theorem dX10_tries_7 : decode cX10_tries 7 = .ok (.invokevirtual 255, 3) := by decide +kernel
theorem dX10_tries_10 : decode cX10_tries 10 = .ok (.istore_n 2, 1) := by decide +kernel
theorem dX10_tries_11 : decode cX10_tries 11 = .ok (.iconst 0, 1) := by decide +kernel
theorem dX10_tries_12 : decode cX10_tries 12 = .ok (.istore_n 3, 1) := by decide +kernel
theorem dX10_tries_13 : decode cX10_tries 13 = .ok (.iload_n 3, 1) := by decide +kernel
theorem dX10_tries_14 : decode cX10_tries 14 = .ok (.iconst 4, 1) := by decide +kernel
theorem dX10_tries_15 : decode cX10_tries 15 = .ok (.if_icmp .ge 124, 3) := by decide +kernel
theorem dX10_tries_18 : decode cX10_tries 18 = .ok (.aload_n 0, 1) := by decide +kernel
theorem dX10_tries_19 : decode cX10_tries 19 = .ok (.iload_n 3, 1) := by decide +kernel
theorem dX10_tries_20 : decode cX10_tries 20 = .ok (.iconst (-1), 1) := by decide +kernel
theorem dX10_tries_21 : decode cX10_tries 21 = .ok (.invokevirtual 258, 3) := by decide +kernel
theorem dX10_tries_24 : decode cX10_tries 24 = .ok (.istore 4, 2) := by decide +kernel
theorem dX10_tries_26 : decode cX10_tries 26 = .ok (.iload 4, 2) := by decide +kernel
theorem dX10_tries_28 : decode cX10_tries 28 = .ok (.ldc 223, 2) := by decide +kernel
theorem dX10_tries_30 : decode cX10_tries 30 = .ok (.if_icmp .ne 6, 3) := by decide +kernel
theorem dX10_tries_33 : decode cX10_tries 33 = .ok (.ldc 223, 2) := by decide +kernel
theorem dX10_tries_35 : decode cX10_tries 35 = .ok (.ireturn, 1) := by decide +kernel
theorem dX10_tries_36 : decode cX10_tries 36 = .ok (.iload_n 2, 1) := by decide +kernel
theorem dX10_tries_37 : decode cX10_tries 37 = .ok (.iload 4, 2) := by decide +kernel
theorem dX10_tries_39 : decode cX10_tries 39 = .ok (.iadd, 1) := by decide +kernel
theorem dX10_tries_40 : decode cX10_tries 40 = .ok (.istore_n 2, 1) := by decide +kernel
theorem dX10_tries_41 : decode cX10_tries 41 = .ok (.aload_n 0, 1) := by decide +kernel
theorem dX10_tries_42 : decode cX10_tries 42 = .ok (.getfield 169, 3) := by decide +kernel
theorem dX10_tries_45 : decode cX10_tries 45 = .ok (.iload_n 3, 1) := by decide +kernel
theorem dX10_tries_46 : decode cX10_tries 46 = .ok (.aload_n 0, 1) := by decide +kernel
theorem dX10_tries_47 : decode cX10_tries 47 = .ok (.getfield 238, 3) := by decide +kernel
theorem dX10_tries_50 : decode cX10_tries 50 = .ok (.iastore, 1) := by decide +kernel
theorem dX10_tries_51 : decode cX10_tries 51 = .ok (.aload_n 0, 1) := by decide +kernel
theorem dX10_tries_52 : decode cX10_tries 52 = .ok (.getfield 169, 3) := by decide +kernel
theorem dX10_tries_55 : decode cX10_tries 55 = .ok (.iconst 4, 1) := by decide +kernel
theorem dX10_tries_56 : decode cX10_tries 56 = .ok (.iload_n 3, 1) := by decide +kernel
theorem dX10_tries_57 : decode cX10_tries 57 = .ok (.iadd, 1) := by decide +kernel
theorem dX10_tries_58 : decode cX10_tries 58 = .ok (.aload_n 0, 1) := by decide +kernel
theorem dX10_tries_59 : decode cX10_tries 59 = .ok (.getfield 241, 3) := by decide +kernel
theorem dX10_tries_62 : decode cX10_tries 62 = .ok (.iastore, 1) := by decide +kernel
theorem dX10_tries_63 : decode cX10_tries 63 = .ok (.aload_n 0, 1) := by decide +kernel
theorem dX10_tries_64 : decode cX10_tries 64 = .ok (.getfield 169, 3) := by decide +kernel
theorem dX10_tries_67 : decode cX10_tries 67 = .ok (.bipush 8, 2) := by decide +kernel
theorem dX10_tries_69 : decode cX10_tries 69 = .ok (.iload_n 3, 1) := by decide +kernel
theorem dX10_tries_70 : decode cX10_tries 70 = .ok (.iadd, 1) := by decide +kernel
theorem dX10_tries_71 : decode cX10_tries 71 = .ok (.aload_n 0, 1) := by decide +kernel
theorem dX10_tries_72 : decode cX10_tries 72 = .ok (.getfield 238, 3) := by decide +kernel
theorem dX10_tries_75 : decode cX10_tries 75 = .ok (.ineg, 1) := by decide +kernel
theorem dX10_tries_76 : decode cX10_tries 76 = .ok (.aload_n 0, 1) := by decide +kernel
theorem dX10_tries_77 : decode cX10_tries 77 = .ok (.getfield 241, 3) := by decide +kernel
theorem dX10_tries_80 : decode cX10_tries 80 = .ok (.isub, 1) := by decide +kernel
theorem dX10_tries_81 : decode cX10_tries 81 = .ok (.iastore, 1) := by decide +kernel
theorem dX10_tries_82 : decode cX10_tries 82 = .ok (.iconst 0, 1) := by decide +kernel
theorem dX10_tries_83 : decode cX10_tries 83 = .ok (.istore 5, 2) := by decide +kernel
theorem dX10_tries_85 : decode cX10_tries 85 = .ok (.iload 5, 2) := by decide +kernel
theorem dX10_tries_87 : decode cX10_tries 87 = .ok (.iconst 3, 1) := by decide +kernel
theorem dX10_tries_88 : decode cX10_tries 88 = .ok (.if_icmp .ge 45, 3) := by decide +kernel
theorem dX10_tries_91 : decode cX10_tries 91 = .ok (.aload_n 0, 1) := by decide +kernel
theorem dX10_tries_92 : decode cX10_tries 92 = .ok (.iload_n 3, 1) := by decide +kernel
theorem dX10_tries_93 : decode cX10_tries 93 = .ok (.iload 5, 2) := by decide +kernel
theorem dX10_tries_95 : decode cX10_tries 95 = .ok (.invokevirtual 258, 3) := by decide +kernel
theorem dX10_tries_98 : decode cX10_tries 98 = .ok (.istore 6, 2) := by decide +kernel
theorem dX10_tries_100 : decode cX10_tries 100 = .ok (.aload_n 0, 1) := by decide +kernel
theorem dX10_tries_101 : decode cX10_tries 101 = .ok (.getfield 172, 3) := by decide +kernel
theorem dX10_tries_104 : decode cX10_tries 104 = .ok (.iconst 4, 1) := by decide +kernel
theorem dX10_tries_105 : decode cX10_tries 105 = .ok (.iload 5, 2) := by decide +kernel
theorem dX10_tries_107 : decode cX10_tries 107 = .ok (.imul, 1) := by decide +kernel
theorem dX10_tries_108 : decode cX10_tries 108 = .ok (.iload_n 3, 1) := by decide +kernel
theorem dX10_tries_109 : decode cX10_tries 109 = .ok (.iadd, 1) := by decide +kernel
theorem dX10_tries_110 : decode cX10_tries 110 = .ok (.iload 6, 2) := by decide +kernel
theorem dX10_tries_112 : decode cX10_tries 112 = .ok (.iload 4, 2) := by decide +kernel
theorem dX10_tries_114 : decode cX10_tries 114 = .ok (.if_icmp .le 11, 3) := by decide +kernel
theorem dX10_tries_117 : decode cX10_tries 117 = .ok (.iload 6, 2) := by decide +kernel
theorem dX10_tries_119 : decode cX10_tries 119 = .ok (.iload 4, 2) := by decide +kernel
theorem dX10_tries_121 : decode cX10_tries 121 = .ok (.isub, 1) := by decide +kernel
theorem dX10_tries_122 : decode cX10_tries 122 = .ok (.goto 4, 3) := by decide +kernel
theorem dX10_tries_125 : decode cX10_tries 125 = .ok (.iconst 0, 1) := by decide +kernel
theorem dX10_tries_126 : decode cX10_tries 126 = .ok (.iastore, 1) := by decide +kernel
theorem dX10_tries_127 : decode cX10_tries 127 = .ok (.iinc 5 1, 3) := by decide +kernel
theorem dX10_tries_130 : decode cX10_tries 130 = .ok (.goto (-45), 3) := by decide +kernel
theorem dX10_tries_133 : decode cX10_tries 133 = .ok (.iinc 3 1, 3) := by decide +kernel
theorem dX10_tries_136 : decode cX10_tries 136 = .ok (.goto (-123), 3) := by decide +kernel
theorem dX10_tries_139 : decode cX10_tries 139 = .ok (.iconst 0, 1) := by decide +kernel
theorem dX10_tries_140 : decode cX10_tries 140 = .ok (.istore_n 3, 1) := by decide +kernel
theorem dX10_tries_141 : decode cX10_tries 141 = .ok (.iload_n 3, 1) := by decide +kernel
theorem dX10_tries_142 : decode cX10_tries 142 = .ok (.aload_n 0, 1) := by decide +kernel
theorem dX10_tries_143 : decode cX10_tries 143 = .ok (.getfield 204, 3) := by decide +kernel
theorem dX10_tries_146 : decode cX10_tries 146 = .ok (.if_icmp .ge 34, 3) := by decide +kernel
theorem dX10_tries_149 : decode cX10_tries 149 = .ok (.iload_n 1, 1) := by decide +kernel
theorem dX10_tries_150 : decode cX10_tries 150 = .ok (.iload_n 3, 1) := by decide +kernel
theorem dX10_tries_151 : decode cX10_tries 151 = .ok (.ishr, 1) := by decide +kernel
theorem dX10_tries_152 : decode cX10_tries 152 = .ok (.iconst 1, 1) := by decide +kernel
theorem dX10_tries_153 : decode cX10_tries 153 = .ok (.iand, 1) := by decide +kernel
theorem dX10_tries_154 : decode cX10_tries 154 = .ok (.iconst 1, 1) := by decide +kernel
theorem dX10_tries_155 : decode cX10_tries 155 = .ok (.if_icmp .ne 19, 3) := by decide +kernel
theorem dX10_tries_158 : decode cX10_tries 158 = .ok (.aload_n 0, 1) := by decide +kernel
theorem dX10_tries_159 : decode cX10_tries 159 = .ok (.iload_n 3, 1) := by decide +kernel
theorem dX10_tries_160 : decode cX10_tries 160 = .ok (.aload_n 0, 1) := by decide +kernel
theorem dX10_tries_161 : decode cX10_tries 161 = .ok (.getfield 172, 3) := by decide +kernel
theorem dX10_tries_164 : decode cX10_tries 164 = .ok (.iconst 0, 1) := by decide +kernel
theorem dX10_tries_165 : decode cX10_tries 165 = .ok (.invokevirtual 261, 3) := by decide +kernel
theorem dX10_tries_168 : decode cX10_tries 168 = .ok (.ifCond .ge 6, 3) := by decide +kernel
theorem dX10_tries_171 : decode cX10_tries 171 = .ok (.ldc 223, 2) := by decide +kernel
theorem dX10_tries_173 : decode cX10_tries 173 = .ok (.ireturn, 1) := by decide +kernel
theorem dX10_tries_174 : decode cX10_tries 174 = .ok (.iinc 3 1, 3) := by decide +kernel
theorem dX10_tries_177 : decode cX10_tries 177 = .ok (.goto (-36), 3) := by decide +kernel
theorem dX10_tries_180 : decode cX10_tries 180 = .ok (.iload_n 2, 1) := by decide +kernel
theorem dX10_tries_181 : decode cX10_tries 181 = .ok (.ireturn, 1) := by decide +kernel
set_option maxRecDepth 20000 in
theorem ggX10_takes_X10_forgets : GoodIn wsX10_takes wsX10_forgets := goodIn_r _ [8, 1, 18, 19, 20, 21, 22, 23, 24, 25, 26, 27, 28, 29, 30, 31, 32, 33, 34, 35, 36, 37, 38, 39, 40, 41, 42, 43, 44, 45, 46, 47, 48, 49, 50, 51, 52, 53, 54, 55, 56, 57, 58, 59, 60, 61, 62, 63, 64, 65, 66, 67, 68, 69, 70, 71, 72, 73, 74, 75, 76, 77, 78, 79, 80, 81, 82, 83, 84, 85] (by decide +kernel) (by decide +kernel)
set_option maxRecDepth 20000 in
theorem gX10_takes_X10_forgets : GoodIn wsX10_takes (wsV RX10 264 RX10 yX10_forgets wsX10_forgets) := goodIn_app (goodIn_of _ (by decide +kernel)) ggX10_takes_X10_forgets
set_option maxRecDepth 20000 in
theorem ggX10_takes_X10_nextBid : GoodIn wsX10_takes wsX10_nextBid := goodIn_r _ [12, 13, 1, 14, 15, 16, 17, 18, 19, 20, 21, 22, 23, 24, 25, 26, 27, 28, 29, 30, 31, 32, 33, 34, 35, 36, 37, 38, 39, 40, 41, 42, 43, 44, 45, 46, 47, 48, 49, 50, 51, 52, 53, 54, 55, 56, 57, 58, 59, 60, 61, 62, 63, 64, 65, 66, 67, 68, 69, 70, 71, 72, 73, 74, 75, 76, 77, 78, 79, 80, 81, 82, 83, 84, 85] (by decide +kernel) (by decide +kernel)
set_option maxRecDepth 20000 in
theorem gX10_takes_X10_nextBid : GoodIn wsX10_takes (wsV RX10 210 RX10 yX10_nextBid wsX10_nextBid) := goodIn_app (goodIn_of _ (by decide +kernel)) ggX10_takes_X10_nextBid
theorem dX10_takes_0 : decode cX10_takes 0 = .ok (.iload 4, 2) := by decide +kernel
theorem dX10_takes_2 : decode cX10_takes 2 = .ok (.istore 5, 2) := by decide +kernel
theorem dX10_takes_4 : decode cX10_takes 4 = .ok (.aload_n 0, 1) := by decide +kernel
theorem dX10_takes_5 : decode cX10_takes 5 = .ok (.invokevirtual 264, 3) := by decide +kernel
theorem dX10_takes_8 : decode cX10_takes 8 = .ok (.iload 5, 2) := by decide +kernel
theorem dX10_takes_10 : decode cX10_takes 10 = .ok (.ifCond .le 66, 3) := by decide +kernel
theorem dX10_takes_13 : decode cX10_takes 13 = .ok (.aload_n 0, 1) := by decide +kernel
theorem dX10_takes_14 : decode cX10_takes 14 = .ok (.iload_n 1, 1) := by decide +kernel
theorem dX10_takes_15 : decode cX10_takes 15 = .ok (.iload_n 2, 1) := by decide +kernel
theorem dX10_takes_16 : decode cX10_takes 16 = .ok (.iload_n 3, 1) := by decide +kernel
theorem dX10_takes_17 : decode cX10_takes 17 = .ok (.invokevirtual 210, 3) := by decide +kernel
theorem dX10_takes_20 : decode cX10_takes 20 = .ok (.istore 6, 2) := by decide +kernel
theorem dX10_takes_22 : decode cX10_takes 22 = .ok (.aload_n 0, 1) := by decide +kernel
theorem dX10_takes_23 : decode cX10_takes 23 = .ok (.getfield 43, 3) := by decide +kernel
theorem dX10_takes_26 : decode cX10_takes 26 = .ok (.iload 6, 2) := by decide +kernel
theorem dX10_takes_28 : decode cX10_takes 28 = .ok (.iconst 1, 1) := by decide +kernel
theorem dX10_takes_29 : decode cX10_takes 29 = .ok (.iastore, 1) := by decide +kernel
theorem dX10_takes_30 : decode cX10_takes 30 = .ok (.aload_n 0, 1) := by decide +kernel
theorem dX10_takes_31 : decode cX10_takes 31 = .ok (.getfield 40, 3) := by decide +kernel
theorem dX10_takes_34 : decode cX10_takes 34 = .ok (.iload 6, 2) := by decide +kernel
theorem dX10_takes_36 : decode cX10_takes 36 = .ok (.aload_n 0, 1) := by decide +kernel
theorem dX10_takes_37 : decode cX10_takes 37 = .ok (.getfield 37, 3) := by decide +kernel
theorem dX10_takes_40 : decode cX10_takes 40 = .ok (.iload 6, 2) := by decide +kernel
theorem dX10_takes_42 : decode cX10_takes 42 = .ok (.iaload, 1) := by decide +kernel
theorem dX10_takes_43 : decode cX10_takes 43 = .ok (.iload 5, 2) := by decide +kernel
theorem dX10_takes_45 : decode cX10_takes 45 = .ok (.if_icmp .ge 13, 3) := by decide +kernel
theorem dX10_takes_48 : decode cX10_takes 48 = .ok (.aload_n 0, 1) := by decide +kernel
theorem dX10_takes_49 : decode cX10_takes 49 = .ok (.getfield 37, 3) := by decide +kernel
theorem dX10_takes_52 : decode cX10_takes 52 = .ok (.iload 6, 2) := by decide +kernel
theorem dX10_takes_54 : decode cX10_takes 54 = .ok (.iaload, 1) := by decide +kernel
theorem dX10_takes_55 : decode cX10_takes 55 = .ok (.goto 5, 3) := by decide +kernel
theorem dX10_takes_58 : decode cX10_takes 58 = .ok (.iload 5, 2) := by decide +kernel
theorem dX10_takes_60 : decode cX10_takes 60 = .ok (.iastore, 1) := by decide +kernel
theorem dX10_takes_61 : decode cX10_takes 61 = .ok (.iload 5, 2) := by decide +kernel
theorem dX10_takes_63 : decode cX10_takes 63 = .ok (.aload_n 0, 1) := by decide +kernel
theorem dX10_takes_64 : decode cX10_takes 64 = .ok (.getfield 40, 3) := by decide +kernel
theorem dX10_takes_67 : decode cX10_takes 67 = .ok (.iload 6, 2) := by decide +kernel
theorem dX10_takes_69 : decode cX10_takes 69 = .ok (.iaload, 1) := by decide +kernel
theorem dX10_takes_70 : decode cX10_takes 70 = .ok (.isub, 1) := by decide +kernel
theorem dX10_takes_71 : decode cX10_takes 71 = .ok (.istore 5, 2) := by decide +kernel
theorem dX10_takes_73 : decode cX10_takes 73 = .ok (.goto (-65), 3) := by decide +kernel
theorem dX10_takes_76 : decode cX10_takes 76 = .ok (.return_, 1) := by decide +kernel
theorem dX10_trades_0 : decode cX10_trades 0 = .ok (.aload_n 0, 1) := by decide +kernel
theorem dX10_trades_1 : decode cX10_trades 1 = .ok (.getfield 133, 3) := by decide +kernel
theorem dX10_trades_4 : decode cX10_trades 4 = .ok (.bipush 72, 2) := by decide +kernel
theorem dX10_trades_6 : decode cX10_trades 6 = .ok (.aload_n 0, 1) := by decide +kernel
theorem dX10_trades_7 : decode cX10_trades 7 = .ok (.getfield 183, 3) := by decide +kernel
theorem dX10_trades_10 : decode cX10_trades 10 = .ok (.imul, 1) := by decide +kernel
theorem dX10_trades_11 : decode cX10_trades 11 = .ok (.bipush 12, 2) := by decide +kernel
theorem dX10_trades_13 : decode cX10_trades 13 = .ok (.iload_n 1, 1) := by decide +kernel
theorem dX10_trades_14 : decode cX10_trades 14 = .ok (.imul, 1) := by decide +kernel
theorem dX10_trades_15 : decode cX10_trades 15 = .ok (.iadd, 1) := by decide +kernel
theorem dX10_trades_16 : decode cX10_trades 16 = .ok (.iconst 4, 1) := by decide +kernel
theorem dX10_trades_17 : decode cX10_trades 17 = .ok (.iload_n 2, 1) := by decide +kernel
theorem dX10_trades_18 : decode cX10_trades 18 = .ok (.imul, 1) := by decide +kernel
theorem dX10_trades_19 : decode cX10_trades 19 = .ok (.iadd, 1) := by decide +kernel
theorem dX10_trades_20 : decode cX10_trades 20 = .ok (.iload_n 3, 1) := by decide +kernel
theorem dX10_trades_21 : decode cX10_trades 21 = .ok (.iadd, 1) := by decide +kernel
theorem dX10_trades_22 : decode cX10_trades 22 = .ok (.dup2, 1) := by decide +kernel
theorem dX10_trades_23 : decode cX10_trades 23 = .ok (.iaload, 1) := by decide +kernel
theorem dX10_trades_24 : decode cX10_trades 24 = .ok (.iload 4, 2) := by decide +kernel
theorem dX10_trades_26 : decode cX10_trades 26 = .ok (.iadd, 1) := by decide +kernel
theorem dX10_trades_27 : decode cX10_trades 27 = .ok (.iastore, 1) := by decide +kernel
theorem dX10_trades_28 : decode cX10_trades 28 = .ok (.aload_n 0, 1) := by decide +kernel
theorem dX10_trades_29 : decode cX10_trades 29 = .ok (.getfield 142, 3) := by decide +kernel
theorem dX10_trades_32 : decode cX10_trades 32 = .ok (.bipush 6, 2) := by decide +kernel
theorem dX10_trades_34 : decode cX10_trades 34 = .ok (.aload_n 0, 1) := by decide +kernel
theorem dX10_trades_35 : decode cX10_trades 35 = .ok (.getfield 183, 3) := by decide +kernel
theorem dX10_trades_38 : decode cX10_trades 38 = .ok (.imul, 1) := by decide +kernel
theorem dX10_trades_39 : decode cX10_trades 39 = .ok (.iload_n 1, 1) := by decide +kernel
theorem dX10_trades_40 : decode cX10_trades 40 = .ok (.iadd, 1) := by decide +kernel
theorem dX10_trades_41 : decode cX10_trades 41 = .ok (.dup2, 1) := by decide +kernel
theorem dX10_trades_42 : decode cX10_trades 42 = .ok (.iaload, 1) := by decide +kernel
theorem dX10_trades_43 : decode cX10_trades 43 = .ok (.iload 4, 2) := by decide +kernel
theorem dX10_trades_45 : decode cX10_trades 45 = .ok (.iload 5, 2) := by decide +kernel
theorem dX10_trades_47 : decode cX10_trades 47 = .ok (.imul, 1) := by decide +kernel
theorem dX10_trades_48 : decode cX10_trades 48 = .ok (.iadd, 1) := by decide +kernel
theorem dX10_trades_49 : decode cX10_trades 49 = .ok (.iastore, 1) := by decide +kernel
theorem dX10_trades_50 : decode cX10_trades 50 = .ok (.return_, 1) := by decide +kernel
theorem dX10_givesRights_0 : decode cX10_givesRights 0 = .ok (.aload_n 0, 1) := by decide +kernel
theorem dX10_givesRights_1 : decode cX10_givesRights 1 = .ok (.getfield 7, 3) := by decide +kernel
theorem dX10_givesRights_4 : decode cX10_givesRights 4 = .ok (.iload_n 1, 1) := by decide +kernel
theorem dX10_givesRights_5 : decode cX10_givesRights 5 = .ok (.iload_n 2, 1) := by decide +kernel
theorem dX10_givesRights_6 : decode cX10_givesRights 6 = .ok (.iadd, 1) := by decide +kernel
theorem dX10_givesRights_7 : decode cX10_givesRights 7 = .ok (.iconst 1, 1) := by decide +kernel
theorem dX10_givesRights_8 : decode cX10_givesRights 8 = .ok (.if_icmp .ne 7, 3) := by decide +kernel
theorem dX10_givesRights_11 : decode cX10_givesRights 11 = .ok (.iconst 0, 1) := by decide +kernel
theorem dX10_givesRights_12 : decode cX10_givesRights 12 = .ok (.goto 15, 3) := by decide +kernel
theorem dX10_givesRights_15 : decode cX10_givesRights 15 = .ok (.iload_n 1, 1) := by decide +kernel
theorem dX10_givesRights_16 : decode cX10_givesRights 16 = .ok (.iload_n 2, 1) := by decide +kernel
theorem dX10_givesRights_17 : decode cX10_givesRights 17 = .ok (.iadd, 1) := by decide +kernel
theorem dX10_givesRights_18 : decode cX10_givesRights 18 = .ok (.iconst 3, 1) := by decide +kernel
theorem dX10_givesRights_19 : decode cX10_givesRights 19 = .ok (.if_icmp .ne 7, 3) := by decide +kernel
theorem dX10_givesRights_22 : decode cX10_givesRights 22 = .ok (.iconst 1, 1) := by decide +kernel
theorem dX10_givesRights_23 : decode cX10_givesRights 23 = .ok (.goto 4, 3) := by decide +kernel
theorem dX10_givesRights_26 : decode cX10_givesRights 26 = .ok (.iconst 2, 1) := by decide +kernel
theorem dX10_givesRights_27 : decode cX10_givesRights 27 = .ok (.iaload, 1) := by decide +kernel
theorem dX10_givesRights_28 : decode cX10_givesRights 28 = .ok (.istore_n 3, 1) := by decide +kernel
theorem dX10_givesRights_29 : decode cX10_givesRights 29 = .ok (.iconst 0, 1) := by decide +kernel
theorem dX10_givesRights_30 : decode cX10_givesRights 30 = .ok (.istore 4, 2) := by decide +kernel
theorem dX10_givesRights_32 : decode cX10_givesRights 32 = .ok (.iconst 0, 1) := by decide +kernel
theorem dX10_givesRights_33 : decode cX10_givesRights 33 = .ok (.istore 5, 2) := by decide +kernel
theorem dX10_givesRights_35 : decode cX10_givesRights 35 = .ok (.iconst 0, 1) := by decide +kernel
theorem dX10_givesRights_36 : decode cX10_givesRights 36 = .ok (.istore 6, 2) := by decide +kernel
theorem dX10_givesRights_38 : decode cX10_givesRights 38 = .ok (.iconst 0, 1) := by decide +kernel
theorem dX10_givesRights_39 : decode cX10_givesRights 39 = .ok (.istore 7, 2) := by decide +kernel
theorem dX10_givesRights_41 : decode cX10_givesRights 41 = .ok (.iload 7, 2) := by decide +kernel
theorem dX10_givesRights_43 : decode cX10_givesRights 43 = .ok (.iconst 4, 1) := by decide +kernel
theorem dX10_givesRights_44 : decode cX10_givesRights 44 = .ok (.if_icmp .ge 66, 3) := by decide +kernel
theorem dX10_givesRights_47 : decode cX10_givesRights 47 = .ok (.aload_n 0, 1) := by decide +kernel
theorem dX10_givesRights_48 : decode cX10_givesRights 48 = .ok (.getfield 130, 3) := by decide +kernel
theorem dX10_givesRights_51 : decode cX10_givesRights 51 = .ok (.bipush 12, 2) := by decide +kernel
theorem dX10_givesRights_53 : decode cX10_givesRights 53 = .ok (.aload_n 0, 1) := by decide +kernel
theorem dX10_givesRights_54 : decode cX10_givesRights 54 = .ok (.getfield 183, 3) := by decide +kernel
theorem dX10_givesRights_57 : decode cX10_givesRights 57 = .ok (.imul, 1) := by decide +kernel
theorem dX10_givesRights_58 : decode cX10_givesRights 58 = .ok (.iconst 4, 1) := by decide +kernel
theorem dX10_givesRights_59 : decode cX10_givesRights 59 = .ok (.iload_n 2, 1) := by decide +kernel
theorem dX10_givesRights_60 : decode cX10_givesRights 60 = .ok (.imul, 1) := by decide +kernel
theorem dX10_givesRights_61 : decode cX10_givesRights 61 = .ok (.iadd, 1) := by decide +kernel
theorem dX10_givesRights_62 : decode cX10_givesRights 62 = .ok (.iload 7, 2) := by decide +kernel
theorem dX10_givesRights_64 : decode cX10_givesRights 64 = .ok (.iadd, 1) := by decide +kernel
theorem dX10_givesRights_65 : decode cX10_givesRights 65 = .ok (.iaload, 1) := by decide +kernel
theorem dX10_givesRights_66 : decode cX10_givesRights 66 = .ok (.aload_n 0, 1) := by decide +kernel
theorem dX10_givesRights_67 : decode cX10_givesRights 67 = .ok (.getfield 130, 3) := by decide +kernel
theorem dX10_givesRights_70 : decode cX10_givesRights 70 = .ok (.bipush 12, 2) := by decide +kernel
theorem dX10_givesRights_72 : decode cX10_givesRights 72 = .ok (.aload_n 0, 1) := by decide +kernel
theorem dX10_givesRights_73 : decode cX10_givesRights 73 = .ok (.getfield 183, 3) := by decide +kernel
theorem dX10_givesRights_76 : decode cX10_givesRights 76 = .ok (.imul, 1) := by decide +kernel
theorem dX10_givesRights_77 : decode cX10_givesRights 77 = .ok (.iconst 4, 1) := by decide +kernel
theorem dX10_givesRights_78 : decode cX10_givesRights 78 = .ok (.iload_n 1, 1) := by decide +kernel
theorem dX10_givesRights_79 : decode cX10_givesRights 79 = .ok (.imul, 1) := by decide +kernel
theorem dX10_givesRights_80 : decode cX10_givesRights 80 = .ok (.iadd, 1) := by decide +kernel
theorem dX10_givesRights_81 : decode cX10_givesRights 81 = .ok (.iload 7, 2) := by decide +kernel
theorem dX10_givesRights_83 : decode cX10_givesRights 83 = .ok (.iadd, 1) := by decide +kernel
theorem dX10_givesRights_84 : decode cX10_givesRights 84 = .ok (.iaload, 1) := by decide +kernel
theorem dX10_givesRights_85 : decode cX10_givesRights 85 = .ok (.isub, 1) := by decide +kernel
theorem dX10_givesRights_86 : decode cX10_givesRights 86 = .ok (.istore 8, 2) := by decide +kernel
theorem dX10_givesRights_88 : decode cX10_givesRights 88 = .ok (.iload 6, 2) := by decide +kernel
theorem dX10_givesRights_90 : decode cX10_givesRights 90 = .ok (.iload 8, 2) := by decide +kernel
theorem dX10_givesRights_92 : decode cX10_givesRights 92 = .ok (.ifCond .le 8, 3) := by decide +kernel
theorem dX10_givesRights_95 : decode cX10_givesRights 95 = .ok (.iload 8, 2) := by decide +kernel
theorem dX10_givesRights_97 : decode cX10_givesRights 97 = .ok (.goto 4, 3) := by decide +kernel
theorem dX10_givesRights_100 : decode cX10_givesRights 100 = .ok (.iconst 0, 1) := by decide +kernel
theorem dX10_givesRights_101 : decode cX10_givesRights 101 = .ok (.iadd, 1) := by decide +kernel
theorem dX10_givesRights_102 : decode cX10_givesRights 102 = .ok (.istore 6, 2) := by decide +kernel
theorem dX10_givesRights_104 : decode cX10_givesRights 104 = .ok (.iinc 7 1, 3) := by decide +kernel
theorem dX10_givesRights_107 : decode cX10_givesRights 107 = .ok (.goto (-66), 3) := by decide +kernel
theorem dX10_givesRights_110 : decode cX10_givesRights 110 = .ok (.sipush 500, 3) := by decide +kernel
theorem dX10_givesRights_113 : decode cX10_givesRights 113 = .ok (.istore 7, 2) := by decide +kernel
theorem dX10_givesRights_115 : decode cX10_givesRights 115 = .ok (.iload 7, 2) := by decide +kernel
theorem dX10_givesRights_117 : decode cX10_givesRights 117 = .ok (.ifCond .lt 139, 3) := by decide +kernel
theorem dX10_givesRights_120 : decode cX10_givesRights 120 = .ok (.iconst 0, 1) := by decide +kernel
theorem dX10_givesRights_121 : decode cX10_givesRights 121 = .ok (.istore 8, 2) := by decide +kernel
theorem dX10_givesRights_123 : decode cX10_givesRights 123 = .ok (.iload 8, 2) := by decide +kernel
theorem dX10_givesRights_125 : decode cX10_givesRights 125 = .ok (.aload_n 0, 1) := by decide +kernel
theorem dX10_givesRights_126 : decode cX10_givesRights 126 = .ok (.getfield 207, 3) := by decide +kernel
theorem dX10_givesRights_129 : decode cX10_givesRights 129 = .ok (.if_icmp .ge 121, 3) := by decide +kernel
theorem dX10_givesRights_132 : decode cX10_givesRights 132 = .ok (.aload_n 0, 1) := by decide +kernel
theorem dX10_givesRights_133 : decode cX10_givesRights 133 = .ok (.getfield 73, 3) := by decide +kernel
theorem dX10_givesRights_136 : decode cX10_givesRights 136 = .ok (.iload 8, 2) := by decide +kernel
theorem dX10_givesRights_138 : decode cX10_givesRights 138 = .ok (.iaload, 1) := by decide +kernel
theorem dX10_givesRights_139 : decode cX10_givesRights 139 = .ok (.iload_n 1, 1) := by decide +kernel
theorem dX10_givesRights_140 : decode cX10_givesRights 140 = .ok (.if_icmp .ne 104, 3) := by decide +kernel
theorem dX10_givesRights_143 : decode cX10_givesRights 143 = .ok (.aload_n 0, 1) := by decide +kernel
theorem dX10_givesRights_144 : decode cX10_givesRights 144 = .ok (.getfield 76, 3) := by decide +kernel
theorem dX10_givesRights_147 : decode cX10_givesRights 147 = .ok (.iload 8, 2) := by decide +kernel
theorem dX10_givesRights_149 : decode cX10_givesRights 149 = .ok (.iaload, 1) := by decide +kernel
theorem dX10_givesRights_150 : decode cX10_givesRights 150 = .ok (.iload_n 2, 1) := by decide +kernel
theorem dX10_givesRights_151 : decode cX10_givesRights 151 = .ok (.if_icmp .ne 93, 3) := by decide +kernel
theorem dX10_givesRights_154 : decode cX10_givesRights 154 = .ok (.aload_n 0, 1) := by decide +kernel
theorem dX10_givesRights_155 : decode cX10_givesRights 155 = .ok (.getfield 82, 3) := by decide +kernel
theorem dX10_givesRights_158 : decode cX10_givesRights 158 = .ok (.iload 8, 2) := by decide +kernel
theorem dX10_givesRights_160 : decode cX10_givesRights 160 = .ok (.iaload, 1) := by decide +kernel
theorem dX10_givesRights_161 : decode cX10_givesRights 161 = .ok (.iload 7, 2) := by decide +kernel
theorem dX10_givesRights_163 : decode cX10_givesRights 163 = .ok (.if_icmp .ne 81, 3) := by decide +kernel
theorem dX10_givesRights_166 : decode cX10_givesRights 166 = .ok (.aload_n 0, 1) := by decide +kernel
theorem dX10_givesRights_167 : decode cX10_givesRights 167 = .ok (.getfield 85, 3) := by decide +kernel
theorem dX10_givesRights_170 : decode cX10_givesRights 170 = .ok (.iload 8, 2) := by decide +kernel
theorem dX10_givesRights_172 : decode cX10_givesRights 172 = .ok (.aload_n 0, 1) := by decide +kernel
theorem dX10_givesRights_173 : decode cX10_givesRights 173 = .ok (.getfield 79, 3) := by decide +kernel
theorem dX10_givesRights_176 : decode cX10_givesRights 176 = .ok (.iload 8, 2) := by decide +kernel
theorem dX10_givesRights_178 : decode cX10_givesRights 178 = .ok (.iaload, 1) := by decide +kernel
theorem dX10_givesRights_179 : decode cX10_givesRights 179 = .ok (.iload_n 3, 1) := by decide +kernel
theorem dX10_givesRights_180 : decode cX10_givesRights 180 = .ok (.if_icmp .ge 13, 3) := by decide +kernel
theorem dX10_givesRights_183 : decode cX10_givesRights 183 = .ok (.aload_n 0, 1) := by decide +kernel
theorem dX10_givesRights_184 : decode cX10_givesRights 184 = .ok (.getfield 79, 3) := by decide +kernel
theorem dX10_givesRights_187 : decode cX10_givesRights 187 = .ok (.iload 8, 2) := by decide +kernel
theorem dX10_givesRights_189 : decode cX10_givesRights 189 = .ok (.iaload, 1) := by decide +kernel
theorem dX10_givesRights_190 : decode cX10_givesRights 190 = .ok (.goto 4, 3) := by decide +kernel
theorem dX10_givesRights_193 : decode cX10_givesRights 193 = .ok (.iload_n 3, 1) := by decide +kernel
theorem dX10_givesRights_194 : decode cX10_givesRights 194 = .ok (.iastore, 1) := by decide +kernel
theorem dX10_givesRights_195 : decode cX10_givesRights 195 = .ok (.iload_n 3, 1) := by decide +kernel
theorem dX10_givesRights_196 : decode cX10_givesRights 196 = .ok (.aload_n 0, 1) := by decide +kernel
theorem dX10_givesRights_197 : decode cX10_givesRights 197 = .ok (.getfield 85, 3) := by decide +kernel
theorem dX10_givesRights_200 : decode cX10_givesRights 200 = .ok (.iload 8, 2) := by decide +kernel
theorem dX10_givesRights_202 : decode cX10_givesRights 202 = .ok (.iaload, 1) := by decide +kernel
theorem dX10_givesRights_203 : decode cX10_givesRights 203 = .ok (.isub, 1) := by decide +kernel
theorem dX10_givesRights_204 : decode cX10_givesRights 204 = .ok (.istore_n 3, 1) := by decide +kernel
theorem dX10_givesRights_205 : decode cX10_givesRights 205 = .ok (.iload 4, 2) := by decide +kernel
theorem dX10_givesRights_207 : decode cX10_givesRights 207 = .ok (.aload_n 0, 1) := by decide +kernel
theorem dX10_givesRights_208 : decode cX10_givesRights 208 = .ok (.getfield 79, 3) := by decide +kernel
theorem dX10_givesRights_211 : decode cX10_givesRights 211 = .ok (.iload 8, 2) := by decide +kernel
theorem dX10_givesRights_213 : decode cX10_givesRights 213 = .ok (.iaload, 1) := by decide +kernel
theorem dX10_givesRights_214 : decode cX10_givesRights 214 = .ok (.aload_n 0, 1) := by decide +kernel
theorem dX10_givesRights_215 : decode cX10_givesRights 215 = .ok (.getfield 85, 3) := by decide +kernel
theorem dX10_givesRights_218 : decode cX10_givesRights 218 = .ok (.iload 8, 2) := by decide +kernel
theorem dX10_givesRights_220 : decode cX10_givesRights 220 = .ok (.iaload, 1) := by decide +kernel
theorem dX10_givesRights_221 : decode cX10_givesRights 221 = .ok (.isub, 1) := by decide +kernel
theorem dX10_givesRights_222 : decode cX10_givesRights 222 = .ok (.iadd, 1) := by decide +kernel
theorem dX10_givesRights_223 : decode cX10_givesRights 223 = .ok (.istore 4, 2) := by decide +kernel
theorem dX10_givesRights_225 : decode cX10_givesRights 225 = .ok (.aload_n 0, 1) := by decide +kernel
theorem dX10_givesRights_226 : decode cX10_givesRights 226 = .ok (.getfield 85, 3) := by decide +kernel
theorem dX10_givesRights_229 : decode cX10_givesRights 229 = .ok (.iload 8, 2) := by decide +kernel
theorem dX10_givesRights_231 : decode cX10_givesRights 231 = .ok (.iaload, 1) := by decide +kernel
theorem dX10_givesRights_232 : decode cX10_givesRights 232 = .ok (.ifCond .le 8, 3) := by decide +kernel
theorem dX10_givesRights_235 : decode cX10_givesRights 235 = .ok (.iload 7, 2) := by decide +kernel
theorem dX10_givesRights_237 : decode cX10_givesRights 237 = .ok (.goto 5, 3) := by decide +kernel
theorem dX10_givesRights_240 : decode cX10_givesRights 240 = .ok (.iload 5, 2) := by decide +kernel
theorem dX10_givesRights_242 : decode cX10_givesRights 242 = .ok (.istore 5, 2) := by decide +kernel
theorem dX10_givesRights_244 : decode cX10_givesRights 244 = .ok (.iinc 8 1, 3) := by decide +kernel
theorem dX10_givesRights_247 : decode cX10_givesRights 247 = .ok (.goto (-124), 3) := by decide +kernel
theorem dX10_givesRights_250 : decode cX10_givesRights 250 = .ok (.iinc 7 (-1), 3) := by decide +kernel
theorem dX10_givesRights_253 : decode cX10_givesRights 253 = .ok (.goto (-138), 3) := by decide +kernel
theorem dX10_givesRights_256 : decode cX10_givesRights 256 = .ok (.iconst 0, 1) := by decide +kernel
theorem dX10_givesRights_257 : decode cX10_givesRights 257 = .ok (.istore 7, 2) := by decide +kernel
theorem dX10_givesRights_259 : decode cX10_givesRights 259 = .ok (.iload 7, 2) := by decide +kernel
theorem dX10_givesRights_261 : decode cX10_givesRights 261 = .ok (.aload_n 0, 1) := by decide +kernel
theorem dX10_givesRights_262 : decode cX10_givesRights 262 = .ok (.getfield 207, 3) := by decide +kernel
theorem dX10_givesRights_265 : decode cX10_givesRights 265 = .ok (.if_icmp .ge 76, 3) := by decide +kernel
theorem dX10_givesRights_268 : decode cX10_givesRights 268 = .ok (.aload_n 0, 1) := by decide +kernel
theorem dX10_givesRights_269 : decode cX10_givesRights 269 = .ok (.getfield 73, 3) := by decide +kernel
theorem dX10_givesRights_272 : decode cX10_givesRights 272 = .ok (.iload 7, 2) := by decide +kernel
theorem dX10_givesRights_274 : decode cX10_givesRights 274 = .ok (.iaload, 1) := by decide +kernel
theorem dX10_givesRights_275 : decode cX10_givesRights 275 = .ok (.iload_n 1, 1) := by decide +kernel
theorem dX10_givesRights_276 : decode cX10_givesRights 276 = .ok (.if_icmp .ne 59, 3) := by decide +kernel
theorem dX10_givesRights_279 : decode cX10_givesRights 279 = .ok (.aload_n 0, 1) := by decide +kernel
theorem dX10_givesRights_280 : decode cX10_givesRights 280 = .ok (.getfield 76, 3) := by decide +kernel
theorem dX10_givesRights_283 : decode cX10_givesRights 283 = .ok (.iload 7, 2) := by decide +kernel
theorem dX10_givesRights_285 : decode cX10_givesRights 285 = .ok (.iaload, 1) := by decide +kernel
theorem dX10_givesRights_286 : decode cX10_givesRights 286 = .ok (.iload_n 2, 1) := by decide +kernel
theorem dX10_givesRights_287 : decode cX10_givesRights 287 = .ok (.if_icmp .ne 48, 3) := by decide +kernel
theorem dX10_givesRights_290 : decode cX10_givesRights 290 = .ok (.aload_n 0, 1) := by decide +kernel
theorem dX10_givesRights_291 : decode cX10_givesRights 291 = .ok (.getfield 142, 3) := by decide +kernel
theorem dX10_givesRights_294 : decode cX10_givesRights 294 = .ok (.bipush 6, 2) := by decide +kernel
theorem dX10_givesRights_296 : decode cX10_givesRights 296 = .ok (.aload_n 0, 1) := by decide +kernel
theorem dX10_givesRights_297 : decode cX10_givesRights 297 = .ok (.getfield 183, 3) := by decide +kernel
theorem dX10_givesRights_300 : decode cX10_givesRights 300 = .ok (.imul, 1) := by decide +kernel
theorem dX10_givesRights_301 : decode cX10_givesRights 301 = .ok (.aload_n 0, 1) := by decide +kernel
theorem dX10_givesRights_302 : decode cX10_givesRights 302 = .ok (.getfield 70, 3) := by decide +kernel
theorem dX10_givesRights_305 : decode cX10_givesRights 305 = .ok (.iload 7, 2) := by decide +kernel
theorem dX10_givesRights_307 : decode cX10_givesRights 307 = .ok (.iaload, 1) := by decide +kernel
theorem dX10_givesRights_308 : decode cX10_givesRights 308 = .ok (.iadd, 1) := by decide +kernel
theorem dX10_givesRights_309 : decode cX10_givesRights 309 = .ok (.dup2, 1) := by decide +kernel
theorem dX10_givesRights_310 : decode cX10_givesRights 310 = .ok (.iaload, 1) := by decide +kernel
theorem dX10_givesRights_311 : decode cX10_givesRights 311 = .ok (.aload_n 0, 1) := by decide +kernel
theorem dX10_givesRights_312 : decode cX10_givesRights 312 = .ok (.getfield 85, 3) := by decide +kernel
theorem dX10_givesRights_315 : decode cX10_givesRights 315 = .ok (.iload 7, 2) := by decide +kernel
theorem dX10_givesRights_317 : decode cX10_givesRights 317 = .ok (.iaload, 1) := by decide +kernel
theorem dX10_givesRights_318 : decode cX10_givesRights 318 = .ok (.iload 6, 2) := by decide +kernel
theorem dX10_givesRights_320 : decode cX10_givesRights 320 = .ok (.iload 4, 2) := by decide +kernel
theorem dX10_givesRights_322 : decode cX10_givesRights 322 = .ok (.ifCond .le 8, 3) := by decide +kernel
theorem dX10_givesRights_325 : decode cX10_givesRights 325 = .ok (.iload 5, 2) := by decide +kernel
theorem dX10_givesRights_327 : decode cX10_givesRights 327 = .ok (.goto 4, 3) := by decide +kernel
theorem dX10_givesRights_330 : decode cX10_givesRights 330 = .ok (.iconst 0, 1) := by decide +kernel
theorem dX10_givesRights_331 : decode cX10_givesRights 331 = .ok (.isub, 1) := by decide +kernel
theorem dX10_givesRights_332 : decode cX10_givesRights 332 = .ok (.imul, 1) := by decide +kernel
theorem dX10_givesRights_333 : decode cX10_givesRights 333 = .ok (.iadd, 1) := by decide +kernel
theorem dX10_givesRights_334 : decode cX10_givesRights 334 = .ok (.iastore, 1) := by decide +kernel
theorem dX10_givesRights_335 : decode cX10_givesRights 335 = .ok (.iinc 7 1, 3) := by decide +kernel
theorem dX10_givesRights_338 : decode cX10_givesRights 338 = .ok (.goto (-79), 3) := by decide +kernel
theorem dX10_givesRights_341 : decode cX10_givesRights 341 = .ok (.return_, 1) := by decide +kernel
set_option maxRecDepth 20000 in
theorem ggX10_takesHour_X10_takes : GoodIn wsX10_takesHour wsX10_takes := goodIn_r _ [12, 13, 14, 15, 16, 17, 18, 11, 19, 20, 21, 22, 23, 24, 25, 26, 27, 28, 29, 30, 31, 32, 33, 34, 35, 36, 37, 38, 39, 40, 41, 42, 43, 44, 45, 46, 47, 48, 49, 50, 51, 52, 53, 54, 55, 56, 57, 58, 59, 60, 61, 62, 63, 64, 65, 66, 67, 68, 69, 70, 71, 72, 73, 74, 75, 76, 77, 78, 79, 80, 81, 82, 83, 84, 85, 86, 87, 88, 89, 90, 91, 92, 93, 94, 95, 96] (by decide +kernel) (by decide +kernel)
set_option maxRecDepth 20000 in
theorem gX10_takesHour_X10_takes : GoodIn wsX10_takesHour (wsV RX10 267 RX10 yX10_takes wsX10_takes) := goodIn_app (goodIn_of _ (by decide +kernel)) ggX10_takesHour_X10_takes
theorem dX10_takesHour_0 : decode cX10_takesHour 0 = .ok (.iconst 4, 1) := by decide +kernel
theorem dX10_takesHour_1 : decode cX10_takesHour 1 = .ok (.iload_n 1, 1) := by decide +kernel
theorem dX10_takesHour_2 : decode cX10_takesHour 2 = .ok (.imul, 1) := by decide +kernel
theorem dX10_takesHour_3 : decode cX10_takesHour 3 = .ok (.iload_n 2, 1) := by decide +kernel
theorem dX10_takesHour_4 : decode cX10_takesHour 4 = .ok (.iadd, 1) := by decide +kernel
theorem dX10_takesHour_5 : decode cX10_takesHour 5 = .ok (.istore_n 3, 1) := by decide +kernel
theorem dX10_takesHour_6 : decode cX10_takesHour 6 = .ok (.aload_n 0, 1) := by decide +kernel
theorem dX10_takesHour_7 : decode cX10_takesHour 7 = .ok (.getfield 151, 3) := by decide +kernel
theorem dX10_takesHour_10 : decode cX10_takesHour 10 = .ok (.iload_n 3, 1) := by decide +kernel
theorem dX10_takesHour_11 : decode cX10_takesHour 11 = .ok (.aload_n 0, 1) := by decide +kernel
theorem dX10_takesHour_12 : decode cX10_takesHour 12 = .ok (.getfield 169, 3) := by decide +kernel
theorem dX10_takesHour_15 : decode cX10_takesHour 15 = .ok (.iload_n 3, 1) := by decide +kernel
theorem dX10_takesHour_16 : decode cX10_takesHour 16 = .ok (.iaload, 1) := by decide +kernel
theorem dX10_takesHour_17 : decode cX10_takesHour 17 = .ok (.iastore, 1) := by decide +kernel
theorem dX10_takesHour_18 : decode cX10_takesHour 18 = .ok (.aload_n 0, 1) := by decide +kernel
theorem dX10_takesHour_19 : decode cX10_takesHour 19 = .ok (.getfield 130, 3) := by decide +kernel
theorem dX10_takesHour_22 : decode cX10_takesHour 22 = .ok (.bipush 12, 2) := by decide +kernel
theorem dX10_takesHour_24 : decode cX10_takesHour 24 = .ok (.aload_n 0, 1) := by decide +kernel
theorem dX10_takesHour_25 : decode cX10_takesHour 25 = .ok (.getfield 183, 3) := by decide +kernel
theorem dX10_takesHour_28 : decode cX10_takesHour 28 = .ok (.imul, 1) := by decide +kernel
theorem dX10_takesHour_29 : decode cX10_takesHour 29 = .ok (.iload_n 3, 1) := by decide +kernel
theorem dX10_takesHour_30 : decode cX10_takesHour 30 = .ok (.iadd, 1) := by decide +kernel
theorem dX10_takesHour_31 : decode cX10_takesHour 31 = .ok (.aload_n 0, 1) := by decide +kernel
theorem dX10_takesHour_32 : decode cX10_takesHour 32 = .ok (.getfield 172, 3) := by decide +kernel
theorem dX10_takesHour_35 : decode cX10_takesHour 35 = .ok (.iload_n 3, 1) := by decide +kernel
theorem dX10_takesHour_36 : decode cX10_takesHour 36 = .ok (.iaload, 1) := by decide +kernel
theorem dX10_takesHour_37 : decode cX10_takesHour 37 = .ok (.iastore, 1) := by decide +kernel
theorem dX10_takesHour_38 : decode cX10_takesHour 38 = .ok (.aload_n 0, 1) := by decide +kernel
theorem dX10_takesHour_39 : decode cX10_takesHour 39 = .ok (.getfield 169, 3) := by decide +kernel
theorem dX10_takesHour_42 : decode cX10_takesHour 42 = .ok (.iload_n 3, 1) := by decide +kernel
theorem dX10_takesHour_43 : decode cX10_takesHour 43 = .ok (.iaload, 1) := by decide +kernel
theorem dX10_takesHour_44 : decode cX10_takesHour 44 = .ok (.aload_n 0, 1) := by decide +kernel
theorem dX10_takesHour_45 : decode cX10_takesHour 45 = .ok (.getfield 166, 3) := by decide +kernel
theorem dX10_takesHour_48 : decode cX10_takesHour 48 = .ok (.iload_n 3, 1) := by decide +kernel
theorem dX10_takesHour_49 : decode cX10_takesHour 49 = .ok (.iaload, 1) := by decide +kernel
theorem dX10_takesHour_50 : decode cX10_takesHour 50 = .ok (.isub, 1) := by decide +kernel
theorem dX10_takesHour_51 : decode cX10_takesHour 51 = .ok (.istore 4, 2) := by decide +kernel
theorem dX10_takesHour_53 : decode cX10_takesHour 53 = .ok (.aload_n 0, 1) := by decide +kernel
theorem dX10_takesHour_54 : decode cX10_takesHour 54 = .ok (.getfield 163, 3) := by decide +kernel
theorem dX10_takesHour_57 : decode cX10_takesHour 57 = .ok (.sipush 161, 3) := by decide +kernel
theorem dX10_takesHour_60 : decode cX10_takesHour 60 = .ok (.iload_n 3, 1) := by decide +kernel
theorem dX10_takesHour_61 : decode cX10_takesHour 61 = .ok (.imul, 1) := by decide +kernel
theorem dX10_takesHour_62 : decode cX10_takesHour 62 = .ok (.bipush 80, 2) := by decide +kernel
theorem dX10_takesHour_64 : decode cX10_takesHour 64 = .ok (.iadd, 1) := by decide +kernel
theorem dX10_takesHour_65 : decode cX10_takesHour 65 = .ok (.iload 4, 2) := by decide +kernel
theorem dX10_takesHour_67 : decode cX10_takesHour 67 = .ok (.iadd, 1) := by decide +kernel
theorem dX10_takesHour_68 : decode cX10_takesHour 68 = .ok (.iaload, 1) := by decide +kernel
theorem dX10_takesHour_69 : decode cX10_takesHour 69 = .ok (.istore 5, 2) := by decide +kernel
theorem dX10_takesHour_71 : decode cX10_takesHour 71 = .ok (.aload_n 0, 1) := by decide +kernel
theorem dX10_takesHour_72 : decode cX10_takesHour 72 = .ok (.iload_n 1, 1) := by decide +kernel
theorem dX10_takesHour_73 : decode cX10_takesHour 73 = .ok (.iload_n 2, 1) := by decide +kernel
theorem dX10_takesHour_74 : decode cX10_takesHour 74 = .ok (.iconst 1, 1) := by decide +kernel
theorem dX10_takesHour_75 : decode cX10_takesHour 75 = .ok (.iload 5, 2) := by decide +kernel
theorem dX10_takesHour_77 : decode cX10_takesHour 77 = .ok (.invokevirtual 267, 3) := by decide +kernel
theorem dX10_takesHour_80 : decode cX10_takesHour 80 = .ok (.aload_n 0, 1) := by decide +kernel
theorem dX10_takesHour_81 : decode cX10_takesHour 81 = .ok (.iload_n 1, 1) := by decide +kernel
theorem dX10_takesHour_82 : decode cX10_takesHour 82 = .ok (.iload_n 2, 1) := by decide +kernel
theorem dX10_takesHour_83 : decode cX10_takesHour 83 = .ok (.iconst 0, 1) := by decide +kernel
theorem dX10_takesHour_84 : decode cX10_takesHour 84 = .ok (.iload 4, 2) := by decide +kernel
theorem dX10_takesHour_86 : decode cX10_takesHour 86 = .ok (.iload 5, 2) := by decide +kernel
theorem dX10_takesHour_88 : decode cX10_takesHour 88 = .ok (.iadd, 1) := by decide +kernel
theorem dX10_takesHour_89 : decode cX10_takesHour 89 = .ok (.invokevirtual 267, 3) := by decide +kernel
theorem dX10_takesHour_92 : decode cX10_takesHour 92 = .ok (.return_, 1) := by decide +kernel
set_option maxRecDepth 20000 in
theorem ggX10_clear_X10_forgets : GoodIn wsX10_clear wsX10_forgets := goodIn_r _ [23, 24, 126, 127, 128, 129, 130, 131, 132, 133, 134, 135, 136, 137, 138, 139, 140, 141, 142, 143, 144, 145, 146, 147, 148, 149, 150, 151, 152, 153, 154, 155, 156, 157, 158, 159, 160, 161, 162, 163, 164, 165, 166, 167, 168, 169, 170, 171, 172, 173, 174, 175, 176, 177, 178, 179, 180, 181, 182, 183, 184, 185, 186, 187, 188, 189, 190, 191, 192, 193] (by decide +kernel) (by decide +kernel)
set_option maxRecDepth 20000 in
theorem gX10_clear_X10_forgets : GoodIn wsX10_clear (wsV RX10 264 RX10 yX10_forgets wsX10_forgets) := goodIn_app (goodIn_of _ (by decide +kernel)) ggX10_clear_X10_forgets
set_option maxRecDepth 20000 in
theorem ggX10_clear_X10_weighs : GoodIn wsX10_clear wsX10_weighs := goodIn_r _ [28, 29, 30, 31, 3, 32, 33, 34, 35, 36, 37, 22, 38, 24, 39, 40, 41, 42, 43, 44, 7, 10, 11, 8, 126, 127, 128, 129, 130, 131, 132, 133, 134, 135, 136, 137, 138, 139, 140, 141, 142, 143, 144, 145, 146, 147, 148, 149, 150, 151, 152, 153, 154, 155, 156, 157, 158, 159, 160, 161, 162, 163, 164, 165, 166, 167, 168, 169, 170, 171, 172, 173, 174, 175, 176, 177, 178, 179, 180, 181, 182, 183, 184, 185, 186, 187, 188, 189, 190, 191, 192, 193] (by decide +kernel) (by decide +kernel)
set_option maxRecDepth 20000 in
theorem gX10_clear_X10_weighs : GoodIn wsX10_clear (wsV RX10 271 RX10 yX10_weighs wsX10_weighs) := goodIn_app (goodIn_of _ (by decide +kernel)) ggX10_clear_X10_weighs
set_option maxRecDepth 20000 in
theorem ggX10_clear_X10_isAllowed : GoodIn wsX10_clear wsX10_isAllowed := goodIn_r _ [48, 5, 49, 50, 126, 127, 128, 129, 130, 131, 132, 133, 134, 135, 136, 137, 138, 139, 140, 141, 142, 143, 144, 145, 146, 147, 148, 149, 150, 151, 152, 153, 154, 155, 156, 157, 158, 159, 160, 161, 162, 163, 164, 165, 166, 167, 168, 169, 170, 171, 172, 173, 174, 175, 176, 177, 178, 179, 180, 181, 182, 183, 184, 185, 186, 187, 188, 189, 190, 191, 192, 193] (by decide +kernel) (by decide +kernel)
set_option maxRecDepth 20000 in
theorem gX10_clear_X10_isAllowed : GoodIn wsX10_clear (wsV RX10 278 RX10 yX10_isAllowed wsX10_isAllowed) := goodIn_app (goodIn_of _ (by decide +kernel)) ggX10_clear_X10_isAllowed
set_option maxRecDepth 20000 in
theorem ggX10_clear_X10_tries : GoodIn wsX10_clear wsX10_tries := goodIn_r _ [54, 3, 55, 56, 57, 58, 5, 59, 60, 61, 22, 62, 63, 14, 18, 15, 16, 64, 65, 66, 67, 68, 69, 70, 71, 72, 73, 74, 75, 76, 77, 78, 79, 80, 81, 82, 83, 84, 85, 86, 87, 88, 31, 89, 90, 91, 92, 93, 94, 95, 96, 97, 98, 99, 126, 127, 128, 129, 130, 131, 132, 133, 134, 135, 136, 137, 138, 139, 140, 141, 142, 143, 144, 145, 146, 147, 148, 149, 150, 151, 152, 153, 154, 155, 156, 157, 158, 159, 160, 161, 162, 163, 164, 165, 166, 167, 168, 169, 170, 171, 172, 173, 174, 175, 176, 177, 178, 179, 180, 181, 182, 183, 184, 185, 186, 187, 188, 189, 190, 191, 192, 193] (by decide +kernel) (by decide +kernel)
set_option maxRecDepth 20000 in
theorem gX10_clear_X10_tries : GoodIn wsX10_clear (wsV RX10 281 RX10 yX10_tries wsX10_tries) := goodIn_app (goodIn_of _ (by decide +kernel)) ggX10_clear_X10_tries
set_option maxRecDepth 20000 in
theorem ggX10_clear_X10_takesHour : GoodIn wsX10_clear wsX10_takesHour := goodIn_r _ [103, 104, 55, 12, 13, 58, 63, 32, 105, 106, 107, 22, 108, 24, 6, 39, 19, 20, 21, 23, 41, 42, 43, 44, 7, 10, 11, 8, 40, 126, 127, 128, 129, 130, 131, 132, 133, 134, 135, 136, 137, 138, 139, 140, 141, 142, 143, 144, 145, 146, 147, 148, 149, 150, 151, 152, 153, 154, 155, 156, 157, 158, 159, 160, 161, 162, 163, 164, 165, 166, 167, 168, 169, 170, 171, 172, 173, 174, 175, 176, 177, 178, 179, 180, 181, 182, 183, 184, 185, 186, 187, 188, 189, 190, 191, 192, 193] (by decide +kernel) (by decide +kernel)
set_option maxRecDepth 20000 in
theorem gX10_clear_X10_takesHour : GoodIn wsX10_clear (wsV RX10 284 RX10 yX10_takesHour wsX10_takesHour) := goodIn_app (goodIn_of _ (by decide +kernel)) ggX10_clear_X10_takesHour
set_option maxRecDepth 20000 in
theorem ggX10_clear_X10_trades : GoodIn wsX10_clear wsX10_trades := goodIn_r _ [112, 113, 13, 114, 126, 127, 128, 129, 130, 131, 132, 133, 134, 135, 136, 137, 138, 139, 140, 141, 142, 143, 144, 145, 146, 147, 148, 149, 150, 151, 152, 153, 154, 155, 156, 157, 158, 159, 160, 161, 162, 163, 164, 165, 166, 167, 168, 169, 170, 171, 172, 173, 174, 175, 176, 177, 178, 179, 180, 181, 182, 183, 184, 185, 186, 187, 188, 189, 190, 191, 192, 193] (by decide +kernel) (by decide +kernel)
set_option maxRecDepth 20000 in
theorem gX10_clear_X10_trades : GoodIn wsX10_clear (wsV RX10 287 RX10 yX10_trades wsX10_trades) := goodIn_app (goodIn_of _ (by decide +kernel)) ggX10_clear_X10_trades
set_option maxRecDepth 20000 in
theorem ggX10_clear_X10_givesRights : GoodIn wsX10_clear wsX10_givesRights := goodIn_r _ [118, 81, 12, 13, 119, 120, 121, 122, 123, 124, 114, 125, 126, 127, 128, 129, 130, 131, 132, 133, 134, 135, 136, 137, 138, 139, 140, 141, 142, 143, 144, 145, 146, 147, 148, 149, 150, 151, 152, 153, 154, 155, 156, 157, 158, 159, 160, 161, 162, 163, 164, 165, 166, 167, 168, 169, 170, 171, 172, 173, 174, 175, 176, 177, 178, 179, 180, 181, 182, 183, 184, 185, 186, 187, 188, 189, 190, 191, 192, 193] (by decide +kernel) (by decide +kernel)
set_option maxRecDepth 20000 in
theorem gX10_clear_X10_givesRights : GoodIn wsX10_clear (wsV RX10 291 RX10 yX10_givesRights wsX10_givesRights) := goodIn_app (goodIn_of _ (by decide +kernel)) ggX10_clear_X10_givesRights
theorem dX10_clear_0 : decode cX10_clear 0 = .ok (.aload_n 0, 1) := by decide +kernel
theorem dX10_clear_1 : decode cX10_clear 1 = .ok (.aload_n 0, 1) := by decide +kernel
theorem dX10_clear_2 : decode cX10_clear 2 = .ok (.getfield 192, 3) := by decide +kernel
theorem dX10_clear_5 : decode cX10_clear 5 = .ok (.iconst 1, 1) := by decide +kernel
theorem dX10_clear_6 : decode cX10_clear 6 = .ok (.if_icmp .ne 7, 3) := by decide +kernel
theorem dX10_clear_9 : decode cX10_clear 9 = .ok (.iconst 1, 1) := by decide +kernel
theorem dX10_clear_10 : decode cX10_clear 10 = .ok (.goto 4, 3) := by decide +kernel
theorem dX10_clear_13 : decode cX10_clear 13 = .ok (.iconst 0, 1) := by decide +kernel
theorem dX10_clear_14 : decode cX10_clear 14 = .ok (.putfield 175, 3) := by decide +kernel
theorem dX10_clear_17 : decode cX10_clear 17 = .ok (.aload_n 0, 1) := by decide +kernel
theorem dX10_clear_18 : decode cX10_clear 18 = .ok (.getfield 175, 3) := by decide +kernel
theorem dX10_clear_21 : decode cX10_clear 21 = .ok (.ifCond .le 5, 3) := by decide +kernel
theorem dX10_clear_24 : decode cX10_clear 24 = .ok (.iconst 0, 1) := by decide +kernel
theorem dX10_clear_25 : decode cX10_clear 25 = .ok (.ireturn, 1) := by decide +kernel
theorem dX10_clear_26 : decode cX10_clear 26 = .ok (.iconst 0, 1) := by decide +kernel
theorem dX10_clear_27 : decode cX10_clear 27 = .ok (.istore_n 1, 1) := by decide +kernel
theorem dX10_clear_28 : decode cX10_clear 28 = .ok (.iload_n 1, 1) := by decide +kernel
theorem dX10_clear_29 : decode cX10_clear 29 = .ok (.iconst 3, 1) := by decide +kernel
theorem dX10_clear_30 : decode cX10_clear 30 = .ok (.if_icmp .ge 32, 3) := by decide +kernel
theorem dX10_clear_33 : decode cX10_clear 33 = .ok (.iconst 0, 1) := by decide +kernel
theorem dX10_clear_34 : decode cX10_clear 34 = .ok (.istore_n 2, 1) := by decide +kernel
theorem dX10_clear_35 : decode cX10_clear 35 = .ok (.iload_n 2, 1) := by decide +kernel
theorem dX10_clear_36 : decode cX10_clear 36 = .ok (.iconst 4, 1) := by decide +kernel
theorem dX10_clear_37 : decode cX10_clear 37 = .ok (.if_icmp .ge 19, 3) := by decide +kernel
theorem dX10_clear_40 : decode cX10_clear 40 = .ok (.aload_n 0, 1) := by decide +kernel
theorem dX10_clear_41 : decode cX10_clear 41 = .ok (.invokevirtual 264, 3) := by decide +kernel
theorem dX10_clear_44 : decode cX10_clear 44 = .ok (.aload_n 0, 1) := by decide +kernel
theorem dX10_clear_45 : decode cX10_clear 45 = .ok (.iload_n 1, 1) := by decide +kernel
theorem dX10_clear_46 : decode cX10_clear 46 = .ok (.iload_n 2, 1) := by decide +kernel
theorem dX10_clear_47 : decode cX10_clear 47 = .ok (.invokevirtual 271, 3) := by decide +kernel
theorem dX10_clear_50 : decode cX10_clear 50 = .ok (.iinc 2 1, 3) := by decide +kernel
theorem dX10_clear_53 : decode cX10_clear 53 = .ok (.goto (-18), 3) := by decide +kernel
theorem dX10_clear_56 : decode cX10_clear 56 = .ok (.iinc 1 1, 3) := by decide +kernel
theorem dX10_clear_59 : decode cX10_clear 59 = .ok (.goto (-31), 3) := by decide +kernel
theorem dX10_clear_62 : decode cX10_clear 62 = .ok (.ldc 223, 2) := by decide +kernel
theorem dX10_clear_64 : decode cX10_clear 64 = .ok (.istore_n 1, 1) := by decide +kernel
theorem dX10_clear_65 : decode cX10_clear 65 = .ok (.aload_n 0, 1) := by decide +kernel
theorem dX10_clear_66 : decode cX10_clear 66 = .ok (.iconst 0, 1) := by decide +kernel
theorem dX10_clear_67 : decode cX10_clear 67 = .ok (.putfield 275, 3) := by decide +kernel
theorem dX10_clear_70 : decode cX10_clear 70 = .ok (.iconst 0, 1) := by decide +kernel
theorem dX10_clear_71 : decode cX10_clear 71 = .ok (.istore_n 2, 1) := by decide +kernel
theorem dX10_clear_72 : decode cX10_clear 72 = .ok (.iload_n 2, 1) := by decide +kernel
theorem dX10_clear_73 : decode cX10_clear 73 = .ok (.iconst 1, 1) := by decide +kernel
theorem dX10_clear_74 : decode cX10_clear 74 = .ok (.aload_n 0, 1) := by decide +kernel
theorem dX10_clear_75 : decode cX10_clear 75 = .ok (.getfield 204, 3) := by decide +kernel
theorem dX10_clear_78 : decode cX10_clear 78 = .ok (.ishl, 1) := by decide +kernel
theorem dX10_clear_79 : decode cX10_clear 79 = .ok (.if_icmp .ge 40, 3) := by decide +kernel
theorem dX10_clear_82 : decode cX10_clear 82 = .ok (.aload_n 0, 1) := by decide +kernel
theorem dX10_clear_83 : decode cX10_clear 83 = .ok (.iload_n 2, 1) := by decide +kernel
theorem dX10_clear_84 : decode cX10_clear 84 = .ok (.invokevirtual 278, 3) := by decide +kernel
theorem dX10_clear_87 : decode cX10_clear 87 = .ok (.ifCond .eq 11, 3) := by decide +kernel
theorem dX10_clear_90 : decode cX10_clear 90 = .ok (.aload_n 0, 1) := by decide +kernel
theorem dX10_clear_91 : decode cX10_clear 91 = .ok (.iload_n 2, 1) := by decide +kernel
theorem dX10_clear_92 : decode cX10_clear 92 = .ok (.invokevirtual 281, 3) := by decide +kernel
theorem dX10_clear_95 : decode cX10_clear 95 = .ok (.goto 5, 3) := by decide +kernel
theorem dX10_clear_98 : decode cX10_clear 98 = .ok (.ldc 223, 2) := by decide +kernel
theorem dX10_clear_100 : decode cX10_clear 100 = .ok (.istore_n 3, 1) := by decide +kernel
theorem dX10_clear_101 : decode cX10_clear 101 = .ok (.iload_n 3, 1) := by decide +kernel
theorem dX10_clear_102 : decode cX10_clear 102 = .ok (.iload_n 1, 1) := by decide +kernel
theorem dX10_clear_103 : decode cX10_clear 103 = .ok (.if_icmp .le 10, 3) := by decide +kernel
theorem dX10_clear_106 : decode cX10_clear 106 = .ok (.iload_n 3, 1) := by decide +kernel
theorem dX10_clear_107 : decode cX10_clear 107 = .ok (.istore_n 1, 1) := by decide +kernel
theorem dX10_clear_108 : decode cX10_clear 108 = .ok (.aload_n 0, 1) := by decide +kernel
theorem dX10_clear_109 : decode cX10_clear 109 = .ok (.iload_n 2, 1) := by decide +kernel
theorem dX10_clear_110 : decode cX10_clear 110 = .ok (.putfield 275, 3) := by decide +kernel
theorem dX10_clear_113 : decode cX10_clear 113 = .ok (.iinc 2 1, 3) := by decide +kernel
theorem dX10_clear_116 : decode cX10_clear 116 = .ok (.goto (-44), 3) := by decide +kernel
theorem dX10_clear_119 : decode cX10_clear 119 = .ok (.aload_n 0, 1) := by decide +kernel
theorem dX10_clear_120 : decode cX10_clear 120 = .ok (.aload_n 0, 1) := by decide +kernel
theorem dX10_clear_121 : decode cX10_clear 121 = .ok (.getfield 275, 3) := by decide +kernel
theorem dX10_clear_124 : decode cX10_clear 124 = .ok (.invokevirtual 281, 3) := by decide +kernel
theorem dX10_clear_127 : decode cX10_clear 127 = .ok (.pop, 1) := by decide +kernel
theorem dX10_clear_128 : decode cX10_clear 128 = .ok (.iconst 0, 1) := by decide +kernel
theorem dX10_clear_129 : decode cX10_clear 129 = .ok (.istore_n 2, 1) := by decide +kernel
theorem dX10_clear_130 : decode cX10_clear 130 = .ok (.iload_n 2, 1) := by decide +kernel
theorem dX10_clear_131 : decode cX10_clear 131 = .ok (.bipush 40, 2) := by decide +kernel
theorem dX10_clear_133 : decode cX10_clear 133 = .ok (.if_icmp .ge 16, 3) := by decide +kernel
theorem dX10_clear_136 : decode cX10_clear 136 = .ok (.aload_n 0, 1) := by decide +kernel
theorem dX10_clear_137 : decode cX10_clear 137 = .ok (.getfield 40, 3) := by decide +kernel
theorem dX10_clear_140 : decode cX10_clear 140 = .ok (.iload_n 2, 1) := by decide +kernel
theorem dX10_clear_141 : decode cX10_clear 141 = .ok (.iconst 0, 1) := by decide +kernel
theorem dX10_clear_142 : decode cX10_clear 142 = .ok (.iastore, 1) := by decide +kernel
theorem dX10_clear_143 : decode cX10_clear 143 = .ok (.iinc 2 1, 3) := by decide +kernel
theorem dX10_clear_146 : decode cX10_clear 146 = .ok (.goto (-16), 3) := by decide +kernel
theorem dX10_clear_149 : decode cX10_clear 149 = .ok (.iconst 0, 1) := by decide +kernel
theorem dX10_clear_150 : decode cX10_clear 150 = .ok (.istore_n 2, 1) := by decide +kernel
theorem dX10_clear_151 : decode cX10_clear 151 = .ok (.iload_n 2, 1) := by decide +kernel
theorem dX10_clear_152 : decode cX10_clear 152 = .ok (.iconst 3, 1) := by decide +kernel
theorem dX10_clear_153 : decode cX10_clear 153 = .ok (.if_icmp .ge 28, 3) := by decide +kernel
theorem dX10_clear_156 : decode cX10_clear 156 = .ok (.iconst 0, 1) := by decide +kernel
theorem dX10_clear_157 : decode cX10_clear 157 = .ok (.istore_n 3, 1) := by decide +kernel
theorem dX10_clear_158 : decode cX10_clear 158 = .ok (.iload_n 3, 1) := by decide +kernel
theorem dX10_clear_159 : decode cX10_clear 159 = .ok (.iconst 4, 1) := by decide +kernel
theorem dX10_clear_160 : decode cX10_clear 160 = .ok (.if_icmp .ge 15, 3) := by decide +kernel
theorem dX10_clear_163 : decode cX10_clear 163 = .ok (.aload_n 0, 1) := by decide +kernel
theorem dX10_clear_164 : decode cX10_clear 164 = .ok (.iload_n 2, 1) := by decide +kernel
theorem dX10_clear_165 : decode cX10_clear 165 = .ok (.iload_n 3, 1) := by decide +kernel
theorem dX10_clear_166 : decode cX10_clear 166 = .ok (.invokevirtual 284, 3) := by decide +kernel
theorem dX10_clear_169 : decode cX10_clear 169 = .ok (.iinc 3 1, 3) := by decide +kernel
theorem dX10_clear_172 : decode cX10_clear 172 = .ok (.goto (-14), 3) := by decide +kernel
theorem dX10_clear_175 : decode cX10_clear 175 = .ok (.iinc 2 1, 3) := by decide +kernel
theorem dX10_clear_178 : decode cX10_clear 178 = .ok (.goto (-27), 3) := by decide +kernel
theorem dX10_clear_181 : decode cX10_clear 181 = .ok (.iconst 0, 1) := by decide +kernel
theorem dX10_clear_182 : decode cX10_clear 182 = .ok (.istore_n 2, 1) := by decide +kernel
theorem dX10_clear_183 : decode cX10_clear 183 = .ok (.iload_n 2, 1) := by decide +kernel
theorem dX10_clear_184 : decode cX10_clear 184 = .ok (.aload_n 0, 1) := by decide +kernel
theorem dX10_clear_185 : decode cX10_clear 185 = .ok (.getfield 201, 3) := by decide +kernel
theorem dX10_clear_188 : decode cX10_clear 188 = .ok (.if_icmp .ge 87, 3) := by decide +kernel
theorem dX10_clear_191 : decode cX10_clear 191 = .ok (.aload_n 0, 1) := by decide +kernel
theorem dX10_clear_192 : decode cX10_clear 192 = .ok (.getfield 31, 3) := by decide +kernel
theorem dX10_clear_195 : decode cX10_clear 195 = .ok (.iload_n 2, 1) := by decide +kernel
theorem dX10_clear_196 : decode cX10_clear 196 = .ok (.iaload, 1) := by decide +kernel
theorem dX10_clear_197 : decode cX10_clear 197 = .ok (.iconst 1, 1) := by decide +kernel
theorem dX10_clear_198 : decode cX10_clear 198 = .ok (.if_icmp .ne 13, 3) := by decide +kernel
theorem dX10_clear_201 : decode cX10_clear 201 = .ok (.aload_n 0, 1) := by decide +kernel
theorem dX10_clear_202 : decode cX10_clear 202 = .ok (.getfield 40, 3) := by decide +kernel
theorem dX10_clear_205 : decode cX10_clear 205 = .ok (.iload_n 2, 1) := by decide +kernel
theorem dX10_clear_206 : decode cX10_clear 206 = .ok (.iaload, 1) := by decide +kernel
theorem dX10_clear_207 : decode cX10_clear 207 = .ok (.ineg, 1) := by decide +kernel
theorem dX10_clear_208 : decode cX10_clear 208 = .ok (.goto 9, 3) := by decide +kernel
theorem dX10_clear_211 : decode cX10_clear 211 = .ok (.aload_n 0, 1) := by decide +kernel
theorem dX10_clear_212 : decode cX10_clear 212 = .ok (.getfield 40, 3) := by decide +kernel
theorem dX10_clear_215 : decode cX10_clear 215 = .ok (.iload_n 2, 1) := by decide +kernel
theorem dX10_clear_216 : decode cX10_clear 216 = .ok (.iaload, 1) := by decide +kernel
theorem dX10_clear_217 : decode cX10_clear 217 = .ok (.istore_n 3, 1) := by decide +kernel
theorem dX10_clear_218 : decode cX10_clear 218 = .ok (.aload_n 0, 1) := by decide +kernel
theorem dX10_clear_219 : decode cX10_clear 219 = .ok (.aload_n 0, 1) := by decide +kernel
theorem dX10_clear_220 : decode cX10_clear 220 = .ok (.getfield 22, 3) := by decide +kernel
theorem dX10_clear_223 : decode cX10_clear 223 = .ok (.iload_n 2, 1) := by decide +kernel
theorem dX10_clear_224 : decode cX10_clear 224 = .ok (.iaload, 1) := by decide +kernel
theorem dX10_clear_225 : decode cX10_clear 225 = .ok (.aload_n 0, 1) := by decide +kernel
theorem dX10_clear_226 : decode cX10_clear 226 = .ok (.getfield 25, 3) := by decide +kernel
theorem dX10_clear_229 : decode cX10_clear 229 = .ok (.iload_n 2, 1) := by decide +kernel
theorem dX10_clear_230 : decode cX10_clear 230 = .ok (.iaload, 1) := by decide +kernel
theorem dX10_clear_231 : decode cX10_clear 231 = .ok (.aload_n 0, 1) := by decide +kernel
theorem dX10_clear_232 : decode cX10_clear 232 = .ok (.getfield 28, 3) := by decide +kernel
theorem dX10_clear_235 : decode cX10_clear 235 = .ok (.iload_n 2, 1) := by decide +kernel
theorem dX10_clear_236 : decode cX10_clear 236 = .ok (.iaload, 1) := by decide +kernel
theorem dX10_clear_237 : decode cX10_clear 237 = .ok (.iload_n 3, 1) := by decide +kernel
theorem dX10_clear_238 : decode cX10_clear 238 = .ok (.aload_n 0, 1) := by decide +kernel
theorem dX10_clear_239 : decode cX10_clear 239 = .ok (.getfield 130, 3) := by decide +kernel
theorem dX10_clear_242 : decode cX10_clear 242 = .ok (.bipush 12, 2) := by decide +kernel
theorem dX10_clear_244 : decode cX10_clear 244 = .ok (.aload_n 0, 1) := by decide +kernel
theorem dX10_clear_245 : decode cX10_clear 245 = .ok (.getfield 183, 3) := by decide +kernel
theorem dX10_clear_248 : decode cX10_clear 248 = .ok (.imul, 1) := by decide +kernel
theorem dX10_clear_249 : decode cX10_clear 249 = .ok (.iconst 4, 1) := by decide +kernel
theorem dX10_clear_250 : decode cX10_clear 250 = .ok (.aload_n 0, 1) := by decide +kernel
theorem dX10_clear_251 : decode cX10_clear 251 = .ok (.getfield 25, 3) := by decide +kernel
theorem dX10_clear_254 : decode cX10_clear 254 = .ok (.iload_n 2, 1) := by decide +kernel
theorem dX10_clear_255 : decode cX10_clear 255 = .ok (.iaload, 1) := by decide +kernel
theorem dX10_clear_256 : decode cX10_clear 256 = .ok (.imul, 1) := by decide +kernel
theorem dX10_clear_257 : decode cX10_clear 257 = .ok (.iadd, 1) := by decide +kernel
theorem dX10_clear_258 : decode cX10_clear 258 = .ok (.aload_n 0, 1) := by decide +kernel
theorem dX10_clear_259 : decode cX10_clear 259 = .ok (.getfield 28, 3) := by decide +kernel
theorem dX10_clear_262 : decode cX10_clear 262 = .ok (.iload_n 2, 1) := by decide +kernel
theorem dX10_clear_263 : decode cX10_clear 263 = .ok (.iaload, 1) := by decide +kernel
theorem dX10_clear_264 : decode cX10_clear 264 = .ok (.iadd, 1) := by decide +kernel
theorem dX10_clear_265 : decode cX10_clear 265 = .ok (.iaload, 1) := by decide +kernel
theorem dX10_clear_266 : decode cX10_clear 266 = .ok (.invokevirtual 287, 3) := by decide +kernel
theorem dX10_clear_269 : decode cX10_clear 269 = .ok (.iinc 2 1, 3) := by decide +kernel
theorem dX10_clear_272 : decode cX10_clear 272 = .ok (.goto (-89), 3) := by decide +kernel
theorem dX10_clear_275 : decode cX10_clear 275 = .ok (.iconst 0, 1) := by decide +kernel
theorem dX10_clear_276 : decode cX10_clear 276 = .ok (.istore_n 2, 1) := by decide +kernel
theorem dX10_clear_277 : decode cX10_clear 277 = .ok (.iload_n 2, 1) := by decide +kernel
theorem dX10_clear_278 : decode cX10_clear 278 = .ok (.aload_n 0, 1) := by decide +kernel
theorem dX10_clear_279 : decode cX10_clear 279 = .ok (.getfield 204, 3) := by decide +kernel
theorem dX10_clear_282 : decode cX10_clear 282 = .ok (.if_icmp .ge 134, 3) := by decide +kernel
theorem dX10_clear_285 : decode cX10_clear 285 = .ok (.iconst 0, 1) := by decide +kernel
theorem dX10_clear_286 : decode cX10_clear 286 = .ok (.istore_n 3, 1) := by decide +kernel
theorem dX10_clear_287 : decode cX10_clear 287 = .ok (.iload_n 3, 1) := by decide +kernel
theorem dX10_clear_288 : decode cX10_clear 288 = .ok (.iconst 4, 1) := by decide +kernel
theorem dX10_clear_289 : decode cX10_clear 289 = .ok (.if_icmp .ge 121, 3) := by decide +kernel
theorem dX10_clear_292 : decode cX10_clear 292 = .ok (.aload_n 0, 1) := by decide +kernel
theorem dX10_clear_293 : decode cX10_clear 293 = .ok (.getfield 275, 3) := by decide +kernel
theorem dX10_clear_296 : decode cX10_clear 296 = .ok (.iload_n 2, 1) := by decide +kernel
theorem dX10_clear_297 : decode cX10_clear 297 = .ok (.ishr, 1) := by decide +kernel
theorem dX10_clear_298 : decode cX10_clear 298 = .ok (.iconst 1, 1) := by decide +kernel
theorem dX10_clear_299 : decode cX10_clear 299 = .ok (.iand, 1) := by decide +kernel
theorem dX10_clear_300 : decode cX10_clear 300 = .ok (.iconst 1, 1) := by decide +kernel
theorem dX10_clear_301 : decode cX10_clear 301 = .ok (.if_icmp .ne 21, 3) := by decide +kernel
theorem dX10_clear_304 : decode cX10_clear 304 = .ok (.aload_n 0, 1) := by decide +kernel
theorem dX10_clear_305 : decode cX10_clear 305 = .ok (.getfield 52, 3) := by decide +kernel
theorem dX10_clear_308 : decode cX10_clear 308 = .ok (.iload_n 2, 1) := by decide +kernel
theorem dX10_clear_309 : decode cX10_clear 309 = .ok (.iaload, 1) := by decide +kernel
theorem dX10_clear_310 : decode cX10_clear 310 = .ok (.iload_n 3, 1) := by decide +kernel
theorem dX10_clear_311 : decode cX10_clear 311 = .ok (.ishr, 1) := by decide +kernel
theorem dX10_clear_312 : decode cX10_clear 312 = .ok (.iconst 1, 1) := by decide +kernel
theorem dX10_clear_313 : decode cX10_clear 313 = .ok (.iand, 1) := by decide +kernel
theorem dX10_clear_314 : decode cX10_clear 314 = .ok (.iconst 1, 1) := by decide +kernel
theorem dX10_clear_315 : decode cX10_clear 315 = .ok (.if_icmp .ne 7, 3) := by decide +kernel
theorem dX10_clear_318 : decode cX10_clear 318 = .ok (.iconst 1, 1) := by decide +kernel
theorem dX10_clear_319 : decode cX10_clear 319 = .ok (.goto 4, 3) := by decide +kernel
theorem dX10_clear_322 : decode cX10_clear 322 = .ok (.iconst 0, 1) := by decide +kernel
theorem dX10_clear_323 : decode cX10_clear 323 = .ok (.istore 4, 2) := by decide +kernel
theorem dX10_clear_325 : decode cX10_clear 325 = .ok (.iload 4, 2) := by decide +kernel
theorem dX10_clear_327 : decode cX10_clear 327 = .ok (.ifCond .ne 7, 3) := by decide +kernel
theorem dX10_clear_330 : decode cX10_clear 330 = .ok (.iconst 0, 1) := by decide +kernel
theorem dX10_clear_331 : decode cX10_clear 331 = .ok (.goto 29, 3) := by decide +kernel
theorem dX10_clear_334 : decode cX10_clear 334 = .ok (.aload_n 0, 1) := by decide +kernel
theorem dX10_clear_335 : decode cX10_clear 335 = .ok (.getfield 55, 3) := by decide +kernel
theorem dX10_clear_338 : decode cX10_clear 338 = .ok (.iload_n 2, 1) := by decide +kernel
theorem dX10_clear_339 : decode cX10_clear 339 = .ok (.iaload, 1) := by decide +kernel
theorem dX10_clear_340 : decode cX10_clear 340 = .ok (.iconst 1, 1) := by decide +kernel
theorem dX10_clear_341 : decode cX10_clear 341 = .ok (.if_icmp .ne 13, 3) := by decide +kernel
theorem dX10_clear_344 : decode cX10_clear 344 = .ok (.aload_n 0, 1) := by decide +kernel
theorem dX10_clear_345 : decode cX10_clear 345 = .ok (.getfield 61, 3) := by decide +kernel
