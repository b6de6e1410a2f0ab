theorem dX10_clear_348 : decode cX10_clear 348 = .ok (.iload_n 2, 1) := by decide +kernel
theorem dX10_clear_349 : decode cX10_clear 349 = .ok (.iaload, 1) := by decide +kernel
theorem dX10_clear_350 : decode cX10_clear 350 = .ok (.ineg, 1) := by decide +kernel
theorem dX10_clear_351 : decode cX10_clear 351 = .ok (.goto 9, 3) := by decide +kernel
theorem dX10_clear_354 : decode cX10_clear 354 = .ok (.aload_n 0, 1) := by decide +kernel
theorem dX10_clear_355 : decode cX10_clear 355 = .ok (.getfield 61, 3) := by decide +kernel
theorem dX10_clear_358 : decode cX10_clear 358 = .ok (.iload_n 2, 1) := by decide +kernel
theorem dX10_clear_359 : decode cX10_clear 359 = .ok (.iaload, 1) := by decide +kernel
theorem dX10_clear_360 : decode cX10_clear 360 = .ok (.istore 5, 2) := by decide +kernel
theorem dX10_clear_362 : decode cX10_clear 362 = .ok (.aload_n 0, 1) := by decide +kernel
theorem dX10_clear_363 : decode cX10_clear 363 = .ok (.aload_n 0, 1) := by decide +kernel
theorem dX10_clear_364 : decode cX10_clear 364 = .ok (.getfield 46, 3) := by decide +kernel
theorem dX10_clear_367 : decode cX10_clear 367 = .ok (.iload_n 2, 1) := by decide +kernel
theorem dX10_clear_368 : decode cX10_clear 368 = .ok (.iaload, 1) := by decide +kernel
theorem dX10_clear_369 : decode cX10_clear 369 = .ok (.aload_n 0, 1) := by decide +kernel
theorem dX10_clear_370 : decode cX10_clear 370 = .ok (.getfield 49, 3) := by decide +kernel
theorem dX10_clear_373 : decode cX10_clear 373 = .ok (.iload_n 2, 1) := by decide +kernel
theorem dX10_clear_374 : decode cX10_clear 374 = .ok (.iaload, 1) := by decide +kernel
theorem dX10_clear_375 : decode cX10_clear 375 = .ok (.iload_n 3, 1) := by decide +kernel
theorem dX10_clear_376 : decode cX10_clear 376 = .ok (.iload 5, 2) := by decide +kernel
theorem dX10_clear_378 : decode cX10_clear 378 = .ok (.aload_n 0, 1) := by decide +kernel
theorem dX10_clear_379 : decode cX10_clear 379 = .ok (.getfield 130, 3) := by decide +kernel
theorem dX10_clear_382 : decode cX10_clear 382 = .ok (.bipush 12, 2) := by decide +kernel
theorem dX10_clear_384 : decode cX10_clear 384 = .ok (.aload_n 0, 1) := by decide +kernel
theorem dX10_clear_385 : decode cX10_clear 385 = .ok (.getfield 183, 3) := by decide +kernel
theorem dX10_clear_388 : decode cX10_clear 388 = .ok (.imul, 1) := by decide +kernel
theorem dX10_clear_389 : decode cX10_clear 389 = .ok (.iconst 4, 1) := by decide +kernel
theorem dX10_clear_390 : decode cX10_clear 390 = .ok (.aload_n 0, 1) := by decide +kernel
theorem dX10_clear_391 : decode cX10_clear 391 = .ok (.getfield 49, 3) := by decide +kernel
theorem dX10_clear_394 : decode cX10_clear 394 = .ok (.iload_n 2, 1) := by decide +kernel
theorem dX10_clear_395 : decode cX10_clear 395 = .ok (.iaload, 1) := by decide +kernel
theorem dX10_clear_396 : decode cX10_clear 396 = .ok (.imul, 1) := by decide +kernel
theorem dX10_clear_397 : decode cX10_clear 397 = .ok (.iadd, 1) := by decide +kernel
theorem dX10_clear_398 : decode cX10_clear 398 = .ok (.iload_n 3, 1) := by decide +kernel
theorem dX10_clear_399 : decode cX10_clear 399 = .ok (.iadd, 1) := by decide +kernel
theorem dX10_clear_400 : decode cX10_clear 400 = .ok (.iaload, 1) := by decide +kernel
theorem dX10_clear_401 : decode cX10_clear 401 = .ok (.invokevirtual 287, 3) := by decide +kernel
theorem dX10_clear_404 : decode cX10_clear 404 = .ok (.iinc 3 1, 3) := by decide +kernel
theorem dX10_clear_407 : decode cX10_clear 407 = .ok (.goto (-120), 3) := by decide +kernel
theorem dX10_clear_410 : decode cX10_clear 410 = .ok (.iinc 2 1, 3) := by decide +kernel
theorem dX10_clear_413 : decode cX10_clear 413 = .ok (.goto (-136), 3) := by decide +kernel
theorem dX10_clear_416 : decode cX10_clear 416 = .ok (.iconst 0, 1) := by decide +kernel
theorem dX10_clear_417 : decode cX10_clear 417 = .ok (.istore_n 2, 1) := by decide +kernel
theorem dX10_clear_418 : decode cX10_clear 418 = .ok (.iload_n 2, 1) := by decide +kernel
theorem dX10_clear_419 : decode cX10_clear 419 = .ok (.iconst 3, 1) := by decide +kernel
theorem dX10_clear_420 : decode cX10_clear 420 = .ok (.if_icmp .ge 33, 3) := by decide +kernel
theorem dX10_clear_423 : decode cX10_clear 423 = .ok (.iconst 0, 1) := by decide +kernel
theorem dX10_clear_424 : decode cX10_clear 424 = .ok (.istore_n 3, 1) := by decide +kernel
theorem dX10_clear_425 : decode cX10_clear 425 = .ok (.iload_n 3, 1) := by decide +kernel
theorem dX10_clear_426 : decode cX10_clear 426 = .ok (.iconst 3, 1) := by decide +kernel
theorem dX10_clear_427 : decode cX10_clear 427 = .ok (.if_icmp .ge 20, 3) := by decide +kernel
theorem dX10_clear_430 : decode cX10_clear 430 = .ok (.iload_n 2, 1) := by decide +kernel
theorem dX10_clear_431 : decode cX10_clear 431 = .ok (.iload_n 3, 1) := by decide +kernel
theorem dX10_clear_432 : decode cX10_clear 432 = .ok (.if_icmp .eq 9, 3) := by decide +kernel
theorem dX10_clear_435 : decode cX10_clear 435 = .ok (.aload_n 0, 1) := by decide +kernel
theorem dX10_clear_436 : decode cX10_clear 436 = .ok (.iload_n 2, 1) := by decide +kernel
theorem dX10_clear_437 : decode cX10_clear 437 = .ok (.iload_n 3, 1) := by decide +kernel
theorem dX10_clear_438 : decode cX10_clear 438 = .ok (.invokevirtual 291, 3) := by decide +kernel
theorem dX10_clear_441 : decode cX10_clear 441 = .ok (.iinc 3 1, 3) := by decide +kernel
theorem dX10_clear_444 : decode cX10_clear 444 = .ok (.goto (-19), 3) := by decide +kernel
theorem dX10_clear_447 : decode cX10_clear 447 = .ok (.iinc 2 1, 3) := by decide +kernel
theorem dX10_clear_450 : decode cX10_clear 450 = .ok (.goto (-32), 3) := by decide +kernel
theorem dX10_clear_453 : decode cX10_clear 453 = .ok (.aload_n 0, 1) := by decide +kernel
theorem dX10_clear_454 : decode cX10_clear 454 = .ok (.iconst 1, 1) := by decide +kernel
theorem dX10_clear_455 : decode cX10_clear 455 = .ok (.putfield 192, 3) := by decide +kernel
theorem dX10_clear_458 : decode cX10_clear 458 = .ok (.iload_n 1, 1) := by decide +kernel
theorem dX10_clear_459 : decode cX10_clear 459 = .ok (.ireturn, 1) := by decide +kernel
set_option maxRecDepth 20000 in
theorem ggX10_room_X10_fits : GoodIn wsX10_room wsX10_fits := goodIn_r _ [6, 7, 8, 9, 5, 10, 11, 12, 13, 14, 15, 16, 17, 18, 19, 20, 21, 22, 23, 24, 25, 26, 27, 28, 29, 30, 31, 32, 33, 34, 35, 36, 37, 38, 39, 40, 41, 42, 43, 44, 45, 46, 47, 48, 49, 50, 51, 52, 53, 54, 55, 56, 57, 58, 59, 60, 61, 62, 63, 64, 65, 66, 67, 68, 69, 70, 71, 72, 73, 74, 75, 76, 77, 78] (by decide +kernel) (by decide +kernel)
set_option maxRecDepth 20000 in
theorem gX10_room_X10_fits : GoodIn wsX10_room (wsV RX10 228 RX10 yX10_fits wsX10_fits) := goodIn_app (goodIn_of _ (by decide +kernel)) ggX10_room_X10_fits
theorem dX10_room_0 : decode cX10_room 0 = .ok (.iload_n 1, 1) := by decide +kernel
theorem dX10_room_1 : decode cX10_room 1 = .ok (.iload_n 2, 1) := by decide +kernel
theorem dX10_room_2 : decode cX10_room 2 = .ok (.if_icmp .ne 6, 3) := by decide +kernel
theorem dX10_room_5 : decode cX10_room 5 = .ok (.iload 4, 2) := by decide +kernel
theorem dX10_room_7 : decode cX10_room 7 = .ok (.ireturn, 1) := by decide +kernel
theorem dX10_room_8 : decode cX10_room 8 = .ok (.iconst 0, 1) := by decide +kernel
theorem dX10_room_9 : decode cX10_room 9 = .ok (.istore 5, 2) := by decide +kernel
theorem dX10_room_11 : decode cX10_room 11 = .ok (.iconst 1, 1) := by decide +kernel
theorem dX10_room_12 : decode cX10_room 12 = .ok (.istore 6, 2) := by decide +kernel
theorem dX10_room_14 : decode cX10_room 14 = .ok (.iload 6, 2) := by decide +kernel
theorem dX10_room_16 : decode cX10_room 16 = .ok (.ifCond .eq 131, 3) := by decide +kernel
theorem dX10_room_19 : decode cX10_room 19 = .ok (.iload 5, 2) := by decide +kernel
theorem dX10_room_21 : decode cX10_room 21 = .ok (.iload 4, 2) := by decide +kernel
theorem dX10_room_23 : decode cX10_room 23 = .ok (.if_icmp .ge 124, 3) := by decide +kernel
theorem dX10_room_26 : decode cX10_room 26 = .ok (.aload_n 0, 1) := by decide +kernel
theorem dX10_room_27 : decode cX10_room 27 = .ok (.getfield 151, 3) := by decide +kernel
theorem dX10_room_30 : decode cX10_room 30 = .ok (.iconst 4, 1) := by decide +kernel
theorem dX10_room_31 : decode cX10_room 31 = .ok (.iload_n 1, 1) := by decide +kernel
theorem dX10_room_32 : decode cX10_room 32 = .ok (.imul, 1) := by decide +kernel
theorem dX10_room_33 : decode cX10_room 33 = .ok (.iload_n 3, 1) := by decide +kernel
theorem dX10_room_34 : decode cX10_room 34 = .ok (.iadd, 1) := by decide +kernel
theorem dX10_room_35 : decode cX10_room 35 = .ok (.dup2, 1) := by decide +kernel
theorem dX10_room_36 : decode cX10_room 36 = .ok (.iaload, 1) := by decide +kernel
theorem dX10_room_37 : decode cX10_room 37 = .ok (.iconst 1, 1) := by decide +kernel
theorem dX10_room_38 : decode cX10_room 38 = .ok (.iadd, 1) := by decide +kernel
theorem dX10_room_39 : decode cX10_room 39 = .ok (.iastore, 1) := by decide +kernel
theorem dX10_room_40 : decode cX10_room 40 = .ok (.aload_n 0, 1) := by decide +kernel
theorem dX10_room_41 : decode cX10_room 41 = .ok (.getfield 151, 3) := by decide +kernel
theorem dX10_room_44 : decode cX10_room 44 = .ok (.iconst 4, 1) := by decide +kernel
theorem dX10_room_45 : decode cX10_room 45 = .ok (.iload_n 2, 1) := by decide +kernel
theorem dX10_room_46 : decode cX10_room 46 = .ok (.imul, 1) := by decide +kernel
theorem dX10_room_47 : decode cX10_room 47 = .ok (.iload_n 3, 1) := by decide +kernel
theorem dX10_room_48 : decode cX10_room 48 = .ok (.iadd, 1) := by decide +kernel
theorem dX10_room_49 : decode cX10_room 49 = .ok (.dup2, 1) := by decide +kernel
theorem dX10_room_50 : decode cX10_room 50 = .ok (.iaload, 1) := by decide +kernel
theorem dX10_room_51 : decode cX10_room 51 = .ok (.iconst 1, 1) := by decide +kernel
theorem dX10_room_52 : decode cX10_room 52 = .ok (.isub, 1) := by decide +kernel
theorem dX10_room_53 : decode cX10_room 53 = .ok (.iastore, 1) := by decide +kernel
theorem dX10_room_54 : decode cX10_room 54 = .ok (.aload_n 0, 1) := by decide +kernel
theorem dX10_room_55 : decode cX10_room 55 = .ok (.aload_n 0, 1) := by decide +kernel
theorem dX10_room_56 : decode cX10_room 56 = .ok (.getfield 151, 3) := by decide +kernel
theorem dX10_room_59 : decode cX10_room 59 = .ok (.iload_n 3, 1) := by decide +kernel
theorem dX10_room_60 : decode cX10_room 60 = .ok (.iaload, 1) := by decide +kernel
theorem dX10_room_61 : decode cX10_room 61 = .ok (.aload_n 0, 1) := by decide +kernel
theorem dX10_room_62 : decode cX10_room 62 = .ok (.getfield 151, 3) := by decide +kernel
theorem dX10_room_65 : decode cX10_room 65 = .ok (.iconst 4, 1) := by decide +kernel
theorem dX10_room_66 : decode cX10_room 66 = .ok (.iload_n 3, 1) := by decide +kernel
theorem dX10_room_67 : decode cX10_room 67 = .ok (.iadd, 1) := by decide +kernel
theorem dX10_room_68 : decode cX10_room 68 = .ok (.iaload, 1) := by decide +kernel
theorem dX10_room_69 : decode cX10_room 69 = .ok (.aload_n 0, 1) := by decide +kernel
theorem dX10_room_70 : decode cX10_room 70 = .ok (.getfield 151, 3) := by decide +kernel
theorem dX10_room_73 : decode cX10_room 73 = .ok (.bipush 8, 2) := by decide +kernel
theorem dX10_room_75 : decode cX10_room 75 = .ok (.iload_n 3, 1) := by decide +kernel
theorem dX10_room_76 : decode cX10_room 76 = .ok (.iadd, 1) := by decide +kernel
theorem dX10_room_77 : decode cX10_room 77 = .ok (.iaload, 1) := by decide +kernel
theorem dX10_room_78 : decode cX10_room 78 = .ok (.invokevirtual 228, 3) := by decide +kernel
theorem dX10_room_81 : decode cX10_room 81 = .ok (.istore 6, 2) := by decide +kernel
theorem dX10_room_83 : decode cX10_room 83 = .ok (.iload 5, 2) := by decide +kernel
theorem dX10_room_85 : decode cX10_room 85 = .ok (.iload 6, 2) := by decide +kernel
theorem dX10_room_87 : decode cX10_room 87 = .ok (.ifCond .eq 7, 3) := by decide +kernel
theorem dX10_room_90 : decode cX10_room 90 = .ok (.iconst 1, 1) := by decide +kernel
theorem dX10_room_91 : decode cX10_room 91 = .ok (.goto 4, 3) := by decide +kernel
theorem dX10_room_94 : decode cX10_room 94 = .ok (.iconst 0, 1) := by decide +kernel
theorem dX10_room_95 : decode cX10_room 95 = .ok (.iadd, 1) := by decide +kernel
theorem dX10_room_96 : decode cX10_room 96 = .ok (.istore 5, 2) := by decide +kernel
theorem dX10_room_98 : decode cX10_room 98 = .ok (.aload_n 0, 1) := by decide +kernel
theorem dX10_room_99 : decode cX10_room 99 = .ok (.getfield 151, 3) := by decide +kernel
theorem dX10_room_102 : decode cX10_room 102 = .ok (.iconst 4, 1) := by decide +kernel
theorem dX10_room_103 : decode cX10_room 103 = .ok (.iload_n 1, 1) := by decide +kernel
theorem dX10_room_104 : decode cX10_room 104 = .ok (.imul, 1) := by decide +kernel
theorem dX10_room_105 : decode cX10_room 105 = .ok (.iload_n 3, 1) := by decide +kernel
theorem dX10_room_106 : decode cX10_room 106 = .ok (.iadd, 1) := by decide +kernel
theorem dX10_room_107 : decode cX10_room 107 = .ok (.dup2, 1) := by decide +kernel
theorem dX10_room_108 : decode cX10_room 108 = .ok (.iaload, 1) := by decide +kernel
theorem dX10_room_109 : decode cX10_room 109 = .ok (.iload 6, 2) := by decide +kernel
theorem dX10_room_111 : decode cX10_room 111 = .ok (.ifCond .eq 7, 3) := by decide +kernel
theorem dX10_room_114 : decode cX10_room 114 = .ok (.iconst 0, 1) := by decide +kernel
theorem dX10_room_115 : decode cX10_room 115 = .ok (.goto 4, 3) := by decide +kernel
theorem dX10_room_118 : decode cX10_room 118 = .ok (.iconst 1, 1) := by decide +kernel
theorem dX10_room_119 : decode cX10_room 119 = .ok (.isub, 1) := by decide +kernel
theorem dX10_room_120 : decode cX10_room 120 = .ok (.iastore, 1) := by decide +kernel
theorem dX10_room_121 : decode cX10_room 121 = .ok (.aload_n 0, 1) := by decide +kernel
theorem dX10_room_122 : decode cX10_room 122 = .ok (.getfield 151, 3) := by decide +kernel
theorem dX10_room_125 : decode cX10_room 125 = .ok (.iconst 4, 1) := by decide +kernel
theorem dX10_room_126 : decode cX10_room 126 = .ok (.iload_n 2, 1) := by decide +kernel
theorem dX10_room_127 : decode cX10_room 127 = .ok (.imul, 1) := by decide +kernel
theorem dX10_room_128 : decode cX10_room 128 = .ok (.iload_n 3, 1) := by decide +kernel
theorem dX10_room_129 : decode cX10_room 129 = .ok (.iadd, 1) := by decide +kernel
theorem dX10_room_130 : decode cX10_room 130 = .ok (.dup2, 1) := by decide +kernel
theorem dX10_room_131 : decode cX10_room 131 = .ok (.iaload, 1) := by decide +kernel
theorem dX10_room_132 : decode cX10_room 132 = .ok (.iload 6, 2) := by decide +kernel
theorem dX10_room_134 : decode cX10_room 134 = .ok (.ifCond .eq 7, 3) := by decide +kernel
theorem dX10_room_137 : decode cX10_room 137 = .ok (.iconst 0, 1) := by decide +kernel
theorem dX10_room_138 : decode cX10_room 138 = .ok (.goto 4, 3) := by decide +kernel
theorem dX10_room_141 : decode cX10_room 141 = .ok (.iconst 1, 1) := by decide +kernel
theorem dX10_room_142 : decode cX10_room 142 = .ok (.iadd, 1) := by decide +kernel
theorem dX10_room_143 : decode cX10_room 143 = .ok (.iastore, 1) := by decide +kernel
theorem dX10_room_144 : decode cX10_room 144 = .ok (.goto (-130), 3) := by decide +kernel
theorem dX10_room_147 : decode cX10_room 147 = .ok (.aload_n 0, 1) := by decide +kernel
theorem dX10_room_148 : decode cX10_room 148 = .ok (.getfield 151, 3) := by decide +kernel
theorem dX10_room_151 : decode cX10_room 151 = .ok (.iconst 4, 1) := by decide +kernel
theorem dX10_room_152 : decode cX10_room 152 = .ok (.iload_n 1, 1) := by decide +kernel
theorem dX10_room_153 : decode cX10_room 153 = .ok (.imul, 1) := by decide +kernel
theorem dX10_room_154 : decode cX10_room 154 = .ok (.iload_n 3, 1) := by decide +kernel
theorem dX10_room_155 : decode cX10_room 155 = .ok (.iadd, 1) := by decide +kernel
theorem dX10_room_156 : decode cX10_room 156 = .ok (.dup2, 1) := by decide +kernel
theorem dX10_room_157 : decode cX10_room 157 = .ok (.iaload, 1) := by decide +kernel
theorem dX10_room_158 : decode cX10_room 158 = .ok (.iload 5, 2) := by decide +kernel
theorem dX10_room_160 : decode cX10_room 160 = .ok (.isub, 1) := by decide +kernel
theorem dX10_room_161 : decode cX10_room 161 = .ok (.iastore, 1) := by decide +kernel
theorem dX10_room_162 : decode cX10_room 162 = .ok (.aload_n 0, 1) := by decide +kernel
theorem dX10_room_163 : decode cX10_room 163 = .ok (.getfield 151, 3) := by decide +kernel
theorem dX10_room_166 : decode cX10_room 166 = .ok (.iconst 4, 1) := by decide +kernel
theorem dX10_room_167 : decode cX10_room 167 = .ok (.iload_n 2, 1) := by decide +kernel
theorem dX10_room_168 : decode cX10_room 168 = .ok (.imul, 1) := by decide +kernel
theorem dX10_room_169 : decode cX10_room 169 = .ok (.iload_n 3, 1) := by decide +kernel
theorem dX10_room_170 : decode cX10_room 170 = .ok (.iadd, 1) := by decide +kernel
theorem dX10_room_171 : decode cX10_room 171 = .ok (.dup2, 1) := by decide +kernel
theorem dX10_room_172 : decode cX10_room 172 = .ok (.iaload, 1) := by decide +kernel
theorem dX10_room_173 : decode cX10_room 173 = .ok (.iload 5, 2) := by decide +kernel
theorem dX10_room_175 : decode cX10_room 175 = .ok (.iadd, 1) := by decide +kernel
theorem dX10_room_176 : decode cX10_room 176 = .ok (.iastore, 1) := by decide +kernel
theorem dX10_room_177 : decode cX10_room 177 = .ok (.iload 5, 2) := by decide +kernel
theorem dX10_room_179 : decode cX10_room 179 = .ok (.ireturn, 1) := by decide +kernel
theorem dX10_restFor_0 : decode cX10_restFor 0 = .ok (.iconst (-1), 1) := by decide +kernel
theorem dX10_restFor_1 : decode cX10_restFor 1 = .ok (.istore_n 2, 1) := by decide +kernel
theorem dX10_restFor_2 : decode cX10_restFor 2 = .ok (.iconst 0, 1) := by decide +kernel
theorem dX10_restFor_3 : decode cX10_restFor 3 = .ok (.istore_n 3, 1) := by decide +kernel
theorem dX10_restFor_4 : decode cX10_restFor 4 = .ok (.iload_n 3, 1) := by decide +kernel
theorem dX10_restFor_5 : decode cX10_restFor 5 = .ok (.iload_n 1, 1) := by decide +kernel
theorem dX10_restFor_6 : decode cX10_restFor 6 = .ok (.if_icmp .ge 190, 3) := by decide +kernel
theorem dX10_restFor_9 : decode cX10_restFor 9 = .ok (.aload_n 0, 1) := by decide +kernel
theorem dX10_restFor_10 : decode cX10_restFor 10 = .ok (.getfield 106, 3) := by decide +kernel
theorem dX10_restFor_13 : decode cX10_restFor 13 = .ok (.iload_n 3, 1) := by decide +kernel
theorem dX10_restFor_14 : decode cX10_restFor 14 = .ok (.iaload, 1) := by decide +kernel
theorem dX10_restFor_15 : decode cX10_restFor 15 = .ok (.ifCond .ne 46, 3) := by decide +kernel
theorem dX10_restFor_18 : decode cX10_restFor 18 = .ok (.aload_n 0, 1) := by decide +kernel
theorem dX10_restFor_19 : decode cX10_restFor 19 = .ok (.getfield 103, 3) := by decide +kernel
theorem dX10_restFor_22 : decode cX10_restFor 22 = .ok (.iload_n 3, 1) := by decide +kernel
theorem dX10_restFor_23 : decode cX10_restFor 23 = .ok (.iaload, 1) := by decide +kernel
theorem dX10_restFor_24 : decode cX10_restFor 24 = .ok (.ifCond .le 37, 3) := by decide +kernel
theorem dX10_restFor_27 : decode cX10_restFor 27 = .ok (.aload_n 0, 1) := by decide +kernel
theorem dX10_restFor_28 : decode cX10_restFor 28 = .ok (.getfield 94, 3) := by decide +kernel
theorem dX10_restFor_31 : decode cX10_restFor 31 = .ok (.iload_n 3, 1) := by decide +kernel
theorem dX10_restFor_32 : decode cX10_restFor 32 = .ok (.iaload, 1) := by decide +kernel
theorem dX10_restFor_33 : decode cX10_restFor 33 = .ok (.aload_n 0, 1) := by decide +kernel
theorem dX10_restFor_34 : decode cX10_restFor 34 = .ok (.getfield 94, 3) := by decide +kernel
theorem dX10_restFor_37 : decode cX10_restFor 37 = .ok (.iload_n 1, 1) := by decide +kernel
theorem dX10_restFor_38 : decode cX10_restFor 38 = .ok (.iaload, 1) := by decide +kernel
theorem dX10_restFor_39 : decode cX10_restFor 39 = .ok (.if_icmp .ne 22, 3) := by decide +kernel
theorem dX10_restFor_42 : decode cX10_restFor 42 = .ok (.aload_n 0, 1) := by decide +kernel
theorem dX10_restFor_43 : decode cX10_restFor 43 = .ok (.getfield 97, 3) := by decide +kernel
theorem dX10_restFor_46 : decode cX10_restFor 46 = .ok (.iload_n 3, 1) := by decide +kernel
theorem dX10_restFor_47 : decode cX10_restFor 47 = .ok (.iaload, 1) := by decide +kernel
theorem dX10_restFor_48 : decode cX10_restFor 48 = .ok (.aload_n 0, 1) := by decide +kernel
theorem dX10_restFor_49 : decode cX10_restFor 49 = .ok (.getfield 97, 3) := by decide +kernel
theorem dX10_restFor_52 : decode cX10_restFor 52 = .ok (.iload_n 1, 1) := by decide +kernel
theorem dX10_restFor_53 : decode cX10_restFor 53 = .ok (.iaload, 1) := by decide +kernel
theorem dX10_restFor_54 : decode cX10_restFor 54 = .ok (.if_icmp .eq 7, 3) := by decide +kernel
theorem dX10_restFor_57 : decode cX10_restFor 57 = .ok (.iconst 1, 1) := by decide +kernel
theorem dX10_restFor_58 : decode cX10_restFor 58 = .ok (.goto 4, 3) := by decide +kernel
theorem dX10_restFor_61 : decode cX10_restFor 61 = .ok (.iconst 0, 1) := by decide +kernel
theorem dX10_restFor_62 : decode cX10_restFor 62 = .ok (.istore 4, 2) := by decide +kernel
theorem dX10_restFor_64 : decode cX10_restFor 64 = .ok (.iload 4, 2) := by decide +kernel
theorem dX10_restFor_66 : decode cX10_restFor 66 = .ok (.ifCond .eq 50, 3) := by decide +kernel
theorem dX10_restFor_69 : decode cX10_restFor 69 = .ok (.aload_n 0, 1) := by decide +kernel
theorem dX10_restFor_70 : decode cX10_restFor 70 = .ok (.getfield 97, 3) := by decide +kernel
theorem dX10_restFor_73 : decode cX10_restFor 73 = .ok (.iload_n 1, 1) := by decide +kernel
theorem dX10_restFor_74 : decode cX10_restFor 74 = .ok (.iaload, 1) := by decide +kernel
theorem dX10_restFor_75 : decode cX10_restFor 75 = .ok (.iconst 1, 1) := by decide +kernel
theorem dX10_restFor_76 : decode cX10_restFor 76 = .ok (.if_icmp .ne 21, 3) := by decide +kernel
theorem dX10_restFor_79 : decode cX10_restFor 79 = .ok (.aload_n 0, 1) := by decide +kernel
theorem dX10_restFor_80 : decode cX10_restFor 80 = .ok (.getfield 100, 3) := by decide +kernel
theorem dX10_restFor_83 : decode cX10_restFor 83 = .ok (.iload_n 3, 1) := by decide +kernel
theorem dX10_restFor_84 : decode cX10_restFor 84 = .ok (.iaload, 1) := by decide +kernel
theorem dX10_restFor_85 : decode cX10_restFor 85 = .ok (.aload_n 0, 1) := by decide +kernel
theorem dX10_restFor_86 : decode cX10_restFor 86 = .ok (.getfield 100, 3) := by decide +kernel
theorem dX10_restFor_89 : decode cX10_restFor 89 = .ok (.iload_n 1, 1) := by decide +kernel
theorem dX10_restFor_90 : decode cX10_restFor 90 = .ok (.iaload, 1) := by decide +kernel
theorem dX10_restFor_91 : decode cX10_restFor 91 = .ok (.if_icmp .gt 25, 3) := by decide +kernel
theorem dX10_restFor_94 : decode cX10_restFor 94 = .ok (.goto 18, 3) := by decide +kernel
theorem dX10_restFor_97 : decode cX10_restFor 97 = .ok (.aload_n 0, 1) := by decide +kernel
theorem dX10_restFor_98 : decode cX10_restFor 98 = .ok (.getfield 100, 3) := by decide +kernel
theorem dX10_restFor_101 : decode cX10_restFor 101 = .ok (.iload_n 3, 1) := by decide +kernel
theorem dX10_restFor_102 : decode cX10_restFor 102 = .ok (.iaload, 1) := by decide +kernel
theorem dX10_restFor_103 : decode cX10_restFor 103 = .ok (.aload_n 0, 1) := by decide +kernel
theorem dX10_restFor_104 : decode cX10_restFor 104 = .ok (.getfield 100, 3) := by decide +kernel
theorem dX10_restFor_107 : decode cX10_restFor 107 = .ok (.iload_n 1, 1) := by decide +kernel
theorem dX10_restFor_108 : decode cX10_restFor 108 = .ok (.iaload, 1) := by decide +kernel
theorem dX10_restFor_109 : decode cX10_restFor 109 = .ok (.if_icmp .lt 7, 3) := by decide +kernel
theorem dX10_restFor_112 : decode cX10_restFor 112 = .ok (.iconst 1, 1) := by decide +kernel
theorem dX10_restFor_113 : decode cX10_restFor 113 = .ok (.goto 4, 3) := by decide +kernel
theorem dX10_restFor_116 : decode cX10_restFor 116 = .ok (.iconst 0, 1) := by decide +kernel
theorem dX10_restFor_117 : decode cX10_restFor 117 = .ok (.istore 4, 2) := by decide +kernel
theorem dX10_restFor_119 : decode cX10_restFor 119 = .ok (.iload_n 2, 1) := by decide +kernel
theorem dX10_restFor_120 : decode cX10_restFor 120 = .ok (.iconst (-1), 1) := by decide +kernel
theorem dX10_restFor_121 : decode cX10_restFor 121 = .ok (.if_icmp .eq 46, 3) := by decide +kernel
theorem dX10_restFor_124 : decode cX10_restFor 124 = .ok (.aload_n 0, 1) := by decide +kernel
theorem dX10_restFor_125 : decode cX10_restFor 125 = .ok (.getfield 97, 3) := by decide +kernel
theorem dX10_restFor_128 : decode cX10_restFor 128 = .ok (.iload_n 1, 1) := by decide +kernel
theorem dX10_restFor_129 : decode cX10_restFor 129 = .ok (.iaload, 1) := by decide +kernel
theorem dX10_restFor_130 : decode cX10_restFor 130 = .ok (.iconst 1, 1) := by decide +kernel
theorem dX10_restFor_131 : decode cX10_restFor 131 = .ok (.if_icmp .ne 21, 3) := by decide +kernel
theorem dX10_restFor_134 : decode cX10_restFor 134 = .ok (.aload_n 0, 1) := by decide +kernel
theorem dX10_restFor_135 : decode cX10_restFor 135 = .ok (.getfield 100, 3) := by decide +kernel
theorem dX10_restFor_138 : decode cX10_restFor 138 = .ok (.iload_n 3, 1) := by decide +kernel
theorem dX10_restFor_139 : decode cX10_restFor 139 = .ok (.iaload, 1) := by decide +kernel
theorem dX10_restFor_140 : decode cX10_restFor 140 = .ok (.aload_n 0, 1) := by decide +kernel
theorem dX10_restFor_141 : decode cX10_restFor 141 = .ok (.getfield 100, 3) := by decide +kernel
theorem dX10_restFor_144 : decode cX10_restFor 144 = .ok (.iload_n 2, 1) := by decide +kernel
theorem dX10_restFor_145 : decode cX10_restFor 145 = .ok (.iaload, 1) := by decide +kernel
theorem dX10_restFor_146 : decode cX10_restFor 146 = .ok (.if_icmp .ge 25, 3) := by decide +kernel
theorem dX10_restFor_149 : decode cX10_restFor 149 = .ok (.goto 18, 3) := by decide +kernel
theorem dX10_restFor_152 : decode cX10_restFor 152 = .ok (.aload_n 0, 1) := by decide +kernel
theorem dX10_restFor_153 : decode cX10_restFor 153 = .ok (.getfield 100, 3) := by decide +kernel
theorem dX10_restFor_156 : decode cX10_restFor 156 = .ok (.iload_n 3, 1) := by decide +kernel
theorem dX10_restFor_157 : decode cX10_restFor 157 = .ok (.iaload, 1) := by decide +kernel
theorem dX10_restFor_158 : decode cX10_restFor 158 = .ok (.aload_n 0, 1) := by decide +kernel
theorem dX10_restFor_159 : decode cX10_restFor 159 = .ok (.getfield 100, 3) := by decide +kernel
theorem dX10_restFor_162 : decode cX10_restFor 162 = .ok (.iload_n 2, 1) := by decide +kernel
theorem dX10_restFor_163 : decode cX10_restFor 163 = .ok (.iaload, 1) := by decide +kernel
theorem dX10_restFor_164 : decode cX10_restFor 164 = .ok (.if_icmp .le 7, 3) := by decide +kernel
theorem dX10_restFor_167 : decode cX10_restFor 167 = .ok (.iconst 1, 1) := by decide +kernel
theorem dX10_restFor_168 : decode cX10_restFor 168 = .ok (.goto 4, 3) := by decide +kernel
theorem dX10_restFor_171 : decode cX10_restFor 171 = .ok (.iconst 0, 1) := by decide +kernel
theorem dX10_restFor_172 : decode cX10_restFor 172 = .ok (.istore 5, 2) := by decide +kernel
theorem dX10_restFor_174 : decode cX10_restFor 174 = .ok (.iload 4, 2) := by decide +kernel
theorem dX10_restFor_176 : decode cX10_restFor 176 = .ok (.ifCond .eq 12, 3) := by decide +kernel
theorem dX10_restFor_179 : decode cX10_restFor 179 = .ok (.iload 5, 2) := by decide +kernel
theorem dX10_restFor_181 : decode cX10_restFor 181 = .ok (.ifCond .eq 7, 3) := by decide +kernel
theorem dX10_restFor_184 : decode cX10_restFor 184 = .ok (.iload_n 3, 1) := by decide +kernel
theorem dX10_restFor_185 : decode cX10_restFor 185 = .ok (.goto 4, 3) := by decide +kernel
theorem dX10_restFor_188 : decode cX10_restFor 188 = .ok (.iload_n 2, 1) := by decide +kernel
theorem dX10_restFor_189 : decode cX10_restFor 189 = .ok (.istore_n 2, 1) := by decide +kernel
theorem dX10_restFor_190 : decode cX10_restFor 190 = .ok (.iinc 3 1, 3) := by decide +kernel
theorem dX10_restFor_193 : decode cX10_restFor 193 = .ok (.goto (-189), 3) := by decide +kernel
theorem dX10_restFor_196 : decode cX10_restFor 196 = .ok (.iload_n 2, 1) := by decide +kernel
theorem dX10_restFor_197 : decode cX10_restFor 197 = .ok (.ireturn, 1) := by decide +kernel
set_option maxRecDepth 20000 in
theorem ggX10_meets_X10_room : GoodIn wsX10_meets wsX10_room := goodIn_r _ [12, 6, 13, 14, 15, 11, 16, 17, 18, 19, 20, 28, 29, 30, 31, 32, 33, 34, 35, 36, 37, 38, 39, 40, 41, 42, 43, 44, 45, 46, 47, 48, 49, 50, 51, 52, 53, 54, 55, 56, 57, 58, 59, 60, 61, 62, 63, 64, 65, 66, 67, 68, 69, 70, 71, 72, 73, 74, 75, 76, 77, 78, 79, 80, 81, 82, 83, 84, 85, 86, 87, 88, 89, 90, 91, 92, 93, 94, 95] (by decide +kernel) (by decide +kernel)
set_option maxRecDepth 20000 in
theorem gX10_meets_X10_room : GoodIn wsX10_meets (wsV RX10 294 RX10 yX10_room wsX10_room) := goodIn_app (goodIn_of _ (by decide +kernel)) ggX10_meets_X10_room
set_option maxRecDepth 20000 in
theorem ggX10_meets_X10_trades : GoodIn wsX10_meets wsX10_trades := goodIn_r _ [24, 25, 26, 27, 28, 29, 30, 31, 32, 33, 34, 35, 36, 37, 38, 39, 40, 41, 42, 43, 44, 45, 46, 47, 48, 49, 50, 51, 52, 53, 54, 55, 56, 57, 58, 59, 60, 61, 62, 63, 64, 65, 66, 67, 68, 69, 70, 71, 72, 73, 74, 75, 76, 77, 78, 79, 80, 81, 82, 83, 84, 85, 86, 87, 88, 89, 90, 91, 92, 93, 94, 95] (by decide +kernel) (by decide +kernel)
set_option maxRecDepth 20000 in
theorem gX10_meets_X10_trades : GoodIn wsX10_meets (wsV RX10 287 RX10 yX10_trades wsX10_trades) := goodIn_app (goodIn_of _ (by decide +kernel)) ggX10_meets_X10_trades
theorem dX10_meets_0 : decode cX10_meets 0 = .ok (.aload_n 0, 1) := by decide +kernel
theorem dX10_meets_1 : decode cX10_meets 1 = .ok (.getfield 94, 3) := by decide +kernel
theorem dX10_meets_4 : decode cX10_meets 4 = .ok (.iload_n 1, 1) := by decide +kernel
theorem dX10_meets_5 : decode cX10_meets 5 = .ok (.iaload, 1) := by decide +kernel
theorem dX10_meets_6 : decode cX10_meets 6 = .ok (.istore_n 3, 1) := by decide +kernel
theorem dX10_meets_7 : decode cX10_meets 7 = .ok (.aload_n 0, 1) := by decide +kernel
theorem dX10_meets_8 : decode cX10_meets 8 = .ok (.getfield 97, 3) := by decide +kernel
theorem dX10_meets_11 : decode cX10_meets 11 = .ok (.iload_n 1, 1) := by decide +kernel
theorem dX10_meets_12 : decode cX10_meets 12 = .ok (.iaload, 1) := by decide +kernel
theorem dX10_meets_13 : decode cX10_meets 13 = .ok (.iconst 1, 1) := by decide +kernel
theorem dX10_meets_14 : decode cX10_meets 14 = .ok (.if_icmp .ne 7, 3) := by decide +kernel
theorem dX10_meets_17 : decode cX10_meets 17 = .ok (.iload_n 2, 1) := by decide +kernel
theorem dX10_meets_18 : decode cX10_meets 18 = .ok (.goto 4, 3) := by decide +kernel
theorem dX10_meets_21 : decode cX10_meets 21 = .ok (.iload_n 1, 1) := by decide +kernel
theorem dX10_meets_22 : decode cX10_meets 22 = .ok (.istore 4, 2) := by decide +kernel
theorem dX10_meets_24 : decode cX10_meets 24 = .ok (.aload_n 0, 1) := by decide +kernel
theorem dX10_meets_25 : decode cX10_meets 25 = .ok (.getfield 97, 3) := by decide +kernel
theorem dX10_meets_28 : decode cX10_meets 28 = .ok (.iload_n 1, 1) := by decide +kernel
theorem dX10_meets_29 : decode cX10_meets 29 = .ok (.iaload, 1) := by decide +kernel
theorem dX10_meets_30 : decode cX10_meets 30 = .ok (.iconst 1, 1) := by decide +kernel
theorem dX10_meets_31 : decode cX10_meets 31 = .ok (.if_icmp .ne 7, 3) := by decide +kernel
theorem dX10_meets_34 : decode cX10_meets 34 = .ok (.iload_n 1, 1) := by decide +kernel
theorem dX10_meets_35 : decode cX10_meets 35 = .ok (.goto 4, 3) := by decide +kernel
theorem dX10_meets_38 : decode cX10_meets 38 = .ok (.iload_n 2, 1) := by decide +kernel
theorem dX10_meets_39 : decode cX10_meets 39 = .ok (.istore 5, 2) := by decide +kernel
theorem dX10_meets_41 : decode cX10_meets 41 = .ok (.aload_n 0, 1) := by decide +kernel
theorem dX10_meets_42 : decode cX10_meets 42 = .ok (.getfield 103, 3) := by decide +kernel
theorem dX10_meets_45 : decode cX10_meets 45 = .ok (.iload_n 1, 1) := by decide +kernel
theorem dX10_meets_46 : decode cX10_meets 46 = .ok (.iaload, 1) := by decide +kernel
theorem dX10_meets_47 : decode cX10_meets 47 = .ok (.aload_n 0, 1) := by decide +kernel
theorem dX10_meets_48 : decode cX10_meets 48 = .ok (.getfield 103, 3) := by decide +kernel
theorem dX10_meets_51 : decode cX10_meets 51 = .ok (.iload_n 2, 1) := by decide +kernel
theorem dX10_meets_52 : decode cX10_meets 52 = .ok (.iaload, 1) := by decide +kernel
theorem dX10_meets_53 : decode cX10_meets 53 = .ok (.if_icmp .ge 12, 3) := by decide +kernel
theorem dX10_meets_56 : decode cX10_meets 56 = .ok (.aload_n 0, 1) := by decide +kernel
theorem dX10_meets_57 : decode cX10_meets 57 = .ok (.getfield 103, 3) := by decide +kernel
theorem dX10_meets_60 : decode cX10_meets 60 = .ok (.iload_n 1, 1) := by decide +kernel
theorem dX10_meets_61 : decode cX10_meets 61 = .ok (.iaload, 1) := by decide +kernel
theorem dX10_meets_62 : decode cX10_meets 62 = .ok (.goto 9, 3) := by decide +kernel
theorem dX10_meets_65 : decode cX10_meets 65 = .ok (.aload_n 0, 1) := by decide +kernel
theorem dX10_meets_66 : decode cX10_meets 66 = .ok (.getfield 103, 3) := by decide +kernel
theorem dX10_meets_69 : decode cX10_meets 69 = .ok (.iload_n 2, 1) := by decide +kernel
theorem dX10_meets_70 : decode cX10_meets 70 = .ok (.iaload, 1) := by decide +kernel
theorem dX10_meets_71 : decode cX10_meets 71 = .ok (.istore 6, 2) := by decide +kernel
theorem dX10_meets_73 : decode cX10_meets 73 = .ok (.aload_n 0, 1) := by decide +kernel
theorem dX10_meets_74 : decode cX10_meets 74 = .ok (.getfield 88, 3) := by decide +kernel
theorem dX10_meets_77 : decode cX10_meets 77 = .ok (.iload_n 1, 1) := by decide +kernel
theorem dX10_meets_78 : decode cX10_meets 78 = .ok (.iaload, 1) := by decide +kernel
theorem dX10_meets_79 : decode cX10_meets 79 = .ok (.aload_n 0, 1) := by decide +kernel
theorem dX10_meets_80 : decode cX10_meets 80 = .ok (.getfield 88, 3) := by decide +kernel
theorem dX10_meets_83 : decode cX10_meets 83 = .ok (.iload_n 2, 1) := by decide +kernel
theorem dX10_meets_84 : decode cX10_meets 84 = .ok (.iaload, 1) := by decide +kernel
theorem dX10_meets_85 : decode cX10_meets 85 = .ok (.if_icmp .ne 7, 3) := by decide +kernel
theorem dX10_meets_88 : decode cX10_meets 88 = .ok (.iconst 0, 1) := by decide +kernel
theorem dX10_meets_89 : decode cX10_meets 89 = .ok (.goto 24, 3) := by decide +kernel
theorem dX10_meets_92 : decode cX10_meets 92 = .ok (.aload_n 0, 1) := by decide +kernel
theorem dX10_meets_93 : decode cX10_meets 93 = .ok (.aload_n 0, 1) := by decide +kernel
theorem dX10_meets_94 : decode cX10_meets 94 = .ok (.getfield 91, 3) := by decide +kernel
theorem dX10_meets_97 : decode cX10_meets 97 = .ok (.iload 4, 2) := by decide +kernel
theorem dX10_meets_99 : decode cX10_meets 99 = .ok (.iaload, 1) := by decide +kernel
theorem dX10_meets_100 : decode cX10_meets 100 = .ok (.aload_n 0, 1) := by decide +kernel
theorem dX10_meets_101 : decode cX10_meets 101 = .ok (.getfield 91, 3) := by decide +kernel
theorem dX10_meets_104 : decode cX10_meets 104 = .ok (.iload 5, 2) := by decide +kernel
theorem dX10_meets_106 : decode cX10_meets 106 = .ok (.iaload, 1) := by decide +kernel
theorem dX10_meets_107 : decode cX10_meets 107 = .ok (.iload_n 3, 1) := by decide +kernel
theorem dX10_meets_108 : decode cX10_meets 108 = .ok (.iload 6, 2) := by decide +kernel
theorem dX10_meets_110 : decode cX10_meets 110 = .ok (.invokevirtual 294, 3) := by decide +kernel
theorem dX10_meets_113 : decode cX10_meets 113 = .ok (.istore 7, 2) := by decide +kernel
theorem dX10_meets_115 : decode cX10_meets 115 = .ok (.aload_n 0, 1) := by decide +kernel
theorem dX10_meets_116 : decode cX10_meets 116 = .ok (.getfield 103, 3) := by decide +kernel
theorem dX10_meets_119 : decode cX10_meets 119 = .ok (.iload_n 1, 1) := by decide +kernel
theorem dX10_meets_120 : decode cX10_meets 120 = .ok (.dup2, 1) := by decide +kernel
theorem dX10_meets_121 : decode cX10_meets 121 = .ok (.iaload, 1) := by decide +kernel
theorem dX10_meets_122 : decode cX10_meets 122 = .ok (.iload 7, 2) := by decide +kernel
theorem dX10_meets_124 : decode cX10_meets 124 = .ok (.isub, 1) := by decide +kernel
theorem dX10_meets_125 : decode cX10_meets 125 = .ok (.iastore, 1) := by decide +kernel
theorem dX10_meets_126 : decode cX10_meets 126 = .ok (.aload_n 0, 1) := by decide +kernel
theorem dX10_meets_127 : decode cX10_meets 127 = .ok (.getfield 103, 3) := by decide +kernel
theorem dX10_meets_130 : decode cX10_meets 130 = .ok (.iload_n 2, 1) := by decide +kernel
theorem dX10_meets_131 : decode cX10_meets 131 = .ok (.dup2, 1) := by decide +kernel
theorem dX10_meets_132 : decode cX10_meets 132 = .ok (.iaload, 1) := by decide +kernel
theorem dX10_meets_133 : decode cX10_meets 133 = .ok (.iload 7, 2) := by decide +kernel
theorem dX10_meets_135 : decode cX10_meets 135 = .ok (.isub, 1) := by decide +kernel
theorem dX10_meets_136 : decode cX10_meets 136 = .ok (.iastore, 1) := by decide +kernel
theorem dX10_meets_137 : decode cX10_meets 137 = .ok (.aload_n 0, 1) := by decide +kernel
theorem dX10_meets_138 : decode cX10_meets 138 = .ok (.getfield 151, 3) := by decide +kernel
theorem dX10_meets_141 : decode cX10_meets 141 = .ok (.iconst 4, 1) := by decide +kernel
theorem dX10_meets_142 : decode cX10_meets 142 = .ok (.aload_n 0, 1) := by decide +kernel
theorem dX10_meets_143 : decode cX10_meets 143 = .ok (.getfield 91, 3) := by decide +kernel
theorem dX10_meets_146 : decode cX10_meets 146 = .ok (.iload 4, 2) := by decide +kernel
theorem dX10_meets_148 : decode cX10_meets 148 = .ok (.iaload, 1) := by decide +kernel
theorem dX10_meets_149 : decode cX10_meets 149 = .ok (.imul, 1) := by decide +kernel
theorem dX10_meets_150 : decode cX10_meets 150 = .ok (.iload_n 3, 1) := by decide +kernel
theorem dX10_meets_151 : decode cX10_meets 151 = .ok (.iadd, 1) := by decide +kernel
theorem dX10_meets_152 : decode cX10_meets 152 = .ok (.dup2, 1) := by decide +kernel
theorem dX10_meets_153 : decode cX10_meets 153 = .ok (.iaload, 1) := by decide +kernel
theorem dX10_meets_154 : decode cX10_meets 154 = .ok (.iload 7, 2) := by decide +kernel
theorem dX10_meets_156 : decode cX10_meets 156 = .ok (.iadd, 1) := by decide +kernel
theorem dX10_meets_157 : decode cX10_meets 157 = .ok (.iastore, 1) := by decide +kernel
theorem dX10_meets_158 : decode cX10_meets 158 = .ok (.aload_n 0, 1) := by decide +kernel
theorem dX10_meets_159 : decode cX10_meets 159 = .ok (.getfield 151, 3) := by decide +kernel
theorem dX10_meets_162 : decode cX10_meets 162 = .ok (.iconst 4, 1) := by decide +kernel
theorem dX10_meets_163 : decode cX10_meets 163 = .ok (.aload_n 0, 1) := by decide +kernel
theorem dX10_meets_164 : decode cX10_meets 164 = .ok (.getfield 91, 3) := by decide +kernel
theorem dX10_meets_167 : decode cX10_meets 167 = .ok (.iload 5, 2) := by decide +kernel
theorem dX10_meets_169 : decode cX10_meets 169 = .ok (.iaload, 1) := by decide +kernel
theorem dX10_meets_170 : decode cX10_meets 170 = .ok (.imul, 1) := by decide +kernel
theorem dX10_meets_171 : decode cX10_meets 171 = .ok (.iload_n 3, 1) := by decide +kernel
theorem dX10_meets_172 : decode cX10_meets 172 = .ok (.iadd, 1) := by decide +kernel
theorem dX10_meets_173 : decode cX10_meets 173 = .ok (.dup2, 1) := by decide +kernel
theorem dX10_meets_174 : decode cX10_meets 174 = .ok (.iaload, 1) := by decide +kernel
theorem dX10_meets_175 : decode cX10_meets 175 = .ok (.iload 7, 2) := by decide +kernel
theorem dX10_meets_177 : decode cX10_meets 177 = .ok (.isub, 1) := by decide +kernel
theorem dX10_meets_178 : decode cX10_meets 178 = .ok (.iastore, 1) := by decide +kernel
theorem dX10_meets_179 : decode cX10_meets 179 = .ok (.aload_n 0, 1) := by decide +kernel
theorem dX10_meets_180 : decode cX10_meets 180 = .ok (.aload_n 0, 1) := by decide +kernel
theorem dX10_meets_181 : decode cX10_meets 181 = .ok (.getfield 88, 3) := by decide +kernel
theorem dX10_meets_184 : decode cX10_meets 184 = .ok (.iload 4, 2) := by decide +kernel
theorem dX10_meets_186 : decode cX10_meets 186 = .ok (.iaload, 1) := by decide +kernel
theorem dX10_meets_187 : decode cX10_meets 187 = .ok (.aload_n 0, 1) := by decide +kernel
theorem dX10_meets_188 : decode cX10_meets 188 = .ok (.getfield 91, 3) := by decide +kernel
theorem dX10_meets_191 : decode cX10_meets 191 = .ok (.iload 4, 2) := by decide +kernel
theorem dX10_meets_193 : decode cX10_meets 193 = .ok (.iaload, 1) := by decide +kernel
theorem dX10_meets_194 : decode cX10_meets 194 = .ok (.iload_n 3, 1) := by decide +kernel
theorem dX10_meets_195 : decode cX10_meets 195 = .ok (.iload 7, 2) := by decide +kernel
theorem dX10_meets_197 : decode cX10_meets 197 = .ok (.aload_n 0, 1) := by decide +kernel
theorem dX10_meets_198 : decode cX10_meets 198 = .ok (.getfield 100, 3) := by decide +kernel
theorem dX10_meets_201 : decode cX10_meets 201 = .ok (.iload_n 2, 1) := by decide +kernel
theorem dX10_meets_202 : decode cX10_meets 202 = .ok (.iaload, 1) := by decide +kernel
theorem dX10_meets_203 : decode cX10_meets 203 = .ok (.invokevirtual 287, 3) := by decide +kernel
theorem dX10_meets_206 : decode cX10_meets 206 = .ok (.aload_n 0, 1) := by decide +kernel
theorem dX10_meets_207 : decode cX10_meets 207 = .ok (.aload_n 0, 1) := by decide +kernel
theorem dX10_meets_208 : decode cX10_meets 208 = .ok (.getfield 88, 3) := by decide +kernel
theorem dX10_meets_211 : decode cX10_meets 211 = .ok (.iload 5, 2) := by decide +kernel
theorem dX10_meets_213 : decode cX10_meets 213 = .ok (.iaload, 1) := by decide +kernel
theorem dX10_meets_214 : decode cX10_meets 214 = .ok (.aload_n 0, 1) := by decide +kernel
theorem dX10_meets_215 : decode cX10_meets 215 = .ok (.getfield 91, 3) := by decide +kernel
theorem dX10_meets_218 : decode cX10_meets 218 = .ok (.iload 5, 2) := by decide +kernel
theorem dX10_meets_220 : decode cX10_meets 220 = .ok (.iaload, 1) := by decide +kernel
theorem dX10_meets_221 : decode cX10_meets 221 = .ok (.iload_n 3, 1) := by decide +kernel
theorem dX10_meets_222 : decode cX10_meets 222 = .ok (.iload 7, 2) := by decide +kernel
theorem dX10_meets_224 : decode cX10_meets 224 = .ok (.ineg, 1) := by decide +kernel
theorem dX10_meets_225 : decode cX10_meets 225 = .ok (.aload_n 0, 1) := by decide +kernel
theorem dX10_meets_226 : decode cX10_meets 226 = .ok (.getfield 100, 3) := by decide +kernel
theorem dX10_meets_229 : decode cX10_meets 229 = .ok (.iload_n 2, 1) := by decide +kernel
theorem dX10_meets_230 : decode cX10_meets 230 = .ok (.iaload, 1) := by decide +kernel
theorem dX10_meets_231 : decode cX10_meets 231 = .ok (.invokevirtual 287, 3) := by decide +kernel
theorem dX10_meets_234 : decode cX10_meets 234 = .ok (.return_, 1) := by decide +kernel
set_option maxRecDepth 20000 in
theorem ggX10_offer_X10_isFirm : GoodIn wsX10_offer wsX10_isFirm := goodIn_r _ [15, 16, 17, 14, 18] (by decide +kernel) (by decide +kernel)
set_option maxRecDepth 20000 in
theorem gX10_offer_X10_isFirm : GoodIn wsX10_offer (va_wsS RX10 186 yX10_isFirm wsX10_isFirm) := goodIn_app (goodIn_of _ (by decide +kernel)) ggX10_offer_X10_isFirm
set_option maxRecDepth 20000 in
theorem ggX10_offer_X10_isZone : GoodIn wsX10_offer wsX10_isZone := goodIn_r _ [21, 16, 17, 14, 18] (by decide +kernel) (by decide +kernel)
set_option maxRecDepth 20000 in
theorem gX10_offer_X10_isZone : GoodIn wsX10_offer (va_wsS RX10 195 yX10_isZone wsX10_isZone) := goodIn_app (goodIn_of _ (by decide +kernel)) ggX10_offer_X10_isZone
set_option maxRecDepth 20000 in
theorem ggX10_offer_X10_isHour : GoodIn wsX10_offer wsX10_isHour := goodIn_r _ [24, 16, 17, 14, 18] (by decide +kernel) (by decide +kernel)
set_option maxRecDepth 20000 in
theorem gX10_offer_X10_isHour : GoodIn wsX10_offer (va_wsS RX10 198 yX10_isHour wsX10_isHour) := goodIn_app (goodIn_of _ (by decide +kernel)) ggX10_offer_X10_isHour
set_option maxRecDepth 20000 in
theorem ggX10_offer_X10_in : GoodIn wsX10_offer wsX10_in := goodIn_r _ [18] (by decide +kernel) (by decide +kernel)
set_option maxRecDepth 20000 in
theorem gX10_offer_X10_in : GoodIn wsX10_offer (va_wsS RX10 179 yX10_in wsX10_in) := goodIn_app (goodIn_of _ (by decide +kernel)) ggX10_offer_X10_in
set_option maxRecDepth 20000 in
theorem ggX10_offer_X10_restFor : GoodIn wsX10_offer wsX10_restFor := goodIn_r _ [28, 11, 10, 7, 8, 9, 53, 54, 55, 56, 57, 58, 59, 60, 61, 62, 63, 64, 65, 66, 67, 68, 69, 70, 71, 72, 73, 74, 75, 76, 77, 78, 79, 80, 81, 82, 83, 84, 85, 86, 87, 88, 89, 90, 91, 92, 93, 94, 95, 96, 97, 98, 99, 100, 101, 102, 103, 104, 105, 106, 107, 108, 109, 110, 111, 112, 113, 114, 115, 116, 117, 118, 119, 120] (by decide +kernel) (by decide +kernel)
set_option maxRecDepth 20000 in
theorem gX10_offer_X10_restFor : GoodIn wsX10_offer (wsV RX10 301 RX10 yX10_restFor wsX10_restFor) := goodIn_app (goodIn_of _ (by decide +kernel)) ggX10_offer_X10_restFor
set_option maxRecDepth 20000 in
theorem ggX10_offer_X10_meets : GoodIn wsX10_offer wsX10_meets := goodIn_r _ [32, 7, 8, 10, 5, 6, 33, 9, 34, 35, 36, 14, 37, 38, 39, 40, 41, 42, 43, 44, 45, 46, 47, 48, 49, 50, 51, 52, 53, 54, 55, 56, 57, 58, 59, 60, 61, 62, 63, 64, 65, 66, 67, 68, 69, 70, 71, 72, 73, 74, 75, 76, 77, 78, 79, 80, 81, 82, 83, 84, 85, 86, 87, 88, 89, 90, 91, 92, 93, 94, 95, 96, 97, 98, 99, 100, 101, 102, 103, 104, 105, 106, 107, 108, 109, 110, 111, 112, 113, 114, 115, 116, 117, 118, 119, 120] (by decide +kernel) (by decide +kernel)
set_option maxRecDepth 20000 in
theorem gX10_offer_X10_meets : GoodIn wsX10_offer (wsV RX10 304 RX10 yX10_meets wsX10_meets) := goodIn_app (goodIn_of _ (by decide +kernel)) ggX10_offer_X10_meets
theorem dX10_offer_0 : decode cX10_offer 0 = .ok (.aload_n 0, 1) := by decide +kernel
theorem dX10_offer_1 : decode cX10_offer 1 = .ok (.iload_n 1, 1) := by decide +kernel
theorem dX10_offer_2 : decode cX10_offer 2 = .ok (.invokestatic 186, 3) := by decide +kernel
theorem dX10_offer_5 : decode cX10_offer 5 = .ok (.ifCond .eq 17, 3) := by decide +kernel
theorem dX10_offer_8 : decode cX10_offer 8 = .ok (.iload_n 2, 1) := by decide +kernel
theorem dX10_offer_9 : decode cX10_offer 9 = .ok (.invokestatic 195, 3) := by decide +kernel
theorem dX10_offer_12 : decode cX10_offer 12 = .ok (.ifCond .eq 10, 3) := by decide +kernel
theorem dX10_offer_15 : decode cX10_offer 15 = .ok (.iload_n 3, 1) := by decide +kernel
theorem dX10_offer_16 : decode cX10_offer 16 = .ok (.invokestatic 198, 3) := by decide +kernel
theorem dX10_offer_19 : decode cX10_offer 19 = .ok (.ifCond .ne 7, 3) := by decide +kernel
theorem dX10_offer_22 : decode cX10_offer 22 = .ok (.iconst 1, 1) := by decide +kernel
theorem dX10_offer_23 : decode cX10_offer 23 = .ok (.goto 31, 3) := by decide +kernel
theorem dX10_offer_26 : decode cX10_offer 26 = .ok (.iload 5, 2) := by decide +kernel
theorem dX10_offer_28 : decode cX10_offer 28 = .ok (.iconst 0, 1) := by decide +kernel
theorem dX10_offer_29 : decode cX10_offer 29 = .ok (.sipush 300, 3) := by decide +kernel
theorem dX10_offer_32 : decode cX10_offer 32 = .ok (.invokestatic 179, 3) := by decide +kernel
theorem dX10_offer_35 : decode cX10_offer 35 = .ok (.ifCond .eq 14, 3) := by decide +kernel
theorem dX10_offer_38 : decode cX10_offer 38 = .ok (.iload 6, 2) := by decide +kernel
theorem dX10_offer_40 : decode cX10_offer 40 = .ok (.iconst 1, 1) := by decide +kernel
theorem dX10_offer_41 : decode cX10_offer 41 = .ok (.bipush 10, 2) := by decide +kernel
theorem dX10_offer_43 : decode cX10_offer 43 = .ok (.invokestatic 179, 3) := by decide +kernel
theorem dX10_offer_46 : decode cX10_offer 46 = .ok (.ifCond .ne 7, 3) := by decide +kernel
theorem dX10_offer_49 : decode cX10_offer 49 = .ok (.iconst 2, 1) := by decide +kernel
theorem dX10_offer_50 : decode cX10_offer 50 = .ok (.goto 4, 3) := by decide +kernel
theorem dX10_offer_53 : decode cX10_offer 53 = .ok (.iconst 0, 1) := by decide +kernel
theorem dX10_offer_54 : decode cX10_offer 54 = .ok (.putfield 175, 3) := by decide +kernel
theorem dX10_offer_57 : decode cX10_offer 57 = .ok (.aload_n 0, 1) := by decide +kernel
theorem dX10_offer_58 : decode cX10_offer 58 = .ok (.getfield 175, 3) := by decide +kernel
theorem dX10_offer_61 : decode cX10_offer 61 = .ok (.ifCond .ne 38, 3) := by decide +kernel
theorem dX10_offer_64 : decode cX10_offer 64 = .ok (.aload_n 0, 1) := by decide +kernel
theorem dX10_offer_65 : decode cX10_offer 65 = .ok (.aload_n 0, 1) := by decide +kernel
theorem dX10_offer_66 : decode cX10_offer 66 = .ok (.getfield 19, 3) := by decide +kernel
theorem dX10_offer_69 : decode cX10_offer 69 = .ok (.iload_n 1, 1) := by decide +kernel
theorem dX10_offer_70 : decode cX10_offer 70 = .ok (.iaload, 1) := by decide +kernel
theorem dX10_offer_71 : decode cX10_offer 71 = .ok (.iconst 1, 1) := by decide +kernel
theorem dX10_offer_72 : decode cX10_offer 72 = .ok (.if_icmp .eq 19, 3) := by decide +kernel
theorem dX10_offer_75 : decode cX10_offer 75 = .ok (.aload_n 0, 1) := by decide +kernel
theorem dX10_offer_76 : decode cX10_offer 76 = .ok (.getfield 192, 3) := by decide +kernel
theorem dX10_offer_79 : decode cX10_offer 79 = .ok (.ifCond .eq 12, 3) := by decide +kernel
theorem dX10_offer_82 : decode cX10_offer 82 = .ok (.aload_n 0, 1) := by decide +kernel
theorem dX10_offer_83 : decode cX10_offer 83 = .ok (.getfield 298, 3) := by decide +kernel
theorem dX10_offer_86 : decode cX10_offer 86 = .ok (.bipush 60, 2) := by decide +kernel
theorem dX10_offer_88 : decode cX10_offer 88 = .ok (.if_icmp .ne 7, 3) := by decide +kernel
theorem dX10_offer_91 : decode cX10_offer 91 = .ok (.iconst 3, 1) := by decide +kernel
theorem dX10_offer_92 : decode cX10_offer 92 = .ok (.goto 4, 3) := by decide +kernel
theorem dX10_offer_95 : decode cX10_offer 95 = .ok (.iconst 0, 1) := by decide +kernel
theorem dX10_offer_96 : decode cX10_offer 96 = .ok (.putfield 175, 3) := by decide +kernel
theorem dX10_offer_99 : decode cX10_offer 99 = .ok (.aload_n 0, 1) := by decide +kernel
theorem dX10_offer_100 : decode cX10_offer 100 = .ok (.getfield 175, 3) := by decide +kernel
theorem dX10_offer_103 : decode cX10_offer 103 = .ok (.ifCond .le 5, 3) := by decide +kernel
theorem dX10_offer_106 : decode cX10_offer 106 = .ok (.iconst 0, 1) := by decide +kernel
theorem dX10_offer_107 : decode cX10_offer 107 = .ok (.ireturn, 1) := by decide +kernel
theorem dX10_offer_108 : decode cX10_offer 108 = .ok (.aload_n 0, 1) := by decide +kernel
theorem dX10_offer_109 : decode cX10_offer 109 = .ok (.getfield 298, 3) := by decide +kernel
theorem dX10_offer_112 : decode cX10_offer 112 = .ok (.istore 7, 2) := by decide +kernel
theorem dX10_offer_114 : decode cX10_offer 114 = .ok (.aload_n 0, 1) := by decide +kernel
theorem dX10_offer_115 : decode cX10_offer 115 = .ok (.dup, 1) := by decide +kernel
theorem dX10_offer_116 : decode cX10_offer 116 = .ok (.getfield 298, 3) := by decide +kernel
theorem dX10_offer_119 : decode cX10_offer 119 = .ok (.iconst 1, 1) := by decide +kernel
theorem dX10_offer_120 : decode cX10_offer 120 = .ok (.iadd, 1) := by decide +kernel
theorem dX10_offer_121 : decode cX10_offer 121 = .ok (.putfield 298, 3) := by decide +kernel
theorem dX10_offer_124 : decode cX10_offer 124 = .ok (.aload_n 0, 1) := by decide +kernel
theorem dX10_offer_125 : decode cX10_offer 125 = .ok (.getfield 88, 3) := by decide +kernel
theorem dX10_offer_128 : decode cX10_offer 128 = .ok (.iload 7, 2) := by decide +kernel
theorem dX10_offer_130 : decode cX10_offer 130 = .ok (.iload_n 1, 1) := by decide +kernel
theorem dX10_offer_131 : decode cX10_offer 131 = .ok (.iastore, 1) := by decide +kernel
theorem dX10_offer_132 : decode cX10_offer 132 = .ok (.aload_n 0, 1) := by decide +kernel
theorem dX10_offer_133 : decode cX10_offer 133 = .ok (.getfield 91, 3) := by decide +kernel
theorem dX10_offer_136 : decode cX10_offer 136 = .ok (.iload 7, 2) := by decide +kernel
theorem dX10_offer_138 : decode cX10_offer 138 = .ok (.iload_n 2, 1) := by decide +kernel
theorem dX10_offer_139 : decode cX10_offer 139 = .ok (.iastore, 1) := by decide +kernel
theorem dX10_offer_140 : decode cX10_offer 140 = .ok (.aload_n 0, 1) := by decide +kernel
theorem dX10_offer_141 : decode cX10_offer 141 = .ok (.getfield 94, 3) := by decide +kernel
theorem dX10_offer_144 : decode cX10_offer 144 = .ok (.iload 7, 2) := by decide +kernel
theorem dX10_offer_146 : decode cX10_offer 146 = .ok (.iload_n 3, 1) := by decide +kernel
theorem dX10_offer_147 : decode cX10_offer 147 = .ok (.iastore, 1) := by decide +kernel
theorem dX10_offer_148 : decode cX10_offer 148 = .ok (.aload_n 0, 1) := by decide +kernel
theorem dX10_offer_149 : decode cX10_offer 149 = .ok (.getfield 97, 3) := by decide +kernel
theorem dX10_offer_152 : decode cX10_offer 152 = .ok (.iload 7, 2) := by decide +kernel
theorem dX10_offer_154 : decode cX10_offer 154 = .ok (.iload 4, 2) := by decide +kernel
theorem dX10_offer_156 : decode cX10_offer 156 = .ok (.ifCond .eq 7, 3) := by decide +kernel
theorem dX10_offer_159 : decode cX10_offer 159 = .ok (.iconst 1, 1) := by decide +kernel
theorem dX10_offer_160 : decode cX10_offer 160 = .ok (.goto 4, 3) := by decide +kernel
theorem dX10_offer_163 : decode cX10_offer 163 = .ok (.iconst 0, 1) := by decide +kernel
theorem dX10_offer_164 : decode cX10_offer 164 = .ok (.iastore, 1) := by decide +kernel
theorem dX10_offer_165 : decode cX10_offer 165 = .ok (.aload_n 0, 1) := by decide +kernel
theorem dX10_offer_166 : decode cX10_offer 166 = .ok (.getfield 100, 3) := by decide +kernel
theorem dX10_offer_169 : decode cX10_offer 169 = .ok (.iload 7, 2) := by decide +kernel
theorem dX10_offer_171 : decode cX10_offer 171 = .ok (.iload 5, 2) := by decide +kernel
theorem dX10_offer_173 : decode cX10_offer 173 = .ok (.iastore, 1) := by decide +kernel
theorem dX10_offer_174 : decode cX10_offer 174 = .ok (.aload_n 0, 1) := by decide +kernel
theorem dX10_offer_175 : decode cX10_offer 175 = .ok (.getfield 103, 3) := by decide +kernel
theorem dX10_offer_178 : decode cX10_offer 178 = .ok (.iload 7, 2) := by decide +kernel
theorem dX10_offer_180 : decode cX10_offer 180 = .ok (.iload 6, 2) := by decide +kernel
theorem dX10_offer_182 : decode cX10_offer 182 = .ok (.iastore, 1) := by decide +kernel
theorem dX10_offer_183 : decode cX10_offer 183 = .ok (.iconst 0, 1) := by decide +kernel
theorem dX10_offer_184 : decode cX10_offer 184 = .ok (.istore 8, 2) := by decide +kernel
theorem dX10_offer_186 : decode cX10_offer 186 = .ok (.iload 8, 2) := by decide +kernel
theorem dX10_offer_188 : decode cX10_offer 188 = .ok (.bipush 60, 2) := by decide +kernel
theorem dX10_offer_190 : decode cX10_offer 190 = .ok (.if_icmp .ge 17, 3) := by decide +kernel
theorem dX10_offer_193 : decode cX10_offer 193 = .ok (.aload_n 0, 1) := by decide +kernel
theorem dX10_offer_194 : decode cX10_offer 194 = .ok (.getfield 106, 3) := by decide +kernel
theorem dX10_offer_197 : decode cX10_offer 197 = .ok (.iload 8, 2) := by decide +kernel
theorem dX10_offer_199 : decode cX10_offer 199 = .ok (.iconst 0, 1) := by decide +kernel
theorem dX10_offer_200 : decode cX10_offer 200 = .ok (.iastore, 1) := by decide +kernel
theorem dX10_offer_201 : decode cX10_offer 201 = .ok (.iinc 8 1, 3) := by decide +kernel
theorem dX10_offer_204 : decode cX10_offer 204 = .ok (.goto (-18), 3) := by decide +kernel
theorem dX10_offer_207 : decode cX10_offer 207 = .ok (.aload_n 0, 1) := by decide +kernel
theorem dX10_offer_208 : decode cX10_offer 208 = .ok (.iload 7, 2) := by decide +kernel
theorem dX10_offer_210 : decode cX10_offer 210 = .ok (.invokevirtual 301, 3) := by decide +kernel
theorem dX10_offer_213 : decode cX10_offer 213 = .ok (.istore 8, 2) := by decide +kernel
theorem dX10_offer_215 : decode cX10_offer 215 = .ok (.iload 8, 2) := by decide +kernel
theorem dX10_offer_217 : decode cX10_offer 217 = .ok (.iconst (-1), 1) := by decide +kernel
theorem dX10_offer_218 : decode cX10_offer 218 = .ok (.if_icmp .eq 40, 3) := by decide +kernel
theorem dX10_offer_221 : decode cX10_offer 221 = .ok (.aload_n 0, 1) := by decide +kernel
theorem dX10_offer_222 : decode cX10_offer 222 = .ok (.getfield 103, 3) := by decide +kernel
theorem dX10_offer_225 : decode cX10_offer 225 = .ok (.iload 7, 2) := by decide +kernel
theorem dX10_offer_227 : decode cX10_offer 227 = .ok (.iaload, 1) := by decide +kernel
theorem dX10_offer_228 : decode cX10_offer 228 = .ok (.ifCond .le 30, 3) := by decide +kernel
theorem dX10_offer_231 : decode cX10_offer 231 = .ok (.aload_n 0, 1) := by decide +kernel
theorem dX10_offer_232 : decode cX10_offer 232 = .ok (.getfield 106, 3) := by decide +kernel
theorem dX10_offer_235 : decode cX10_offer 235 = .ok (.iload 8, 2) := by decide +kernel
theorem dX10_offer_237 : decode cX10_offer 237 = .ok (.iconst 1, 1) := by decide +kernel
theorem dX10_offer_238 : decode cX10_offer 238 = .ok (.iastore, 1) := by decide +kernel
theorem dX10_offer_239 : decode cX10_offer 239 = .ok (.aload_n 0, 1) := by decide +kernel
theorem dX10_offer_240 : decode cX10_offer 240 = .ok (.iload 7, 2) := by decide +kernel
theorem dX10_offer_242 : decode cX10_offer 242 = .ok (.iload 8, 2) := by decide +kernel
theorem dX10_offer_244 : decode cX10_offer 244 = .ok (.invokevirtual 304, 3) := by decide +kernel
theorem dX10_offer_247 : decode cX10_offer 247 = .ok (.aload_n 0, 1) := by decide +kernel
theorem dX10_offer_248 : decode cX10_offer 248 = .ok (.iload 7, 2) := by decide +kernel
theorem dX10_offer_250 : decode cX10_offer 250 = .ok (.invokevirtual 301, 3) := by decide +kernel
theorem dX10_offer_253 : decode cX10_offer 253 = .ok (.istore 8, 2) := by decide +kernel
theorem dX10_offer_255 : decode cX10_offer 255 = .ok (.goto (-40), 3) := by decide +kernel
theorem dX10_offer_258 : decode cX10_offer 258 = .ok (.iload 7, 2) := by decide +kernel
theorem dX10_offer_260 : decode cX10_offer 260 = .ok (.ireturn, 1) := by decide +kernel
set_option maxRecDepth 20000 in
theorem ggX10_takeBack_X10_in : GoodIn wsX10_takeBack wsX10_in := goodIn_r _ [7] (by decide +kernel) (by decide +kernel)
set_option maxRecDepth 20000 in
theorem gX10_takeBack_X10_in : GoodIn wsX10_takeBack (va_wsS RX10 179 yX10_in wsX10_in) := goodIn_app (goodIn_of _ (by decide +kernel)) ggX10_takeBack_X10_in
theorem dX10_takeBack_0 : decode cX10_takeBack 0 = .ok (.aload_n 0, 1) := by decide +kernel
theorem dX10_takeBack_1 : decode cX10_takeBack 1 = .ok (.iload_n 1, 1) := by decide +kernel
theorem dX10_takeBack_2 : decode cX10_takeBack 2 = .ok (.iconst 0, 1) := by decide +kernel
theorem dX10_takeBack_3 : decode cX10_takeBack 3 = .ok (.aload_n 0, 1) := by decide +kernel
theorem dX10_takeBack_4 : decode cX10_takeBack 4 = .ok (.getfield 298, 3) := by decide +kernel
theorem dX10_takeBack_7 : decode cX10_takeBack 7 = .ok (.iconst 1, 1) := by decide +kernel
theorem dX10_takeBack_8 : decode cX10_takeBack 8 = .ok (.isub, 1) := by decide +kernel
theorem dX10_takeBack_9 : decode cX10_takeBack 9 = .ok (.invokestatic 179, 3) := by decide +kernel
theorem dX10_takeBack_12 : decode cX10_takeBack 12 = .ok (.ifCond .ne 7, 3) := by decide +kernel
theorem dX10_takeBack_15 : decode cX10_takeBack 15 = .ok (.iconst 1, 1) := by decide +kernel
theorem dX10_takeBack_16 : decode cX10_takeBack 16 = .ok (.goto 17, 3) := by decide +kernel
theorem dX10_takeBack_19 : decode cX10_takeBack 19 = .ok (.aload_n 0, 1) := by decide +kernel
theorem dX10_takeBack_20 : decode cX10_takeBack 20 = .ok (.getfield 103, 3) := by decide +kernel
theorem dX10_takeBack_23 : decode cX10_takeBack 23 = .ok (.iload_n 1, 1) := by decide +kernel
theorem dX10_takeBack_24 : decode cX10_takeBack 24 = .ok (.iaload, 1) := by decide +kernel
theorem dX10_takeBack_25 : decode cX10_takeBack 25 = .ok (.ifCond .ne 7, 3) := by decide +kernel
theorem dX10_takeBack_28 : decode cX10_takeBack 28 = .ok (.iconst 2, 1) := by decide +kernel
theorem dX10_takeBack_29 : decode cX10_takeBack 29 = .ok (.goto 4, 3) := by decide +kernel
theorem dX10_takeBack_32 : decode cX10_takeBack 32 = .ok (.iconst 0, 1) := by decide +kernel
theorem dX10_takeBack_33 : decode cX10_takeBack 33 = .ok (.putfield 175, 3) := by decide +kernel
theorem dX10_takeBack_36 : decode cX10_takeBack 36 = .ok (.aload_n 0, 1) := by decide +kernel
theorem dX10_takeBack_37 : decode cX10_takeBack 37 = .ok (.getfield 175, 3) := by decide +kernel
theorem dX10_takeBack_40 : decode cX10_takeBack 40 = .ok (.ifCond .le 5, 3) := by decide +kernel
theorem dX10_takeBack_43 : decode cX10_takeBack 43 = .ok (.iconst 0, 1) := by decide +kernel
theorem dX10_takeBack_44 : decode cX10_takeBack 44 = .ok (.ireturn, 1) := by decide +kernel
theorem dX10_takeBack_45 : decode cX10_takeBack 45 = .ok (.aload_n 0, 1) := by decide +kernel
theorem dX10_takeBack_46 : decode cX10_takeBack 46 = .ok (.getfield 103, 3) := by decide +kernel
theorem dX10_takeBack_49 : decode cX10_takeBack 49 = .ok (.iload_n 1, 1) := by decide +kernel
theorem dX10_takeBack_50 : decode cX10_takeBack 50 = .ok (.iaload, 1) := by decide +kernel
theorem dX10_takeBack_51 : decode cX10_takeBack 51 = .ok (.istore_n 2, 1) := by decide +kernel
theorem dX10_takeBack_52 : decode cX10_takeBack 52 = .ok (.aload_n 0, 1) := by decide +kernel
theorem dX10_takeBack_53 : decode cX10_takeBack 53 = .ok (.getfield 103, 3) := by decide +kernel
theorem dX10_takeBack_56 : decode cX10_takeBack 56 = .ok (.iload_n 1, 1) := by decide +kernel
theorem dX10_takeBack_57 : decode cX10_takeBack 57 = .ok (.iconst 0, 1) := by decide +kernel
theorem dX10_takeBack_58 : decode cX10_takeBack 58 = .ok (.iastore, 1) := by decide +kernel
theorem dX10_takeBack_59 : decode cX10_takeBack 59 = .ok (.iload_n 2, 1) := by decide +kernel
theorem dX10_takeBack_60 : decode cX10_takeBack 60 = .ok (.ireturn, 1) := by decide +kernel
set_option maxRecDepth 20000 in
theorem ggX10_aid_X10_isFirm : GoodIn wsX10_aid wsX10_isFirm := goodIn_r _ [13, 14, 15, 12, 16] (by decide +kernel) (by decide +kernel)
set_option maxRecDepth 20000 in
theorem gX10_aid_X10_isFirm : GoodIn wsX10_aid (va_wsS RX10 186 yX10_isFirm wsX10_isFirm) := goodIn_app (goodIn_of _ (by decide +kernel)) ggX10_aid_X10_isFirm
set_option maxRecDepth 20000 in
theorem ggX10_aid_X10_isHour : GoodIn wsX10_aid wsX10_isHour := goodIn_r _ [19, 14, 15, 12, 16] (by decide +kernel) (by decide +kernel)
set_option maxRecDepth 20000 in
theorem gX10_aid_X10_isHour : GoodIn wsX10_aid (va_wsS RX10 198 yX10_isHour wsX10_isHour) := goodIn_app (goodIn_of _ (by decide +kernel)) ggX10_aid_X10_isHour
set_option maxRecDepth 20000 in
theorem ggX10_aid_X10_in : GoodIn wsX10_aid wsX10_in := goodIn_r _ [16] (by decide +kernel) (by decide +kernel)
set_option maxRecDepth 20000 in
theorem gX10_aid_X10_in : GoodIn wsX10_aid (va_wsS RX10 179 yX10_in wsX10_in) := goodIn_app (goodIn_of _ (by decide +kernel)) ggX10_aid_X10_in
theorem dX10_aid_0 : decode cX10_aid 0 = .ok (.aload_n 0, 1) := by decide +kernel
theorem dX10_aid_1 : decode cX10_aid 1 = .ok (.iload_n 1, 1) := by decide +kernel
theorem dX10_aid_2 : decode cX10_aid 2 = .ok (.invokestatic 186, 3) := by decide +kernel
theorem dX10_aid_5 : decode cX10_aid 5 = .ok (.ifCond .eq 10, 3) := by decide +kernel
theorem dX10_aid_8 : decode cX10_aid 8 = .ok (.iload_n 2, 1) := by decide +kernel
theorem dX10_aid_9 : decode cX10_aid 9 = .ok (.invokestatic 198, 3) := by decide +kernel
theorem dX10_aid_12 : decode cX10_aid 12 = .ok (.ifCond .ne 7, 3) := by decide +kernel
theorem dX10_aid_15 : decode cX10_aid 15 = .ok (.iconst 1, 1) := by decide +kernel
theorem dX10_aid_16 : decode cX10_aid 16 = .ok (.goto 59, 3) := by decide +kernel
theorem dX10_aid_19 : decode cX10_aid 19 = .ok (.iload 4, 2) := by decide +kernel
theorem dX10_aid_21 : decode cX10_aid 21 = .ok (.iconst 0, 1) := by decide +kernel
theorem dX10_aid_22 : decode cX10_aid 22 = .ok (.sipush 300, 3) := by decide +kernel
theorem dX10_aid_25 : decode cX10_aid 25 = .ok (.invokestatic 179, 3) := by decide +kernel
theorem dX10_aid_28 : decode cX10_aid 28 = .ok (.ifCond .eq 14, 3) := by decide +kernel
theorem dX10_aid_31 : decode cX10_aid 31 = .ok (.iload 5, 2) := by decide +kernel
theorem dX10_aid_33 : decode cX10_aid 33 = .ok (.iconst 1, 1) := by decide +kernel
theorem dX10_aid_34 : decode cX10_aid 34 = .ok (.bipush 10, 2) := by decide +kernel
theorem dX10_aid_36 : decode cX10_aid 36 = .ok (.invokestatic 179, 3) := by decide +kernel
theorem dX10_aid_39 : decode cX10_aid 39 = .ok (.ifCond .ne 7, 3) := by decide +kernel
theorem dX10_aid_42 : decode cX10_aid 42 = .ok (.iconst 2, 1) := by decide +kernel
theorem dX10_aid_43 : decode cX10_aid 43 = .ok (.goto 32, 3) := by decide +kernel
theorem dX10_aid_46 : decode cX10_aid 46 = .ok (.aload_n 0, 1) := by decide +kernel
theorem dX10_aid_47 : decode cX10_aid 47 = .ok (.getfield 19, 3) := by decide +kernel
theorem dX10_aid_50 : decode cX10_aid 50 = .ok (.iload_n 1, 1) := by decide +kernel
theorem dX10_aid_51 : decode cX10_aid 51 = .ok (.iaload, 1) := by decide +kernel
theorem dX10_aid_52 : decode cX10_aid 52 = .ok (.iconst 1, 1) := by decide +kernel
theorem dX10_aid_53 : decode cX10_aid 53 = .ok (.if_icmp .eq 17, 3) := by decide +kernel
theorem dX10_aid_56 : decode cX10_aid 56 = .ok (.aload_n 0, 1) := by decide +kernel
theorem dX10_aid_57 : decode cX10_aid 57 = .ok (.getfield 109, 3) := by decide +kernel
theorem dX10_aid_60 : decode cX10_aid 60 = .ok (.aload_n 0, 1) := by decide +kernel
theorem dX10_aid_61 : decode cX10_aid 61 = .ok (.getfield 183, 3) := by decide +kernel
theorem dX10_aid_64 : decode cX10_aid 64 = .ok (.iaload, 1) := by decide +kernel
theorem dX10_aid_65 : decode cX10_aid 65 = .ok (.bipush 30, 2) := by decide +kernel
theorem dX10_aid_67 : decode cX10_aid 67 = .ok (.if_icmp .ne 7, 3) := by decide +kernel
theorem dX10_aid_70 : decode cX10_aid 70 = .ok (.iconst 3, 1) := by decide +kernel
theorem dX10_aid_71 : decode cX10_aid 71 = .ok (.goto 4, 3) := by decide +kernel
theorem dX10_aid_74 : decode cX10_aid 74 = .ok (.iconst 0, 1) := by decide +kernel
theorem dX10_aid_75 : decode cX10_aid 75 = .ok (.putfield 175, 3) := by decide +kernel
theorem dX10_aid_78 : decode cX10_aid 78 = .ok (.aload_n 0, 1) := by decide +kernel
theorem dX10_aid_79 : decode cX10_aid 79 = .ok (.getfield 175, 3) := by decide +kernel
theorem dX10_aid_82 : decode cX10_aid 82 = .ok (.ifCond .le 5, 3) := by decide +kernel
theorem dX10_aid_85 : decode cX10_aid 85 = .ok (.iconst 0, 1) := by decide +kernel
theorem dX10_aid_86 : decode cX10_aid 86 = .ok (.ireturn, 1) := by decide +kernel
theorem dX10_aid_87 : decode cX10_aid 87 = .ok (.bipush 30, 2) := by decide +kernel
theorem dX10_aid_89 : decode cX10_aid 89 = .ok (.aload_n 0, 1) := by decide +kernel
theorem dX10_aid_90 : decode cX10_aid 90 = .ok (.getfield 183, 3) := by decide +kernel
theorem dX10_aid_93 : decode cX10_aid 93 = .ok (.imul, 1) := by decide +kernel
theorem dX10_aid_94 : decode cX10_aid 94 = .ok (.aload_n 0, 1) := by decide +kernel
theorem dX10_aid_95 : decode cX10_aid 95 = .ok (.getfield 109, 3) := by decide +kernel
theorem dX10_aid_98 : decode cX10_aid 98 = .ok (.aload_n 0, 1) := by decide +kernel
theorem dX10_aid_99 : decode cX10_aid 99 = .ok (.getfield 183, 3) := by decide +kernel
theorem dX10_aid_102 : decode cX10_aid 102 = .ok (.iaload, 1) := by decide +kernel
theorem dX10_aid_103 : decode cX10_aid 103 = .ok (.iadd, 1) := by decide +kernel
theorem dX10_aid_104 : decode cX10_aid 104 = .ok (.istore 6, 2) := by decide +kernel
theorem dX10_aid_106 : decode cX10_aid 106 = .ok (.aload_n 0, 1) := by decide +kernel
theorem dX10_aid_107 : decode cX10_aid 107 = .ok (.getfield 112, 3) := by decide +kernel
theorem dX10_aid_110 : decode cX10_aid 110 = .ok (.iload 6, 2) := by decide +kernel
theorem dX10_aid_112 : decode cX10_aid 112 = .ok (.iload_n 1, 1) := by decide +kernel
theorem dX10_aid_113 : decode cX10_aid 113 = .ok (.iastore, 1) := by decide +kernel
theorem dX10_aid_114 : decode cX10_aid 114 = .ok (.aload_n 0, 1) := by decide +kernel
theorem dX10_aid_115 : decode cX10_aid 115 = .ok (.getfield 115, 3) := by decide +kernel
theorem dX10_aid_118 : decode cX10_aid 118 = .ok (.iload 6, 2) := by decide +kernel
theorem dX10_aid_120 : decode cX10_aid 120 = .ok (.iload_n 2, 1) := by decide +kernel
theorem dX10_aid_121 : decode cX10_aid 121 = .ok (.iastore, 1) := by decide +kernel
theorem dX10_aid_122 : decode cX10_aid 122 = .ok (.aload_n 0, 1) := by decide +kernel
theorem dX10_aid_123 : decode cX10_aid 123 = .ok (.getfield 118, 3) := by decide +kernel
theorem dX10_aid_126 : decode cX10_aid 126 = .ok (.iload 6, 2) := by decide +kernel
theorem dX10_aid_128 : decode cX10_aid 128 = .ok (.iload_n 3, 1) := by decide +kernel
theorem dX10_aid_129 : decode cX10_aid 129 = .ok (.ifCond .eq 7, 3) := by decide +kernel
theorem dX10_aid_132 : decode cX10_aid 132 = .ok (.iconst 1, 1) := by decide +kernel
theorem dX10_aid_133 : decode cX10_aid 133 = .ok (.goto 4, 3) := by decide +kernel
theorem dX10_aid_136 : decode cX10_aid 136 = .ok (.iconst 0, 1) := by decide +kernel
theorem dX10_aid_137 : decode cX10_aid 137 = .ok (.iastore, 1) := by decide +kernel
theorem dX10_aid_138 : decode cX10_aid 138 = .ok (.aload_n 0, 1) := by decide +kernel
theorem dX10_aid_139 : decode cX10_aid 139 = .ok (.getfield 121, 3) := by decide +kernel
theorem dX10_aid_142 : decode cX10_aid 142 = .ok (.iload 6, 2) := by decide +kernel
theorem dX10_aid_144 : decode cX10_aid 144 = .ok (.iload 4, 2) := by decide +kernel
theorem dX10_aid_146 : decode cX10_aid 146 = .ok (.iastore, 1) := by decide +kernel
theorem dX10_aid_147 : decode cX10_aid 147 = .ok (.aload_n 0, 1) := by decide +kernel
theorem dX10_aid_148 : decode cX10_aid 148 = .ok (.getfield 124, 3) := by decide +kernel
theorem dX10_aid_151 : decode cX10_aid 151 = .ok (.iload 6, 2) := by decide +kernel
theorem dX10_aid_153 : decode cX10_aid 153 = .ok (.iload 5, 2) := by decide +kernel
theorem dX10_aid_155 : decode cX10_aid 155 = .ok (.iastore, 1) := by decide +kernel
theorem dX10_aid_156 : decode cX10_aid 156 = .ok (.aload_n 0, 1) := by decide +kernel
theorem dX10_aid_157 : decode cX10_aid 157 = .ok (.getfield 109, 3) := by decide +kernel
theorem dX10_aid_160 : decode cX10_aid 160 = .ok (.aload_n 0, 1) := by decide +kernel
theorem dX10_aid_161 : decode cX10_aid 161 = .ok (.getfield 183, 3) := by decide +kernel
theorem dX10_aid_164 : decode cX10_aid 164 = .ok (.dup2, 1) := by decide +kernel
theorem dX10_aid_165 : decode cX10_aid 165 = .ok (.iaload, 1) := by decide +kernel
theorem dX10_aid_166 : decode cX10_aid 166 = .ok (.iconst 1, 1) := by decide +kernel
theorem dX10_aid_167 : decode cX10_aid 167 = .ok (.iadd, 1) := by decide +kernel
theorem dX10_aid_168 : decode cX10_aid 168 = .ok (.iastore, 1) := by decide +kernel
theorem dX10_aid_169 : decode cX10_aid 169 = .ok (.aload_n 0, 1) := by decide +kernel
theorem dX10_aid_170 : decode cX10_aid 170 = .ok (.getfield 109, 3) := by decide +kernel
theorem dX10_aid_173 : decode cX10_aid 173 = .ok (.aload_n 0, 1) := by decide +kernel
theorem dX10_aid_174 : decode cX10_aid 174 = .ok (.getfield 183, 3) := by decide +kernel
theorem dX10_aid_177 : decode cX10_aid 177 = .ok (.iaload, 1) := by decide +kernel
theorem dX10_aid_178 : decode cX10_aid 178 = .ok (.iconst 1, 1) := by decide +kernel
theorem dX10_aid_179 : decode cX10_aid 179 = .ok (.isub, 1) := by decide +kernel
theorem dX10_aid_180 : decode cX10_aid 180 = .ok (.ireturn, 1) := by decide +kernel
theorem dX10_close_0 : decode cX10_close 0 = .ok (.aload_n 0, 1) := by decide +kernel
theorem dX10_close_1 : decode cX10_close 1 = .ok (.aload_n 0, 1) := by decide +kernel
theorem dX10_close_2 : decode cX10_close 2 = .ok (.getfield 192, 3) := by decide +kernel
theorem dX10_close_5 : decode cX10_close 5 = .ok (.ifCond .eq 12, 3) := by decide +kernel
theorem dX10_close_8 : decode cX10_close 8 = .ok (.aload_n 0, 1) := by decide +kernel
theorem dX10_close_9 : decode cX10_close 9 = .ok (.getfield 183, 3) := by decide +kernel
theorem dX10_close_12 : decode cX10_close 12 = .ok (.bipush 9, 2) := by decide +kernel
theorem dX10_close_14 : decode cX10_close 14 = .ok (.if_icmp .ne 7, 3) := by decide +kernel
theorem dX10_close_17 : decode cX10_close 17 = .ok (.iconst 1, 1) := by decide +kernel
theorem dX10_close_18 : decode cX10_close 18 = .ok (.goto 4, 3) := by decide +kernel
theorem dX10_close_21 : decode cX10_close 21 = .ok (.iconst 0, 1) := by decide +kernel
theorem dX10_close_22 : decode cX10_close 22 = .ok (.putfield 175, 3) := by decide +kernel
theorem dX10_close_25 : decode cX10_close 25 = .ok (.aload_n 0, 1) := by decide +kernel
theorem dX10_close_26 : decode cX10_close 26 = .ok (.getfield 175, 3) := by decide +kernel
theorem dX10_close_29 : decode cX10_close 29 = .ok (.ifCond .le 5, 3) := by decide +kernel
theorem dX10_close_32 : decode cX10_close 32 = .ok (.iconst 0, 1) := by decide +kernel
theorem dX10_close_33 : decode cX10_close 33 = .ok (.ireturn, 1) := by decide +kernel
theorem dX10_close_34 : decode cX10_close 34 = .ok (.aload_n 0, 1) := by decide +kernel
theorem dX10_close_35 : decode cX10_close 35 = .ok (.dup, 1) := by decide +kernel
theorem dX10_close_36 : decode cX10_close 36 = .ok (.getfield 183, 3) := by decide +kernel
theorem dX10_close_39 : decode cX10_close 39 = .ok (.iconst 1, 1) := by decide +kernel
theorem dX10_close_40 : decode cX10_close 40 = .ok (.iadd, 1) := by decide +kernel
theorem dX10_close_41 : decode cX10_close 41 = .ok (.putfield 183, 3) := by decide +kernel
theorem dX10_close_44 : decode cX10_close 44 = .ok (.aload_n 0, 1) := by decide +kernel
theorem dX10_close_45 : decode cX10_close 45 = .ok (.iconst 0, 1) := by decide +kernel
theorem dX10_close_46 : decode cX10_close 46 = .ok (.putfield 192, 3) := by decide +kernel
theorem dX10_close_49 : decode cX10_close 49 = .ok (.aload_n 0, 1) := by decide +kernel
theorem dX10_close_50 : decode cX10_close 50 = .ok (.iconst 0, 1) := by decide +kernel
theorem dX10_close_51 : decode cX10_close 51 = .ok (.putfield 201, 3) := by decide +kernel
theorem dX10_close_54 : decode cX10_close 54 = .ok (.aload_n 0, 1) := by decide +kernel
theorem dX10_close_55 : decode cX10_close 55 = .ok (.iconst 0, 1) := by decide +kernel
theorem dX10_close_56 : decode cX10_close 56 = .ok (.putfield 204, 3) := by decide +kernel
theorem dX10_close_59 : decode cX10_close 59 = .ok (.aload_n 0, 1) := by decide +kernel
theorem dX10_close_60 : decode cX10_close 60 = .ok (.iconst 0, 1) := by decide +kernel
theorem dX10_close_61 : decode cX10_close 61 = .ok (.putfield 207, 3) := by decide +kernel
theorem dX10_close_64 : decode cX10_close 64 = .ok (.aload_n 0, 1) := by decide +kernel
theorem dX10_close_65 : decode cX10_close 65 = .ok (.iconst 0, 1) := by decide +kernel
theorem dX10_close_66 : decode cX10_close 66 = .ok (.putfield 298, 3) := by decide +kernel
theorem dX10_close_69 : decode cX10_close 69 = .ok (.aload_n 0, 1) := by decide +kernel
theorem dX10_close_70 : decode cX10_close 70 = .ok (.getfield 183, 3) := by decide +kernel
theorem dX10_close_73 : decode cX10_close 73 = .ok (.ireturn, 1) := by decide +kernel
theorem dX10_placeOf_0 : decode cX10_placeOf 0 = .ok (.bipush 72, 2) := by decide +kernel
theorem dX10_placeOf_2 : decode cX10_placeOf 2 = .ok (.iload_n 0, 1) := by decide +kernel
theorem dX10_placeOf_3 : decode cX10_placeOf 3 = .ok (.imul, 1) := by decide +kernel
theorem dX10_placeOf_4 : decode cX10_placeOf 4 = .ok (.bipush 12, 2) := by decide +kernel
theorem dX10_placeOf_6 : decode cX10_placeOf 6 = .ok (.iload_n 1, 1) := by decide +kernel
theorem dX10_placeOf_7 : decode cX10_placeOf 7 = .ok (.imul, 1) := by decide +kernel
theorem dX10_placeOf_8 : decode cX10_placeOf 8 = .ok (.iadd, 1) := by decide +kernel
theorem dX10_placeOf_9 : decode cX10_placeOf 9 = .ok (.iconst 4, 1) := by decide +kernel
theorem dX10_placeOf_10 : decode cX10_placeOf 10 = .ok (.iload_n 2, 1) := by decide +kernel
theorem dX10_placeOf_11 : decode cX10_placeOf 11 = .ok (.imul, 1) := by decide +kernel
theorem dX10_placeOf_12 : decode cX10_placeOf 12 = .ok (.iadd, 1) := by decide +kernel
theorem dX10_placeOf_13 : decode cX10_placeOf 13 = .ok (.iload_n 3, 1) := by decide +kernel
theorem dX10_placeOf_14 : decode cX10_placeOf 14 = .ok (.iadd, 1) := by decide +kernel
theorem dX10_placeOf_15 : decode cX10_placeOf 15 = .ok (.ireturn, 1) := by decide +kernel
set_option maxRecDepth 20000 in
theorem ggX10_gapOf_X10_placeOf : GoodIn wsX10_gapOf wsX10_placeOf := goodIn_r _ [7] (by decide +kernel) (by decide +kernel)
set_option maxRecDepth 20000 in
theorem gX10_gapOf_X10_placeOf : GoodIn wsX10_gapOf (va_wsS RX10 307 yX10_placeOf wsX10_placeOf) := goodIn_app (goodIn_of _ (by decide +kernel)) ggX10_gapOf_X10_placeOf
theorem dX10_gapOf_0 : decode cX10_gapOf 0 = .ok (.iload_n 1, 1) := by decide +kernel
theorem dX10_gapOf_1 : decode cX10_gapOf 1 = .ok (.iload_n 2, 1) := by decide +kernel
theorem dX10_gapOf_2 : decode cX10_gapOf 2 = .ok (.iload_n 3, 1) := by decide +kernel
theorem dX10_gapOf_3 : decode cX10_gapOf 3 = .ok (.iload 4, 2) := by decide +kernel
theorem dX10_gapOf_5 : decode cX10_gapOf 5 = .ok (.invokestatic 307, 3) := by decide +kernel
theorem dX10_gapOf_8 : decode cX10_gapOf 8 = .ok (.istore 5, 2) := by decide +kernel
theorem dX10_gapOf_10 : decode cX10_gapOf 10 = .ok (.aload_n 0, 1) := by decide +kernel
theorem dX10_gapOf_11 : decode cX10_gapOf 11 = .ok (.getfield 139, 3) := by decide +kernel
theorem dX10_gapOf_14 : decode cX10_gapOf 14 = .ok (.iload 5, 2) := by decide +kernel
theorem dX10_gapOf_16 : decode cX10_gapOf 16 = .ok (.iaload, 1) := by decide +kernel
theorem dX10_gapOf_17 : decode cX10_gapOf 17 = .ok (.iconst 1, 1) := by decide +kernel
theorem dX10_gapOf_18 : decode cX10_gapOf 18 = .ok (.if_icmp .ne 21, 3) := by decide +kernel
theorem dX10_gapOf_21 : decode cX10_gapOf 21 = .ok (.aload_n 0, 1) := by decide +kernel
theorem dX10_gapOf_22 : decode cX10_gapOf 22 = .ok (.getfield 136, 3) := by decide +kernel
theorem dX10_gapOf_25 : decode cX10_gapOf 25 = .ok (.iload 5, 2) := by decide +kernel
theorem dX10_gapOf_27 : decode cX10_gapOf 27 = .ok (.iaload, 1) := by decide +kernel
theorem dX10_gapOf_28 : decode cX10_gapOf 28 = .ok (.aload_n 0, 1) := by decide +kernel
theorem dX10_gapOf_29 : decode cX10_gapOf 29 = .ok (.getfield 133, 3) := by decide +kernel
theorem dX10_gapOf_32 : decode cX10_gapOf 32 = .ok (.iload 5, 2) := by decide +kernel
theorem dX10_gapOf_34 : decode cX10_gapOf 34 = .ok (.iaload, 1) := by decide +kernel
theorem dX10_gapOf_35 : decode cX10_gapOf 35 = .ok (.isub, 1) := by decide +kernel
theorem dX10_gapOf_36 : decode cX10_gapOf 36 = .ok (.goto 4, 3) := by decide +kernel
theorem dX10_gapOf_39 : decode cX10_gapOf 39 = .ok (.iconst 0, 1) := by decide +kernel
theorem dX10_gapOf_40 : decode cX10_gapOf 40 = .ok (.ireturn, 1) := by decide +kernel
set_option maxRecDepth 20000 in
theorem ggX10_read_X10_isClosed : GoodIn wsX10_read wsX10_isClosed := goodIn_r _ [8, 9, 10, 11, 7, 12, 30, 31, 32, 33, 34, 35, 36, 37, 38, 39, 40, 41, 42, 43, 44, 45, 46, 47, 48, 49, 50, 51, 52, 53, 54, 55, 56, 57, 58, 59, 60, 61, 62, 63, 64, 65, 66, 67, 68, 69, 70, 71, 72, 73, 74, 75, 76, 77, 78, 79, 80, 81, 82, 83, 84, 85, 86, 87, 88, 89, 90, 91, 92, 93, 94, 95, 96, 97] (by decide +kernel) (by decide +kernel)
set_option maxRecDepth 20000 in
theorem gX10_read_X10_isClosed : GoodIn wsX10_read (wsV RX10 310 RX10 yX10_isClosed wsX10_isClosed) := goodIn_app (goodIn_of _ (by decide +kernel)) ggX10_read_X10_isClosed
set_option maxRecDepth 20000 in
theorem ggX10_read_X10_isFirm : GoodIn wsX10_read wsX10_isFirm := goodIn_r _ [15, 10, 11, 7, 12] (by decide +kernel) (by decide +kernel)
set_option maxRecDepth 20000 in
theorem gX10_read_X10_isFirm : GoodIn wsX10_read (va_wsS RX10 186 yX10_isFirm wsX10_isFirm) := goodIn_app (goodIn_of _ (by decide +kernel)) ggX10_read_X10_isFirm
set_option maxRecDepth 20000 in
theorem ggX10_read_X10_isZone : GoodIn wsX10_read wsX10_isZone := goodIn_r _ [18, 10, 11, 7, 12] (by decide +kernel) (by decide +kernel)
set_option maxRecDepth 20000 in
theorem gX10_read_X10_isZone : GoodIn wsX10_read (va_wsS RX10 195 yX10_isZone wsX10_isZone) := goodIn_app (goodIn_of _ (by decide +kernel)) ggX10_read_X10_isZone
set_option maxRecDepth 20000 in
theorem ggX10_read_X10_isHour : GoodIn wsX10_read wsX10_isHour := goodIn_r _ [21, 10, 11, 7, 12] (by decide +kernel) (by decide +kernel)
set_option maxRecDepth 20000 in
theorem gX10_read_X10_isHour : GoodIn wsX10_read (va_wsS RX10 198 yX10_isHour wsX10_isHour) := goodIn_app (goodIn_of _ (by decide +kernel)) ggX10_read_X10_isHour
set_option maxRecDepth 20000 in
theorem ggX10_read_X10_in : GoodIn wsX10_read wsX10_in := goodIn_r _ [12] (by decide +kernel) (by decide +kernel)
set_option maxRecDepth 20000 in
theorem gX10_read_X10_in : GoodIn wsX10_read (va_wsS RX10 179 yX10_in wsX10_in) := goodIn_app (goodIn_of _ (by decide +kernel)) ggX10_read_X10_in
set_option maxRecDepth 20000 in
theorem ggX10_read_X10_placeOf : GoodIn wsX10_read wsX10_placeOf := goodIn_r _ [24] (by decide +kernel) (by decide +kernel)
set_option maxRecDepth 20000 in
theorem gX10_read_X10_placeOf : GoodIn wsX10_read (va_wsS RX10 307 yX10_placeOf wsX10_placeOf) := goodIn_app (goodIn_of _ (by decide +kernel)) ggX10_read_X10_placeOf
set_option maxRecDepth 20000 in
theorem ggX10_read_X10_gapOf : GoodIn wsX10_read wsX10_gapOf := goodIn_r _ [28, 3, 2, 29, 22, 23, 7, 24, 30, 31, 32, 33, 34, 35, 36, 37, 38, 39, 40, 41, 42, 43, 44, 45, 46, 47, 48, 49, 50, 51, 52, 53, 54, 55, 56, 57, 58, 59, 60, 61, 62, 63, 64, 65, 66, 67, 68, 69, 70, 71, 72, 73, 74, 75, 76, 77, 78, 79, 80, 81, 82, 83, 84, 85, 86, 87, 88, 89, 90, 91, 92, 93, 94, 95, 96, 97] (by decide +kernel) (by decide +kernel)
set_option maxRecDepth 20000 in
theorem gX10_read_X10_gapOf : GoodIn wsX10_read (wsV RX10 313 RX10 yX10_gapOf wsX10_gapOf) := goodIn_app (goodIn_of _ (by decide +kernel)) ggX10_read_X10_gapOf
theorem dX10_read_0 : decode cX10_read 0 = .ok (.aload_n 0, 1) := by decide +kernel
theorem dX10_read_1 : decode cX10_read 1 = .ok (.aload_n 0, 1) := by decide +kernel
theorem dX10_read_2 : decode cX10_read 2 = .ok (.iload_n 1, 1) := by decide +kernel
theorem dX10_read_3 : decode cX10_read 3 = .ok (.invokevirtual 310, 3) := by decide +kernel
theorem dX10_read_6 : decode cX10_read 6 = .ok (.ifCond .eq 25, 3) := by decide +kernel
theorem dX10_read_9 : decode cX10_read 9 = .ok (.iload_n 2, 1) := by decide +kernel
theorem dX10_read_10 : decode cX10_read 10 = .ok (.invokestatic 186, 3) := by decide +kernel
theorem dX10_read_13 : decode cX10_read 13 = .ok (.ifCond .eq 18, 3) := by decide +kernel
theorem dX10_read_16 : decode cX10_read 16 = .ok (.iload_n 3, 1) := by decide +kernel
theorem dX10_read_17 : decode cX10_read 17 = .ok (.invokestatic 195, 3) := by decide +kernel
theorem dX10_read_20 : decode cX10_read 20 = .ok (.ifCond .eq 11, 3) := by decide +kernel
theorem dX10_read_23 : decode cX10_read 23 = .ok (.iload 4, 2) := by decide +kernel
theorem dX10_read_25 : decode cX10_read 25 = .ok (.invokestatic 198, 3) := by decide +kernel
theorem dX10_read_28 : decode cX10_read 28 = .ok (.ifCond .ne 7, 3) := by decide +kernel
theorem dX10_read_31 : decode cX10_read 31 = .ok (.iconst 1, 1) := by decide +kernel
theorem dX10_read_32 : decode cX10_read 32 = .ok (.goto 22, 3) := by decide +kernel
theorem dX10_read_35 : decode cX10_read 35 = .ok (.iload 5, 2) := by decide +kernel
theorem dX10_read_37 : decode cX10_read 37 = .ok (.sipush (-200), 3) := by decide +kernel
theorem dX10_read_40 : decode cX10_read 40 = .ok (.sipush 200, 3) := by decide +kernel
theorem dX10_read_43 : decode cX10_read 43 = .ok (.invokestatic 179, 3) := by decide +kernel
theorem dX10_read_46 : decode cX10_read 46 = .ok (.ifCond .ne 7, 3) := by decide +kernel
theorem dX10_read_49 : decode cX10_read 49 = .ok (.iconst 2, 1) := by decide +kernel
theorem dX10_read_50 : decode cX10_read 50 = .ok (.goto 4, 3) := by decide +kernel
theorem dX10_read_53 : decode cX10_read 53 = .ok (.iconst 0, 1) := by decide +kernel
theorem dX10_read_54 : decode cX10_read 54 = .ok (.putfield 175, 3) := by decide +kernel
theorem dX10_read_57 : decode cX10_read 57 = .ok (.aload_n 0, 1) := by decide +kernel
theorem dX10_read_58 : decode cX10_read 58 = .ok (.getfield 175, 3) := by decide +kernel
theorem dX10_read_61 : decode cX10_read 61 = .ok (.ifCond .le 5, 3) := by decide +kernel
theorem dX10_read_64 : decode cX10_read 64 = .ok (.iconst 0, 1) := by decide +kernel
theorem dX10_read_65 : decode cX10_read 65 = .ok (.ireturn, 1) := by decide +kernel
theorem dX10_read_66 : decode cX10_read 66 = .ok (.aload_n 0, 1) := by decide +kernel
theorem dX10_read_67 : decode cX10_read 67 = .ok (.getfield 136, 3) := by decide +kernel
theorem dX10_read_70 : decode cX10_read 70 = .ok (.iload_n 1, 1) := by decide +kernel
theorem dX10_read_71 : decode cX10_read 71 = .ok (.iload_n 2, 1) := by decide +kernel
theorem dX10_read_72 : decode cX10_read 72 = .ok (.iload_n 3, 1) := by decide +kernel
theorem dX10_read_73 : decode cX10_read 73 = .ok (.iload 4, 2) := by decide +kernel
theorem dX10_read_75 : decode cX10_read 75 = .ok (.invokestatic 307, 3) := by decide +kernel
theorem dX10_read_78 : decode cX10_read 78 = .ok (.iload 5, 2) := by decide +kernel
theorem dX10_read_80 : decode cX10_read 80 = .ok (.iastore, 1) := by decide +kernel
theorem dX10_read_81 : decode cX10_read 81 = .ok (.aload_n 0, 1) := by decide +kernel
theorem dX10_read_82 : decode cX10_read 82 = .ok (.getfield 139, 3) := by decide +kernel
theorem dX10_read_85 : decode cX10_read 85 = .ok (.iload_n 1, 1) := by decide +kernel
theorem dX10_read_86 : decode cX10_read 86 = .ok (.iload_n 2, 1) := by decide +kernel
theorem dX10_read_87 : decode cX10_read 87 = .ok (.iload_n 3, 1) := by decide +kernel
theorem dX10_read_88 : decode cX10_read 88 = .ok (.iload 4, 2) := by decide +kernel
theorem dX10_read_90 : decode cX10_read 90 = .ok (.invokestatic 307, 3) := by decide +kernel
theorem dX10_read_93 : decode cX10_read 93 = .ok (.iconst 1, 1) := by decide +kernel
theorem dX10_read_94 : decode cX10_read 94 = .ok (.iastore, 1) := by decide +kernel
theorem dX10_read_95 : decode cX10_read 95 = .ok (.aload_n 0, 1) := by decide +kernel
theorem dX10_read_96 : decode cX10_read 96 = .ok (.iload_n 1, 1) := by decide +kernel
theorem dX10_read_97 : decode cX10_read 97 = .ok (.iload_n 2, 1) := by decide +kernel
theorem dX10_read_98 : decode cX10_read 98 = .ok (.iload_n 3, 1) := by decide +kernel
theorem dX10_read_99 : decode cX10_read 99 = .ok (.iload 4, 2) := by decide +kernel
theorem dX10_read_101 : decode cX10_read 101 = .ok (.invokevirtual 313, 3) := by decide +kernel
theorem dX10_read_104 : decode cX10_read 104 = .ok (.ireturn, 1) := by decide +kernel
set_option maxRecDepth 20000 in
theorem ggX10_gapIn_X10_gapOf : GoodIn wsX10_gapIn wsX10_gapOf := goodIn_r _ [5, 6, 7, 8, 9, 10, 4, 11, 12, 13, 14, 15, 16, 17, 18, 19, 20, 21, 22, 23, 24, 25, 26, 27, 28, 29, 30, 31, 32, 33, 34, 35, 36, 37, 38, 39, 40, 41, 42, 43, 44, 45, 46, 47, 48, 49, 50, 51, 52, 53, 54, 55, 56, 57, 58, 59, 60, 61, 62, 63, 64, 65, 66, 67, 68, 69, 70, 71, 72, 73, 74, 75, 76, 77, 78, 79] (by decide +kernel) (by decide +kernel)
set_option maxRecDepth 20000 in
theorem gX10_gapIn_X10_gapOf : GoodIn wsX10_gapIn (wsV RX10 313 RX10 yX10_gapOf wsX10_gapOf) := goodIn_app (goodIn_of _ (by decide +kernel)) ggX10_gapIn_X10_gapOf
theorem dX10_gapIn_0 : decode cX10_gapIn 0 = .ok (.iconst 0, 1) := by decide +kernel
theorem dX10_gapIn_1 : decode cX10_gapIn 1 = .ok (.istore_n 3, 1) := by decide +kernel
theorem dX10_gapIn_2 : decode cX10_gapIn 2 = .ok (.iconst 0, 1) := by decide +kernel
theorem dX10_gapIn_3 : decode cX10_gapIn 3 = .ok (.istore 4, 2) := by decide +kernel
theorem dX10_gapIn_5 : decode cX10_gapIn 5 = .ok (.iload 4, 2) := by decide +kernel
theorem dX10_gapIn_7 : decode cX10_gapIn 7 = .ok (.bipush 6, 2) := by decide +kernel
theorem dX10_gapIn_9 : decode cX10_gapIn 9 = .ok (.if_icmp .ge 37, 3) := by decide +kernel
theorem dX10_gapIn_12 : decode cX10_gapIn 12 = .ok (.iconst 0, 1) := by decide +kernel
theorem dX10_gapIn_13 : decode cX10_gapIn 13 = .ok (.istore 5, 2) := by decide +kernel
theorem dX10_gapIn_15 : decode cX10_gapIn 15 = .ok (.iload 5, 2) := by decide +kernel
theorem dX10_gapIn_17 : decode cX10_gapIn 17 = .ok (.iconst 3, 1) := by decide +kernel
theorem dX10_gapIn_18 : decode cX10_gapIn 18 = .ok (.if_icmp .ge 22, 3) := by decide +kernel
theorem dX10_gapIn_21 : decode cX10_gapIn 21 = .ok (.iload_n 3, 1) := by decide +kernel
theorem dX10_gapIn_22 : decode cX10_gapIn 22 = .ok (.aload_n 0, 1) := by decide +kernel
theorem dX10_gapIn_23 : decode cX10_gapIn 23 = .ok (.iload_n 1, 1) := by decide +kernel
theorem dX10_gapIn_24 : decode cX10_gapIn 24 = .ok (.iload 4, 2) := by decide +kernel
theorem dX10_gapIn_26 : decode cX10_gapIn 26 = .ok (.iload 5, 2) := by decide +kernel
theorem dX10_gapIn_28 : decode cX10_gapIn 28 = .ok (.iload_n 2, 1) := by decide +kernel
theorem dX10_gapIn_29 : decode cX10_gapIn 29 = .ok (.invokevirtual 313, 3) := by decide +kernel
theorem dX10_gapIn_32 : decode cX10_gapIn 32 = .ok (.iadd, 1) := by decide +kernel
theorem dX10_gapIn_33 : decode cX10_gapIn 33 = .ok (.istore_n 3, 1) := by decide +kernel
theorem dX10_gapIn_34 : decode cX10_gapIn 34 = .ok (.iinc 5 1, 3) := by decide +kernel
theorem dX10_gapIn_37 : decode cX10_gapIn 37 = .ok (.goto (-22), 3) := by decide +kernel
theorem dX10_gapIn_40 : decode cX10_gapIn 40 = .ok (.iinc 4 1, 3) := by decide +kernel
theorem dX10_gapIn_43 : decode cX10_gapIn 43 = .ok (.goto (-38), 3) := by decide +kernel
theorem dX10_gapIn_46 : decode cX10_gapIn 46 = .ok (.iload_n 3, 1) := by decide +kernel
theorem dX10_gapIn_47 : decode cX10_gapIn 47 = .ok (.ireturn, 1) := by decide +kernel
theorem dX10_lesser_0 : decode cX10_lesser 0 = .ok (.iload_n 0, 1) := by decide +kernel
theorem dX10_lesser_1 : decode cX10_lesser 1 = .ok (.iload_n 1, 1) := by decide +kernel
theorem dX10_lesser_2 : decode cX10_lesser 2 = .ok (.if_icmp .ge 7, 3) := by decide +kernel
theorem dX10_lesser_5 : decode cX10_lesser 5 = .ok (.iload_n 0, 1) := by decide +kernel
theorem dX10_lesser_6 : decode cX10_lesser 6 = .ok (.goto 4, 3) := by decide +kernel
theorem dX10_lesser_9 : decode cX10_lesser 9 = .ok (.iload_n 1, 1) := by decide +kernel
theorem dX10_lesser_10 : decode cX10_lesser 10 = .ok (.ireturn, 1) := by decide +kernel
theorem dX10_greater_0 : decode cX10_greater 0 = .ok (.iload_n 0, 1) := by decide +kernel
theorem dX10_greater_1 : decode cX10_greater 1 = .ok (.iload_n 1, 1) := by decide +kernel
theorem dX10_greater_2 : decode cX10_greater 2 = .ok (.if_icmp .le 7, 3) := by decide +kernel
theorem dX10_greater_5 : decode cX10_greater 5 = .ok (.iload_n 0, 1) := by decide +kernel
theorem dX10_greater_6 : decode cX10_greater 6 = .ok (.goto 4, 3) := by decide +kernel
theorem dX10_greater_9 : decode cX10_greater 9 = .ok (.iload_n 1, 1) := by decide +kernel
theorem dX10_greater_10 : decode cX10_greater 10 = .ok (.ireturn, 1) := by decide +kernel
set_option maxRecDepth 20000 in
theorem ggX10_helps_X10_gapIn : GoodIn wsX10_helps wsX10_gapIn := goodIn_r _ [12, 13, 14, 15, 11, 16, 17, 18, 19, 20, 21, 22, 32, 33, 34, 35, 36, 37, 38, 39, 40, 41, 42, 43, 44, 45, 46, 47, 48, 49, 50, 51, 52, 53, 54, 55, 56, 57, 58, 59, 60, 61, 62, 63, 64, 65, 66, 67, 68, 69, 70, 71, 72, 73, 74, 75, 76, 77, 78, 79, 80, 81, 82, 83, 84, 85, 86, 87, 88, 89, 90, 91, 92, 93, 94, 95, 96, 97, 98, 99] (by decide +kernel) (by decide +kernel)
set_option maxRecDepth 20000 in
theorem gX10_helps_X10_gapIn : GoodIn wsX10_helps (wsV RX10 316 RX10 yX10_gapIn wsX10_gapIn) := goodIn_app (goodIn_of _ (by decide +kernel)) ggX10_helps_X10_gapIn
set_option maxRecDepth 20000 in
theorem ggX10_helps_X10_away : GoodIn wsX10_helps wsX10_away := goodIn_r _ [25] (by decide +kernel) (by decide +kernel)
set_option maxRecDepth 20000 in
theorem gX10_helps_X10_away : GoodIn wsX10_helps (va_wsS RX10 224 yX10_away wsX10_away) := goodIn_app (goodIn_of _ (by decide +kernel)) ggX10_helps_X10_away
set_option maxRecDepth 20000 in
theorem ggX10_helps_X10_lesser : GoodIn wsX10_helps wsX10_lesser := goodIn_r _ [28] (by decide +kernel) (by decide +kernel)
set_option maxRecDepth 20000 in
theorem gX10_helps_X10_lesser : GoodIn wsX10_helps (va_wsS RX10 319 yX10_lesser wsX10_lesser) := goodIn_app (goodIn_of _ (by decide +kernel)) ggX10_helps_X10_lesser
set_option maxRecDepth 20000 in
theorem ggX10_helps_X10_greater : GoodIn wsX10_helps wsX10_greater := goodIn_r _ [31] (by decide +kernel) (by decide +kernel)
set_option maxRecDepth 20000 in
theorem gX10_helps_X10_greater : GoodIn wsX10_helps (va_wsS RX10 322 yX10_greater wsX10_greater) := goodIn_app (goodIn_of _ (by decide +kernel)) ggX10_helps_X10_greater
theorem dX10_helps_0 : decode cX10_helps 0 = .ok (.aload_n 0, 1) := by decide +kernel
theorem dX10_helps_1 : decode cX10_helps 1 = .ok (.iload_n 1, 1) := by decide +kernel
theorem dX10_helps_2 : decode cX10_helps 2 = .ok (.iload_n 2, 1) := by decide +kernel
theorem dX10_helps_3 : decode cX10_helps 3 = .ok (.invokevirtual 316, 3) := by decide +kernel
theorem dX10_helps_6 : decode cX10_helps 6 = .ok (.istore_n 3, 1) := by decide +kernel
theorem dX10_helps_7 : decode cX10_helps 7 = .ok (.iload_n 3, 1) := by decide +kernel
theorem dX10_helps_8 : decode cX10_helps 8 = .ok (.invokestatic 224, 3) := by decide +kernel
theorem dX10_helps_11 : decode cX10_helps 11 = .ok (.istore 4, 2) := by decide +kernel
theorem dX10_helps_13 : decode cX10_helps 13 = .ok (.iload_n 3, 1) := by decide +kernel
theorem dX10_helps_14 : decode cX10_helps 14 = .ok (.ifCond .ge 7, 3) := by decide +kernel
theorem dX10_helps_17 : decode cX10_helps 17 = .ok (.iconst 1, 1) := by decide +kernel
theorem dX10_helps_18 : decode cX10_helps 18 = .ok (.goto 4, 3) := by decide +kernel
theorem dX10_helps_21 : decode cX10_helps 21 = .ok (.iconst 0, 1) := by decide +kernel
theorem dX10_helps_22 : decode cX10_helps 22 = .ok (.istore 5, 2) := by decide +kernel
theorem dX10_helps_24 : decode cX10_helps 24 = .ok (.iconst (-1), 1) := by decide +kernel
theorem dX10_helps_25 : decode cX10_helps 25 = .ok (.istore 6, 2) := by decide +kernel
theorem dX10_helps_27 : decode cX10_helps 27 = .ok (.bipush 30, 2) := by decide +kernel
theorem dX10_helps_29 : decode cX10_helps 29 = .ok (.iload_n 1, 1) := by decide +kernel
theorem dX10_helps_30 : decode cX10_helps 30 = .ok (.imul, 1) := by decide +kernel
theorem dX10_helps_31 : decode cX10_helps 31 = .ok (.istore 7, 2) := by decide +kernel
theorem dX10_helps_33 : decode cX10_helps 33 = .ok (.iload 7, 2) := by decide +kernel
theorem dX10_helps_35 : decode cX10_helps 35 = .ok (.istore 8, 2) := by decide +kernel
theorem dX10_helps_37 : decode cX10_helps 37 = .ok (.iload 8, 2) := by decide +kernel
theorem dX10_helps_39 : decode cX10_helps 39 = .ok (.iload 7, 2) := by decide +kernel
theorem dX10_helps_41 : decode cX10_helps 41 = .ok (.bipush 30, 2) := by decide +kernel
theorem dX10_helps_43 : decode cX10_helps 43 = .ok (.iadd, 1) := by decide +kernel
theorem dX10_helps_44 : decode cX10_helps 44 = .ok (.if_icmp .ge 17, 3) := by decide +kernel
theorem dX10_helps_47 : decode cX10_helps 47 = .ok (.aload_n 0, 1) := by decide +kernel
theorem dX10_helps_48 : decode cX10_helps 48 = .ok (.getfield 127, 3) := by decide +kernel
theorem dX10_helps_51 : decode cX10_helps 51 = .ok (.iload 8, 2) := by decide +kernel
theorem dX10_helps_53 : decode cX10_helps 53 = .ok (.iconst 0, 1) := by decide +kernel
theorem dX10_helps_54 : decode cX10_helps 54 = .ok (.iastore, 1) := by decide +kernel
theorem dX10_helps_55 : decode cX10_helps 55 = .ok (.iinc 8 1, 3) := by decide +kernel
theorem dX10_helps_58 : decode cX10_helps 58 = .ok (.goto (-21), 3) := by decide +kernel
theorem dX10_helps_61 : decode cX10_helps 61 = .ok (.iconst 0, 1) := by decide +kernel
theorem dX10_helps_62 : decode cX10_helps 62 = .ok (.istore 8, 2) := by decide +kernel
theorem dX10_helps_64 : decode cX10_helps 64 = .ok (.iload 8, 2) := by decide +kernel
theorem dX10_helps_66 : decode cX10_helps 66 = .ok (.sipush 300, 3) := by decide +kernel
theorem dX10_helps_69 : decode cX10_helps 69 = .ok (.if_icmp .gt 127, 3) := by decide +kernel
theorem dX10_helps_72 : decode cX10_helps 72 = .ok (.iload 5, 2) := by decide +kernel
theorem dX10_helps_74 : decode cX10_helps 74 = .ok (.iconst 1, 1) := by decide +kernel
theorem dX10_helps_75 : decode cX10_helps 75 = .ok (.if_icmp .ne 8, 3) := by decide +kernel
theorem dX10_helps_78 : decode cX10_helps 78 = .ok (.iload 8, 2) := by decide +kernel
theorem dX10_helps_80 : decode cX10_helps 80 = .ok (.goto 9, 3) := by decide +kernel
theorem dX10_helps_83 : decode cX10_helps 83 = .ok (.sipush 300, 3) := by decide +kernel
theorem dX10_helps_86 : decode cX10_helps 86 = .ok (.iload 8, 2) := by decide +kernel
theorem dX10_helps_88 : decode cX10_helps 88 = .ok (.isub, 1) := by decide +kernel
theorem dX10_helps_89 : decode cX10_helps 89 = .ok (.istore 9, 2) := by decide +kernel
theorem dX10_helps_91 : decode cX10_helps 91 = .ok (.iload 7, 2) := by decide +kernel
theorem dX10_helps_93 : decode cX10_helps 93 = .ok (.istore 10, 2) := by decide +kernel
theorem dX10_helps_95 : decode cX10_helps 95 = .ok (.iload 10, 2) := by decide +kernel
theorem dX10_helps_97 : decode cX10_helps 97 = .ok (.iload 7, 2) := by decide +kernel
theorem dX10_helps_99 : decode cX10_helps 99 = .ok (.aload_n 0, 1) := by decide +kernel
theorem dX10_helps_100 : decode cX10_helps 100 = .ok (.getfield 109, 3) := by decide +kernel
theorem dX10_helps_103 : decode cX10_helps 103 = .ok (.iload_n 1, 1) := by decide +kernel
theorem dX10_helps_104 : decode cX10_helps 104 = .ok (.iaload, 1) := by decide +kernel
theorem dX10_helps_105 : decode cX10_helps 105 = .ok (.iadd, 1) := by decide +kernel
theorem dX10_helps_106 : decode cX10_helps 106 = .ok (.if_icmp .ge 84, 3) := by decide +kernel
theorem dX10_helps_109 : decode cX10_helps 109 = .ok (.iload 4, 2) := by decide +kernel
theorem dX10_helps_111 : decode cX10_helps 111 = .ok (.ifCond .le 73, 3) := by decide +kernel
theorem dX10_helps_114 : decode cX10_helps 114 = .ok (.aload_n 0, 1) := by decide +kernel
theorem dX10_helps_115 : decode cX10_helps 115 = .ok (.getfield 115, 3) := by decide +kernel
theorem dX10_helps_118 : decode cX10_helps 118 = .ok (.iload 10, 2) := by decide +kernel
theorem dX10_helps_120 : decode cX10_helps 120 = .ok (.iaload, 1) := by decide +kernel
theorem dX10_helps_121 : decode cX10_helps 121 = .ok (.iload_n 2, 1) := by decide +kernel
theorem dX10_helps_122 : decode cX10_helps 122 = .ok (.if_icmp .ne 62, 3) := by decide +kernel
theorem dX10_helps_125 : decode cX10_helps 125 = .ok (.aload_n 0, 1) := by decide +kernel
theorem dX10_helps_126 : decode cX10_helps 126 = .ok (.getfield 118, 3) := by decide +kernel
theorem dX10_helps_129 : decode cX10_helps 129 = .ok (.iload 10, 2) := by decide +kernel
theorem dX10_helps_131 : decode cX10_helps 131 = .ok (.iaload, 1) := by decide +kernel
theorem dX10_helps_132 : decode cX10_helps 132 = .ok (.iload 5, 2) := by decide +kernel
theorem dX10_helps_134 : decode cX10_helps 134 = .ok (.if_icmp .ne 50, 3) := by decide +kernel
theorem dX10_helps_137 : decode cX10_helps 137 = .ok (.aload_n 0, 1) := by decide +kernel
theorem dX10_helps_138 : decode cX10_helps 138 = .ok (.getfield 121, 3) := by decide +kernel
theorem dX10_helps_141 : decode cX10_helps 141 = .ok (.iload 10, 2) := by decide +kernel
theorem dX10_helps_143 : decode cX10_helps 143 = .ok (.iaload, 1) := by decide +kernel
theorem dX10_helps_144 : decode cX10_helps 144 = .ok (.iload 9, 2) := by decide +kernel
theorem dX10_helps_146 : decode cX10_helps 146 = .ok (.if_icmp .ne 38, 3) := by decide +kernel
theorem dX10_helps_149 : decode cX10_helps 149 = .ok (.aload_n 0, 1) := by decide +kernel
theorem dX10_helps_150 : decode cX10_helps 150 = .ok (.getfield 127, 3) := by decide +kernel
theorem dX10_helps_153 : decode cX10_helps 153 = .ok (.iload 10, 2) := by decide +kernel
theorem dX10_helps_155 : decode cX10_helps 155 = .ok (.aload_n 0, 1) := by decide +kernel
theorem dX10_helps_156 : decode cX10_helps 156 = .ok (.getfield 124, 3) := by decide +kernel
theorem dX10_helps_159 : decode cX10_helps 159 = .ok (.iload 10, 2) := by decide +kernel
theorem dX10_helps_161 : decode cX10_helps 161 = .ok (.iaload, 1) := by decide +kernel
theorem dX10_helps_162 : decode cX10_helps 162 = .ok (.iload 4, 2) := by decide +kernel
theorem dX10_helps_164 : decode cX10_helps 164 = .ok (.invokestatic 319, 3) := by decide +kernel
theorem dX10_helps_167 : decode cX10_helps 167 = .ok (.iastore, 1) := by decide +kernel
theorem dX10_helps_168 : decode cX10_helps 168 = .ok (.iload 4, 2) := by decide +kernel
theorem dX10_helps_170 : decode cX10_helps 170 = .ok (.aload_n 0, 1) := by decide +kernel
theorem dX10_helps_171 : decode cX10_helps 171 = .ok (.getfield 127, 3) := by decide +kernel
theorem dX10_helps_174 : decode cX10_helps 174 = .ok (.iload 10, 2) := by decide +kernel
theorem dX10_helps_176 : decode cX10_helps 176 = .ok (.iaload, 1) := by decide +kernel
theorem dX10_helps_177 : decode cX10_helps 177 = .ok (.isub, 1) := by decide +kernel
theorem dX10_helps_178 : decode cX10_helps 178 = .ok (.istore 4, 2) := by decide +kernel
theorem dX10_helps_180 : decode cX10_helps 180 = .ok (.iload 9, 2) := by decide +kernel
theorem dX10_helps_182 : decode cX10_helps 182 = .ok (.istore 6, 2) := by decide +kernel
theorem dX10_helps_184 : decode cX10_helps 184 = .ok (.iinc 10 1, 3) := by decide +kernel
theorem dX10_helps_187 : decode cX10_helps 187 = .ok (.goto (-92), 3) := by decide +kernel
theorem dX10_helps_190 : decode cX10_helps 190 = .ok (.iinc 8 1, 3) := by decide +kernel
theorem dX10_helps_193 : decode cX10_helps 193 = .ok (.goto (-129), 3) := by decide +kernel
theorem dX10_helps_196 : decode cX10_helps 196 = .ok (.iload_n 3, 1) := by decide +kernel
theorem dX10_helps_197 : decode cX10_helps 197 = .ok (.ifCond .ne 5, 3) := by decide +kernel
theorem dX10_helps_200 : decode cX10_helps 200 = .ok (.iconst (-1), 1) := by decide +kernel
theorem dX10_helps_201 : decode cX10_helps 201 = .ok (.ireturn, 1) := by decide +kernel
theorem dX10_helps_202 : decode cX10_helps 202 = .ok (.aload_n 0, 1) := by decide +kernel
theorem dX10_helps_203 : decode cX10_helps 203 = .ok (.getfield 130, 3) := by decide +kernel
theorem dX10_helps_206 : decode cX10_helps 206 = .ok (.bipush 12, 2) := by decide +kernel
theorem dX10_helps_208 : decode cX10_helps 208 = .ok (.iload_n 1, 1) := by decide +kernel
theorem dX10_helps_209 : decode cX10_helps 209 = .ok (.imul, 1) := by decide +kernel
theorem dX10_helps_210 : decode cX10_helps 210 = .ok (.iload_n 2, 1) := by decide +kernel
theorem dX10_helps_211 : decode cX10_helps 211 = .ok (.iadd, 1) := by decide +kernel
theorem dX10_helps_212 : decode cX10_helps 212 = .ok (.iaload, 1) := by decide +kernel
theorem dX10_helps_213 : decode cX10_helps 213 = .ok (.aload_n 0, 1) := by decide +kernel
theorem dX10_helps_214 : decode cX10_helps 214 = .ok (.getfield 130, 3) := by decide +kernel
theorem dX10_helps_217 : decode cX10_helps 217 = .ok (.bipush 12, 2) := by decide +kernel
theorem dX10_helps_219 : decode cX10_helps 219 = .ok (.iload_n 1, 1) := by decide +kernel
theorem dX10_helps_220 : decode cX10_helps 220 = .ok (.imul, 1) := by decide +kernel
theorem dX10_helps_221 : decode cX10_helps 221 = .ok (.iconst 4, 1) := by decide +kernel
theorem dX10_helps_222 : decode cX10_helps 222 = .ok (.iadd, 1) := by decide +kernel
theorem dX10_helps_223 : decode cX10_helps 223 = .ok (.iload_n 2, 1) := by decide +kernel
theorem dX10_helps_224 : decode cX10_helps 224 = .ok (.iadd, 1) := by decide +kernel
theorem dX10_helps_225 : decode cX10_helps 225 = .ok (.iaload, 1) := by decide +kernel
theorem dX10_helps_226 : decode cX10_helps 226 = .ok (.aload_n 0, 1) := by decide +kernel
theorem dX10_helps_227 : decode cX10_helps 227 = .ok (.getfield 130, 3) := by decide +kernel
theorem dX10_helps_230 : decode cX10_helps 230 = .ok (.bipush 12, 2) := by decide +kernel
theorem dX10_helps_232 : decode cX10_helps 232 = .ok (.iload_n 1, 1) := by decide +kernel
theorem dX10_helps_233 : decode cX10_helps 233 = .ok (.imul, 1) := by decide +kernel
theorem dX10_helps_234 : decode cX10_helps 234 = .ok (.bipush 8, 2) := by decide +kernel
theorem dX10_helps_236 : decode cX10_helps 236 = .ok (.iadd, 1) := by decide +kernel
theorem dX10_helps_237 : decode cX10_helps 237 = .ok (.iload_n 2, 1) := by decide +kernel
theorem dX10_helps_238 : decode cX10_helps 238 = .ok (.iadd, 1) := by decide +kernel
theorem dX10_helps_239 : decode cX10_helps 239 = .ok (.iaload, 1) := by decide +kernel
theorem dX10_helps_240 : decode cX10_helps 240 = .ok (.invokestatic 319, 3) := by decide +kernel
theorem dX10_helps_243 : decode cX10_helps 243 = .ok (.invokestatic 319, 3) := by decide +kernel
theorem dX10_helps_246 : decode cX10_helps 246 = .ok (.istore 8, 2) := by decide +kernel
theorem dX10_helps_248 : decode cX10_helps 248 = .ok (.aload_n 0, 1) := by decide +kernel
theorem dX10_helps_249 : decode cX10_helps 249 = .ok (.getfield 130, 3) := by decide +kernel
theorem dX10_helps_252 : decode cX10_helps 252 = .ok (.bipush 12, 2) := by decide +kernel
theorem dX10_helps_254 : decode cX10_helps 254 = .ok (.iload_n 1, 1) := by decide +kernel
theorem dX10_helps_255 : decode cX10_helps 255 = .ok (.imul, 1) := by decide +kernel
theorem dX10_helps_256 : decode cX10_helps 256 = .ok (.iload_n 2, 1) := by decide +kernel
theorem dX10_helps_257 : decode cX10_helps 257 = .ok (.iadd, 1) := by decide +kernel
theorem dX10_helps_258 : decode cX10_helps 258 = .ok (.iaload, 1) := by decide +kernel
theorem dX10_helps_259 : decode cX10_helps 259 = .ok (.aload_n 0, 1) := by decide +kernel
theorem dX10_helps_260 : decode cX10_helps 260 = .ok (.getfield 130, 3) := by decide +kernel
theorem dX10_helps_263 : decode cX10_helps 263 = .ok (.bipush 12, 2) := by decide +kernel
theorem dX10_helps_265 : decode cX10_helps 265 = .ok (.iload_n 1, 1) := by decide +kernel
theorem dX10_helps_266 : decode cX10_helps 266 = .ok (.imul, 1) := by decide +kernel
theorem dX10_helps_267 : decode cX10_helps 267 = .ok (.iconst 4, 1) := by decide +kernel
theorem dX10_helps_268 : decode cX10_helps 268 = .ok (.iadd, 1) := by decide +kernel
theorem dX10_helps_269 : decode cX10_helps 269 = .ok (.iload_n 2, 1) := by decide +kernel
theorem dX10_helps_270 : decode cX10_helps 270 = .ok (.iadd, 1) := by decide +kernel
theorem dX10_helps_271 : decode cX10_helps 271 = .ok (.iaload, 1) := by decide +kernel
theorem dX10_helps_272 : decode cX10_helps 272 = .ok (.aload_n 0, 1) := by decide +kernel
theorem dX10_helps_273 : decode cX10_helps 273 = .ok (.getfield 130, 3) := by decide +kernel
theorem dX10_helps_276 : decode cX10_helps 276 = .ok (.bipush 12, 2) := by decide +kernel
theorem dX10_helps_278 : decode cX10_helps 278 = .ok (.iload_n 1, 1) := by decide +kernel
theorem dX10_helps_279 : decode cX10_helps 279 = .ok (.imul, 1) := by decide +kernel
theorem dX10_helps_280 : decode cX10_helps 280 = .ok (.bipush 8, 2) := by decide +kernel
theorem dX10_helps_282 : decode cX10_helps 282 = .ok (.iadd, 1) := by decide +kernel
theorem dX10_helps_283 : decode cX10_helps 283 = .ok (.iload_n 2, 1) := by decide +kernel
theorem dX10_helps_284 : decode cX10_helps 284 = .ok (.iadd, 1) := by decide +kernel
theorem dX10_helps_285 : decode cX10_helps 285 = .ok (.iaload, 1) := by decide +kernel
theorem dX10_helps_286 : decode cX10_helps 286 = .ok (.invokestatic 322, 3) := by decide +kernel
theorem dX10_helps_289 : decode cX10_helps 289 = .ok (.invokestatic 322, 3) := by decide +kernel
theorem dX10_helps_292 : decode cX10_helps 292 = .ok (.istore 9, 2) := by decide +kernel
theorem dX10_helps_294 : decode cX10_helps 294 = .ok (.iload 5, 2) := by decide +kernel
theorem dX10_helps_296 : decode cX10_helps 296 = .ok (.iconst 1, 1) := by decide +kernel
theorem dX10_helps_297 : decode cX10_helps 297 = .ok (.if_icmp .ne 22, 3) := by decide +kernel
theorem dX10_helps_300 : decode cX10_helps 300 = .ok (.iload 4, 2) := by decide +kernel
theorem dX10_helps_302 : decode cX10_helps 302 = .ok (.ifCond .le 9, 3) := by decide +kernel
theorem dX10_helps_305 : decode cX10_helps 305 = .ok (.sipush 300, 3) := by decide +kernel
theorem dX10_helps_308 : decode cX10_helps 308 = .ok (.goto 5, 3) := by decide +kernel
theorem dX10_helps_311 : decode cX10_helps 311 = .ok (.iload 6, 2) := by decide +kernel
theorem dX10_helps_313 : decode cX10_helps 313 = .ok (.iload 9, 2) := by decide +kernel
theorem dX10_helps_315 : decode cX10_helps 315 = .ok (.invokestatic 322, 3) := by decide +kernel
theorem dX10_helps_318 : decode cX10_helps 318 = .ok (.ireturn, 1) := by decide +kernel
theorem dX10_helps_319 : decode cX10_helps 319 = .ok (.iload 4, 2) := by decide +kernel
theorem dX10_helps_321 : decode cX10_helps 321 = .ok (.ifCond .le 7, 3) := by decide +kernel
theorem dX10_helps_324 : decode cX10_helps 324 = .ok (.iconst 0, 1) := by decide +kernel
theorem dX10_helps_325 : decode cX10_helps 325 = .ok (.goto 5, 3) := by decide +kernel
theorem dX10_helps_328 : decode cX10_helps 328 = .ok (.iload 6, 2) := by decide +kernel
theorem dX10_helps_330 : decode cX10_helps 330 = .ok (.iload 8, 2) := by decide +kernel
theorem dX10_helps_332 : decode cX10_helps 332 = .ok (.invokestatic 319, 3) := by decide +kernel
theorem dX10_helps_335 : decode cX10_helps 335 = .ok (.ireturn, 1) := by decide +kernel
set_option maxRecDepth 20000 in
theorem ggX10_balances_X10_helps : GoodIn wsX10_balances wsX10_helps := goodIn_r _ [9, 4, 2, 10, 11, 12, 13, 1, 14, 15, 16, 8, 17, 18, 19, 20, 21, 22, 23, 24, 25, 26, 27, 28, 29, 30, 31, 32, 33, 34, 35, 36, 37, 38, 39, 40, 41, 42, 43, 44, 45, 46, 47, 48, 49, 50, 51, 52, 53, 54, 55, 56, 57, 58, 59, 60, 61, 62, 63, 64, 65, 66, 67, 68, 69, 70, 71, 72, 73, 74, 75, 76, 77, 78, 79, 80, 81, 82, 83, 84, 85, 86, 87, 88, 89, 90, 91, 92, 93, 94, 95, 96, 97, 98, 99, 100, 101, 102, 103, 104] (by decide +kernel) (by decide +kernel)
set_option maxRecDepth 20000 in
theorem gX10_balances_X10_helps : GoodIn wsX10_balances (wsV RX10 325 RX10 yX10_helps wsX10_helps) := goodIn_app (goodIn_of _ (by decide +kernel)) ggX10_balances_X10_helps
set_option maxRecDepth 20000 in
theorem ggX10_balances_X10_gapIn : GoodIn wsX10_balances wsX10_gapIn := goodIn_r _ [17, 18, 19, 20, 8, 21, 22, 23, 24, 25, 26, 27, 37, 38, 39, 40, 41, 42, 43, 44, 45, 46, 47, 48, 49, 50, 51, 52, 53, 54, 55, 56, 57, 58, 59, 60, 61, 62, 63, 64, 65, 66, 67, 68, 69, 70, 71, 72, 73, 74, 75, 76, 77, 78, 79, 80, 81, 82, 83, 84, 85, 86, 87, 88, 89, 90, 91, 92, 93, 94, 95, 96, 97, 98, 99, 100, 101, 102, 103, 104] (by decide +kernel) (by decide +kernel)
set_option maxRecDepth 20000 in
theorem gX10_balances_X10_gapIn : GoodIn wsX10_balances (wsV RX10 316 RX10 yX10_gapIn wsX10_gapIn) := goodIn_app (goodIn_of _ (by decide +kernel)) ggX10_balances_X10_gapIn
set_option maxRecDepth 20000 in
theorem ggX10_balances_X10_gapOf : GoodIn wsX10_balances wsX10_gapOf := goodIn_r _ [21, 22, 23, 24, 25, 26, 8, 27, 37, 38, 39, 40, 41, 42, 43, 44, 45, 46, 47, 48, 49, 50, 51, 52, 53, 54, 55, 56, 57, 58, 59, 60, 61, 62, 63, 64, 65, 66, 67, 68, 69, 70, 71, 72, 73, 74, 75, 76, 77, 78, 79, 80, 81, 82, 83, 84, 85, 86, 87, 88, 89, 90, 91, 92, 93, 94, 95, 96, 97, 98, 99, 100, 101, 102, 103, 104] (by decide +kernel) (by decide +kernel)
set_option maxRecDepth 20000 in
theorem gX10_balances_X10_gapOf : GoodIn wsX10_balances (wsV RX10 313 RX10 yX10_gapOf wsX10_gapOf) := goodIn_app (goodIn_of _ (by decide +kernel)) ggX10_balances_X10_gapOf
theorem dX10_balances_0 : decode cX10_balances 0 = .ok (.aload_n 0, 1) := by decide +kernel
theorem dX10_balances_1 : decode cX10_balances 1 = .ok (.iload_n 1, 1) := by decide +kernel
theorem dX10_balances_2 : decode cX10_balances 2 = .ok (.iload_n 3, 1) := by decide +kernel
theorem dX10_balances_3 : decode cX10_balances 3 = .ok (.invokevirtual 325, 3) := by decide +kernel
theorem dX10_balances_6 : decode cX10_balances 6 = .ok (.istore 4, 2) := by decide +kernel
theorem dX10_balances_8 : decode cX10_balances 8 = .ok (.aload_n 0, 1) := by decide +kernel
theorem dX10_balances_9 : decode cX10_balances 9 = .ok (.iload_n 1, 1) := by decide +kernel
theorem dX10_balances_10 : decode cX10_balances 10 = .ok (.iload_n 3, 1) := by decide +kernel
theorem dX10_balances_11 : decode cX10_balances 11 = .ok (.invokevirtual 316, 3) := by decide +kernel
theorem dX10_balances_14 : decode cX10_balances 14 = .ok (.istore 5, 2) := by decide +kernel
theorem dX10_balances_16 : decode cX10_balances 16 = .ok (.iconst 0, 1) := by decide +kernel
theorem dX10_balances_17 : decode cX10_balances 17 = .ok (.istore 6, 2) := by decide +kernel
theorem dX10_balances_19 : decode cX10_balances 19 = .ok (.iconst 0, 1) := by decide +kernel
theorem dX10_balances_20 : decode cX10_balances 20 = .ok (.istore 7, 2) := by decide +kernel
theorem dX10_balances_22 : decode cX10_balances 22 = .ok (.iload 7, 2) := by decide +kernel
theorem dX10_balances_24 : decode cX10_balances 24 = .ok (.iconst 3, 1) := by decide +kernel
theorem dX10_balances_25 : decode cX10_balances 25 = .ok (.if_icmp .ge 89, 3) := by decide +kernel
theorem dX10_balances_28 : decode cX10_balances 28 = .ok (.aload_n 0, 1) := by decide +kernel
theorem dX10_balances_29 : decode cX10_balances 29 = .ok (.iload_n 1, 1) := by decide +kernel
theorem dX10_balances_30 : decode cX10_balances 30 = .ok (.iload_n 2, 1) := by decide +kernel
theorem dX10_balances_31 : decode cX10_balances 31 = .ok (.iload 7, 2) := by decide +kernel
theorem dX10_balances_33 : decode cX10_balances 33 = .ok (.iload_n 3, 1) := by decide +kernel
theorem dX10_balances_34 : decode cX10_balances 34 = .ok (.invokevirtual 313, 3) := by decide +kernel
theorem dX10_balances_37 : decode cX10_balances 37 = .ok (.istore 8, 2) := by decide +kernel
theorem dX10_balances_39 : decode cX10_balances 39 = .ok (.iload 5, 2) := by decide +kernel
theorem dX10_balances_41 : decode cX10_balances 41 = .ok (.ifCond .ge 16, 3) := by decide +kernel
theorem dX10_balances_44 : decode cX10_balances 44 = .ok (.iload 8, 2) := by decide +kernel
theorem dX10_balances_46 : decode cX10_balances 46 = .ok (.ifCond .ge 7, 3) := by decide +kernel
theorem dX10_balances_49 : decode cX10_balances 49 = .ok (.iconst 1, 1) := by decide +kernel
theorem dX10_balances_50 : decode cX10_balances 50 = .ok (.goto 22, 3) := by decide +kernel
theorem dX10_balances_53 : decode cX10_balances 53 = .ok (.iconst 0, 1) := by decide +kernel
theorem dX10_balances_54 : decode cX10_balances 54 = .ok (.goto 18, 3) := by decide +kernel
theorem dX10_balances_57 : decode cX10_balances 57 = .ok (.iload 5, 2) := by decide +kernel
theorem dX10_balances_59 : decode cX10_balances 59 = .ok (.ifCond .le 12, 3) := by decide +kernel
theorem dX10_balances_62 : decode cX10_balances 62 = .ok (.iload 8, 2) := by decide +kernel
theorem dX10_balances_64 : decode cX10_balances 64 = .ok (.ifCond .le 7, 3) := by decide +kernel
theorem dX10_balances_67 : decode cX10_balances 67 = .ok (.iconst 1, 1) := by decide +kernel
theorem dX10_balances_68 : decode cX10_balances 68 = .ok (.goto 4, 3) := by decide +kernel
theorem dX10_balances_71 : decode cX10_balances 71 = .ok (.iconst 0, 1) := by decide +kernel
theorem dX10_balances_72 : decode cX10_balances 72 = .ok (.istore 9, 2) := by decide +kernel
theorem dX10_balances_74 : decode cX10_balances 74 = .ok (.iload 6, 2) := by decide +kernel
theorem dX10_balances_76 : decode cX10_balances 76 = .ok (.iload 8, 2) := by decide +kernel
theorem dX10_balances_78 : decode cX10_balances 78 = .ok (.iload 9, 2) := by decide +kernel
theorem dX10_balances_80 : decode cX10_balances 80 = .ok (.ifCond .eq 8, 3) := by decide +kernel
theorem dX10_balances_83 : decode cX10_balances 83 = .ok (.iload 4, 2) := by decide +kernel
theorem dX10_balances_85 : decode cX10_balances 85 = .ok (.goto 19, 3) := by decide +kernel
theorem dX10_balances_88 : decode cX10_balances 88 = .ok (.aload_n 0, 1) := by decide +kernel
theorem dX10_balances_89 : decode cX10_balances 89 = .ok (.getfield 130, 3) := by decide +kernel
theorem dX10_balances_92 : decode cX10_balances 92 = .ok (.bipush 12, 2) := by decide +kernel
theorem dX10_balances_94 : decode cX10_balances 94 = .ok (.iload_n 1, 1) := by decide +kernel
theorem dX10_balances_95 : decode cX10_balances 95 = .ok (.imul, 1) := by decide +kernel
theorem dX10_balances_96 : decode cX10_balances 96 = .ok (.iconst 4, 1) := by decide +kernel
theorem dX10_balances_97 : decode cX10_balances 97 = .ok (.iload 7, 2) := by decide +kernel
theorem dX10_balances_99 : decode cX10_balances 99 = .ok (.imul, 1) := by decide +kernel
theorem dX10_balances_100 : decode cX10_balances 100 = .ok (.iadd, 1) := by decide +kernel
theorem dX10_balances_101 : decode cX10_balances 101 = .ok (.iload_n 3, 1) := by decide +kernel
theorem dX10_balances_102 : decode cX10_balances 102 = .ok (.iadd, 1) := by decide +kernel
theorem dX10_balances_103 : decode cX10_balances 103 = .ok (.iaload, 1) := by decide +kernel
theorem dX10_balances_104 : decode cX10_balances 104 = .ok (.imul, 1) := by decide +kernel
theorem dX10_balances_105 : decode cX10_balances 105 = .ok (.iadd, 1) := by decide +kernel
theorem dX10_balances_106 : decode cX10_balances 106 = .ok (.istore 6, 2) := by decide +kernel
theorem dX10_balances_108 : decode cX10_balances 108 = .ok (.iinc 7 1, 3) := by decide +kernel
theorem dX10_balances_111 : decode cX10_balances 111 = .ok (.goto (-89), 3) := by decide +kernel
theorem dX10_balances_114 : decode cX10_balances 114 = .ok (.bipush 30, 2) := by decide +kernel
theorem dX10_balances_116 : decode cX10_balances 116 = .ok (.iload_n 1, 1) := by decide +kernel
theorem dX10_balances_117 : decode cX10_balances 117 = .ok (.imul, 1) := by decide +kernel
theorem dX10_balances_118 : decode cX10_balances 118 = .ok (.istore 7, 2) := by decide +kernel
theorem dX10_balances_120 : decode cX10_balances 120 = .ok (.iload 7, 2) := by decide +kernel
theorem dX10_balances_122 : decode cX10_balances 122 = .ok (.bipush 30, 2) := by decide +kernel
theorem dX10_balances_124 : decode cX10_balances 124 = .ok (.iload_n 1, 1) := by decide +kernel
theorem dX10_balances_125 : decode cX10_balances 125 = .ok (.imul, 1) := by decide +kernel
theorem dX10_balances_126 : decode cX10_balances 126 = .ok (.aload_n 0, 1) := by decide +kernel
theorem dX10_balances_127 : decode cX10_balances 127 = .ok (.getfield 109, 3) := by decide +kernel
theorem dX10_balances_130 : decode cX10_balances 130 = .ok (.iload_n 1, 1) := by decide +kernel
theorem dX10_balances_131 : decode cX10_balances 131 = .ok (.iaload, 1) := by decide +kernel
theorem dX10_balances_132 : decode cX10_balances 132 = .ok (.iadd, 1) := by decide +kernel
theorem dX10_balances_133 : decode cX10_balances 133 = .ok (.if_icmp .ge 57, 3) := by decide +kernel
theorem dX10_balances_136 : decode cX10_balances 136 = .ok (.aload_n 0, 1) := by decide +kernel
theorem dX10_balances_137 : decode cX10_balances 137 = .ok (.getfield 112, 3) := by decide +kernel
theorem dX10_balances_140 : decode cX10_balances 140 = .ok (.iload 7, 2) := by decide +kernel
theorem dX10_balances_142 : decode cX10_balances 142 = .ok (.iaload, 1) := by decide +kernel
theorem dX10_balances_143 : decode cX10_balances 143 = .ok (.iload_n 2, 1) := by decide +kernel
theorem dX10_balances_144 : decode cX10_balances 144 = .ok (.if_icmp .ne 13, 3) := by decide +kernel
theorem dX10_balances_147 : decode cX10_balances 147 = .ok (.aload_n 0, 1) := by decide +kernel
theorem dX10_balances_148 : decode cX10_balances 148 = .ok (.getfield 127, 3) := by decide +kernel
theorem dX10_balances_151 : decode cX10_balances 151 = .ok (.iload 7, 2) := by decide +kernel
theorem dX10_balances_153 : decode cX10_balances 153 = .ok (.iaload, 1) := by decide +kernel
theorem dX10_balances_154 : decode cX10_balances 154 = .ok (.goto 4, 3) := by decide +kernel
theorem dX10_balances_157 : decode cX10_balances 157 = .ok (.iconst 0, 1) := by decide +kernel
theorem dX10_balances_158 : decode cX10_balances 158 = .ok (.istore 8, 2) := by decide +kernel
theorem dX10_balances_160 : decode cX10_balances 160 = .ok (.iload 6, 2) := by decide +kernel
theorem dX10_balances_162 : decode cX10_balances 162 = .ok (.iload 5, 2) := by decide +kernel
theorem dX10_balances_164 : decode cX10_balances 164 = .ok (.ifCond .ge 11, 3) := by decide +kernel
theorem dX10_balances_167 : decode cX10_balances 167 = .ok (.iload 8, 2) := by decide +kernel
theorem dX10_balances_169 : decode cX10_balances 169 = .ok (.iload 4, 2) := by decide +kernel
theorem dX10_balances_171 : decode cX10_balances 171 = .ok (.imul, 1) := by decide +kernel
theorem dX10_balances_172 : decode cX10_balances 172 = .ok (.goto 9, 3) := by decide +kernel
theorem dX10_balances_175 : decode cX10_balances 175 = .ok (.iload 8, 2) := by decide +kernel
theorem dX10_balances_177 : decode cX10_balances 177 = .ok (.ineg, 1) := by decide +kernel
theorem dX10_balances_178 : decode cX10_balances 178 = .ok (.iload 4, 2) := by decide +kernel
theorem dX10_balances_180 : decode cX10_balances 180 = .ok (.imul, 1) := by decide +kernel
theorem dX10_balances_181 : decode cX10_balances 181 = .ok (.iadd, 1) := by decide +kernel
theorem dX10_balances_182 : decode cX10_balances 182 = .ok (.istore 6, 2) := by decide +kernel
theorem dX10_balances_184 : decode cX10_balances 184 = .ok (.iinc 7 1, 3) := by decide +kernel
theorem dX10_balances_187 : decode cX10_balances 187 = .ok (.goto (-67), 3) := by decide +kernel
theorem dX10_balances_190 : decode cX10_balances 190 = .ok (.iload 6, 2) := by decide +kernel
theorem dX10_balances_192 : decode cX10_balances 192 = .ok (.ireturn, 1) := by decide +kernel
set_option maxRecDepth 20000 in
theorem ggX10_billOf_X10_balances : GoodIn wsX10_billOf wsX10_balances := goodIn_r _ [6, 7, 8, 9, 10, 11, 12, 13, 5, 14, 15, 16, 17, 18, 19, 20, 21, 22, 23, 24, 25, 26, 27, 28, 29, 30, 31, 32, 33, 34, 35, 36, 37, 38, 39, 40, 41, 42, 43, 44, 45, 46, 47, 48, 49, 50, 51, 52, 53, 54, 55, 56, 57, 58, 59, 60, 61, 62, 63, 64, 65, 66, 67, 68, 69, 70, 71, 72, 73, 74, 75, 76, 77, 78, 79, 80, 81, 82, 83, 84, 85, 86, 87, 88, 89, 90, 91, 92, 93, 94, 95, 96, 97, 98, 99, 100, 101, 102, 103, 104, 105, 106, 107, 108, 109] (by decide +kernel) (by decide +kernel)
set_option maxRecDepth 20000 in
theorem gX10_billOf_X10_balances : GoodIn wsX10_billOf (wsV RX10 328 RX10 yX10_balances wsX10_balances) := goodIn_app (goodIn_of _ (by decide +kernel)) ggX10_billOf_X10_balances
theorem dX10_billOf_0 : decode cX10_billOf 0 = .ok (.aload_n 0, 1) := by decide +kernel
theorem dX10_billOf_1 : decode cX10_billOf 1 = .ok (.getfield 142, 3) := by decide +kernel
theorem dX10_billOf_4 : decode cX10_billOf 4 = .ok (.bipush 6, 2) := by decide +kernel
theorem dX10_billOf_6 : decode cX10_billOf 6 = .ok (.iload_n 1, 1) := by decide +kernel
theorem dX10_billOf_7 : decode cX10_billOf 7 = .ok (.imul, 1) := by decide +kernel
theorem dX10_billOf_8 : decode cX10_billOf 8 = .ok (.iload_n 2, 1) := by decide +kernel
theorem dX10_billOf_9 : decode cX10_billOf 9 = .ok (.iadd, 1) := by decide +kernel
theorem dX10_billOf_10 : decode cX10_billOf 10 = .ok (.iaload, 1) := by decide +kernel
theorem dX10_billOf_11 : decode cX10_billOf 11 = .ok (.istore_n 3, 1) := by decide +kernel
theorem dX10_billOf_12 : decode cX10_billOf 12 = .ok (.iconst 0, 1) := by decide +kernel
theorem dX10_billOf_13 : decode cX10_billOf 13 = .ok (.istore 4, 2) := by decide +kernel
theorem dX10_billOf_15 : decode cX10_billOf 15 = .ok (.iload 4, 2) := by decide +kernel
theorem dX10_billOf_17 : decode cX10_billOf 17 = .ok (.iconst 4, 1) := by decide +kernel
theorem dX10_billOf_18 : decode cX10_billOf 18 = .ok (.if_icmp .ge 20, 3) := by decide +kernel
theorem dX10_billOf_21 : decode cX10_billOf 21 = .ok (.iload_n 3, 1) := by decide +kernel
theorem dX10_billOf_22 : decode cX10_billOf 22 = .ok (.aload_n 0, 1) := by decide +kernel
theorem dX10_billOf_23 : decode cX10_billOf 23 = .ok (.iload_n 1, 1) := by decide +kernel
theorem dX10_billOf_24 : decode cX10_billOf 24 = .ok (.iload_n 2, 1) := by decide +kernel
theorem dX10_billOf_25 : decode cX10_billOf 25 = .ok (.iload 4, 2) := by decide +kernel
theorem dX10_billOf_27 : decode cX10_billOf 27 = .ok (.invokevirtual 328, 3) := by decide +kernel
theorem dX10_billOf_30 : decode cX10_billOf 30 = .ok (.iadd, 1) := by decide +kernel
theorem dX10_billOf_31 : decode cX10_billOf 31 = .ok (.istore_n 3, 1) := by decide +kernel
theorem dX10_billOf_32 : decode cX10_billOf 32 = .ok (.iinc 4 1, 3) := by decide +kernel
theorem dX10_billOf_35 : decode cX10_billOf 35 = .ok (.goto (-20), 3) := by decide +kernel
theorem dX10_billOf_38 : decode cX10_billOf 38 = .ok (.iload_n 3, 1) := by decide +kernel
theorem dX10_billOf_39 : decode cX10_billOf 39 = .ok (.ireturn, 1) := by decide +kernel
theorem dX10_lowestBelow_0 : decode cX10_lowestBelow 0 = .ok (.iconst 0, 1) := by decide +kernel
theorem dX10_lowestBelow_1 : decode cX10_lowestBelow 1 = .ok (.istore_n 1, 1) := by decide +kernel
theorem dX10_lowestBelow_2 : decode cX10_lowestBelow 2 = .ok (.iload_n 1, 1) := by decide +kernel
theorem dX10_lowestBelow_3 : decode cX10_lowestBelow 3 = .ok (.bipush 6, 2) := by decide +kernel
theorem dX10_lowestBelow_5 : decode cX10_lowestBelow 5 = .ok (.if_icmp .ge 29, 3) := by decide +kernel
theorem dX10_lowestBelow_8 : decode cX10_lowestBelow 8 = .ok (.aload_n 0, 1) := by decide +kernel
theorem dX10_lowestBelow_9 : decode cX10_lowestBelow 9 = .ok (.getfield 19, 3) := by decide +kernel
theorem dX10_lowestBelow_12 : decode cX10_lowestBelow 12 = .ok (.iload_n 1, 1) := by decide +kernel
theorem dX10_lowestBelow_13 : decode cX10_lowestBelow 13 = .ok (.iaload, 1) := by decide +kernel
theorem dX10_lowestBelow_14 : decode cX10_lowestBelow 14 = .ok (.ifCond .ne 14, 3) := by decide +kernel
theorem dX10_lowestBelow_17 : decode cX10_lowestBelow 17 = .ok (.aload_n 0, 1) := by decide +kernel
theorem dX10_lowestBelow_18 : decode cX10_lowestBelow 18 = .ok (.getfield 13, 3) := by decide +kernel
theorem dX10_lowestBelow_21 : decode cX10_lowestBelow 21 = .ok (.iload_n 1, 1) := by decide +kernel
theorem dX10_lowestBelow_22 : decode cX10_lowestBelow 22 = .ok (.iaload, 1) := by decide +kernel
theorem dX10_lowestBelow_23 : decode cX10_lowestBelow 23 = .ok (.ifCond .ge 5, 3) := by decide +kernel
theorem dX10_lowestBelow_26 : decode cX10_lowestBelow 26 = .ok (.iload_n 1, 1) := by decide +kernel
theorem dX10_lowestBelow_27 : decode cX10_lowestBelow 27 = .ok (.ireturn, 1) := by decide +kernel
theorem dX10_lowestBelow_28 : decode cX10_lowestBelow 28 = .ok (.iinc 1 1, 3) := by decide +kernel
theorem dX10_lowestBelow_31 : decode cX10_lowestBelow 31 = .ok (.goto (-29), 3) := by decide +kernel
theorem dX10_lowestBelow_34 : decode cX10_lowestBelow 34 = .ok (.iconst (-1), 1) := by decide +kernel
theorem dX10_lowestBelow_35 : decode cX10_lowestBelow 35 = .ok (.ireturn, 1) := by decide +kernel
theorem dX10_fails_0 : decode cX10_fails 0 = .ok (.aload_n 0, 1) := by decide +kernel
theorem dX10_fails_1 : decode cX10_fails 1 = .ok (.getfield 13, 3) := by decide +kernel
theorem dX10_fails_4 : decode cX10_fails 4 = .ok (.iload_n 1, 1) := by decide +kernel
theorem dX10_fails_5 : decode cX10_fails 5 = .ok (.iaload, 1) := by decide +kernel
theorem dX10_fails_6 : decode cX10_fails 6 = .ok (.ineg, 1) := by decide +kernel
theorem dX10_fails_7 : decode cX10_fails 7 = .ok (.i2l, 1) := by decide +kernel
theorem dX10_fails_8 : decode cX10_fails 8 = .ok (.lstore_n 2, 1) := by decide +kernel
theorem dX10_fails_9 : decode cX10_fails 9 = .ok (.lconst 0, 1) := by decide +kernel
theorem dX10_fails_10 : decode cX10_fails 10 = .ok (.lstore 4, 2) := by decide +kernel
theorem dX10_fails_12 : decode cX10_fails 12 = .ok (.aload_n 0, 1) := by decide +kernel
theorem dX10_fails_13 : decode cX10_fails 13 = .ok (.getfield 19, 3) := by decide +kernel
theorem dX10_fails_16 : decode cX10_fails 16 = .ok (.iload_n 1, 1) := by decide +kernel
theorem dX10_fails_17 : decode cX10_fails 17 = .ok (.iconst 1, 1) := by decide +kernel
theorem dX10_fails_18 : decode cX10_fails 18 = .ok (.iastore, 1) := by decide +kernel
theorem dX10_fails_19 : decode cX10_fails 19 = .ok (.aload_n 0, 1) := by decide +kernel
theorem dX10_fails_20 : decode cX10_fails 20 = .ok (.getfield 13, 3) := by decide +kernel
theorem dX10_fails_23 : decode cX10_fails 23 = .ok (.iload_n 1, 1) := by decide +kernel
theorem dX10_fails_24 : decode cX10_fails 24 = .ok (.iconst 0, 1) := by decide +kernel
theorem dX10_fails_25 : decode cX10_fails 25 = .ok (.iastore, 1) := by decide +kernel
theorem dX10_fails_26 : decode cX10_fails 26 = .ok (.iconst 0, 1) := by decide +kernel
theorem dX10_fails_27 : decode cX10_fails 27 = .ok (.istore 6, 2) := by decide +kernel
theorem dX10_fails_29 : decode cX10_fails 29 = .ok (.iload 6, 2) := by decide +kernel
theorem dX10_fails_31 : decode cX10_fails 31 = .ok (.bipush 6, 2) := by decide +kernel
theorem dX10_fails_33 : decode cX10_fails 33 = .ok (.if_icmp .ge 36, 3) := by decide +kernel
theorem dX10_fails_36 : decode cX10_fails 36 = .ok (.lload 4, 2) := by decide +kernel
theorem dX10_fails_38 : decode cX10_fails 38 = .ok (.aload_n 0, 1) := by decide +kernel
theorem dX10_fails_39 : decode cX10_fails 39 = .ok (.getfield 19, 3) := by decide +kernel
theorem dX10_fails_42 : decode cX10_fails 42 = .ok (.iload 6, 2) := by decide +kernel
theorem dX10_fails_44 : decode cX10_fails 44 = .ok (.iaload, 1) := by decide +kernel
theorem dX10_fails_45 : decode cX10_fails 45 = .ok (.ifCond .ne 14, 3) := by decide +kernel
theorem dX10_fails_48 : decode cX10_fails 48 = .ok (.aload_n 0, 1) := by decide +kernel
theorem dX10_fails_49 : decode cX10_fails 49 = .ok (.getfield 16, 3) := by decide +kernel
theorem dX10_fails_52 : decode cX10_fails 52 = .ok (.iload 6, 2) := by decide +kernel
theorem dX10_fails_54 : decode cX10_fails 54 = .ok (.iaload, 1) := by decide +kernel
theorem dX10_fails_55 : decode cX10_fails 55 = .ok (.i2l, 1) := by decide +kernel
theorem dX10_fails_56 : decode cX10_fails 56 = .ok (.goto 4, 3) := by decide +kernel
theorem dX10_fails_59 : decode cX10_fails 59 = .ok (.lconst 0, 1) := by decide +kernel
theorem dX10_fails_60 : decode cX10_fails 60 = .ok (.ladd, 1) := by decide +kernel
theorem dX10_fails_61 : decode cX10_fails 61 = .ok (.lstore 4, 2) := by decide +kernel
theorem dX10_fails_63 : decode cX10_fails 63 = .ok (.iinc 6 1, 3) := by decide +kernel
theorem dX10_fails_66 : decode cX10_fails 66 = .ok (.goto (-37), 3) := by decide +kernel
theorem dX10_fails_69 : decode cX10_fails 69 = .ok (.lload_n 2, 1) := by decide +kernel
theorem dX10_fails_70 : decode cX10_fails 70 = .ok (.lstore 6, 2) := by decide +kernel
theorem dX10_fails_72 : decode cX10_fails 72 = .ok (.iconst 0, 1) := by decide +kernel
theorem dX10_fails_73 : decode cX10_fails 73 = .ok (.istore 8, 2) := by decide +kernel
theorem dX10_fails_75 : decode cX10_fails 75 = .ok (.iload 8, 2) := by decide +kernel
theorem dX10_fails_77 : decode cX10_fails 77 = .ok (.bipush 6, 2) := by decide +kernel
theorem dX10_fails_79 : decode cX10_fails 79 = .ok (.if_icmp .ge 66, 3) := by decide +kernel
theorem dX10_fails_82 : decode cX10_fails 82 = .ok (.aload_n 0, 1) := by decide +kernel
theorem dX10_fails_83 : decode cX10_fails 83 = .ok (.getfield 19, 3) := by decide +kernel
theorem dX10_fails_86 : decode cX10_fails 86 = .ok (.iload 8, 2) := by decide +kernel
theorem dX10_fails_88 : decode cX10_fails 88 = .ok (.iaload, 1) := by decide +kernel
theorem dX10_fails_89 : decode cX10_fails 89 = .ok (.ifCond .ne 27, 3) := by decide +kernel
theorem dX10_fails_92 : decode cX10_fails 92 = .ok (.lload 4, 2) := by decide +kernel
theorem dX10_fails_94 : decode cX10_fails 94 = .ok (.lconst 0, 1) := by decide +kernel
theorem dX10_fails_95 : decode cX10_fails 95 = .ok (.lcmp, 1) := by decide +kernel
theorem dX10_fails_96 : decode cX10_fails 96 = .ok (.ifCond .le 20, 3) := by decide +kernel
theorem dX10_fails_99 : decode cX10_fails 99 = .ok (.lload_n 2, 1) := by decide +kernel
theorem dX10_fails_100 : decode cX10_fails 100 = .ok (.aload_n 0, 1) := by decide +kernel
theorem dX10_fails_101 : decode cX10_fails 101 = .ok (.getfield 16, 3) := by decide +kernel
theorem dX10_fails_104 : decode cX10_fails 104 = .ok (.iload 8, 2) := by decide +kernel
theorem dX10_fails_106 : decode cX10_fails 106 = .ok (.iaload, 1) := by decide +kernel
theorem dX10_fails_107 : decode cX10_fails 107 = .ok (.i2l, 1) := by decide +kernel
theorem dX10_fails_108 : decode cX10_fails 108 = .ok (.lmul, 1) := by decide +kernel
theorem dX10_fails_109 : decode cX10_fails 109 = .ok (.lload 4, 2) := by decide +kernel
theorem dX10_fails_111 : decode cX10_fails 111 = .ok (.ldiv, 1) := by decide +kernel
theorem dX10_fails_112 : decode cX10_fails 112 = .ok (.l2i, 1) := by decide +kernel
theorem dX10_fails_113 : decode cX10_fails 113 = .ok (.goto 4, 3) := by decide +kernel
theorem dX10_fails_116 : decode cX10_fails 116 = .ok (.iconst 0, 1) := by decide +kernel
theorem dX10_fails_117 : decode cX10_fails 117 = .ok (.istore 9, 2) := by decide +kernel
theorem dX10_fails_119 : decode cX10_fails 119 = .ok (.aload_n 0, 1) := by decide +kernel
theorem dX10_fails_120 : decode cX10_fails 120 = .ok (.getfield 13, 3) := by decide +kernel
theorem dX10_fails_123 : decode cX10_fails 123 = .ok (.iload 8, 2) := by decide +kernel
theorem dX10_fails_125 : decode cX10_fails 125 = .ok (.dup2, 1) := by decide +kernel
theorem dX10_fails_126 : decode cX10_fails 126 = .ok (.iaload, 1) := by decide +kernel
theorem dX10_fails_127 : decode cX10_fails 127 = .ok (.iload 9, 2) := by decide +kernel
theorem dX10_fails_129 : decode cX10_fails 129 = .ok (.isub, 1) := by decide +kernel
theorem dX10_fails_130 : decode cX10_fails 130 = .ok (.iastore, 1) := by decide +kernel
theorem dX10_fails_131 : decode cX10_fails 131 = .ok (.lload 6, 2) := by decide +kernel
theorem dX10_fails_133 : decode cX10_fails 133 = .ok (.iload 9, 2) := by decide +kernel
theorem dX10_fails_135 : decode cX10_fails 135 = .ok (.i2l, 1) := by decide +kernel
theorem dX10_fails_136 : decode cX10_fails 136 = .ok (.lsub, 1) := by decide +kernel
theorem dX10_fails_137 : decode cX10_fails 137 = .ok (.lstore 6, 2) := by decide +kernel
theorem dX10_fails_139 : decode cX10_fails 139 = .ok (.iinc 8 1, 3) := by decide +kernel
theorem dX10_fails_142 : decode cX10_fails 142 = .ok (.goto (-67), 3) := by decide +kernel
theorem dX10_fails_145 : decode cX10_fails 145 = .ok (.aload_n 0, 1) := by decide +kernel
theorem dX10_fails_146 : decode cX10_fails 146 = .ok (.dup, 1) := by decide +kernel
theorem dX10_fails_147 : decode cX10_fails 147 = .ok (.getfield 331, 3) := by decide +kernel
theorem dX10_fails_150 : decode cX10_fails 150 = .ok (.lload 6, 2) := by decide +kernel
theorem dX10_fails_152 : decode cX10_fails 152 = .ok (.l2i, 1) := by decide +kernel
theorem dX10_fails_153 : decode cX10_fails 153 = .ok (.isub, 1) := by decide +kernel
theorem dX10_fails_154 : decode cX10_fails 154 = .ok (.putfield 331, 3) := by decide +kernel
theorem dX10_fails_157 : decode cX10_fails 157 = .ok (.return_, 1) := by decide +kernel
set_option maxRecDepth 20000 in
theorem ggX10_run_X10_isClosed : GoodIn wsX10_run wsX10_isClosed := goodIn_r _ [11, 12, 13, 14, 10, 15, 69, 70, 71, 72, 73, 74, 75, 76, 77, 78, 79, 80, 81, 82, 83, 84, 85, 86, 87, 88, 89, 90, 91, 92, 93, 94, 95, 96, 97, 98, 99, 100, 101, 102, 103, 104, 105, 106, 107, 108, 109, 110, 111, 112, 113, 114, 115, 116, 117, 118, 119, 120, 121, 122, 123, 124, 125, 126, 127, 128, 129, 130, 131, 132, 133, 134, 135, 136] (by decide +kernel) (by decide +kernel)
set_option maxRecDepth 20000 in
theorem gX10_run_X10_isClosed : GoodIn wsX10_run (wsV RX10 310 RX10 yX10_isClosed wsX10_isClosed) := goodIn_app (goodIn_of _ (by decide +kernel)) ggX10_run_X10_isClosed
set_option maxRecDepth 20000 in
theorem ggX10_run_X10_billOf : GoodIn wsX10_run wsX10_billOf := goodIn_r _ [19, 20, 21, 22, 23, 10, 24, 25, 26, 27, 28, 29, 30, 31, 32, 33, 34, 35, 36, 37, 38, 39, 40, 41, 42, 43, 44, 45, 46, 47, 48, 49, 50, 51, 52, 53, 54, 55, 56, 57, 58, 59, 69, 70, 71, 72, 73, 74, 75, 76, 77, 78, 79, 80, 81, 82, 83, 84, 85, 86, 87, 88, 89, 90, 91, 92, 93, 94, 95, 96, 97, 98, 99, 100, 101, 102, 103, 104, 105, 106, 107, 108, 109, 110, 111, 112, 113, 114, 115, 116, 117, 118, 119, 120, 121, 122, 123, 124, 125, 126, 127, 128, 129, 130, 131, 132, 133, 134, 135, 136] (by decide +kernel) (by decide +kernel)
set_option maxRecDepth 20000 in
theorem gX10_run_X10_billOf : GoodIn wsX10_run (wsV RX10 334 RX10 yX10_billOf wsX10_billOf) := goodIn_app (goodIn_of _ (by decide +kernel)) ggX10_run_X10_billOf
set_option maxRecDepth 20000 in
theorem ggX10_run_X10_lowestBelow : GoodIn wsX10_run wsX10_lowestBelow := goodIn_r _ [63, 3, 5, 69, 70, 71, 72, 73, 74, 75, 76, 77, 78, 79, 80, 81, 82, 83, 84, 85, 86, 87, 88, 89, 90, 91, 92, 93, 94, 95, 96, 97, 98, 99, 100, 101, 102, 103, 104, 105, 106, 107, 108, 109, 110, 111, 112, 113, 114, 115, 116, 117, 118, 119, 120, 121, 122, 123, 124, 125, 126, 127, 128, 129, 130, 131, 132, 133, 134, 135, 136] (by decide +kernel) (by decide +kernel)
set_option maxRecDepth 20000 in
theorem gX10_run_X10_lowestBelow : GoodIn wsX10_run (wsV RX10 337 RX10 yX10_lowestBelow wsX10_lowestBelow) := goodIn_app (goodIn_of _ (by decide +kernel)) ggX10_run_X10_lowestBelow
set_option maxRecDepth 20000 in
theorem ggX10_run_X10_fails : GoodIn wsX10_run wsX10_fails := goodIn_r _ [67, 5, 3, 68, 6, 69, 70, 71, 72, 73, 74, 75, 76, 77, 78, 79, 80, 81, 82, 83, 84, 85, 86, 87, 88, 89, 90, 91, 92, 93, 94, 95, 96, 97, 98, 99, 100, 101, 102, 103, 104, 105, 106, 107, 108, 109, 110, 111, 112, 113, 114, 115, 116, 117, 118, 119, 120, 121, 122, 123, 124, 125, 126, 127, 128, 129, 130, 131, 132, 133, 134, 135, 136] (by decide +kernel) (by decide +kernel)
set_option maxRecDepth 20000 in
theorem gX10_run_X10_fails : GoodIn wsX10_run (wsV RX10 341 RX10 yX10_fails wsX10_fails) := goodIn_app (goodIn_of _ (by decide +kernel)) ggX10_run_X10_fails
theorem dX10_run_0 : decode cX10_run 0 = .ok (.aload_n 0, 1) := by decide +kernel
theorem dX10_run_1 : decode cX10_run 1 = .ok (.aload_n 0, 1) := by decide +kernel
theorem dX10_run_2 : decode cX10_run 2 = .ok (.iload_n 1, 1) := by decide +kernel
theorem dX10_run_3 : decode cX10_run 3 = .ok (.invokevirtual 310, 3) := by decide +kernel
theorem dX10_run_6 : decode cX10_run 6 = .ok (.ifCond .ne 7, 3) := by decide +kernel
theorem dX10_run_9 : decode cX10_run 9 = .ok (.iconst 1, 1) := by decide +kernel
theorem dX10_run_10 : decode cX10_run 10 = .ok (.goto 18, 3) := by decide +kernel
theorem dX10_run_13 : decode cX10_run 13 = .ok (.aload_n 0, 1) := by decide +kernel
theorem dX10_run_14 : decode cX10_run 14 = .ok (.getfield 148, 3) := by decide +kernel
theorem dX10_run_17 : decode cX10_run 17 = .ok (.iload_n 1, 1) := by decide +kernel
theorem dX10_run_18 : decode cX10_run 18 = .ok (.iaload, 1) := by decide +kernel
theorem dX10_run_19 : decode cX10_run 19 = .ok (.iconst 3, 1) := by decide +kernel
theorem dX10_run_20 : decode cX10_run 20 = .ok (.if_icmp .ne 7, 3) := by decide +kernel
theorem dX10_run_23 : decode cX10_run 23 = .ok (.iconst 2, 1) := by decide +kernel
theorem dX10_run_24 : decode cX10_run 24 = .ok (.goto 4, 3) := by decide +kernel
theorem dX10_run_27 : decode cX10_run 27 = .ok (.iconst 0, 1) := by decide +kernel
theorem dX10_run_28 : decode cX10_run 28 = .ok (.putfield 175, 3) := by decide +kernel
theorem dX10_run_31 : decode cX10_run 31 = .ok (.aload_n 0, 1) := by decide +kernel
theorem dX10_run_32 : decode cX10_run 32 = .ok (.getfield 175, 3) := by decide +kernel
theorem dX10_run_35 : decode cX10_run 35 = .ok (.ifCond .le 5, 3) := by decide +kernel
theorem dX10_run_38 : decode cX10_run 38 = .ok (.iconst 0, 1) := by decide +kernel
theorem dX10_run_39 : decode cX10_run 39 = .ok (.ireturn, 1) := by decide +kernel
theorem dX10_run_40 : decode cX10_run 40 = .ok (.aload_n 0, 1) := by decide +kernel
theorem dX10_run_41 : decode cX10_run 41 = .ok (.getfield 148, 3) := by decide +kernel
theorem dX10_run_44 : decode cX10_run 44 = .ok (.iload_n 1, 1) := by decide +kernel
theorem dX10_run_45 : decode cX10_run 45 = .ok (.dup2, 1) := by decide +kernel
theorem dX10_run_46 : decode cX10_run 46 = .ok (.iaload, 1) := by decide +kernel
theorem dX10_run_47 : decode cX10_run 47 = .ok (.iconst 1, 1) := by decide +kernel
theorem dX10_run_48 : decode cX10_run 48 = .ok (.iadd, 1) := by decide +kernel
theorem dX10_run_49 : decode cX10_run 49 = .ok (.iastore, 1) := by decide +kernel
theorem dX10_run_50 : decode cX10_run 50 = .ok (.iconst 0, 1) := by decide +kernel
theorem dX10_run_51 : decode cX10_run 51 = .ok (.istore_n 2, 1) := by decide +kernel
theorem dX10_run_52 : decode cX10_run 52 = .ok (.iload_n 2, 1) := by decide +kernel
theorem dX10_run_53 : decode cX10_run 53 = .ok (.bipush 6, 2) := by decide +kernel
theorem dX10_run_55 : decode cX10_run 55 = .ok (.if_icmp .ge 72, 3) := by decide +kernel
theorem dX10_run_58 : decode cX10_run 58 = .ok (.aload_n 0, 1) := by decide +kernel
theorem dX10_run_59 : decode cX10_run 59 = .ok (.getfield 19, 3) := by decide +kernel
theorem dX10_run_62 : decode cX10_run 62 = .ok (.iload_n 2, 1) := by decide +kernel
theorem dX10_run_63 : decode cX10_run 63 = .ok (.iaload, 1) := by decide +kernel
theorem dX10_run_64 : decode cX10_run 64 = .ok (.ifCond .ne 57, 3) := by decide +kernel
theorem dX10_run_67 : decode cX10_run 67 = .ok (.aload_n 0, 1) := by decide +kernel
theorem dX10_run_68 : decode cX10_run 68 = .ok (.iload_n 1, 1) := by decide +kernel
theorem dX10_run_69 : decode cX10_run 69 = .ok (.iload_n 2, 1) := by decide +kernel
theorem dX10_run_70 : decode cX10_run 70 = .ok (.invokevirtual 334, 3) := by decide +kernel
theorem dX10_run_73 : decode cX10_run 73 = .ok (.aload_n 0, 1) := by decide +kernel
theorem dX10_run_74 : decode cX10_run 74 = .ok (.getfield 145, 3) := by decide +kernel
theorem dX10_run_77 : decode cX10_run 77 = .ok (.bipush 6, 2) := by decide +kernel
theorem dX10_run_79 : decode cX10_run 79 = .ok (.iload_n 1, 1) := by decide +kernel
theorem dX10_run_80 : decode cX10_run 80 = .ok (.imul, 1) := by decide +kernel
theorem dX10_run_81 : decode cX10_run 81 = .ok (.iload_n 2, 1) := by decide +kernel
theorem dX10_run_82 : decode cX10_run 82 = .ok (.iadd, 1) := by decide +kernel
theorem dX10_run_83 : decode cX10_run 83 = .ok (.iaload, 1) := by decide +kernel
theorem dX10_run_84 : decode cX10_run 84 = .ok (.isub, 1) := by decide +kernel
theorem dX10_run_85 : decode cX10_run 85 = .ok (.istore_n 3, 1) := by decide +kernel
theorem dX10_run_86 : decode cX10_run 86 = .ok (.aload_n 0, 1) := by decide +kernel
theorem dX10_run_87 : decode cX10_run 87 = .ok (.getfield 145, 3) := by decide +kernel
theorem dX10_run_90 : decode cX10_run 90 = .ok (.bipush 6, 2) := by decide +kernel
theorem dX10_run_92 : decode cX10_run 92 = .ok (.iload_n 1, 1) := by decide +kernel
theorem dX10_run_93 : decode cX10_run 93 = .ok (.imul, 1) := by decide +kernel
theorem dX10_run_94 : decode cX10_run 94 = .ok (.iload_n 2, 1) := by decide +kernel
theorem dX10_run_95 : decode cX10_run 95 = .ok (.iadd, 1) := by decide +kernel
theorem dX10_run_96 : decode cX10_run 96 = .ok (.dup2, 1) := by decide +kernel
theorem dX10_run_97 : decode cX10_run 97 = .ok (.iaload, 1) := by decide +kernel
theorem dX10_run_98 : decode cX10_run 98 = .ok (.iload_n 3, 1) := by decide +kernel
theorem dX10_run_99 : decode cX10_run 99 = .ok (.iadd, 1) := by decide +kernel
theorem dX10_run_100 : decode cX10_run 100 = .ok (.iastore, 1) := by decide +kernel
theorem dX10_run_101 : decode cX10_run 101 = .ok (.aload_n 0, 1) := by decide +kernel
theorem dX10_run_102 : decode cX10_run 102 = .ok (.getfield 13, 3) := by decide +kernel
theorem dX10_run_105 : decode cX10_run 105 = .ok (.iload_n 2, 1) := by decide +kernel
theorem dX10_run_106 : decode cX10_run 106 = .ok (.dup2, 1) := by decide +kernel
theorem dX10_run_107 : decode cX10_run 107 = .ok (.iaload, 1) := by decide +kernel
theorem dX10_run_108 : decode cX10_run 108 = .ok (.iload_n 3, 1) := by decide +kernel
theorem dX10_run_109 : decode cX10_run 109 = .ok (.iadd, 1) := by decide +kernel
theorem dX10_run_110 : decode cX10_run 110 = .ok (.iastore, 1) := by decide +kernel
theorem dX10_run_111 : decode cX10_run 111 = .ok (.aload_n 0, 1) := by decide +kernel
theorem dX10_run_112 : decode cX10_run 112 = .ok (.dup, 1) := by decide +kernel
theorem dX10_run_113 : decode cX10_run 113 = .ok (.getfield 331, 3) := by decide +kernel
theorem dX10_run_116 : decode cX10_run 116 = .ok (.iload_n 3, 1) := by decide +kernel
theorem dX10_run_117 : decode cX10_run 117 = .ok (.isub, 1) := by decide +kernel
theorem dX10_run_118 : decode cX10_run 118 = .ok (.putfield 331, 3) := by decide +kernel
theorem dX10_run_121 : decode cX10_run 121 = .ok (.iinc 2 1, 3) := by decide +kernel
theorem dX10_run_124 : decode cX10_run 124 = .ok (.goto (-72), 3) := by decide +kernel
theorem dX10_run_127 : decode cX10_run 127 = .ok (.iconst 0, 1) := by decide +kernel
theorem dX10_run_128 : decode cX10_run 128 = .ok (.istore_n 2, 1) := by decide +kernel
theorem dX10_run_129 : decode cX10_run 129 = .ok (.aload_n 0, 1) := by decide +kernel
theorem dX10_run_130 : decode cX10_run 130 = .ok (.invokevirtual 337, 3) := by decide +kernel
theorem dX10_run_133 : decode cX10_run 133 = .ok (.istore_n 3, 1) := by decide +kernel
theorem dX10_run_134 : decode cX10_run 134 = .ok (.iload_n 3, 1) := by decide +kernel
theorem dX10_run_135 : decode cX10_run 135 = .ok (.iconst (-1), 1) := by decide +kernel
theorem dX10_run_136 : decode cX10_run 136 = .ok (.if_icmp .eq 19, 3) := by decide +kernel
theorem dX10_run_139 : decode cX10_run 139 = .ok (.aload_n 0, 1) := by decide +kernel
theorem dX10_run_140 : decode cX10_run 140 = .ok (.iload_n 3, 1) := by decide +kernel
theorem dX10_run_141 : decode cX10_run 141 = .ok (.invokevirtual 341, 3) := by decide +kernel
theorem dX10_run_144 : decode cX10_run 144 = .ok (.iinc 2 1, 3) := by decide +kernel
theorem dX10_run_147 : decode cX10_run 147 = .ok (.aload_n 0, 1) := by decide +kernel
theorem dX10_run_148 : decode cX10_run 148 = .ok (.invokevirtual 337, 3) := by decide +kernel
theorem dX10_run_151 : decode cX10_run 151 = .ok (.istore_n 3, 1) := by decide +kernel
theorem dX10_run_152 : decode cX10_run 152 = .ok (.goto (-18), 3) := by decide +kernel
theorem dX10_run_155 : decode cX10_run 155 = .ok (.iload_n 2, 1) := by decide +kernel
theorem dX10_run_156 : decode cX10_run 156 = .ok (.ireturn, 1) := by decide +kernel
theorem dX10_day_0 : decode cX10_day 0 = .ok (.aload_n 0, 1) := by decide +kernel
theorem dX10_day_1 : decode cX10_day 1 = .ok (.iconst 0, 1) := by decide +kernel
theorem dX10_day_2 : decode cX10_day 2 = .ok (.putfield 175, 3) := by decide +kernel
theorem dX10_day_5 : decode cX10_day 5 = .ok (.aload_n 0, 1) := by decide +kernel
theorem dX10_day_6 : decode cX10_day 6 = .ok (.getfield 183, 3) := by decide +kernel
theorem dX10_day_9 : decode cX10_day 9 = .ok (.ireturn, 1) := by decide +kernel
theorem dX10_phase_0 : decode cX10_phase 0 = .ok (.aload_n 0, 1) := by decide +kernel
theorem dX10_phase_1 : decode cX10_phase 1 = .ok (.iconst 0, 1) := by decide +kernel
theorem dX10_phase_2 : decode cX10_phase 2 = .ok (.putfield 175, 3) := by decide +kernel
theorem dX10_phase_5 : decode cX10_phase 5 = .ok (.aload_n 0, 1) := by decide +kernel
theorem dX10_phase_6 : decode cX10_phase 6 = .ok (.getfield 192, 3) := by decide +kernel
theorem dX10_phase_9 : decode cX10_phase 9 = .ok (.ireturn, 1) := by decide +kernel
theorem dX10_isThere_0 : decode cX10_isThere 0 = .ok (.aload_n 0, 1) := by decide +kernel
theorem dX10_isThere_1 : decode cX10_isThere 1 = .ok (.iload_n 1, 1) := by decide +kernel
theorem dX10_isThere_2 : decode cX10_isThere 2 = .ok (.ifCond .ne 7, 3) := by decide +kernel
theorem dX10_isThere_5 : decode cX10_isThere 5 = .ok (.iconst 1, 1) := by decide +kernel
theorem dX10_isThere_6 : decode cX10_isThere 6 = .ok (.goto 15, 3) := by decide +kernel
theorem dX10_isThere_9 : decode cX10_isThere 9 = .ok (.aload_n 0, 1) := by decide +kernel
theorem dX10_isThere_10 : decode cX10_isThere 10 = .ok (.getfield 192, 3) := by decide +kernel
theorem dX10_isThere_13 : decode cX10_isThere 13 = .ok (.ifCond .ne 7, 3) := by decide +kernel
theorem dX10_isThere_16 : decode cX10_isThere 16 = .ok (.iconst 2, 1) := by decide +kernel
theorem dX10_isThere_17 : decode cX10_isThere 17 = .ok (.goto 4, 3) := by decide +kernel
theorem dX10_isThere_20 : decode cX10_isThere 20 = .ok (.iconst 0, 1) := by decide +kernel
theorem dX10_isThere_21 : decode cX10_isThere 21 = .ok (.putfield 175, 3) := by decide +kernel
theorem dX10_isThere_24 : decode cX10_isThere 24 = .ok (.aload_n 0, 1) := by decide +kernel
theorem dX10_isThere_25 : decode cX10_isThere 25 = .ok (.getfield 175, 3) := by decide +kernel
theorem dX10_isThere_28 : decode cX10_isThere 28 = .ok (.ifCond .ne 7, 3) := by decide +kernel
theorem dX10_isThere_31 : decode cX10_isThere 31 = .ok (.iconst 1, 1) := by decide +kernel
theorem dX10_isThere_32 : decode cX10_isThere 32 = .ok (.goto 4, 3) := by decide +kernel
theorem dX10_isThere_35 : decode cX10_isThere 35 = .ok (.iconst 0, 1) := by decide +kernel
theorem dX10_isThere_36 : decode cX10_isThere 36 = .ok (.ireturn, 1) := by decide +kernel
set_option maxRecDepth 20000 in
theorem ggX10_price_X10_isZone : GoodIn wsX10_price wsX10_isZone := goodIn_r _ [6, 7, 8, 5, 9] (by decide +kernel) (by decide +kernel)
set_option maxRecDepth 20000 in
theorem gX10_price_X10_isZone : GoodIn wsX10_price (va_wsS RX10 195 yX10_isZone wsX10_isZone) := goodIn_app (goodIn_of _ (by decide +kernel)) ggX10_price_X10_isZone
set_option maxRecDepth 20000 in
theorem ggX10_price_X10_isHour : GoodIn wsX10_price wsX10_isHour := goodIn_r _ [12, 7, 8, 5, 9] (by decide +kernel) (by decide +kernel)
set_option maxRecDepth 20000 in
theorem gX10_price_X10_isHour : GoodIn wsX10_price (va_wsS RX10 198 yX10_isHour wsX10_isHour) := goodIn_app (goodIn_of _ (by decide +kernel)) ggX10_price_X10_isHour
set_option maxRecDepth 20000 in
theorem ggX10_price_X10_isThere : GoodIn wsX10_price wsX10_isThere := goodIn_r _ [16, 17, 18, 19, 20, 21, 22, 23, 24, 25, 26, 27, 28, 29, 30, 31, 32, 33, 34, 35, 36, 37, 38, 39, 40, 41, 42, 43, 44, 45, 46, 47, 48, 49, 50, 51, 52, 53, 54, 55, 56, 57, 58, 59, 60, 61, 62, 63, 64, 65, 66, 67, 68, 69, 70, 71, 72, 73, 74, 75, 76, 77, 78, 79, 80, 81, 82, 83, 84, 85, 86] (by decide +kernel) (by decide +kernel)
set_option maxRecDepth 20000 in
theorem gX10_price_X10_isThere : GoodIn wsX10_price (wsV RX10 344 RX10 yX10_isThere wsX10_isThere) := goodIn_app (goodIn_of _ (by decide +kernel)) ggX10_price_X10_isThere
theorem dX10_price_0 : decode cX10_price 0 = .ok (.aload_n 0, 1) := by decide +kernel
theorem dX10_price_1 : decode cX10_price 1 = .ok (.iload_n 1, 1) := by decide +kernel
theorem dX10_price_2 : decode cX10_price 2 = .ok (.invokestatic 195, 3) := by decide +kernel
theorem dX10_price_5 : decode cX10_price 5 = .ok (.ifCond .eq 14, 3) := by decide +kernel
theorem dX10_price_8 : decode cX10_price 8 = .ok (.iload_n 2, 1) := by decide +kernel
theorem dX10_price_9 : decode cX10_price 9 = .ok (.invokestatic 198, 3) := by decide +kernel
theorem dX10_price_12 : decode cX10_price 12 = .ok (.ifCond .eq 7, 3) := by decide +kernel
theorem dX10_price_15 : decode cX10_price 15 = .ok (.iconst 1, 1) := by decide +kernel
theorem dX10_price_16 : decode cX10_price 16 = .ok (.goto 4, 3) := by decide +kernel
theorem dX10_price_19 : decode cX10_price 19 = .ok (.iconst 0, 1) := by decide +kernel
theorem dX10_price_20 : decode cX10_price 20 = .ok (.invokevirtual 344, 3) := by decide +kernel
theorem dX10_price_23 : decode cX10_price 23 = .ok (.ifCond .eq 24, 3) := by decide +kernel
theorem dX10_price_26 : decode cX10_price 26 = .ok (.aload_n 0, 1) := by decide +kernel
theorem dX10_price_27 : decode cX10_price 27 = .ok (.getfield 130, 3) := by decide +kernel
theorem dX10_price_30 : decode cX10_price 30 = .ok (.bipush 12, 2) := by decide +kernel
theorem dX10_price_32 : decode cX10_price 32 = .ok (.aload_n 0, 1) := by decide +kernel
theorem dX10_price_33 : decode cX10_price 33 = .ok (.getfield 183, 3) := by decide +kernel
theorem dX10_price_36 : decode cX10_price 36 = .ok (.imul, 1) := by decide +kernel
theorem dX10_price_37 : decode cX10_price 37 = .ok (.iconst 4, 1) := by decide +kernel
theorem dX10_price_38 : decode cX10_price 38 = .ok (.iload_n 1, 1) := by decide +kernel
theorem dX10_price_39 : decode cX10_price 39 = .ok (.imul, 1) := by decide +kernel
theorem dX10_price_40 : decode cX10_price 40 = .ok (.iadd, 1) := by decide +kernel
theorem dX10_price_41 : decode cX10_price 41 = .ok (.iload_n 2, 1) := by decide +kernel
theorem dX10_price_42 : decode cX10_price 42 = .ok (.iadd, 1) := by decide +kernel
theorem dX10_price_43 : decode cX10_price 43 = .ok (.iaload, 1) := by decide +kernel
theorem dX10_price_44 : decode cX10_price 44 = .ok (.goto 4, 3) := by decide +kernel
theorem dX10_price_47 : decode cX10_price 47 = .ok (.iconst 0, 1) := by decide +kernel
theorem dX10_price_48 : decode cX10_price 48 = .ok (.ireturn, 1) := by decide +kernel
set_option maxRecDepth 20000 in
theorem ggX10_net_X10_isZone : GoodIn wsX10_net wsX10_isZone := goodIn_r _ [5, 6, 7, 4, 8] (by decide +kernel) (by decide +kernel)
set_option maxRecDepth 20000 in
theorem gX10_net_X10_isZone : GoodIn wsX10_net (va_wsS RX10 195 yX10_isZone wsX10_isZone) := goodIn_app (goodIn_of _ (by decide +kernel)) ggX10_net_X10_isZone
set_option maxRecDepth 20000 in
theorem ggX10_net_X10_isHour : GoodIn wsX10_net wsX10_isHour := goodIn_r _ [11, 6, 7, 4, 8] (by decide +kernel) (by decide +kernel)
set_option maxRecDepth 20000 in
theorem gX10_net_X10_isHour : GoodIn wsX10_net (va_wsS RX10 198 yX10_isHour wsX10_isHour) := goodIn_app (goodIn_of _ (by decide +kernel)) ggX10_net_X10_isHour
set_option maxRecDepth 20000 in
theorem ggX10_net_X10_isThere : GoodIn wsX10_net wsX10_isThere := goodIn_r _ [15, 16, 17, 18, 19, 20, 21, 22, 23, 24, 25, 26, 27, 28, 29, 30, 31, 32, 33, 34, 35, 36, 37, 38, 39, 40, 41, 42, 43, 44, 45, 46, 47, 48, 49, 50, 51, 52, 53, 54, 55, 56, 57, 58, 59, 60, 61, 62, 63, 64, 65, 66, 67, 68, 69, 70, 71, 72, 73, 74, 75, 76, 77, 78, 79, 80, 81, 82, 83, 84, 85] (by decide +kernel) (by decide +kernel)
set_option maxRecDepth 20000 in
theorem gX10_net_X10_isThere : GoodIn wsX10_net (wsV RX10 344 RX10 yX10_isThere wsX10_isThere) := goodIn_app (goodIn_of _ (by decide +kernel)) ggX10_net_X10_isThere
theorem dX10_net_0 : decode cX10_net 0 = .ok (.aload_n 0, 1) := by decide +kernel
theorem dX10_net_1 : decode cX10_net 1 = .ok (.iload_n 1, 1) := by decide +kernel
theorem dX10_net_2 : decode cX10_net 2 = .ok (.invokestatic 195, 3) := by decide +kernel
theorem dX10_net_5 : decode cX10_net 5 = .ok (.ifCond .eq 14, 3) := by decide +kernel
theorem dX10_net_8 : decode cX10_net 8 = .ok (.iload_n 2, 1) := by decide +kernel
theorem dX10_net_9 : decode cX10_net 9 = .ok (.invokestatic 198, 3) := by decide +kernel
theorem dX10_net_12 : decode cX10_net 12 = .ok (.ifCond .eq 7, 3) := by decide +kernel
theorem dX10_net_15 : decode cX10_net 15 = .ok (.iconst 1, 1) := by decide +kernel
theorem dX10_net_16 : decode cX10_net 16 = .ok (.goto 4, 3) := by decide +kernel
theorem dX10_net_19 : decode cX10_net 19 = .ok (.iconst 0, 1) := by decide +kernel
theorem dX10_net_20 : decode cX10_net 20 = .ok (.invokevirtual 344, 3) := by decide +kernel
theorem dX10_net_23 : decode cX10_net 23 = .ok (.ifCond .eq 16, 3) := by decide +kernel
theorem dX10_net_26 : decode cX10_net 26 = .ok (.aload_n 0, 1) := by decide +kernel
theorem dX10_net_27 : decode cX10_net 27 = .ok (.getfield 151, 3) := by decide +kernel
theorem dX10_net_30 : decode cX10_net 30 = .ok (.iconst 4, 1) := by decide +kernel
theorem dX10_net_31 : decode cX10_net 31 = .ok (.iload_n 1, 1) := by decide +kernel
theorem dX10_net_32 : decode cX10_net 32 = .ok (.imul, 1) := by decide +kernel
theorem dX10_net_33 : decode cX10_net 33 = .ok (.iload_n 2, 1) := by decide +kernel
theorem dX10_net_34 : decode cX10_net 34 = .ok (.iadd, 1) := by decide +kernel
theorem dX10_net_35 : decode cX10_net 35 = .ok (.iaload, 1) := by decide +kernel
theorem dX10_net_36 : decode cX10_net 36 = .ok (.goto 4, 3) := by decide +kernel
theorem dX10_net_39 : decode cX10_net 39 = .ok (.iconst 0, 1) := by decide +kernel
theorem dX10_net_40 : decode cX10_net 40 = .ok (.ireturn, 1) := by decide +kernel
set_option maxRecDepth 20000 in
theorem ggX10_flow_X10_in : GoodIn wsX10_flow wsX10_in := goodIn_r _ [5] (by decide +kernel) (by decide +kernel)
set_option maxRecDepth 20000 in
theorem gX10_flow_X10_in : GoodIn wsX10_flow (va_wsS RX10 179 yX10_in wsX10_in) := goodIn_app (goodIn_of _ (by decide +kernel)) ggX10_flow_X10_in
set_option maxRecDepth 20000 in
theorem ggX10_flow_X10_isHour : GoodIn wsX10_flow wsX10_isHour := goodIn_r _ [8, 2, 3, 4, 5] (by decide +kernel) (by decide +kernel)
set_option maxRecDepth 20000 in
theorem gX10_flow_X10_isHour : GoodIn wsX10_flow (va_wsS RX10 198 yX10_isHour wsX10_isHour) := goodIn_app (goodIn_of _ (by decide +kernel)) ggX10_flow_X10_isHour
set_option maxRecDepth 20000 in
theorem ggX10_flow_X10_isThere : GoodIn wsX10_flow wsX10_isThere := goodIn_r _ [12, 13, 14, 15, 16, 17, 18, 19, 20, 21, 22, 23, 24, 25, 26, 27, 28, 29, 30, 31, 32, 33, 34, 35, 36, 37, 38, 39, 40, 41, 42, 43, 44, 45, 46, 47, 48, 49, 50, 51, 52, 53, 54, 55, 56, 57, 58, 59, 60, 61, 62, 63, 64, 65, 66, 67, 68, 69, 70, 71, 72, 73, 74, 75, 76, 77, 78, 79, 80, 81, 82] (by decide +kernel) (by decide +kernel)
set_option maxRecDepth 20000 in
theorem gX10_flow_X10_isThere : GoodIn wsX10_flow (wsV RX10 344 RX10 yX10_isThere wsX10_isThere) := goodIn_app (goodIn_of _ (by decide +kernel)) ggX10_flow_X10_isThere
theorem dX10_flow_0 : decode cX10_flow 0 = .ok (.aload_n 0, 1) := by decide +kernel
theorem dX10_flow_1 : decode cX10_flow 1 = .ok (.iload_n 1, 1) := by decide +kernel
theorem dX10_flow_2 : decode cX10_flow 2 = .ok (.iconst 0, 1) := by decide +kernel
theorem dX10_flow_3 : decode cX10_flow 3 = .ok (.iconst 2, 1) := by decide +kernel
theorem dX10_flow_4 : decode cX10_flow 4 = .ok (.invokestatic 179, 3) := by decide +kernel
theorem dX10_flow_7 : decode cX10_flow 7 = .ok (.ifCond .eq 14, 3) := by decide +kernel
theorem dX10_flow_10 : decode cX10_flow 10 = .ok (.iload_n 2, 1) := by decide +kernel
theorem dX10_flow_11 : decode cX10_flow 11 = .ok (.invokestatic 198, 3) := by decide +kernel
theorem dX10_flow_14 : decode cX10_flow 14 = .ok (.ifCond .eq 7, 3) := by decide +kernel
theorem dX10_flow_17 : decode cX10_flow 17 = .ok (.iconst 1, 1) := by decide +kernel
theorem dX10_flow_18 : decode cX10_flow 18 = .ok (.goto 4, 3) := by decide +kernel
theorem dX10_flow_21 : decode cX10_flow 21 = .ok (.iconst 0, 1) := by decide +kernel
theorem dX10_flow_22 : decode cX10_flow 22 = .ok (.invokevirtual 344, 3) := by decide +kernel
theorem dX10_flow_25 : decode cX10_flow 25 = .ok (.ifCond .ne 5, 3) := by decide +kernel
theorem dX10_flow_28 : decode cX10_flow 28 = .ok (.iconst 0, 1) := by decide +kernel
theorem dX10_flow_29 : decode cX10_flow 29 = .ok (.ireturn, 1) := by decide +kernel
theorem dX10_flow_30 : decode cX10_flow 30 = .ok (.aload_n 0, 1) := by decide +kernel
theorem dX10_flow_31 : decode cX10_flow 31 = .ok (.getfield 151, 3) := by decide +kernel
theorem dX10_flow_34 : decode cX10_flow 34 = .ok (.iload_n 1, 1) := by decide +kernel
theorem dX10_flow_35 : decode cX10_flow 35 = .ok (.iconst 1, 1) := by decide +kernel
theorem dX10_flow_36 : decode cX10_flow 36 = .ok (.if_icmp .ne 7, 3) := by decide +kernel
theorem dX10_flow_39 : decode cX10_flow 39 = .ok (.iconst 4, 1) := by decide +kernel
theorem dX10_flow_40 : decode cX10_flow 40 = .ok (.goto 4, 3) := by decide +kernel
theorem dX10_flow_43 : decode cX10_flow 43 = .ok (.iconst 0, 1) := by decide +kernel
theorem dX10_flow_44 : decode cX10_flow 44 = .ok (.iload_n 2, 1) := by decide +kernel
theorem dX10_flow_45 : decode cX10_flow 45 = .ok (.iadd, 1) := by decide +kernel
theorem dX10_flow_46 : decode cX10_flow 46 = .ok (.iaload, 1) := by decide +kernel
theorem dX10_flow_47 : decode cX10_flow 47 = .ok (.aload_n 0, 1) := by decide +kernel
theorem dX10_flow_48 : decode cX10_flow 48 = .ok (.getfield 151, 3) := by decide +kernel
theorem dX10_flow_51 : decode cX10_flow 51 = .ok (.iload_n 1, 1) := by decide +kernel
theorem dX10_flow_52 : decode cX10_flow 52 = .ok (.ifCond .ne 7, 3) := by decide +kernel
theorem dX10_flow_55 : decode cX10_flow 55 = .ok (.iconst 4, 1) := by decide +kernel
theorem dX10_flow_56 : decode cX10_flow 56 = .ok (.goto 5, 3) := by decide +kernel
theorem dX10_flow_59 : decode cX10_flow 59 = .ok (.bipush 8, 2) := by decide +kernel
theorem dX10_flow_61 : decode cX10_flow 61 = .ok (.iload_n 2, 1) := by decide +kernel
theorem dX10_flow_62 : decode cX10_flow 62 = .ok (.iadd, 1) := by decide +kernel
theorem dX10_flow_63 : decode cX10_flow 63 = .ok (.iaload, 1) := by decide +kernel
theorem dX10_flow_64 : decode cX10_flow 64 = .ok (.isub, 1) := by decide +kernel
theorem dX10_flow_65 : decode cX10_flow 65 = .ok (.ireturn, 1) := by decide +kernel
set_option maxRecDepth 20000 in
theorem ggX10_taken_X10_in : GoodIn wsX10_taken wsX10_in := goodIn_r _ [6] (by decide +kernel) (by decide +kernel)
set_option maxRecDepth 20000 in
theorem gX10_taken_X10_in : GoodIn wsX10_taken (va_wsS RX10 179 yX10_in wsX10_in) := goodIn_app (goodIn_of _ (by decide +kernel)) ggX10_taken_X10_in
set_option maxRecDepth 20000 in
theorem ggX10_taken_X10_isThere : GoodIn wsX10_taken wsX10_isThere := goodIn_r _ [10, 11, 12, 13, 14, 15, 16, 17, 18, 19, 20, 21, 22, 23, 24, 25, 26, 27, 28, 29, 30, 31, 32, 33, 34, 35, 36, 37, 38, 39, 40, 41, 42, 43, 44, 45, 46, 47, 48, 49, 50, 51, 52, 53, 54, 55, 56, 57, 58, 59, 60, 61, 62, 63, 64, 65, 66, 67, 68, 69, 70, 71, 72, 73, 74, 75, 76, 77, 78, 79, 80] (by decide +kernel) (by decide +kernel)
set_option maxRecDepth 20000 in
theorem gX10_taken_X10_isThere : GoodIn wsX10_taken (wsV RX10 344 RX10 yX10_isThere wsX10_isThere) := goodIn_app (goodIn_of _ (by decide +kernel)) ggX10_taken_X10_isThere
theorem dX10_taken_0 : decode cX10_taken 0 = .ok (.aload_n 0, 1) := by decide +kernel
theorem dX10_taken_1 : decode cX10_taken 1 = .ok (.iload_n 1, 1) := by decide +kernel
theorem dX10_taken_2 : decode cX10_taken 2 = .ok (.iconst 0, 1) := by decide +kernel
theorem dX10_taken_3 : decode cX10_taken 3 = .ok (.aload_n 0, 1) := by decide +kernel
theorem dX10_taken_4 : decode cX10_taken 4 = .ok (.getfield 201, 3) := by decide +kernel
theorem dX10_taken_7 : decode cX10_taken 7 = .ok (.iconst 1, 1) := by decide +kernel
theorem dX10_taken_8 : decode cX10_taken 8 = .ok (.isub, 1) := by decide +kernel
theorem dX10_taken_9 : decode cX10_taken 9 = .ok (.invokestatic 179, 3) := by decide +kernel
theorem dX10_taken_12 : decode cX10_taken 12 = .ok (.invokevirtual 344, 3) := by decide +kernel
theorem dX10_taken_15 : decode cX10_taken 15 = .ok (.ifCond .eq 12, 3) := by decide +kernel
theorem dX10_taken_18 : decode cX10_taken 18 = .ok (.aload_n 0, 1) := by decide +kernel
theorem dX10_taken_19 : decode cX10_taken 19 = .ok (.getfield 40, 3) := by decide +kernel
theorem dX10_taken_22 : decode cX10_taken 22 = .ok (.iload_n 1, 1) := by decide +kernel
theorem dX10_taken_23 : decode cX10_taken 23 = .ok (.iaload, 1) := by decide +kernel
theorem dX10_taken_24 : decode cX10_taken 24 = .ok (.goto 4, 3) := by decide +kernel
theorem dX10_taken_27 : decode cX10_taken 27 = .ok (.iconst 0, 1) := by decide +kernel
theorem dX10_taken_28 : decode cX10_taken 28 = .ok (.ireturn, 1) := by decide +kernel
set_option maxRecDepth 20000 in
theorem ggX10_isTaken_X10_in : GoodIn wsX10_isTaken wsX10_in := goodIn_r _ [6] (by decide +kernel) (by decide +kernel)
set_option maxRecDepth 20000 in
theorem gX10_isTaken_X10_in : GoodIn wsX10_isTaken (va_wsS RX10 179 yX10_in wsX10_in) := goodIn_app (goodIn_of _ (by decide +kernel)) ggX10_isTaken_X10_in
set_option maxRecDepth 20000 in
theorem ggX10_isTaken_X10_isThere : GoodIn wsX10_isTaken wsX10_isThere := goodIn_r _ [10, 11, 12, 13, 14, 15, 16, 17, 18, 19, 20, 21, 22, 23, 24, 25, 26, 27, 28, 29, 30, 31, 32, 33, 34, 35, 36, 37, 38, 39, 40, 41, 42, 43, 44, 45, 46, 47, 48, 49, 50, 51, 52, 53, 54, 55, 56, 57, 58, 59, 60, 61, 62, 63, 64, 65, 66, 67, 68, 69, 70, 71, 72, 73, 74, 75, 76, 77, 78, 79, 80] (by decide +kernel) (by decide +kernel)
set_option maxRecDepth 20000 in
theorem gX10_isTaken_X10_isThere : GoodIn wsX10_isTaken (wsV RX10 344 RX10 yX10_isThere wsX10_isThere) := goodIn_app (goodIn_of _ (by decide +kernel)) ggX10_isTaken_X10_isThere
theorem dX10_isTaken_0 : decode cX10_isTaken 0 = .ok (.aload_n 0, 1) := by decide +kernel
theorem dX10_isTaken_1 : decode cX10_isTaken 1 = .ok (.iload_n 1, 1) := by decide +kernel
theorem dX10_isTaken_2 : decode cX10_isTaken 2 = .ok (.iconst 0, 1) := by decide +kernel
theorem dX10_isTaken_3 : decode cX10_isTaken 3 = .ok (.aload_n 0, 1) := by decide +kernel
theorem dX10_isTaken_4 : decode cX10_isTaken 4 = .ok (.getfield 204, 3) := by decide +kernel
theorem dX10_isTaken_7 : decode cX10_isTaken 7 = .ok (.iconst 1, 1) := by decide +kernel
theorem dX10_isTaken_8 : decode cX10_isTaken 8 = .ok (.isub, 1) := by decide +kernel
theorem dX10_isTaken_9 : decode cX10_isTaken 9 = .ok (.invokestatic 179, 3) := by decide +kernel
theorem dX10_isTaken_12 : decode cX10_isTaken 12 = .ok (.invokevirtual 344, 3) := by decide +kernel
theorem dX10_isTaken_15 : decode cX10_isTaken 15 = .ok (.ifCond .eq 19, 3) := by decide +kernel
theorem dX10_isTaken_18 : decode cX10_isTaken 18 = .ok (.aload_n 0, 1) := by decide +kernel
theorem dX10_isTaken_19 : decode cX10_isTaken 19 = .ok (.getfield 275, 3) := by decide +kernel
theorem dX10_isTaken_22 : decode cX10_isTaken 22 = .ok (.iload_n 1, 1) := by decide +kernel
theorem dX10_isTaken_23 : decode cX10_isTaken 23 = .ok (.ishr, 1) := by decide +kernel
theorem dX10_isTaken_24 : decode cX10_isTaken 24 = .ok (.iconst 1, 1) := by decide +kernel
theorem dX10_isTaken_25 : decode cX10_isTaken 25 = .ok (.iand, 1) := by decide +kernel
theorem dX10_isTaken_26 : decode cX10_isTaken 26 = .ok (.iconst 1, 1) := by decide +kernel
theorem dX10_isTaken_27 : decode cX10_isTaken 27 = .ok (.if_icmp .ne 7, 3) := by decide +kernel
theorem dX10_isTaken_30 : decode cX10_isTaken 30 = .ok (.iconst 1, 1) := by decide +kernel
theorem dX10_isTaken_31 : decode cX10_isTaken 31 = .ok (.goto 4, 3) := by decide +kernel
theorem dX10_isTaken_34 : decode cX10_isTaken 34 = .ok (.iconst 0, 1) := by decide +kernel
theorem dX10_isTaken_35 : decode cX10_isTaken 35 = .ok (.ireturn, 1) := by decide +kernel
set_option maxRecDepth 20000 in
theorem ggX10_gain_X10_in : GoodIn wsX10_gain wsX10_in := goodIn_r _ [7] (by decide +kernel) (by decide +kernel)
set_option maxRecDepth 20000 in
theorem gX10_gain_X10_in : GoodIn wsX10_gain (va_wsS RX10 179 yX10_in wsX10_in) := goodIn_app (goodIn_of _ (by decide +kernel)) ggX10_gain_X10_in
set_option maxRecDepth 20000 in
theorem ggX10_gain_X10_isThere : GoodIn wsX10_gain wsX10_isThere := goodIn_r _ [11, 12, 13, 30, 31, 32, 33, 34, 35, 36, 37, 38, 39, 40, 41, 42, 43, 44, 45, 46, 47, 48, 49, 50, 51, 52, 53, 54, 55, 56, 57, 58, 59, 60, 61, 62, 63, 64, 65, 66, 67, 68, 69, 70, 71, 72, 73, 74, 75, 76, 77, 78, 79, 80, 81, 82, 83, 84, 85, 86, 87, 88, 89, 90, 91, 92, 93, 94, 95, 96, 97] (by decide +kernel) (by decide +kernel)
set_option maxRecDepth 20000 in
theorem gX10_gain_X10_isThere : GoodIn wsX10_gain (wsV RX10 344 RX10 yX10_isThere wsX10_isThere) := goodIn_app (goodIn_of _ (by decide +kernel)) ggX10_gain_X10_isThere
set_option maxRecDepth 20000 in
theorem ggX10_gain_X10_gainOf : GoodIn wsX10_gain wsX10_gainOf := goodIn_r _ [17, 18, 19, 20, 21, 22, 6, 23, 24, 25, 26, 27, 28, 29, 30, 31, 32, 33, 34, 35, 36, 37, 38, 39, 40, 41, 42, 43, 44, 45, 46, 47, 48, 49, 50, 51, 52, 53, 54, 55, 56, 57, 58, 59, 60, 61, 62, 63, 64, 65, 66, 67, 68, 69, 70, 71, 72, 73, 74, 75, 76, 77, 78, 79, 80, 81, 82, 83, 84, 85, 86, 87, 88, 89, 90, 91, 92, 93, 94, 95, 96, 97] (by decide +kernel) (by decide +kernel)
set_option maxRecDepth 20000 in
theorem gX10_gain_X10_gainOf : GoodIn wsX10_gain (wsV RX10 261 RX10 yX10_gainOf wsX10_gainOf) := goodIn_app (goodIn_of _ (by decide +kernel)) ggX10_gain_X10_gainOf
theorem dX10_gain_0 : decode cX10_gain 0 = .ok (.aload_n 0, 1) := by decide +kernel
theorem dX10_gain_1 : decode cX10_gain 1 = .ok (.iload_n 1, 1) := by decide +kernel
theorem dX10_gain_2 : decode cX10_gain 2 = .ok (.iconst 0, 1) := by decide +kernel
theorem dX10_gain_3 : decode cX10_gain 3 = .ok (.aload_n 0, 1) := by decide +kernel
theorem dX10_gain_4 : decode cX10_gain 4 = .ok (.getfield 204, 3) := by decide +kernel
theorem dX10_gain_7 : decode cX10_gain 7 = .ok (.iconst 1, 1) := by decide +kernel
theorem dX10_gain_8 : decode cX10_gain 8 = .ok (.isub, 1) := by decide +kernel
theorem dX10_gain_9 : decode cX10_gain 9 = .ok (.invokestatic 179, 3) := by decide +kernel
theorem dX10_gain_12 : decode cX10_gain 12 = .ok (.invokevirtual 344, 3) := by decide +kernel
theorem dX10_gain_15 : decode cX10_gain 15 = .ok (.ifCond .eq 22, 3) := by decide +kernel
theorem dX10_gain_18 : decode cX10_gain 18 = .ok (.aload_n 0, 1) := by decide +kernel
theorem dX10_gain_19 : decode cX10_gain 19 = .ok (.iload_n 1, 1) := by decide +kernel
theorem dX10_gain_20 : decode cX10_gain 20 = .ok (.aload_n 0, 1) := by decide +kernel
theorem dX10_gain_21 : decode cX10_gain 21 = .ok (.getfield 130, 3) := by decide +kernel
theorem dX10_gain_24 : decode cX10_gain 24 = .ok (.bipush 12, 2) := by decide +kernel
theorem dX10_gain_26 : decode cX10_gain 26 = .ok (.aload_n 0, 1) := by decide +kernel
theorem dX10_gain_27 : decode cX10_gain 27 = .ok (.getfield 183, 3) := by decide +kernel
theorem dX10_gain_30 : decode cX10_gain 30 = .ok (.imul, 1) := by decide +kernel
theorem dX10_gain_31 : decode cX10_gain 31 = .ok (.invokevirtual 261, 3) := by decide +kernel
theorem dX10_gain_34 : decode cX10_gain 34 = .ok (.goto 4, 3) := by decide +kernel
theorem dX10_gain_37 : decode cX10_gain 37 = .ok (.iconst 0, 1) := by decide +kernel
theorem dX10_gain_38 : decode cX10_gain 38 = .ok (.ireturn, 1) := by decide +kernel
set_option maxRecDepth 20000 in
theorem ggX10_worthAnew_X10_worthOfBlocks : GoodIn wsX10_worthAnew wsX10_worthOfBlocks := goodIn_r _ [12, 13, 14, 15, 16, 17, 18, 19, 11, 20, 21, 22, 23, 24, 25, 26, 27, 28, 29, 30, 31, 32, 33, 34, 35, 36, 37, 38, 39, 40, 41, 42, 43, 44, 45, 46, 47, 48, 49, 50, 51, 52, 53, 54, 55, 56, 57, 58, 59, 60, 61, 62, 63, 64, 65, 66, 67, 68, 69, 70, 71, 72, 73, 74, 75, 76, 77, 78, 79, 80, 81, 82, 83, 84, 85, 86, 87, 88, 89] (by decide +kernel) (by decide +kernel)
set_option maxRecDepth 20000 in
theorem gX10_worthAnew_X10_worthOfBlocks : GoodIn wsX10_worthAnew (wsV RX10 255 RX10 yX10_worthOfBlocks wsX10_worthOfBlocks) := goodIn_app (goodIn_of _ (by decide +kernel)) ggX10_worthAnew_X10_worthOfBlocks
theorem dX10_worthAnew_0 : decode cX10_worthAnew 0 = .ok (.aload_n 0, 1) := by decide +kernel
theorem dX10_worthAnew_1 : decode cX10_worthAnew 1 = .ok (.aload_n 0, 1) := by decide +kernel
theorem dX10_worthAnew_2 : decode cX10_worthAnew 2 = .ok (.getfield 192, 3) := by decide +kernel
theorem dX10_worthAnew_5 : decode cX10_worthAnew 5 = .ok (.ifCond .ne 7, 3) := by decide +kernel
theorem dX10_worthAnew_8 : decode cX10_worthAnew 8 = .ok (.iconst 1, 1) := by decide +kernel
theorem dX10_worthAnew_9 : decode cX10_worthAnew 9 = .ok (.goto 4, 3) := by decide +kernel
theorem dX10_worthAnew_12 : decode cX10_worthAnew 12 = .ok (.iconst 0, 1) := by decide +kernel
theorem dX10_worthAnew_13 : decode cX10_worthAnew 13 = .ok (.putfield 175, 3) := by decide +kernel
theorem dX10_worthAnew_16 : decode cX10_worthAnew 16 = .ok (.aload_n 0, 1) := by decide +kernel
theorem dX10_worthAnew_17 : decode cX10_worthAnew 17 = .ok (.getfield 175, 3) := by decide +kernel
theorem dX10_worthAnew_20 : decode cX10_worthAnew 20 = .ok (.ifCond .ne 14, 3) := by decide +kernel
theorem dX10_worthAnew_23 : decode cX10_worthAnew 23 = .ok (.aload_n 0, 1) := by decide +kernel
theorem dX10_worthAnew_24 : decode cX10_worthAnew 24 = .ok (.aload_n 0, 1) := by decide +kernel
theorem dX10_worthAnew_25 : decode cX10_worthAnew 25 = .ok (.getfield 275, 3) := by decide +kernel
theorem dX10_worthAnew_28 : decode cX10_worthAnew 28 = .ok (.invokevirtual 255, 3) := by decide +kernel
theorem dX10_worthAnew_31 : decode cX10_worthAnew 31 = .ok (.goto 4, 3) := by decide +kernel
theorem dX10_worthAnew_34 : decode cX10_worthAnew 34 = .ok (.iconst 0, 1) := by decide +kernel
theorem dX10_worthAnew_35 : decode cX10_worthAnew 35 = .ok (.istore_n 1, 1) := by decide +kernel
theorem dX10_worthAnew_36 : decode cX10_worthAnew 36 = .ok (.iconst 0, 1) := by decide +kernel
theorem dX10_worthAnew_37 : decode cX10_worthAnew 37 = .ok (.istore_n 2, 1) := by decide +kernel
theorem dX10_worthAnew_38 : decode cX10_worthAnew 38 = .ok (.iload_n 2, 1) := by decide +kernel
theorem dX10_worthAnew_39 : decode cX10_worthAnew 39 = .ok (.aload_n 0, 1) := by decide +kernel
theorem dX10_worthAnew_40 : decode cX10_worthAnew 40 = .ok (.getfield 201, 3) := by decide +kernel
theorem dX10_worthAnew_43 : decode cX10_worthAnew 43 = .ok (.if_icmp .ge 52, 3) := by decide +kernel
theorem dX10_worthAnew_46 : decode cX10_worthAnew 46 = .ok (.aload_n 0, 1) := by decide +kernel
theorem dX10_worthAnew_47 : decode cX10_worthAnew 47 = .ok (.getfield 175, 3) := by decide +kernel
theorem dX10_worthAnew_50 : decode cX10_worthAnew 50 = .ok (.ifCond .ne 45, 3) := by decide +kernel
theorem dX10_worthAnew_53 : decode cX10_worthAnew 53 = .ok (.iload_n 1, 1) := by decide +kernel
theorem dX10_worthAnew_54 : decode cX10_worthAnew 54 = .ok (.aload_n 0, 1) := by decide +kernel
theorem dX10_worthAnew_55 : decode cX10_worthAnew 55 = .ok (.getfield 31, 3) := by decide +kernel
theorem dX10_worthAnew_58 : decode cX10_worthAnew 58 = .ok (.iload_n 2, 1) := by decide +kernel
theorem dX10_worthAnew_59 : decode cX10_worthAnew 59 = .ok (.iaload, 1) := by decide +kernel
theorem dX10_worthAnew_60 : decode cX10_worthAnew 60 = .ok (.iconst 1, 1) := by decide +kernel
theorem dX10_worthAnew_61 : decode cX10_worthAnew 61 = .ok (.if_icmp .ne 12, 3) := by decide +kernel
theorem dX10_worthAnew_64 : decode cX10_worthAnew 64 = .ok (.aload_n 0, 1) := by decide +kernel
theorem dX10_worthAnew_65 : decode cX10_worthAnew 65 = .ok (.getfield 40, 3) := by decide +kernel
theorem dX10_worthAnew_68 : decode cX10_worthAnew 68 = .ok (.iload_n 2, 1) := by decide +kernel
theorem dX10_worthAnew_69 : decode cX10_worthAnew 69 = .ok (.iaload, 1) := by decide +kernel
theorem dX10_worthAnew_70 : decode cX10_worthAnew 70 = .ok (.goto 10, 3) := by decide +kernel
theorem dX10_worthAnew_73 : decode cX10_worthAnew 73 = .ok (.aload_n 0, 1) := by decide +kernel
theorem dX10_worthAnew_74 : decode cX10_worthAnew 74 = .ok (.getfield 40, 3) := by decide +kernel
theorem dX10_worthAnew_77 : decode cX10_worthAnew 77 = .ok (.iload_n 2, 1) := by decide +kernel
theorem dX10_worthAnew_78 : decode cX10_worthAnew 78 = .ok (.iaload, 1) := by decide +kernel
theorem dX10_worthAnew_79 : decode cX10_worthAnew 79 = .ok (.ineg, 1) := by decide +kernel
theorem dX10_worthAnew_80 : decode cX10_worthAnew 80 = .ok (.aload_n 0, 1) := by decide +kernel
theorem dX10_worthAnew_81 : decode cX10_worthAnew 81 = .ok (.getfield 34, 3) := by decide +kernel
theorem dX10_worthAnew_84 : decode cX10_worthAnew 84 = .ok (.iload_n 2, 1) := by decide +kernel
theorem dX10_worthAnew_85 : decode cX10_worthAnew 85 = .ok (.iaload, 1) := by decide +kernel
theorem dX10_worthAnew_86 : decode cX10_worthAnew 86 = .ok (.imul, 1) := by decide +kernel
theorem dX10_worthAnew_87 : decode cX10_worthAnew 87 = .ok (.iadd, 1) := by decide +kernel
theorem dX10_worthAnew_88 : decode cX10_worthAnew 88 = .ok (.istore_n 1, 1) := by decide +kernel
theorem dX10_worthAnew_89 : decode cX10_worthAnew 89 = .ok (.iinc 2 1, 3) := by decide +kernel
theorem dX10_worthAnew_92 : decode cX10_worthAnew 92 = .ok (.goto (-54), 3) := by decide +kernel
theorem dX10_worthAnew_95 : decode cX10_worthAnew 95 = .ok (.iload_n 1, 1) := by decide +kernel
theorem dX10_worthAnew_96 : decode cX10_worthAnew 96 = .ok (.ireturn, 1) := by decide +kernel
set_option maxRecDepth 20000 in
theorem ggX10_given_X10_in : GoodIn wsX10_given wsX10_in := goodIn_r _ [6] (by decide +kernel) (by decide +kernel)
set_option maxRecDepth 20000 in
theorem gX10_given_X10_in : GoodIn wsX10_given (va_wsS RX10 179 yX10_in wsX10_in) := goodIn_app (goodIn_of _ (by decide +kernel)) ggX10_given_X10_in
set_option maxRecDepth 20000 in
theorem ggX10_given_X10_isThere : GoodIn wsX10_given wsX10_isThere := goodIn_r _ [10, 11, 12, 13, 14, 15, 16, 17, 18, 19, 20, 21, 22, 23, 24, 25, 26, 27, 28, 29, 30, 31, 32, 33, 34, 35, 36, 37, 38, 39, 40, 41, 42, 43, 44, 45, 46, 47, 48, 49, 50, 51, 52, 53, 54, 55, 56, 57, 58, 59, 60, 61, 62, 63, 64, 65, 66, 67, 68, 69, 70, 71, 72, 73, 74, 75, 76, 77, 78, 79, 80] (by decide +kernel) (by decide +kernel)
set_option maxRecDepth 20000 in
theorem gX10_given_X10_isThere : GoodIn wsX10_given (wsV RX10 344 RX10 yX10_isThere wsX10_isThere) := goodIn_app (goodIn_of _ (by decide +kernel)) ggX10_given_X10_isThere
theorem dX10_given_0 : decode cX10_given 0 = .ok (.aload_n 0, 1) := by decide +kernel
theorem dX10_given_1 : decode cX10_given 1 = .ok (.iload_n 1, 1) := by decide +kernel
theorem dX10_given_2 : decode cX10_given 2 = .ok (.iconst 0, 1) := by decide +kernel
theorem dX10_given_3 : decode cX10_given 3 = .ok (.aload_n 0, 1) := by decide +kernel
theorem dX10_given_4 : decode cX10_given 4 = .ok (.getfield 207, 3) := by decide +kernel
theorem dX10_given_7 : decode cX10_given 7 = .ok (.iconst 1, 1) := by decide +kernel
theorem dX10_given_8 : decode cX10_given 8 = .ok (.isub, 1) := by decide +kernel
theorem dX10_given_9 : decode cX10_given 9 = .ok (.invokestatic 179, 3) := by decide +kernel
theorem dX10_given_12 : decode cX10_given 12 = .ok (.invokevirtual 344, 3) := by decide +kernel
theorem dX10_given_15 : decode cX10_given 15 = .ok (.ifCond .eq 12, 3) := by decide +kernel
theorem dX10_given_18 : decode cX10_given 18 = .ok (.aload_n 0, 1) := by decide +kernel
theorem dX10_given_19 : decode cX10_given 19 = .ok (.getfield 85, 3) := by decide +kernel
theorem dX10_given_22 : decode cX10_given 22 = .ok (.iload_n 1, 1) := by decide +kernel
theorem dX10_given_23 : decode cX10_given 23 = .ok (.iaload, 1) := by decide +kernel
theorem dX10_given_24 : decode cX10_given 24 = .ok (.goto 4, 3) := by decide +kernel
theorem dX10_given_27 : decode cX10_given 27 = .ok (.iconst 0, 1) := by decide +kernel
theorem dX10_given_28 : decode cX10_given 28 = .ok (.ireturn, 1) := by decide +kernel
set_option maxRecDepth 20000 in
theorem ggX10_left_X10_in : GoodIn wsX10_left wsX10_in := goodIn_r _ [7] (by decide +kernel) (by decide +kernel)
set_option maxRecDepth 20000 in
theorem gX10_left_X10_in : GoodIn wsX10_left (va_wsS RX10 179 yX10_in wsX10_in) := goodIn_app (goodIn_of _ (by decide +kernel)) ggX10_left_X10_in
theorem dX10_left_0 : decode cX10_left 0 = .ok (.aload_n 0, 1) := by decide +kernel
theorem dX10_left_1 : decode cX10_left 1 = .ok (.iload_n 1, 1) := by decide +kernel
theorem dX10_left_2 : decode cX10_left 2 = .ok (.iconst 0, 1) := by decide +kernel
theorem dX10_left_3 : decode cX10_left 3 = .ok (.aload_n 0, 1) := by decide +kernel
theorem dX10_left_4 : decode cX10_left 4 = .ok (.getfield 298, 3) := by decide +kernel
theorem dX10_left_7 : decode cX10_left 7 = .ok (.iconst 1, 1) := by decide +kernel
theorem dX10_left_8 : decode cX10_left 8 = .ok (.isub, 1) := by decide +kernel
theorem dX10_left_9 : decode cX10_left 9 = .ok (.invokestatic 179, 3) := by decide +kernel
theorem dX10_left_12 : decode cX10_left 12 = .ok (.ifCond .eq 7, 3) := by decide +kernel
theorem dX10_left_15 : decode cX10_left 15 = .ok (.iconst 0, 1) := by decide +kernel
theorem dX10_left_16 : decode cX10_left 16 = .ok (.goto 4, 3) := by decide +kernel
theorem dX10_left_19 : decode cX10_left 19 = .ok (.iconst 1, 1) := by decide +kernel
theorem dX10_left_20 : decode cX10_left 20 = .ok (.putfield 175, 3) := by decide +kernel
theorem dX10_left_23 : decode cX10_left 23 = .ok (.aload_n 0, 1) := by decide +kernel
theorem dX10_left_24 : decode cX10_left 24 = .ok (.getfield 175, 3) := by decide +kernel
theorem dX10_left_27 : decode cX10_left 27 = .ok (.ifCond .ne 12, 3) := by decide +kernel
theorem dX10_left_30 : decode cX10_left 30 = .ok (.aload_n 0, 1) := by decide +kernel
theorem dX10_left_31 : decode cX10_left 31 = .ok (.getfield 103, 3) := by decide +kernel
theorem dX10_left_34 : decode cX10_left 34 = .ok (.iload_n 1, 1) := by decide +kernel
theorem dX10_left_35 : decode cX10_left 35 = .ok (.iaload, 1) := by decide +kernel
theorem dX10_left_36 : decode cX10_left 36 = .ok (.goto 4, 3) := by decide +kernel
theorem dX10_left_39 : decode cX10_left 39 = .ok (.iconst 0, 1) := by decide +kernel
theorem dX10_left_40 : decode cX10_left 40 = .ok (.ireturn, 1) := by decide +kernel
set_option maxRecDepth 20000 in
theorem ggX10_plan_X10_in : GoodIn wsX10_plan wsX10_in := goodIn_r _ [7] (by decide +kernel) (by decide +kernel)
set_option maxRecDepth 20000 in
theorem gX10_plan_X10_in : GoodIn wsX10_plan (va_wsS RX10 179 yX10_in wsX10_in) := goodIn_app (goodIn_of _ (by decide +kernel)) ggX10_plan_X10_in
set_option maxRecDepth 20000 in
theorem ggX10_plan_X10_isFirm : GoodIn wsX10_plan wsX10_isFirm := goodIn_r _ [10, 4, 5, 6, 7] (by decide +kernel) (by decide +kernel)
set_option maxRecDepth 20000 in
theorem gX10_plan_X10_isFirm : GoodIn wsX10_plan (va_wsS RX10 186 yX10_isFirm wsX10_isFirm) := goodIn_app (goodIn_of _ (by decide +kernel)) ggX10_plan_X10_isFirm
set_option maxRecDepth 20000 in
theorem ggX10_plan_X10_isZone : GoodIn wsX10_plan wsX10_isZone := goodIn_r _ [13, 4, 5, 6, 7] (by decide +kernel) (by decide +kernel)
set_option maxRecDepth 20000 in
theorem gX10_plan_X10_isZone : GoodIn wsX10_plan (va_wsS RX10 195 yX10_isZone wsX10_isZone) := goodIn_app (goodIn_of _ (by decide +kernel)) ggX10_plan_X10_isZone
set_option maxRecDepth 20000 in
theorem ggX10_plan_X10_isHour : GoodIn wsX10_plan wsX10_isHour := goodIn_r _ [16, 4, 5, 6, 7] (by decide +kernel) (by decide +kernel)
set_option maxRecDepth 20000 in
theorem gX10_plan_X10_isHour : GoodIn wsX10_plan (va_wsS RX10 198 yX10_isHour wsX10_isHour) := goodIn_app (goodIn_of _ (by decide +kernel)) ggX10_plan_X10_isHour
set_option maxRecDepth 20000 in
theorem ggX10_plan_X10_placeOf : GoodIn wsX10_plan wsX10_placeOf := goodIn_r _ [19] (by decide +kernel) (by decide +kernel)
set_option maxRecDepth 20000 in
theorem gX10_plan_X10_placeOf : GoodIn wsX10_plan (va_wsS RX10 307 yX10_placeOf wsX10_placeOf) := goodIn_app (goodIn_of _ (by decide +kernel)) ggX10_plan_X10_placeOf
theorem dX10_plan_0 : decode cX10_plan 0 = .ok (.aload_n 0, 1) := by decide +kernel
theorem dX10_plan_1 : decode cX10_plan 1 = .ok (.iload_n 1, 1) := by decide +kernel
theorem dX10_plan_2 : decode cX10_plan 2 = .ok (.iconst 0, 1) := by decide +kernel
theorem dX10_plan_3 : decode cX10_plan 3 = .ok (.aload_n 0, 1) := by decide +kernel
theorem dX10_plan_4 : decode cX10_plan 4 = .ok (.getfield 183, 3) := by decide +kernel
theorem dX10_plan_7 : decode cX10_plan 7 = .ok (.invokestatic 179, 3) := by decide +kernel
theorem dX10_plan_10 : decode cX10_plan 10 = .ok (.ifCond .eq 25, 3) := by decide +kernel
theorem dX10_plan_13 : decode cX10_plan 13 = .ok (.iload_n 2, 1) := by decide +kernel
theorem dX10_plan_14 : decode cX10_plan 14 = .ok (.invokestatic 186, 3) := by decide +kernel
theorem dX10_plan_17 : decode cX10_plan 17 = .ok (.ifCond .eq 18, 3) := by decide +kernel
theorem dX10_plan_20 : decode cX10_plan 20 = .ok (.iload_n 3, 1) := by decide +kernel
theorem dX10_plan_21 : decode cX10_plan 21 = .ok (.invokestatic 195, 3) := by decide +kernel
theorem dX10_plan_24 : decode cX10_plan 24 = .ok (.ifCond .eq 11, 3) := by decide +kernel
theorem dX10_plan_27 : decode cX10_plan 27 = .ok (.iload 4, 2) := by decide +kernel
theorem dX10_plan_29 : decode cX10_plan 29 = .ok (.invokestatic 198, 3) := by decide +kernel
theorem dX10_plan_32 : decode cX10_plan 32 = .ok (.ifCond .ne 7, 3) := by decide +kernel
theorem dX10_plan_35 : decode cX10_plan 35 = .ok (.iconst 1, 1) := by decide +kernel
theorem dX10_plan_36 : decode cX10_plan 36 = .ok (.goto 4, 3) := by decide +kernel
theorem dX10_plan_39 : decode cX10_plan 39 = .ok (.iconst 0, 1) := by decide +kernel
theorem dX10_plan_40 : decode cX10_plan 40 = .ok (.putfield 175, 3) := by decide +kernel
theorem dX10_plan_43 : decode cX10_plan 43 = .ok (.aload_n 0, 1) := by decide +kernel
theorem dX10_plan_44 : decode cX10_plan 44 = .ok (.getfield 175, 3) := by decide +kernel
theorem dX10_plan_47 : decode cX10_plan 47 = .ok (.ifCond .ne 19, 3) := by decide +kernel
theorem dX10_plan_50 : decode cX10_plan 50 = .ok (.aload_n 0, 1) := by decide +kernel
theorem dX10_plan_51 : decode cX10_plan 51 = .ok (.getfield 133, 3) := by decide +kernel
theorem dX10_plan_54 : decode cX10_plan 54 = .ok (.iload_n 1, 1) := by decide +kernel
theorem dX10_plan_55 : decode cX10_plan 55 = .ok (.iload_n 2, 1) := by decide +kernel
theorem dX10_plan_56 : decode cX10_plan 56 = .ok (.iload_n 3, 1) := by decide +kernel
theorem dX10_plan_57 : decode cX10_plan 57 = .ok (.iload 4, 2) := by decide +kernel
theorem dX10_plan_59 : decode cX10_plan 59 = .ok (.invokestatic 307, 3) := by decide +kernel
theorem dX10_plan_62 : decode cX10_plan 62 = .ok (.iaload, 1) := by decide +kernel
theorem dX10_plan_63 : decode cX10_plan 63 = .ok (.goto 4, 3) := by decide +kernel
theorem dX10_plan_66 : decode cX10_plan 66 = .ok (.iconst 0, 1) := by decide +kernel
theorem dX10_plan_67 : decode cX10_plan 67 = .ok (.ireturn, 1) := by decide +kernel
set_option maxRecDepth 20000 in
theorem ggX10_gap_X10_isClosed : GoodIn wsX10_gap wsX10_isClosed := goodIn_r _ [6, 7, 8, 9, 5, 10, 28, 29, 30, 31, 32, 33, 34, 35, 36, 37, 38, 39, 40, 41, 42, 43, 44, 45, 46, 47, 48, 49, 50, 51, 52, 53, 54, 55, 56, 57, 58, 59, 60, 61, 62, 63, 64, 65, 66, 67, 68, 69, 70, 71, 72, 73, 74, 75, 76, 77, 78, 79, 80, 81, 82, 83, 84, 85, 86, 87, 88, 89, 90, 91, 92, 93, 94, 95] (by decide +kernel) (by decide +kernel)
set_option maxRecDepth 20000 in
theorem gX10_gap_X10_isClosed : GoodIn wsX10_gap (wsV RX10 310 RX10 yX10_isClosed wsX10_isClosed) := goodIn_app (goodIn_of _ (by decide +kernel)) ggX10_gap_X10_isClosed
set_option maxRecDepth 20000 in
theorem ggX10_gap_X10_isHour : GoodIn wsX10_gap wsX10_isHour := goodIn_r _ [13, 8, 9, 5, 10] (by decide +kernel) (by decide +kernel)
set_option maxRecDepth 20000 in
theorem gX10_gap_X10_isHour : GoodIn wsX10_gap (va_wsS RX10 198 yX10_isHour wsX10_isHour) := goodIn_app (goodIn_of _ (by decide +kernel)) ggX10_gap_X10_isHour
set_option maxRecDepth 20000 in
theorem ggX10_gap_X10_gapIn : GoodIn wsX10_gap wsX10_gapIn := goodIn_r _ [17, 18, 19, 20, 5, 21, 22, 23, 24, 25, 26, 27, 28, 29, 30, 31, 32, 33, 34, 35, 36, 37, 38, 39, 40, 41, 42, 43, 44, 45, 46, 47, 48, 49, 50, 51, 52, 53, 54, 55, 56, 57, 58, 59, 60, 61, 62, 63, 64, 65, 66, 67, 68, 69, 70, 71, 72, 73, 74, 75, 76, 77, 78, 79, 80, 81, 82, 83, 84, 85, 86, 87, 88, 89, 90, 91, 92, 93, 94, 95] (by decide +kernel) (by decide +kernel)
set_option maxRecDepth 20000 in
theorem gX10_gap_X10_gapIn : GoodIn wsX10_gap (wsV RX10 316 RX10 yX10_gapIn wsX10_gapIn) := goodIn_app (goodIn_of _ (by decide +kernel)) ggX10_gap_X10_gapIn
theorem dX10_gap_0 : decode cX10_gap 0 = .ok (.aload_n 0, 1) := by decide +kernel
theorem dX10_gap_1 : decode cX10_gap 1 = .ok (.aload_n 0, 1) := by decide +kernel
theorem dX10_gap_2 : decode cX10_gap 2 = .ok (.iload_n 1, 1) := by decide +kernel
theorem dX10_gap_3 : decode cX10_gap 3 = .ok (.invokevirtual 310, 3) := by decide +kernel
theorem dX10_gap_6 : decode cX10_gap 6 = .ok (.ifCond .eq 14, 3) := by decide +kernel
theorem dX10_gap_9 : decode cX10_gap 9 = .ok (.iload_n 2, 1) := by decide +kernel
theorem dX10_gap_10 : decode cX10_gap 10 = .ok (.invokestatic 198, 3) := by decide +kernel
theorem dX10_gap_13 : decode cX10_gap 13 = .ok (.ifCond .eq 7, 3) := by decide +kernel
theorem dX10_gap_16 : decode cX10_gap 16 = .ok (.iconst 0, 1) := by decide +kernel
theorem dX10_gap_17 : decode cX10_gap 17 = .ok (.goto 4, 3) := by decide +kernel
theorem dX10_gap_20 : decode cX10_gap 20 = .ok (.iconst 1, 1) := by decide +kernel
theorem dX10_gap_21 : decode cX10_gap 21 = .ok (.putfield 175, 3) := by decide +kernel
theorem dX10_gap_24 : decode cX10_gap 24 = .ok (.aload_n 0, 1) := by decide +kernel
theorem dX10_gap_25 : decode cX10_gap 25 = .ok (.getfield 175, 3) := by decide +kernel
theorem dX10_gap_28 : decode cX10_gap 28 = .ok (.ifCond .ne 12, 3) := by decide +kernel
theorem dX10_gap_31 : decode cX10_gap 31 = .ok (.aload_n 0, 1) := by decide +kernel
theorem dX10_gap_32 : decode cX10_gap 32 = .ok (.iload_n 1, 1) := by decide +kernel
theorem dX10_gap_33 : decode cX10_gap 33 = .ok (.iload_n 2, 1) := by decide +kernel
theorem dX10_gap_34 : decode cX10_gap 34 = .ok (.invokevirtual 316, 3) := by decide +kernel
theorem dX10_gap_37 : decode cX10_gap 37 = .ok (.goto 4, 3) := by decide +kernel
theorem dX10_gap_40 : decode cX10_gap 40 = .ok (.iconst 0, 1) := by decide +kernel
theorem dX10_gap_41 : decode cX10_gap 41 = .ok (.ireturn, 1) := by decide +kernel
set_option maxRecDepth 20000 in
theorem ggX10_gapPrice_X10_isClosed : GoodIn wsX10_gapPrice wsX10_isClosed := goodIn_r _ [6, 7, 8, 9, 5, 10, 48, 49, 50, 51, 52, 53, 54, 55, 56, 57, 58, 59, 60, 61, 62, 63, 64, 65, 66, 67, 68, 69, 70, 71, 72, 73, 74, 75, 76, 77, 78, 79, 80, 81, 82, 83, 84, 85, 86, 87, 88, 89, 90, 91, 92, 93, 94, 95, 96, 97, 98, 99, 100, 101, 102, 103, 104, 105, 106, 107, 108, 109, 110, 111, 112, 113, 114, 115] (by decide +kernel) (by decide +kernel)
set_option maxRecDepth 20000 in
theorem gX10_gapPrice_X10_isClosed : GoodIn wsX10_gapPrice (wsV RX10 310 RX10 yX10_isClosed wsX10_isClosed) := goodIn_app (goodIn_of _ (by decide +kernel)) ggX10_gapPrice_X10_isClosed
set_option maxRecDepth 20000 in
theorem ggX10_gapPrice_X10_isHour : GoodIn wsX10_gapPrice wsX10_isHour := goodIn_r _ [13, 8, 9, 5, 10] (by decide +kernel) (by decide +kernel)
set_option maxRecDepth 20000 in
theorem gX10_gapPrice_X10_isHour : GoodIn wsX10_gapPrice (va_wsS RX10 198 yX10_isHour wsX10_isHour) := goodIn_app (goodIn_of _ (by decide +kernel)) ggX10_gapPrice_X10_isHour
set_option maxRecDepth 20000 in
theorem ggX10_gapPrice_X10_helps : GoodIn wsX10_gapPrice wsX10_helps := goodIn_r _ [17, 18, 19, 20, 21, 22, 23, 24, 25, 26, 27, 5, 28, 29, 30, 31, 32, 33, 34, 35, 36, 37, 38, 39, 40, 41, 42, 43, 44, 45, 46, 47, 48, 49, 50, 51, 52, 53, 54, 55, 56, 57, 58, 59, 60, 61, 62, 63, 64, 65, 66, 67, 68, 69, 70, 71, 72, 73, 74, 75, 76, 77, 78, 79, 80, 81, 82, 83, 84, 85, 86, 87, 88, 89, 90, 91, 92, 93, 94, 95, 96, 97, 98, 99, 100, 101, 102, 103, 104, 105, 106, 107, 108, 109, 110, 111, 112, 113, 114, 115] (by decide +kernel) (by decide +kernel)
set_option maxRecDepth 20000 in
theorem gX10_gapPrice_X10_helps : GoodIn wsX10_gapPrice (wsV RX10 325 RX10 yX10_helps wsX10_helps) := goodIn_app (goodIn_of _ (by decide +kernel)) ggX10_gapPrice_X10_helps
theorem dX10_gapPrice_0 : decode cX10_gapPrice 0 = .ok (.aload_n 0, 1) := by decide +kernel
theorem dX10_gapPrice_1 : decode cX10_gapPrice 1 = .ok (.aload_n 0, 1) := by decide +kernel
theorem dX10_gapPrice_2 : decode cX10_gapPrice 2 = .ok (.iload_n 1, 1) := by decide +kernel
theorem dX10_gapPrice_3 : decode cX10_gapPrice 3 = .ok (.invokevirtual 310, 3) := by decide +kernel
theorem dX10_gapPrice_6 : decode cX10_gapPrice 6 = .ok (.ifCond .eq 14, 3) := by decide +kernel
theorem dX10_gapPrice_9 : decode cX10_gapPrice 9 = .ok (.iload_n 2, 1) := by decide +kernel
theorem dX10_gapPrice_10 : decode cX10_gapPrice 10 = .ok (.invokestatic 198, 3) := by decide +kernel
theorem dX10_gapPrice_13 : decode cX10_gapPrice 13 = .ok (.ifCond .eq 7, 3) := by decide +kernel
theorem dX10_gapPrice_16 : decode cX10_gapPrice 16 = .ok (.iconst 0, 1) := by decide +kernel
theorem dX10_gapPrice_17 : decode cX10_gapPrice 17 = .ok (.goto 4, 3) := by decide +kernel
theorem dX10_gapPrice_20 : decode cX10_gapPrice 20 = .ok (.iconst 1, 1) := by decide +kernel
theorem dX10_gapPrice_21 : decode cX10_gapPrice 21 = .ok (.putfield 175, 3) := by decide +kernel
theorem dX10_gapPrice_24 : decode cX10_gapPrice 24 = .ok (.aload_n 0, 1) := by decide +kernel
theorem dX10_gapPrice_25 : decode cX10_gapPrice 25 = .ok (.getfield 175, 3) := by decide +kernel
theorem dX10_gapPrice_28 : decode cX10_gapPrice 28 = .ok (.ifCond .ne 12, 3) := by decide +kernel
theorem dX10_gapPrice_31 : decode cX10_gapPrice 31 = .ok (.aload_n 0, 1) := by decide +kernel
theorem dX10_gapPrice_32 : decode cX10_gapPrice 32 = .ok (.iload_n 1, 1) := by decide +kernel
theorem dX10_gapPrice_33 : decode cX10_gapPrice 33 = .ok (.iload_n 2, 1) := by decide +kernel
theorem dX10_gapPrice_34 : decode cX10_gapPrice 34 = .ok (.invokevirtual 325, 3) := by decide +kernel
theorem dX10_gapPrice_37 : decode cX10_gapPrice 37 = .ok (.goto 4, 3) := by decide +kernel
theorem dX10_gapPrice_40 : decode cX10_gapPrice 40 = .ok (.iconst 0, 1) := by decide +kernel
theorem dX10_gapPrice_41 : decode cX10_gapPrice 41 = .ok (.ireturn, 1) := by decide +kernel
set_option maxRecDepth 20000 in
theorem ggX10_isBill_X10_isClosed : GoodIn wsX10_isBill wsX10_isClosed := goodIn_r _ [6, 7, 8, 9, 5, 10, 14, 15, 16, 17, 18, 19, 20, 21, 22, 23, 24, 25, 26, 27, 28, 29, 30, 31, 32, 33, 34, 35, 36, 37, 38, 39, 40, 41, 42, 43, 44, 45, 46, 47, 48, 49, 50, 51, 52, 53, 54, 55, 56, 57, 58, 59, 60, 61, 62, 63, 64, 65, 66, 67, 68, 69, 70, 71, 72, 73, 74, 75, 76, 77, 78, 79, 80, 81] (by decide +kernel) (by decide +kernel)
set_option maxRecDepth 20000 in
theorem gX10_isBill_X10_isClosed : GoodIn wsX10_isBill (wsV RX10 310 RX10 yX10_isClosed wsX10_isClosed) := goodIn_app (goodIn_of _ (by decide +kernel)) ggX10_isBill_X10_isClosed
set_option maxRecDepth 20000 in
theorem ggX10_isBill_X10_isFirm : GoodIn wsX10_isBill wsX10_isFirm := goodIn_r _ [13, 8, 9, 5, 10] (by decide +kernel) (by decide +kernel)
set_option maxRecDepth 20000 in
theorem gX10_isBill_X10_isFirm : GoodIn wsX10_isBill (va_wsS RX10 186 yX10_isFirm wsX10_isFirm) := goodIn_app (goodIn_of _ (by decide +kernel)) ggX10_isBill_X10_isFirm
theorem dX10_isBill_0 : decode cX10_isBill 0 = .ok (.aload_n 0, 1) := by decide +kernel
theorem dX10_isBill_1 : decode cX10_isBill 1 = .ok (.aload_n 0, 1) := by decide +kernel
theorem dX10_isBill_2 : decode cX10_isBill 2 = .ok (.iload_n 1, 1) := by decide +kernel
theorem dX10_isBill_3 : decode cX10_isBill 3 = .ok (.invokevirtual 310, 3) := by decide +kernel
theorem dX10_isBill_6 : decode cX10_isBill 6 = .ok (.ifCond .eq 14, 3) := by decide +kernel
theorem dX10_isBill_9 : decode cX10_isBill 9 = .ok (.iload_n 2, 1) := by decide +kernel
theorem dX10_isBill_10 : decode cX10_isBill 10 = .ok (.invokestatic 186, 3) := by decide +kernel
theorem dX10_isBill_13 : decode cX10_isBill 13 = .ok (.ifCond .eq 7, 3) := by decide +kernel
theorem dX10_isBill_16 : decode cX10_isBill 16 = .ok (.iconst 0, 1) := by decide +kernel
theorem dX10_isBill_17 : decode cX10_isBill 17 = .ok (.goto 4, 3) := by decide +kernel
theorem dX10_isBill_20 : decode cX10_isBill 20 = .ok (.iconst 1, 1) := by decide +kernel
theorem dX10_isBill_21 : decode cX10_isBill 21 = .ok (.putfield 175, 3) := by decide +kernel
theorem dX10_isBill_24 : decode cX10_isBill 24 = .ok (.aload_n 0, 1) := by decide +kernel
theorem dX10_isBill_25 : decode cX10_isBill 25 = .ok (.getfield 175, 3) := by decide +kernel
theorem dX10_isBill_28 : decode cX10_isBill 28 = .ok (.ifCond .ne 7, 3) := by decide +kernel
theorem dX10_isBill_31 : decode cX10_isBill 31 = .ok (.iconst 1, 1) := by decide +kernel
theorem dX10_isBill_32 : decode cX10_isBill 32 = .ok (.goto 4, 3) := by decide +kernel
theorem dX10_isBill_35 : decode cX10_isBill 35 = .ok (.iconst 0, 1) := by decide +kernel
theorem dX10_isBill_36 : decode cX10_isBill 36 = .ok (.ireturn, 1) := by decide +kernel
set_option maxRecDepth 20000 in
theorem ggX10_bill_X10_isBill : GoodIn wsX10_bill wsX10_isBill := goodIn_r _ [5, 6, 7, 8, 9, 4, 10, 11, 12, 13, 14, 15, 16, 17, 62, 63, 64, 65, 66, 67, 68, 69, 70, 71, 72, 73, 74, 75, 76, 77, 78, 79, 80, 81, 82, 83, 84, 85, 86, 87, 88, 89, 90, 91, 92, 93, 94, 95, 96, 97, 98, 99, 100, 101, 102, 103, 104, 105, 106, 107, 108, 109, 110, 111, 112, 113, 114, 115, 116, 117, 118, 119, 120, 121, 122, 123, 124, 125, 126, 127, 128, 129] (by decide +kernel) (by decide +kernel)
set_option maxRecDepth 20000 in
theorem gX10_bill_X10_isBill : GoodIn wsX10_bill (wsV RX10 348 RX10 yX10_isBill wsX10_isBill) := goodIn_app (goodIn_of _ (by decide +kernel)) ggX10_bill_X10_isBill
set_option maxRecDepth 20000 in
theorem ggX10_bill_X10_billOf : GoodIn wsX10_bill wsX10_billOf := goodIn_r _ [21, 22, 23, 24, 25, 4, 26, 27, 28, 29, 30, 31, 32, 33, 34, 35, 36, 37, 38, 39, 40, 41, 42, 43, 44, 45, 46, 47, 48, 49, 50, 51, 52, 53, 54, 55, 56, 57, 58, 59, 60, 61, 62, 63, 64, 65, 66, 67, 68, 69, 70, 71, 72, 73, 74, 75, 76, 77, 78, 79, 80, 81, 82, 83, 84, 85, 86, 87, 88, 89, 90, 91, 92, 93, 94, 95, 96, 97, 98, 99, 100, 101, 102, 103, 104, 105, 106, 107, 108, 109, 110, 111, 112, 113, 114, 115, 116, 117, 118, 119, 120, 121, 122, 123, 124, 125, 126, 127, 128, 129] (by decide +kernel) (by decide +kernel)
set_option maxRecDepth 20000 in
theorem gX10_bill_X10_billOf : GoodIn wsX10_bill (wsV RX10 334 RX10 yX10_billOf wsX10_billOf) := goodIn_app (goodIn_of _ (by decide +kernel)) ggX10_bill_X10_billOf
theorem dX10_bill_0 : decode cX10_bill 0 = .ok (.aload_n 0, 1) := by decide +kernel
theorem dX10_bill_1 : decode cX10_bill 1 = .ok (.iload_n 1, 1) := by decide +kernel
theorem dX10_bill_2 : decode cX10_bill 2 = .ok (.iload_n 2, 1) := by decide +kernel
theorem dX10_bill_3 : decode cX10_bill 3 = .ok (.invokevirtual 348, 3) := by decide +kernel
theorem dX10_bill_6 : decode cX10_bill 6 = .ok (.ifCond .eq 12, 3) := by decide +kernel
theorem dX10_bill_9 : decode cX10_bill 9 = .ok (.aload_n 0, 1) := by decide +kernel
theorem dX10_bill_10 : decode cX10_bill 10 = .ok (.iload_n 1, 1) := by decide +kernel
theorem dX10_bill_11 : decode cX10_bill 11 = .ok (.iload_n 2, 1) := by decide +kernel
theorem dX10_bill_12 : decode cX10_bill 12 = .ok (.invokevirtual 334, 3) := by decide +kernel
theorem dX10_bill_15 : decode cX10_bill 15 = .ok (.goto 4, 3) := by decide +kernel
theorem dX10_bill_18 : decode cX10_bill 18 = .ok (.iconst 0, 1) := by decide +kernel
theorem dX10_bill_19 : decode cX10_bill 19 = .ok (.ireturn, 1) := by decide +kernel
set_option maxRecDepth 20000 in
theorem ggX10_settled_X10_isBill : GoodIn wsX10_settled wsX10_isBill := goodIn_r _ [6, 7, 8, 9, 10, 5, 11, 12, 13, 14, 15, 16, 17, 18, 19, 20, 21, 22, 23, 24, 25, 26, 27, 28, 29, 30, 31, 32, 33, 34, 35, 36, 37, 38, 39, 40, 41, 42, 43, 44, 45, 46, 47, 48, 49, 50, 51, 52, 53, 54, 55, 56, 57, 58, 59, 60, 61, 62, 63, 64, 65, 66, 67, 68, 69, 70, 71, 72, 73, 74, 75, 76, 77, 78, 79, 80, 81, 82, 83, 84, 85, 86] (by decide +kernel) (by decide +kernel)
set_option maxRecDepth 20000 in
theorem gX10_settled_X10_isBill : GoodIn wsX10_settled (wsV RX10 348 RX10 yX10_isBill wsX10_isBill) := goodIn_app (goodIn_of _ (by decide +kernel)) ggX10_settled_X10_isBill
theorem dX10_settled_0 : decode cX10_settled 0 = .ok (.aload_n 0, 1) := by decide +kernel
theorem dX10_settled_1 : decode cX10_settled 1 = .ok (.iload_n 1, 1) := by decide +kernel
theorem dX10_settled_2 : decode cX10_settled 2 = .ok (.iload_n 2, 1) := by decide +kernel
theorem dX10_settled_3 : decode cX10_settled 3 = .ok (.invokevirtual 348, 3) := by decide +kernel
theorem dX10_settled_6 : decode cX10_settled 6 = .ok (.ifCond .eq 17, 3) := by decide +kernel
theorem dX10_settled_9 : decode cX10_settled 9 = .ok (.aload_n 0, 1) := by decide +kernel
theorem dX10_settled_10 : decode cX10_settled 10 = .ok (.getfield 145, 3) := by decide +kernel
theorem dX10_settled_13 : decode cX10_settled 13 = .ok (.bipush 6, 2) := by decide +kernel
theorem dX10_settled_15 : decode cX10_settled 15 = .ok (.iload_n 1, 1) := by decide +kernel
theorem dX10_settled_16 : decode cX10_settled 16 = .ok (.imul, 1) := by decide +kernel
theorem dX10_settled_17 : decode cX10_settled 17 = .ok (.iload_n 2, 1) := by decide +kernel
theorem dX10_settled_18 : decode cX10_settled 18 = .ok (.iadd, 1) := by decide +kernel
theorem dX10_settled_19 : decode cX10_settled 19 = .ok (.iaload, 1) := by decide +kernel
theorem dX10_settled_20 : decode cX10_settled 20 = .ok (.goto 4, 3) := by decide +kernel
theorem dX10_settled_23 : decode cX10_settled 23 = .ok (.iconst 0, 1) := by decide +kernel
theorem dX10_settled_24 : decode cX10_settled 24 = .ok (.ireturn, 1) := by decide +kernel
set_option maxRecDepth 20000 in
theorem ggX10_account_X10_isFirm : GoodIn wsX10_account wsX10_isFirm := goodIn_r _ [6, 7, 8, 5, 9] (by decide +kernel) (by decide +kernel)
set_option maxRecDepth 20000 in
theorem gX10_account_X10_isFirm : GoodIn wsX10_account (va_wsS RX10 186 yX10_isFirm wsX10_isFirm) := goodIn_app (goodIn_of _ (by decide +kernel)) ggX10_account_X10_isFirm
theorem dX10_account_0 : decode cX10_account 0 = .ok (.aload_n 0, 1) := by decide +kernel
theorem dX10_account_1 : decode cX10_account 1 = .ok (.iload_n 1, 1) := by decide +kernel
theorem dX10_account_2 : decode cX10_account 2 = .ok (.invokestatic 186, 3) := by decide +kernel
theorem dX10_account_5 : decode cX10_account 5 = .ok (.ifCond .eq 7, 3) := by decide +kernel
theorem dX10_account_8 : decode cX10_account 8 = .ok (.iconst 0, 1) := by decide +kernel
theorem dX10_account_9 : decode cX10_account 9 = .ok (.goto 4, 3) := by decide +kernel
theorem dX10_account_12 : decode cX10_account 12 = .ok (.iconst 1, 1) := by decide +kernel
theorem dX10_account_13 : decode cX10_account 13 = .ok (.putfield 175, 3) := by decide +kernel
theorem dX10_account_16 : decode cX10_account 16 = .ok (.aload_n 0, 1) := by decide +kernel
theorem dX10_account_17 : decode cX10_account 17 = .ok (.getfield 175, 3) := by decide +kernel
theorem dX10_account_20 : decode cX10_account 20 = .ok (.ifCond .ne 12, 3) := by decide +kernel
theorem dX10_account_23 : decode cX10_account 23 = .ok (.aload_n 0, 1) := by decide +kernel
theorem dX10_account_24 : decode cX10_account 24 = .ok (.getfield 13, 3) := by decide +kernel
theorem dX10_account_27 : decode cX10_account 27 = .ok (.iload_n 1, 1) := by decide +kernel
theorem dX10_account_28 : decode cX10_account 28 = .ok (.iaload, 1) := by decide +kernel
theorem dX10_account_29 : decode cX10_account 29 = .ok (.goto 4, 3) := by decide +kernel
theorem dX10_account_32 : decode cX10_account 32 = .ok (.iconst 0, 1) := by decide +kernel
theorem dX10_account_33 : decode cX10_account 33 = .ok (.ireturn, 1) := by decide +kernel
set_option maxRecDepth 20000 in
theorem ggX10_hasFailed_X10_isFirm : GoodIn wsX10_hasFailed wsX10_isFirm := goodIn_r _ [6, 7, 8, 5, 9] (by decide +kernel) (by decide +kernel)
set_option maxRecDepth 20000 in
theorem gX10_hasFailed_X10_isFirm : GoodIn wsX10_hasFailed (va_wsS RX10 186 yX10_isFirm wsX10_isFirm) := goodIn_app (goodIn_of _ (by decide +kernel)) ggX10_hasFailed_X10_isFirm
theorem dX10_hasFailed_0 : decode cX10_hasFailed 0 = .ok (.aload_n 0, 1) := by decide +kernel
theorem dX10_hasFailed_1 : decode cX10_hasFailed 1 = .ok (.iload_n 1, 1) := by decide +kernel
theorem dX10_hasFailed_2 : decode cX10_hasFailed 2 = .ok (.invokestatic 186, 3) := by decide +kernel
theorem dX10_hasFailed_5 : decode cX10_hasFailed 5 = .ok (.ifCond .eq 7, 3) := by decide +kernel
theorem dX10_hasFailed_8 : decode cX10_hasFailed 8 = .ok (.iconst 0, 1) := by decide +kernel
theorem dX10_hasFailed_9 : decode cX10_hasFailed 9 = .ok (.goto 4, 3) := by decide +kernel
theorem dX10_hasFailed_12 : decode cX10_hasFailed 12 = .ok (.iconst 1, 1) := by decide +kernel
theorem dX10_hasFailed_13 : decode cX10_hasFailed 13 = .ok (.putfield 175, 3) := by decide +kernel
theorem dX10_hasFailed_16 : decode cX10_hasFailed 16 = .ok (.aload_n 0, 1) := by decide +kernel
theorem dX10_hasFailed_17 : decode cX10_hasFailed 17 = .ok (.getfield 175, 3) := by decide +kernel
theorem dX10_hasFailed_20 : decode cX10_hasFailed 20 = .ok (.ifCond .ne 17, 3) := by decide +kernel
theorem dX10_hasFailed_23 : decode cX10_hasFailed 23 = .ok (.aload_n 0, 1) := by decide +kernel
theorem dX10_hasFailed_24 : decode cX10_hasFailed 24 = .ok (.getfield 19, 3) := by decide +kernel
theorem dX10_hasFailed_27 : decode cX10_hasFailed 27 = .ok (.iload_n 1, 1) := by decide +kernel
theorem dX10_hasFailed_28 : decode cX10_hasFailed 28 = .ok (.iaload, 1) := by decide +kernel
theorem dX10_hasFailed_29 : decode cX10_hasFailed 29 = .ok (.iconst 1, 1) := by decide +kernel
theorem dX10_hasFailed_30 : decode cX10_hasFailed 30 = .ok (.if_icmp .ne 7, 3) := by decide +kernel
theorem dX10_hasFailed_33 : decode cX10_hasFailed 33 = .ok (.iconst 1, 1) := by decide +kernel
theorem dX10_hasFailed_34 : decode cX10_hasFailed 34 = .ok (.goto 4, 3) := by decide +kernel
theorem dX10_hasFailed_37 : decode cX10_hasFailed 37 = .ok (.iconst 0, 1) := by decide +kernel
theorem dX10_hasFailed_38 : decode cX10_hasFailed 38 = .ok (.ireturn, 1) := by decide +kernel
theorem dX10_house_0 : decode cX10_house 0 = .ok (.aload_n 0, 1) := by decide +kernel
theorem dX10_house_1 : decode cX10_house 1 = .ok (.iconst 0, 1) := by decide +kernel
theorem dX10_house_2 : decode cX10_house 2 = .ok (.putfield 175, 3) := by decide +kernel
theorem dX10_house_5 : decode cX10_house 5 = .ok (.aload_n 0, 1) := by decide +kernel
theorem dX10_house_6 : decode cX10_house 6 = .ok (.getfield 331, 3) := by decide +kernel
theorem dX10_house_9 : decode cX10_house 9 = .ok (.ireturn, 1) := by decide +kernel
theorem dJ6_bitCount_0f7a4_0 : decode cJ6_bitCount_0f7a4 0 = .ok (.iload_n 0, 1) := by decide +kernel
theorem dJ6_bitCount_0f7a4_1 : decode cJ6_bitCount_0f7a4 1 = .ok (.iload_n 0, 1) := by decide +kernel
theorem dJ6_bitCount_0f7a4_2 : decode cJ6_bitCount_0f7a4 2 = .ok (.iconst 1, 1) := by decide +kernel
theorem dJ6_bitCount_0f7a4_3 : decode cJ6_bitCount_0f7a4 3 = .ok (.iushr, 1) := by decide +kernel
theorem dJ6_bitCount_0f7a4_4 : decode cJ6_bitCount_0f7a4 4 = .ok (.ldc_w 265, 3) := by decide +kernel
theorem dJ6_bitCount_0f7a4_7 : decode cJ6_bitCount_0f7a4 7 = .ok (.iand, 1) := by decide +kernel
theorem dJ6_bitCount_0f7a4_8 : decode cJ6_bitCount_0f7a4 8 = .ok (.isub, 1) := by decide +kernel
theorem dJ6_bitCount_0f7a4_9 : decode cJ6_bitCount_0f7a4 9 = .ok (.istore_n 0, 1) := by decide +kernel
theorem dJ6_bitCount_0f7a4_10 : decode cJ6_bitCount_0f7a4 10 = .ok (.iload_n 0, 1) := by decide +kernel
theorem dJ6_bitCount_0f7a4_11 : decode cJ6_bitCount_0f7a4 11 = .ok (.ldc_w 266, 3) := by decide +kernel
theorem dJ6_bitCount_0f7a4_14 : decode cJ6_bitCount_0f7a4 14 = .ok (.iand, 1) := by decide +kernel
theorem dJ6_bitCount_0f7a4_15 : decode cJ6_bitCount_0f7a4 15 = .ok (.iload_n 0, 1) := by decide +kernel
theorem dJ6_bitCount_0f7a4_16 : decode cJ6_bitCount_0f7a4 16 = .ok (.iconst 2, 1) := by decide +kernel
theorem dJ6_bitCount_0f7a4_17 : decode cJ6_bitCount_0f7a4 17 = .ok (.iushr, 1) := by decide +kernel
theorem dJ6_bitCount_0f7a4_18 : decode cJ6_bitCount_0f7a4 18 = .ok (.ldc_w 266, 3) := by decide +kernel
theorem dJ6_bitCount_0f7a4_21 : decode cJ6_bitCount_0f7a4 21 = .ok (.iand, 1) := by decide +kernel
theorem dJ6_bitCount_0f7a4_22 : decode cJ6_bitCount_0f7a4 22 = .ok (.iadd, 1) := by decide +kernel
theorem dJ6_bitCount_0f7a4_23 : decode cJ6_bitCount_0f7a4 23 = .ok (.istore_n 0, 1) := by decide +kernel
theorem dJ6_bitCount_0f7a4_24 : decode cJ6_bitCount_0f7a4 24 = .ok (.iload_n 0, 1) := by decide +kernel
theorem dJ6_bitCount_0f7a4_25 : decode cJ6_bitCount_0f7a4 25 = .ok (.iload_n 0, 1) := by decide +kernel
theorem dJ6_bitCount_0f7a4_26 : decode cJ6_bitCount_0f7a4 26 = .ok (.iconst 4, 1) := by decide +kernel
theorem dJ6_bitCount_0f7a4_27 : decode cJ6_bitCount_0f7a4 27 = .ok (.iushr, 1) := by decide +kernel
theorem dJ6_bitCount_0f7a4_28 : decode cJ6_bitCount_0f7a4 28 = .ok (.iadd, 1) := by decide +kernel
theorem dJ6_bitCount_0f7a4_29 : decode cJ6_bitCount_0f7a4 29 = .ok (.ldc_w 267, 3) := by decide +kernel
theorem dJ6_bitCount_0f7a4_32 : decode cJ6_bitCount_0f7a4 32 = .ok (.iand, 1) := by decide +kernel
theorem dJ6_bitCount_0f7a4_33 : decode cJ6_bitCount_0f7a4 33 = .ok (.istore_n 0, 1) := by decide +kernel
theorem dJ6_bitCount_0f7a4_34 : decode cJ6_bitCount_0f7a4 34 = .ok (.iload_n 0, 1) := by decide +kernel
theorem dJ6_bitCount_0f7a4_35 : decode cJ6_bitCount_0f7a4 35 = .ok (.iload_n 0, 1) := by decide +kernel
theorem dJ6_bitCount_0f7a4_36 : decode cJ6_bitCount_0f7a4 36 = .ok (.bipush 8, 2) := by decide +kernel
theorem dJ6_bitCount_0f7a4_38 : decode cJ6_bitCount_0f7a4 38 = .ok (.iushr, 1) := by decide +kernel
theorem dJ6_bitCount_0f7a4_39 : decode cJ6_bitCount_0f7a4 39 = .ok (.iadd, 1) := by decide +kernel
theorem dJ6_bitCount_0f7a4_40 : decode cJ6_bitCount_0f7a4 40 = .ok (.istore_n 0, 1) := by decide +kernel
theorem dJ6_bitCount_0f7a4_41 : decode cJ6_bitCount_0f7a4 41 = .ok (.iload_n 0, 1) := by decide +kernel
theorem dJ6_bitCount_0f7a4_42 : decode cJ6_bitCount_0f7a4 42 = .ok (.iload_n 0, 1) := by decide +kernel
theorem dJ6_bitCount_0f7a4_43 : decode cJ6_bitCount_0f7a4 43 = .ok (.bipush 16, 2) := by decide +kernel
theorem dJ6_bitCount_0f7a4_45 : decode cJ6_bitCount_0f7a4 45 = .ok (.iushr, 1) := by decide +kernel
theorem dJ6_bitCount_0f7a4_46 : decode cJ6_bitCount_0f7a4 46 = .ok (.iadd, 1) := by decide +kernel
theorem dJ6_bitCount_0f7a4_47 : decode cJ6_bitCount_0f7a4 47 = .ok (.istore_n 0, 1) := by decide +kernel
theorem dJ6_bitCount_0f7a4_48 : decode cJ6_bitCount_0f7a4 48 = .ok (.iload_n 0, 1) := by decide +kernel
theorem dJ6_bitCount_0f7a4_49 : decode cJ6_bitCount_0f7a4 49 = .ok (.bipush 63, 2) := by decide +kernel
theorem dJ6_bitCount_0f7a4_51 : decode cJ6_bitCount_0f7a4 51 = .ok (.iand, 1) := by decide +kernel
theorem dJ6_bitCount_0f7a4_52 : decode cJ6_bitCount_0f7a4 52 = .ok (.ireturn, 1) := by decide +kernel
theorem dJ9_abs_0f7a4_0 : decode cJ9_abs_0f7a4 0 = .ok (.iload_n 0, 1) := by decide +kernel
theorem dJ9_abs_0f7a4_1 : decode cJ9_abs_0f7a4 1 = .ok (.ifCond .ge 8, 3) := by decide +kernel
theorem dJ9_abs_0f7a4_4 : decode cJ9_abs_0f7a4 4 = .ok (.iload_n 0, 1) := by decide +kernel
theorem dJ9_abs_0f7a4_5 : decode cJ9_abs_0f7a4 5 = .ok (.ineg, 1) := by decide +kernel
theorem dJ9_abs_0f7a4_6 : decode cJ9_abs_0f7a4 6 = .ok (.goto 4, 3) := by decide +kernel
theorem dJ9_abs_0f7a4_9 : decode cJ9_abs_0f7a4 9 = .ok (.iload_n 0, 1) := by decide +kernel
theorem dJ9_abs_0f7a4_10 : decode cJ9_abs_0f7a4 10 = .ok (.ireturn, 1) := by decide +kernel
theorem dJ9_max_7cf53_0 : decode cJ9_max_7cf53 0 = .ok (.iload_n 0, 1) := by decide +kernel
theorem dJ9_max_7cf53_1 : decode cJ9_max_7cf53 1 = .ok (.iload_n 1, 1) := by decide +kernel
theorem dJ9_max_7cf53_2 : decode cJ9_max_7cf53 2 = .ok (.if_icmp .lt 7, 3) := by decide +kernel
theorem dJ9_max_7cf53_5 : decode cJ9_max_7cf53 5 = .ok (.iload_n 0, 1) := by decide +kernel
theorem dJ9_max_7cf53_6 : decode cJ9_max_7cf53 6 = .ok (.goto 4, 3) := by decide +kernel
theorem dJ9_max_7cf53_9 : decode cJ9_max_7cf53 9 = .ok (.iload_n 1, 1) := by decide +kernel
theorem dJ9_max_7cf53_10 : decode cJ9_max_7cf53 10 = .ok (.ireturn, 1) := by decide +kernel
theorem dJ9_min_7cf53_0 : decode cJ9_min_7cf53 0 = .ok (.iload_n 0, 1) := by decide +kernel
theorem dJ9_min_7cf53_1 : decode cJ9_min_7cf53 1 = .ok (.iload_n 1, 1) := by decide +kernel
theorem dJ9_min_7cf53_2 : decode cJ9_min_7cf53 2 = .ok (.if_icmp .gt 7, 3) := by decide +kernel
theorem dJ9_min_7cf53_5 : decode cJ9_min_7cf53 5 = .ok (.iload_n 0, 1) := by decide +kernel
theorem dJ9_min_7cf53_6 : decode cJ9_min_7cf53 6 = .ok (.goto 4, 3) := by decide +kernel
theorem dJ9_min_7cf53_9 : decode cJ9_min_7cf53 9 = .ok (.iload_n 1, 1) := by decide +kernel
theorem dJ9_min_7cf53_10 : decode cJ9_min_7cf53 10 = .ok (.ireturn, 1) := by decide +kernel
set_option maxRecDepth 20000 in
theorem ggL_deposit_X9_deposit : GoodIn wsL_deposit wsX9_deposit := goodIn_ca (goodIn_ca (goodIn_ca (goodIn_r _ [8, 9, 10, 11, 12, 13, 14, 15, 16, 7, 17, 18, 19, 20, 21, 22, 23, 24, 25, 26, 27, 28, 29, 30, 31, 32, 33, 34, 35, 36, 37, 38, 39, 40, 41, 42, 43] (by decide +kernel) (by decide +kernel)) (goodIn_sub (fun _ h => List.mem_cons_of_mem _ (List.mem_append_left _ (List.mem_append_left _ (List.mem_append_right _ h)))) (by decide +kernel))) (goodIn_sub (fun _ h => List.mem_cons_of_mem _ (List.mem_append_left _ (List.mem_append_right _ h))) (by decide +kernel))) (goodIn_sub (fun _ h => List.mem_cons_of_mem _ (List.mem_append_right _ h)) (by decide +kernel))
set_option maxRecDepth 20000 in
theorem gL_deposit_X9_deposit : GoodIn wsL_deposit (wsV RL 7 RX9 yX9_deposit wsX9_deposit) := goodIn_app (goodIn_of _ (by decide +kernel)) ggL_deposit_X9_deposit
theorem dL_deposit_0 : decode cL_deposit 0 = .ok (.aload_n 3, 1) := by decide +kernel
theorem dL_deposit_1 : decode cL_deposit 1 = .ok (.iconst 0, 1) := by decide +kernel
theorem dL_deposit_2 : decode cL_deposit 2 = .ok (.aload_n 0, 1) := by decide +kernel
theorem dL_deposit_3 : decode cL_deposit 3 = .ok (.iload_n 1, 1) := by decide +kernel
theorem dL_deposit_4 : decode cL_deposit 4 = .ok (.iload_n 2, 1) := by decide +kernel
theorem dL_deposit_5 : decode cL_deposit 5 = .ok (.invokevirtual 7, 3) := by decide +kernel
theorem dL_deposit_8 : decode cL_deposit 8 = .ok (.i2l, 1) := by decide +kernel
theorem dL_deposit_9 : decode cL_deposit 9 = .ok (.lastore, 1) := by decide +kernel
theorem dL_deposit_10 : decode cL_deposit 10 = .ok (.goto 15, 3) := by decide +kernel
theorem dL_deposit_13 : decode cL_deposit 13 = .ok (.astore 4, 2) := by decide +kernel
theorem dL_deposit_15 : decode cL_deposit 15 = .ok (.iconst 1, 1) := by decide +kernel
theorem dL_deposit_16 : decode cL_deposit 16 = .ok (.ireturn, 1) := by decide +kernel
theorem dL_deposit_17 : decode cL_deposit 17 = .ok (.astore 4, 2) := by decide +kernel
theorem dL_deposit_19 : decode cL_deposit 19 = .ok (.iconst 2, 1) := by decide +kernel
theorem dL_deposit_20 : decode cL_deposit 20 = .ok (.ireturn, 1) := by decide +kernel
theorem dL_deposit_21 : decode cL_deposit 21 = .ok (.astore 4, 2) := by decide +kernel
theorem dL_deposit_23 : decode cL_deposit 23 = .ok (.iconst 3, 1) := by decide +kernel
theorem dL_deposit_24 : decode cL_deposit 24 = .ok (.ireturn, 1) := by decide +kernel
theorem dL_deposit_25 : decode cL_deposit 25 = .ok (.iconst 0, 1) := by decide +kernel
theorem dL_deposit_26 : decode cL_deposit 26 = .ok (.ireturn, 1) := by decide +kernel
set_option maxRecDepth 20000 in
theorem ggL_setLimit_X9_setLimit : GoodIn wsL_setLimit wsX9_setLimit := goodIn_ca (goodIn_ca (goodIn_ca (goodIn_r _ [8, 9, 10, 11, 12, 13, 7, 14, 15, 16, 17, 18, 19, 20, 21, 22, 23, 24, 25, 26, 27, 28, 29, 30, 31, 32, 33, 34, 35, 36, 37] (by decide +kernel) (by decide +kernel)) (goodIn_sub (fun _ h => List.mem_cons_of_mem _ (List.mem_append_left _ (List.mem_append_left _ (List.mem_append_right _ h)))) (by decide +kernel))) (goodIn_sub (fun _ h => List.mem_cons_of_mem _ (List.mem_append_left _ (List.mem_append_right _ h))) (by decide +kernel))) (goodIn_sub (fun _ h => List.mem_cons_of_mem _ (List.mem_append_right _ h)) (by decide +kernel))
set_option maxRecDepth 20000 in
theorem gL_setLimit_X9_setLimit : GoodIn wsL_setLimit (wsV RL 19 RX9 yX9_setLimit wsX9_setLimit) := goodIn_app (goodIn_of _ (by decide +kernel)) ggL_setLimit_X9_setLimit
theorem dL_setLimit_0 : decode cL_setLimit 0 = .ok (.aload_n 3, 1) := by decide +kernel
theorem dL_setLimit_1 : decode cL_setLimit 1 = .ok (.iconst 0, 1) := by decide +kernel
theorem dL_setLimit_2 : decode cL_setLimit 2 = .ok (.aload_n 0, 1) := by decide +kernel
theorem dL_setLimit_3 : decode cL_setLimit 3 = .ok (.iload_n 1, 1) := by decide +kernel
theorem dL_setLimit_4 : decode cL_setLimit 4 = .ok (.iload_n 2, 1) := by decide +kernel
theorem dL_setLimit_5 : decode cL_setLimit 5 = .ok (.invokevirtual 19, 3) := by decide +kernel
theorem dL_setLimit_8 : decode cL_setLimit 8 = .ok (.i2l, 1) := by decide +kernel
theorem dL_setLimit_9 : decode cL_setLimit 9 = .ok (.lastore, 1) := by decide +kernel
theorem dL_setLimit_10 : decode cL_setLimit 10 = .ok (.goto 15, 3) := by decide +kernel
theorem dL_setLimit_13 : decode cL_setLimit 13 = .ok (.astore 4, 2) := by decide +kernel
theorem dL_setLimit_15 : decode cL_setLimit 15 = .ok (.iconst 1, 1) := by decide +kernel
theorem dL_setLimit_16 : decode cL_setLimit 16 = .ok (.ireturn, 1) := by decide +kernel
theorem dL_setLimit_17 : decode cL_setLimit 17 = .ok (.astore 4, 2) := by decide +kernel
theorem dL_setLimit_19 : decode cL_setLimit 19 = .ok (.iconst 2, 1) := by decide +kernel
theorem dL_setLimit_20 : decode cL_setLimit 20 = .ok (.ireturn, 1) := by decide +kernel
theorem dL_setLimit_21 : decode cL_setLimit 21 = .ok (.astore 4, 2) := by decide +kernel
theorem dL_setLimit_23 : decode cL_setLimit 23 = .ok (.iconst 3, 1) := by decide +kernel
theorem dL_setLimit_24 : decode cL_setLimit 24 = .ok (.ireturn, 1) := by decide +kernel
theorem dL_setLimit_25 : decode cL_setLimit 25 = .ok (.iconst 0, 1) := by decide +kernel
theorem dL_setLimit_26 : decode cL_setLimit 26 = .ok (.ireturn, 1) := by decide +kernel
set_option maxRecDepth 20000 in
theorem ggL_bid_X9_bid : GoodIn wsL_bid wsX9_bid := goodIn_ca (goodIn_ca (goodIn_ca (goodIn_r _ [8, 9, 10, 11, 12, 13, 14, 7, 15, 16, 17, 18, 19, 20, 21, 22, 23, 24, 25, 26, 27, 28, 29, 30, 31, 32, 33, 34, 35, 36, 37, 38, 39, 40, 41, 42, 43, 44, 45, 46, 47, 48, 49, 50, 51, 52, 53, 54, 55, 56, 57, 58, 59, 60, 61, 62, 63, 64, 65, 66, 67, 68, 69, 70, 71, 72, 73, 74, 75, 76, 77] (by decide +kernel) (by decide +kernel)) (goodIn_sub (fun _ h => List.mem_cons_of_mem _ (List.mem_append_left _ (List.mem_append_left _ (List.mem_append_right _ h)))) (by decide +kernel))) (goodIn_sub (fun _ h => List.mem_cons_of_mem _ (List.mem_append_left _ (List.mem_append_right _ h))) (by decide +kernel))) (goodIn_sub (fun _ h => List.mem_cons_of_mem _ (List.mem_append_right _ h)) (by decide +kernel))
set_option maxRecDepth 20000 in
theorem gL_bid_X9_bid : GoodIn wsL_bid (wsV RL 22 RX9 yX9_bid wsX9_bid) := goodIn_app (goodIn_of _ (by decide +kernel)) ggL_bid_X9_bid
theorem dL_bid_0 : decode cL_bid 0 = .ok (.aload 7, 2) := by decide +kernel
theorem dL_bid_2 : decode cL_bid 2 = .ok (.iconst 0, 1) := by decide +kernel
theorem dL_bid_3 : decode cL_bid 3 = .ok (.aload_n 0, 1) := by decide +kernel
theorem dL_bid_4 : decode cL_bid 4 = .ok (.iload_n 1, 1) := by decide +kernel
theorem dL_bid_5 : decode cL_bid 5 = .ok (.iload_n 2, 1) := by decide +kernel
theorem dL_bid_6 : decode cL_bid 6 = .ok (.iload_n 3, 1) := by decide +kernel
