theorem dX7_consider_162 : decode cX7_consider 162 = .ok (.iconst 1, 1) := by decide +kernel
theorem dX7_consider_163 : decode cX7_consider 163 = .ok (.isub, 1) := by decide +kernel
theorem dX7_consider_164 : decode cX7_consider 164 = .ok (.invokevirtual 80, 3) := by decide +kernel
theorem dX7_consider_167 : decode cX7_consider 167 = .ok (.invokestatic 83, 3) := by decide +kernel
theorem dX7_consider_170 : decode cX7_consider 170 = .ok (.invokestatic 69, 3) := by decide +kernel
theorem dX7_consider_173 : decode cX7_consider 173 = .ok (.iastore, 1) := by decide +kernel
theorem dX7_consider_174 : decode cX7_consider 174 = .ok (.iload 7, 2) := by decide +kernel
theorem dX7_consider_176 : decode cX7_consider 176 = .ok (.iload 8, 2) := by decide +kernel
theorem dX7_consider_178 : decode cX7_consider 178 = .ok (.iload 9, 2) := by decide +kernel
theorem dX7_consider_180 : decode cX7_consider 180 = .ok (.invokestatic 83, 3) := by decide +kernel
theorem dX7_consider_183 : decode cX7_consider 183 = .ok (.istore 10, 2) := by decide +kernel
theorem dX7_consider_185 : decode cX7_consider 185 = .ok (.iload_n 1, 1) := by decide +kernel
theorem dX7_consider_186 : decode cX7_consider 186 = .ok (.iload_n 2, 1) := by decide +kernel
theorem dX7_consider_187 : decode cX7_consider 187 = .ok (.isub, 1) := by decide +kernel
theorem dX7_consider_188 : decode cX7_consider 188 = .ok (.invokestatic 87, 3) := by decide +kernel
theorem dX7_consider_191 : decode cX7_consider 191 = .ok (.iload_n 2, 1) := by decide +kernel
theorem dX7_consider_192 : decode cX7_consider 192 = .ok (.iload_n 3, 1) := by decide +kernel
theorem dX7_consider_193 : decode cX7_consider 193 = .ok (.isub, 1) := by decide +kernel
theorem dX7_consider_194 : decode cX7_consider 194 = .ok (.invokestatic 87, 3) := by decide +kernel
theorem dX7_consider_197 : decode cX7_consider 197 = .ok (.iadd, 1) := by decide +kernel
theorem dX7_consider_198 : decode cX7_consider 198 = .ok (.iload_n 1, 1) := by decide +kernel
theorem dX7_consider_199 : decode cX7_consider 199 = .ok (.iload_n 3, 1) := by decide +kernel
theorem dX7_consider_200 : decode cX7_consider 200 = .ok (.isub, 1) := by decide +kernel
theorem dX7_consider_201 : decode cX7_consider 201 = .ok (.invokestatic 87, 3) := by decide +kernel
theorem dX7_consider_204 : decode cX7_consider 204 = .ok (.iadd, 1) := by decide +kernel
theorem dX7_consider_205 : decode cX7_consider 205 = .ok (.istore 11, 2) := by decide +kernel
theorem dX7_consider_207 : decode cX7_consider 207 = .ok (.iload 10, 2) := by decide +kernel
theorem dX7_consider_209 : decode cX7_consider 209 = .ok (.ldc 27, 2) := by decide +kernel
theorem dX7_consider_211 : decode cX7_consider 211 = .ok (.if_icmp .eq 63, 3) := by decide +kernel
theorem dX7_consider_214 : decode cX7_consider 214 = .ok (.iload 10, 2) := by decide +kernel
theorem dX7_consider_216 : decode cX7_consider 216 = .ok (.aload_n 0, 1) := by decide +kernel
theorem dX7_consider_217 : decode cX7_consider 217 = .ok (.getfield 28, 3) := by decide +kernel
theorem dX7_consider_220 : decode cX7_consider 220 = .ok (.if_icmp .gt 21, 3) := by decide +kernel
theorem dX7_consider_223 : decode cX7_consider 223 = .ok (.iload 10, 2) := by decide +kernel
theorem dX7_consider_225 : decode cX7_consider 225 = .ok (.aload_n 0, 1) := by decide +kernel
theorem dX7_consider_226 : decode cX7_consider 226 = .ok (.getfield 28, 3) := by decide +kernel
theorem dX7_consider_229 : decode cX7_consider 229 = .ok (.if_icmp .ne 45, 3) := by decide +kernel
theorem dX7_consider_232 : decode cX7_consider 232 = .ok (.iload 11, 2) := by decide +kernel
theorem dX7_consider_234 : decode cX7_consider 234 = .ok (.aload_n 0, 1) := by decide +kernel
theorem dX7_consider_235 : decode cX7_consider 235 = .ok (.getfield 32, 3) := by decide +kernel
theorem dX7_consider_238 : decode cX7_consider 238 = .ok (.if_icmp .ge 36, 3) := by decide +kernel
theorem dX7_consider_241 : decode cX7_consider 241 = .ok (.aload_n 0, 1) := by decide +kernel
theorem dX7_consider_242 : decode cX7_consider 242 = .ok (.iload 10, 2) := by decide +kernel
theorem dX7_consider_244 : decode cX7_consider 244 = .ok (.putfield 28, 3) := by decide +kernel
theorem dX7_consider_247 : decode cX7_consider 247 = .ok (.aload_n 0, 1) := by decide +kernel
theorem dX7_consider_248 : decode cX7_consider 248 = .ok (.iload 11, 2) := by decide +kernel
theorem dX7_consider_250 : decode cX7_consider 250 = .ok (.putfield 32, 3) := by decide +kernel
theorem dX7_consider_253 : decode cX7_consider 253 = .ok (.aload_n 0, 1) := by decide +kernel
theorem dX7_consider_254 : decode cX7_consider 254 = .ok (.getfield 21, 3) := by decide +kernel
theorem dX7_consider_257 : decode cX7_consider 257 = .ok (.iconst 0, 1) := by decide +kernel
theorem dX7_consider_258 : decode cX7_consider 258 = .ok (.iload_n 1, 1) := by decide +kernel
theorem dX7_consider_259 : decode cX7_consider 259 = .ok (.iastore, 1) := by decide +kernel
theorem dX7_consider_260 : decode cX7_consider 260 = .ok (.aload_n 0, 1) := by decide +kernel
theorem dX7_consider_261 : decode cX7_consider 261 = .ok (.getfield 21, 3) := by decide +kernel
theorem dX7_consider_264 : decode cX7_consider 264 = .ok (.iconst 1, 1) := by decide +kernel
theorem dX7_consider_265 : decode cX7_consider 265 = .ok (.iload_n 2, 1) := by decide +kernel
theorem dX7_consider_266 : decode cX7_consider 266 = .ok (.iastore, 1) := by decide +kernel
theorem dX7_consider_267 : decode cX7_consider 267 = .ok (.aload_n 0, 1) := by decide +kernel
theorem dX7_consider_268 : decode cX7_consider 268 = .ok (.getfield 21, 3) := by decide +kernel
theorem dX7_consider_271 : decode cX7_consider 271 = .ok (.iconst 2, 1) := by decide +kernel
theorem dX7_consider_272 : decode cX7_consider 272 = .ok (.iload_n 3, 1) := by decide +kernel
theorem dX7_consider_273 : decode cX7_consider 273 = .ok (.iastore, 1) := by decide +kernel
theorem dX7_consider_274 : decode cX7_consider 274 = .ok (.return_, 1) := by decide +kernel
theorem dX7_together_0 : decode cX7_together 0 = .ok (.iload_n 0, 1) := by decide +kernel
theorem dX7_together_1 : decode cX7_together 1 = .ok (.ldc 27, 2) := by decide +kernel
theorem dX7_together_3 : decode cX7_together 3 = .ok (.if_icmp .eq 15, 3) := by decide +kernel
theorem dX7_together_6 : decode cX7_together 6 = .ok (.iload_n 1, 1) := by decide +kernel
theorem dX7_together_7 : decode cX7_together 7 = .ok (.ldc 27, 2) := by decide +kernel
theorem dX7_together_9 : decode cX7_together 9 = .ok (.if_icmp .eq 9, 3) := by decide +kernel
theorem dX7_together_12 : decode cX7_together 12 = .ok (.iload_n 2, 1) := by decide +kernel
theorem dX7_together_13 : decode cX7_together 13 = .ok (.ldc 27, 2) := by decide +kernel
theorem dX7_together_15 : decode cX7_together 15 = .ok (.if_icmp .ne 6, 3) := by decide +kernel
theorem dX7_together_18 : decode cX7_together 18 = .ok (.ldc 27, 2) := by decide +kernel
theorem dX7_together_20 : decode cX7_together 20 = .ok (.ireturn, 1) := by decide +kernel
theorem dX7_together_21 : decode cX7_together 21 = .ok (.iload_n 0, 1) := by decide +kernel
theorem dX7_together_22 : decode cX7_together 22 = .ok (.iload_n 1, 1) := by decide +kernel
theorem dX7_together_23 : decode cX7_together 23 = .ok (.iadd, 1) := by decide +kernel
theorem dX7_together_24 : decode cX7_together 24 = .ok (.iload_n 2, 1) := by decide +kernel
theorem dX7_together_25 : decode cX7_together 25 = .ok (.iadd, 1) := by decide +kernel
theorem dX7_together_26 : decode cX7_together 26 = .ok (.ireturn, 1) := by decide +kernel
theorem dX7_priceOf_0 : decode cX7_priceOf 0 = .ok (.aload_n 0, 1) := by decide +kernel
theorem dX7_priceOf_1 : decode cX7_priceOf 1 = .ok (.getfield 28, 3) := by decide +kernel
theorem dX7_priceOf_4 : decode cX7_priceOf 4 = .ok (.ldc 27, 2) := by decide +kernel
theorem dX7_priceOf_6 : decode cX7_priceOf 6 = .ok (.if_icmp .eq 16, 3) := by decide +kernel
theorem dX7_priceOf_9 : decode cX7_priceOf 9 = .ok (.aload_n 0, 1) := by decide +kernel
theorem dX7_priceOf_10 : decode cX7_priceOf 10 = .ok (.getfield 24, 3) := by decide +kernel
theorem dX7_priceOf_13 : decode cX7_priceOf 13 = .ok (.iload_n 1, 1) := by decide +kernel
theorem dX7_priceOf_14 : decode cX7_priceOf 14 = .ok (.iaload, 1) := by decide +kernel
theorem dX7_priceOf_15 : decode cX7_priceOf 15 = .ok (.aload_n 0, 1) := by decide +kernel
theorem dX7_priceOf_16 : decode cX7_priceOf 16 = .ok (.getfield 28, 3) := by decide +kernel
theorem dX7_priceOf_19 : decode cX7_priceOf 19 = .ok (.if_icmp .ge 7, 3) := by decide +kernel
theorem dX7_priceOf_22 : decode cX7_priceOf 22 = .ok (.iconst 0, 1) := by decide +kernel
theorem dX7_priceOf_23 : decode cX7_priceOf 23 = .ok (.goto 14, 3) := by decide +kernel
theorem dX7_priceOf_26 : decode cX7_priceOf 26 = .ok (.aload_n 0, 1) := by decide +kernel
theorem dX7_priceOf_27 : decode cX7_priceOf 27 = .ok (.getfield 24, 3) := by decide +kernel
theorem dX7_priceOf_30 : decode cX7_priceOf 30 = .ok (.iload_n 1, 1) := by decide +kernel
theorem dX7_priceOf_31 : decode cX7_priceOf 31 = .ok (.iaload, 1) := by decide +kernel
theorem dX7_priceOf_32 : decode cX7_priceOf 32 = .ok (.aload_n 0, 1) := by decide +kernel
theorem dX7_priceOf_33 : decode cX7_priceOf 33 = .ok (.getfield 28, 3) := by decide +kernel
theorem dX7_priceOf_36 : decode cX7_priceOf 36 = .ok (.isub, 1) := by decide +kernel
theorem dX7_priceOf_37 : decode cX7_priceOf 37 = .ok (.ireturn, 1) := by decide +kernel
theorem dX8_init_0 : decode cX8_init 0 = .ok (.aload_n 0, 1) := by decide +kernel
theorem dX8_init_1 : decode cX8_init 1 = .ok (.invokespecial 3, 3) := by decide +kernel
theorem dX8_init_4 : decode cX8_init 4 = .ok (.aload_n 0, 1) := by decide +kernel
theorem dX8_init_5 : decode cX8_init 5 = .ok (.iconst 0, 1) := by decide +kernel
theorem dX8_init_6 : decode cX8_init 6 = .ok (.putfield 9, 3) := by decide +kernel
theorem dX8_init_9 : decode cX8_init 9 = .ok (.aload_n 0, 1) := by decide +kernel
theorem dX8_init_10 : decode cX8_init 10 = .ok (.iload_n 1, 1) := by decide +kernel
theorem dX8_init_11 : decode cX8_init 11 = .ok (.newarray .int, 2) := by decide +kernel
theorem dX8_init_13 : decode cX8_init 13 = .ok (.putfield 15, 3) := by decide +kernel
theorem dX8_init_16 : decode cX8_init 16 = .ok (.aload_n 0, 1) := by decide +kernel
theorem dX8_init_17 : decode cX8_init 17 = .ok (.iload_n 1, 1) := by decide +kernel
theorem dX8_init_18 : decode cX8_init 18 = .ok (.newarray .int, 2) := by decide +kernel
theorem dX8_init_20 : decode cX8_init 20 = .ok (.putfield 19, 3) := by decide +kernel
theorem dX8_init_23 : decode cX8_init 23 = .ok (.aload_n 0, 1) := by decide +kernel
theorem dX8_init_24 : decode cX8_init 24 = .ok (.iload_n 1, 1) := by decide +kernel
theorem dX8_init_25 : decode cX8_init 25 = .ok (.newarray .int, 2) := by decide +kernel
theorem dX8_init_27 : decode cX8_init 27 = .ok (.putfield 22, 3) := by decide +kernel
theorem dX8_init_30 : decode cX8_init 30 = .ok (.aload_n 0, 1) := by decide +kernel
theorem dX8_init_31 : decode cX8_init 31 = .ok (.iload_n 1, 1) := by decide +kernel
theorem dX8_init_32 : decode cX8_init 32 = .ok (.newarray .boolean, 2) := by decide +kernel
theorem dX8_init_34 : decode cX8_init 34 = .ok (.putfield 25, 3) := by decide +kernel
theorem dX8_init_37 : decode cX8_init 37 = .ok (.aload_n 0, 1) := by decide +kernel
theorem dX8_init_38 : decode cX8_init 38 = .ok (.iload_n 1, 1) := by decide +kernel
theorem dX8_init_39 : decode cX8_init 39 = .ok (.newarray .int, 2) := by decide +kernel
theorem dX8_init_41 : decode cX8_init 41 = .ok (.putfield 29, 3) := by decide +kernel
theorem dX8_init_44 : decode cX8_init 44 = .ok (.aload_n 0, 1) := by decide +kernel
theorem dX8_init_45 : decode cX8_init 45 = .ok (.iload_n 1, 1) := by decide +kernel
theorem dX8_init_46 : decode cX8_init 46 = .ok (.newarray .int, 2) := by decide +kernel
theorem dX8_init_48 : decode cX8_init 48 = .ok (.putfield 32, 3) := by decide +kernel
theorem dX8_init_51 : decode cX8_init 51 = .ok (.aload_n 0, 1) := by decide +kernel
theorem dX8_init_52 : decode cX8_init 52 = .ok (.iload_n 1, 1) := by decide +kernel
theorem dX8_init_53 : decode cX8_init 53 = .ok (.newarray .int, 2) := by decide +kernel
theorem dX8_init_55 : decode cX8_init 55 = .ok (.putfield 35, 3) := by decide +kernel
theorem dX8_init_58 : decode cX8_init 58 = .ok (.aload_n 0, 1) := by decide +kernel
theorem dX8_init_59 : decode cX8_init 59 = .ok (.iload_n 1, 1) := by decide +kernel
theorem dX8_init_60 : decode cX8_init 60 = .ok (.newarray .int, 2) := by decide +kernel
theorem dX8_init_62 : decode cX8_init 62 = .ok (.putfield 38, 3) := by decide +kernel
theorem dX8_init_65 : decode cX8_init 65 = .ok (.return_, 1) := by decide +kernel
theorem dX8_hasRoom_0 : decode cX8_hasRoom 0 = .ok (.aload_n 0, 1) := by decide +kernel
theorem dX8_hasRoom_1 : decode cX8_hasRoom 1 = .ok (.getfield 9, 3) := by decide +kernel
theorem dX8_hasRoom_4 : decode cX8_hasRoom 4 = .ok (.aload_n 0, 1) := by decide +kernel
theorem dX8_hasRoom_5 : decode cX8_hasRoom 5 = .ok (.getfield 38, 3) := by decide +kernel
theorem dX8_hasRoom_8 : decode cX8_hasRoom 8 = .ok (.arraylength, 1) := by decide +kernel
theorem dX8_hasRoom_9 : decode cX8_hasRoom 9 = .ok (.if_icmp .ge 7, 3) := by decide +kernel
theorem dX8_hasRoom_12 : decode cX8_hasRoom 12 = .ok (.iconst 1, 1) := by decide +kernel
theorem dX8_hasRoom_13 : decode cX8_hasRoom 13 = .ok (.goto 4, 3) := by decide +kernel
theorem dX8_hasRoom_16 : decode cX8_hasRoom 16 = .ok (.iconst 0, 1) := by decide +kernel
theorem dX8_hasRoom_17 : decode cX8_hasRoom 17 = .ok (.ireturn, 1) := by decide +kernel
theorem dX8_used_0 : decode cX8_used 0 = .ok (.aload_n 0, 1) := by decide +kernel
theorem dX8_used_1 : decode cX8_used 1 = .ok (.getfield 32, 3) := by decide +kernel
theorem dX8_used_4 : decode cX8_used 4 = .ok (.iload_n 1, 1) := by decide +kernel
theorem dX8_used_5 : decode cX8_used 5 = .ok (.iaload, 1) := by decide +kernel
theorem dX8_used_6 : decode cX8_used 6 = .ok (.aload_n 0, 1) := by decide +kernel
theorem dX8_used_7 : decode cX8_used 7 = .ok (.getfield 35, 3) := by decide +kernel
theorem dX8_used_10 : decode cX8_used 10 = .ok (.iload_n 1, 1) := by decide +kernel
theorem dX8_used_11 : decode cX8_used 11 = .ok (.iaload, 1) := by decide +kernel
theorem dX8_used_12 : decode cX8_used 12 = .ok (.isub, 1) := by decide +kernel
theorem dX8_used_13 : decode cX8_used 13 = .ok (.ireturn, 1) := by decide +kernel
set_option maxRecDepth 20000 in
theorem ggX8_add_X8_hasRoom : GoodIn wsX8_add wsX8_hasRoom := goodIn_r _ [13, 1, 14, 23, 24, 25, 26, 27, 28, 29, 30, 31] (by decide +kernel) (by decide +kernel)
set_option maxRecDepth 20000 in
theorem gX8_add_X8_hasRoom : GoodIn wsX8_add (wsV RX8 41 RX8 yX8_hasRoom wsX8_hasRoom) := goodIn_app (goodIn_of _ (by decide +kernel)) ggX8_add_X8_hasRoom
set_option maxRecDepth 20000 in
theorem ggX8_add_X8_rank : GoodIn wsX8_add wsX8_rank := goodIn_r _ [18, 14, 19, 20, 21, 12, 22, 5, 6, 23, 24, 25, 26, 27, 28, 29, 30, 31] (by decide +kernel) (by decide +kernel)
set_option maxRecDepth 20000 in
theorem gX8_add_X8_rank : GoodIn wsX8_add (wsV RX8 45 RX8 yX8_rank wsX8_rank) := goodIn_app (goodIn_of _ (by decide +kernel)) ggX8_add_X8_rank
theorem dX8_add_0 : decode cX8_add 0 = .ok (.aload_n 0, 1) := by decide +kernel
theorem dX8_add_1 : decode cX8_add 1 = .ok (.invokevirtual 41, 3) := by decide +kernel
theorem dX8_add_4 : decode cX8_add 4 = .ok (.ifCond .ne 5, 3) := by decide +kernel
theorem dX8_add_7 : decode cX8_add 7 = .ok (.iconst (-1), 1) := by decide +kernel
theorem dX8_add_8 : decode cX8_add 8 = .ok (.ireturn, 1) := by decide +kernel
theorem dX8_add_9 : decode cX8_add 9 = .ok (.aload_n 0, 1) := by decide +kernel
theorem dX8_add_10 : decode cX8_add 10 = .ok (.getfield 9, 3) := by decide +kernel
theorem dX8_add_13 : decode cX8_add 13 = .ok (.istore 7, 2) := by decide +kernel
theorem dX8_add_15 : decode cX8_add 15 = .ok (.aload_n 0, 1) := by decide +kernel
theorem dX8_add_16 : decode cX8_add 16 = .ok (.getfield 15, 3) := by decide +kernel
theorem dX8_add_19 : decode cX8_add 19 = .ok (.iload 7, 2) := by decide +kernel
theorem dX8_add_21 : decode cX8_add 21 = .ok (.iload_n 1, 1) := by decide +kernel
theorem dX8_add_22 : decode cX8_add 22 = .ok (.iastore, 1) := by decide +kernel
theorem dX8_add_23 : decode cX8_add 23 = .ok (.aload_n 0, 1) := by decide +kernel
theorem dX8_add_24 : decode cX8_add 24 = .ok (.getfield 19, 3) := by decide +kernel
theorem dX8_add_27 : decode cX8_add 27 = .ok (.iload 7, 2) := by decide +kernel
theorem dX8_add_29 : decode cX8_add 29 = .ok (.iload_n 2, 1) := by decide +kernel
theorem dX8_add_30 : decode cX8_add 30 = .ok (.iastore, 1) := by decide +kernel
theorem dX8_add_31 : decode cX8_add 31 = .ok (.aload_n 0, 1) := by decide +kernel
theorem dX8_add_32 : decode cX8_add 32 = .ok (.getfield 22, 3) := by decide +kernel
theorem dX8_add_35 : decode cX8_add 35 = .ok (.iload 7, 2) := by decide +kernel
theorem dX8_add_37 : decode cX8_add 37 = .ok (.iload_n 3, 1) := by decide +kernel
theorem dX8_add_38 : decode cX8_add 38 = .ok (.iastore, 1) := by decide +kernel
theorem dX8_add_39 : decode cX8_add 39 = .ok (.aload_n 0, 1) := by decide +kernel
theorem dX8_add_40 : decode cX8_add 40 = .ok (.getfield 25, 3) := by decide +kernel
theorem dX8_add_43 : decode cX8_add 43 = .ok (.iload 7, 2) := by decide +kernel
theorem dX8_add_45 : decode cX8_add 45 = .ok (.iload 4, 2) := by decide +kernel
theorem dX8_add_47 : decode cX8_add 47 = .ok (.bastore, 1) := by decide +kernel
theorem dX8_add_48 : decode cX8_add 48 = .ok (.aload_n 0, 1) := by decide +kernel
theorem dX8_add_49 : decode cX8_add 49 = .ok (.getfield 29, 3) := by decide +kernel
theorem dX8_add_52 : decode cX8_add 52 = .ok (.iload 7, 2) := by decide +kernel
theorem dX8_add_54 : decode cX8_add 54 = .ok (.iload 5, 2) := by decide +kernel
theorem dX8_add_56 : decode cX8_add 56 = .ok (.iastore, 1) := by decide +kernel
theorem dX8_add_57 : decode cX8_add 57 = .ok (.aload_n 0, 1) := by decide +kernel
theorem dX8_add_58 : decode cX8_add 58 = .ok (.getfield 32, 3) := by decide +kernel
theorem dX8_add_61 : decode cX8_add 61 = .ok (.iload 7, 2) := by decide +kernel
theorem dX8_add_63 : decode cX8_add 63 = .ok (.iload 6, 2) := by decide +kernel
theorem dX8_add_65 : decode cX8_add 65 = .ok (.iastore, 1) := by decide +kernel
theorem dX8_add_66 : decode cX8_add 66 = .ok (.aload_n 0, 1) := by decide +kernel
theorem dX8_add_67 : decode cX8_add 67 = .ok (.getfield 35, 3) := by decide +kernel
theorem dX8_add_70 : decode cX8_add 70 = .ok (.iload 7, 2) := by decide +kernel
theorem dX8_add_72 : decode cX8_add 72 = .ok (.iload 6, 2) := by decide +kernel
theorem dX8_add_74 : decode cX8_add 74 = .ok (.iastore, 1) := by decide +kernel
theorem dX8_add_75 : decode cX8_add 75 = .ok (.aload_n 0, 1) := by decide +kernel
theorem dX8_add_76 : decode cX8_add 76 = .ok (.iload 7, 2) := by decide +kernel
theorem dX8_add_78 : decode cX8_add 78 = .ok (.invokevirtual 45, 3) := by decide +kernel
theorem dX8_add_81 : decode cX8_add 81 = .ok (.aload_n 0, 1) := by decide +kernel
theorem dX8_add_82 : decode cX8_add 82 = .ok (.dup, 1) := by decide +kernel
theorem dX8_add_83 : decode cX8_add 83 = .ok (.getfield 9, 3) := by decide +kernel
theorem dX8_add_86 : decode cX8_add 86 = .ok (.iconst 1, 1) := by decide +kernel
theorem dX8_add_87 : decode cX8_add 87 = .ok (.iadd, 1) := by decide +kernel
theorem dX8_add_88 : decode cX8_add 88 = .ok (.putfield 9, 3) := by decide +kernel
theorem dX8_add_91 : decode cX8_add 91 = .ok (.iload 7, 2) := by decide +kernel
theorem dX8_add_93 : decode cX8_add 93 = .ok (.ireturn, 1) := by decide +kernel
set_option maxRecDepth 20000 in
theorem ggX8_rank_X8_costOf : GoodIn wsX8_rank wsX8_costOf := goodIn_r _ [6, 7, 8, 9, 10, 11, 12, 13, 14, 15, 16, 17] (by decide +kernel) (by decide +kernel)
set_option maxRecDepth 20000 in
theorem gX8_rank_X8_costOf : GoodIn wsX8_rank (wsV RX8 49 RX8 yX8_costOf wsX8_costOf) := goodIn_app (goodIn_of _ (by decide +kernel)) ggX8_rank_X8_costOf
theorem dX8_rank_0 : decode cX8_rank 0 = .ok (.iload_n 1, 1) := by decide +kernel
theorem dX8_rank_1 : decode cX8_rank 1 = .ok (.istore_n 2, 1) := by decide +kernel
theorem dX8_rank_2 : decode cX8_rank 2 = .ok (.iload_n 2, 1) := by decide +kernel
theorem dX8_rank_3 : decode cX8_rank 3 = .ok (.ifCond .le 43, 3) := by decide +kernel
theorem dX8_rank_6 : decode cX8_rank 6 = .ok (.aload_n 0, 1) := by decide +kernel
theorem dX8_rank_7 : decode cX8_rank 7 = .ok (.aload_n 0, 1) := by decide +kernel
theorem dX8_rank_8 : decode cX8_rank 8 = .ok (.getfield 38, 3) := by decide +kernel
theorem dX8_rank_11 : decode cX8_rank 11 = .ok (.iload_n 2, 1) := by decide +kernel
theorem dX8_rank_12 : decode cX8_rank 12 = .ok (.iconst 1, 1) := by decide +kernel
theorem dX8_rank_13 : decode cX8_rank 13 = .ok (.isub, 1) := by decide +kernel
theorem dX8_rank_14 : decode cX8_rank 14 = .ok (.iaload, 1) := by decide +kernel
theorem dX8_rank_15 : decode cX8_rank 15 = .ok (.invokevirtual 49, 3) := by decide +kernel
theorem dX8_rank_18 : decode cX8_rank 18 = .ok (.aload_n 0, 1) := by decide +kernel
theorem dX8_rank_19 : decode cX8_rank 19 = .ok (.iload_n 1, 1) := by decide +kernel
theorem dX8_rank_20 : decode cX8_rank 20 = .ok (.invokevirtual 49, 3) := by decide +kernel
theorem dX8_rank_23 : decode cX8_rank 23 = .ok (.if_icmp .le 23, 3) := by decide +kernel
theorem dX8_rank_26 : decode cX8_rank 26 = .ok (.aload_n 0, 1) := by decide +kernel
theorem dX8_rank_27 : decode cX8_rank 27 = .ok (.getfield 38, 3) := by decide +kernel
theorem dX8_rank_30 : decode cX8_rank 30 = .ok (.iload_n 2, 1) := by decide +kernel
theorem dX8_rank_31 : decode cX8_rank 31 = .ok (.aload_n 0, 1) := by decide +kernel
theorem dX8_rank_32 : decode cX8_rank 32 = .ok (.getfield 38, 3) := by decide +kernel
theorem dX8_rank_35 : decode cX8_rank 35 = .ok (.iload_n 2, 1) := by decide +kernel
theorem dX8_rank_36 : decode cX8_rank 36 = .ok (.iconst 1, 1) := by decide +kernel
theorem dX8_rank_37 : decode cX8_rank 37 = .ok (.isub, 1) := by decide +kernel
theorem dX8_rank_38 : decode cX8_rank 38 = .ok (.iaload, 1) := by decide +kernel
theorem dX8_rank_39 : decode cX8_rank 39 = .ok (.iastore, 1) := by decide +kernel
theorem dX8_rank_40 : decode cX8_rank 40 = .ok (.iinc 2 (-1), 3) := by decide +kernel
theorem dX8_rank_43 : decode cX8_rank 43 = .ok (.goto (-41), 3) := by decide +kernel
theorem dX8_rank_46 : decode cX8_rank 46 = .ok (.aload_n 0, 1) := by decide +kernel
theorem dX8_rank_47 : decode cX8_rank 47 = .ok (.getfield 38, 3) := by decide +kernel
theorem dX8_rank_50 : decode cX8_rank 50 = .ok (.iload_n 2, 1) := by decide +kernel
theorem dX8_rank_51 : decode cX8_rank 51 = .ok (.iload_n 1, 1) := by decide +kernel
theorem dX8_rank_52 : decode cX8_rank 52 = .ok (.iastore, 1) := by decide +kernel
theorem dX8_rank_53 : decode cX8_rank 53 = .ok (.return_, 1) := by decide +kernel
theorem dX8_costOf_0 : decode cX8_costOf 0 = .ok (.aload_n 0, 1) := by decide +kernel
theorem dX8_costOf_1 : decode cX8_costOf 1 = .ok (.getfield 25, 3) := by decide +kernel
theorem dX8_costOf_4 : decode cX8_costOf 4 = .ok (.iload_n 1, 1) := by decide +kernel
theorem dX8_costOf_5 : decode cX8_costOf 5 = .ok (.baload, 1) := by decide +kernel
theorem dX8_costOf_6 : decode cX8_costOf 6 = .ok (.ifCond .eq 13, 3) := by decide +kernel
theorem dX8_costOf_9 : decode cX8_costOf 9 = .ok (.aload_n 0, 1) := by decide +kernel
theorem dX8_costOf_10 : decode cX8_costOf 10 = .ok (.getfield 29, 3) := by decide +kernel
theorem dX8_costOf_13 : decode cX8_costOf 13 = .ok (.iload_n 1, 1) := by decide +kernel
theorem dX8_costOf_14 : decode cX8_costOf 14 = .ok (.iaload, 1) := by decide +kernel
theorem dX8_costOf_15 : decode cX8_costOf 15 = .ok (.ineg, 1) := by decide +kernel
theorem dX8_costOf_16 : decode cX8_costOf 16 = .ok (.goto 9, 3) := by decide +kernel
theorem dX8_costOf_19 : decode cX8_costOf 19 = .ok (.aload_n 0, 1) := by decide +kernel
theorem dX8_costOf_20 : decode cX8_costOf 20 = .ok (.getfield 29, 3) := by decide +kernel
theorem dX8_costOf_23 : decode cX8_costOf 23 = .ok (.iload_n 1, 1) := by decide +kernel
theorem dX8_costOf_24 : decode cX8_costOf 24 = .ok (.iaload, 1) := by decide +kernel
theorem dX8_costOf_25 : decode cX8_costOf 25 = .ok (.ireturn, 1) := by decide +kernel
set_option maxRecDepth 20000 in
theorem ggX8_fits_X8_costOf : GoodIn wsX8_fits wsX8_costOf := goodIn_r _ [9, 1, 10, 11, 12, 13, 14, 15, 16, 17, 18, 19] (by decide +kernel) (by decide +kernel)
set_option maxRecDepth 20000 in
theorem gX8_fits_X8_costOf : GoodIn wsX8_fits (wsV RX8 49 RX8 yX8_costOf wsX8_costOf) := goodIn_app (goodIn_of _ (by decide +kernel)) ggX8_fits_X8_costOf
theorem dX8_fits_0 : decode cX8_fits 0 = .ok (.aload_n 0, 1) := by decide +kernel
theorem dX8_fits_1 : decode cX8_fits 1 = .ok (.getfield 25, 3) := by decide +kernel
theorem dX8_fits_4 : decode cX8_fits 4 = .ok (.iload_n 1, 1) := by decide +kernel
theorem dX8_fits_5 : decode cX8_fits 5 = .ok (.baload, 1) := by decide +kernel
theorem dX8_fits_6 : decode cX8_fits 6 = .ok (.aload_n 0, 1) := by decide +kernel
theorem dX8_fits_7 : decode cX8_fits 7 = .ok (.getfield 25, 3) := by decide +kernel
theorem dX8_fits_10 : decode cX8_fits 10 = .ok (.iload_n 2, 1) := by decide +kernel
theorem dX8_fits_11 : decode cX8_fits 11 = .ok (.baload, 1) := by decide +kernel
theorem dX8_fits_12 : decode cX8_fits 12 = .ok (.if_icmp .eq 60, 3) := by decide +kernel
theorem dX8_fits_15 : decode cX8_fits 15 = .ok (.aload_n 0, 1) := by decide +kernel
theorem dX8_fits_16 : decode cX8_fits 16 = .ok (.getfield 22, 3) := by decide +kernel
theorem dX8_fits_19 : decode cX8_fits 19 = .ok (.iload_n 1, 1) := by decide +kernel
theorem dX8_fits_20 : decode cX8_fits 20 = .ok (.iaload, 1) := by decide +kernel
theorem dX8_fits_21 : decode cX8_fits 21 = .ok (.aload_n 0, 1) := by decide +kernel
theorem dX8_fits_22 : decode cX8_fits 22 = .ok (.getfield 22, 3) := by decide +kernel
theorem dX8_fits_25 : decode cX8_fits 25 = .ok (.iload_n 2, 1) := by decide +kernel
theorem dX8_fits_26 : decode cX8_fits 26 = .ok (.iaload, 1) := by decide +kernel
theorem dX8_fits_27 : decode cX8_fits 27 = .ok (.if_icmp .ne 45, 3) := by decide +kernel
theorem dX8_fits_30 : decode cX8_fits 30 = .ok (.aload_n 0, 1) := by decide +kernel
theorem dX8_fits_31 : decode cX8_fits 31 = .ok (.getfield 15, 3) := by decide +kernel
theorem dX8_fits_34 : decode cX8_fits 34 = .ok (.iload_n 1, 1) := by decide +kernel
theorem dX8_fits_35 : decode cX8_fits 35 = .ok (.iaload, 1) := by decide +kernel
theorem dX8_fits_36 : decode cX8_fits 36 = .ok (.aload_n 0, 1) := by decide +kernel
theorem dX8_fits_37 : decode cX8_fits 37 = .ok (.getfield 15, 3) := by decide +kernel
theorem dX8_fits_40 : decode cX8_fits 40 = .ok (.iload_n 2, 1) := by decide +kernel
theorem dX8_fits_41 : decode cX8_fits 41 = .ok (.iaload, 1) := by decide +kernel
theorem dX8_fits_42 : decode cX8_fits 42 = .ok (.if_icmp .eq 30, 3) := by decide +kernel
theorem dX8_fits_45 : decode cX8_fits 45 = .ok (.aload_n 0, 1) := by decide +kernel
theorem dX8_fits_46 : decode cX8_fits 46 = .ok (.getfield 35, 3) := by decide +kernel
theorem dX8_fits_49 : decode cX8_fits 49 = .ok (.iload_n 2, 1) := by decide +kernel
theorem dX8_fits_50 : decode cX8_fits 50 = .ok (.iaload, 1) := by decide +kernel
theorem dX8_fits_51 : decode cX8_fits 51 = .ok (.ifCond .le 21, 3) := by decide +kernel
theorem dX8_fits_54 : decode cX8_fits 54 = .ok (.aload_n 0, 1) := by decide +kernel
theorem dX8_fits_55 : decode cX8_fits 55 = .ok (.iload_n 1, 1) := by decide +kernel
theorem dX8_fits_56 : decode cX8_fits 56 = .ok (.invokevirtual 49, 3) := by decide +kernel
theorem dX8_fits_59 : decode cX8_fits 59 = .ok (.aload_n 0, 1) := by decide +kernel
theorem dX8_fits_60 : decode cX8_fits 60 = .ok (.iload_n 2, 1) := by decide +kernel
theorem dX8_fits_61 : decode cX8_fits 61 = .ok (.invokevirtual 49, 3) := by decide +kernel
theorem dX8_fits_64 : decode cX8_fits 64 = .ok (.iadd, 1) := by decide +kernel
theorem dX8_fits_65 : decode cX8_fits 65 = .ok (.ifCond .gt 7, 3) := by decide +kernel
theorem dX8_fits_68 : decode cX8_fits 68 = .ok (.iconst 1, 1) := by decide +kernel
theorem dX8_fits_69 : decode cX8_fits 69 = .ok (.goto 4, 3) := by decide +kernel
theorem dX8_fits_72 : decode cX8_fits 72 = .ok (.iconst 0, 1) := by decide +kernel
theorem dX8_fits_73 : decode cX8_fits 73 = .ok (.ireturn, 1) := by decide +kernel
theorem dX8_isIn_0 : decode cX8_isIn 0 = .ok (.aload_n 0, 1) := by decide +kernel
theorem dX8_isIn_1 : decode cX8_isIn 1 = .ok (.getfield 19, 3) := by decide +kernel
theorem dX8_isIn_4 : decode cX8_isIn 4 = .ok (.iload_n 1, 1) := by decide +kernel
theorem dX8_isIn_5 : decode cX8_isIn 5 = .ok (.iaload, 1) := by decide +kernel
theorem dX8_isIn_6 : decode cX8_isIn 6 = .ok (.iload_n 2, 1) := by decide +kernel
theorem dX8_isIn_7 : decode cX8_isIn 7 = .ok (.if_icmp .ne 17, 3) := by decide +kernel
theorem dX8_isIn_10 : decode cX8_isIn 10 = .ok (.aload_n 0, 1) := by decide +kernel
theorem dX8_isIn_11 : decode cX8_isIn 11 = .ok (.getfield 22, 3) := by decide +kernel
theorem dX8_isIn_14 : decode cX8_isIn 14 = .ok (.iload_n 1, 1) := by decide +kernel
theorem dX8_isIn_15 : decode cX8_isIn 15 = .ok (.iaload, 1) := by decide +kernel
theorem dX8_isIn_16 : decode cX8_isIn 16 = .ok (.iload_n 3, 1) := by decide +kernel
theorem dX8_isIn_17 : decode cX8_isIn 17 = .ok (.if_icmp .ne 7, 3) := by decide +kernel
theorem dX8_isIn_20 : decode cX8_isIn 20 = .ok (.iconst 1, 1) := by decide +kernel
theorem dX8_isIn_21 : decode cX8_isIn 21 = .ok (.goto 4, 3) := by decide +kernel
theorem dX8_isIn_24 : decode cX8_isIn 24 = .ok (.iconst 0, 1) := by decide +kernel
theorem dX8_isIn_25 : decode cX8_isIn 25 = .ok (.ireturn, 1) := by decide +kernel
set_option maxRecDepth 20000 in
theorem ggX8_take_X8_isIn : GoodIn wsX8_take wsX8_isIn := goodIn_r _ [14, 15, 16, 17, 18, 19, 20, 21, 22, 23, 24, 25] (by decide +kernel) (by decide +kernel)
set_option maxRecDepth 20000 in
theorem gX8_take_X8_isIn : GoodIn wsX8_take (wsV RX8 53 RX8 yX8_isIn wsX8_isIn) := goodIn_app (goodIn_of _ (by decide +kernel)) ggX8_take_X8_isIn
theorem dX8_take_0 : decode cX8_take 0 = .ok (.iload_n 3, 1) := by decide +kernel
theorem dX8_take_1 : decode cX8_take 1 = .ok (.istore 5, 2) := by decide +kernel
theorem dX8_take_3 : decode cX8_take 3 = .ok (.iload 4, 2) := by decide +kernel
theorem dX8_take_5 : decode cX8_take 5 = .ok (.istore 6, 2) := by decide +kernel
theorem dX8_take_7 : decode cX8_take 7 = .ok (.iconst 0, 1) := by decide +kernel
theorem dX8_take_8 : decode cX8_take 8 = .ok (.istore 7, 2) := by decide +kernel
theorem dX8_take_10 : decode cX8_take 10 = .ok (.iload 7, 2) := by decide +kernel
theorem dX8_take_12 : decode cX8_take 12 = .ok (.aload_n 0, 1) := by decide +kernel
theorem dX8_take_13 : decode cX8_take 13 = .ok (.getfield 9, 3) := by decide +kernel
theorem dX8_take_16 : decode cX8_take 16 = .ok (.if_icmp .ge 117, 3) := by decide +kernel
theorem dX8_take_19 : decode cX8_take 19 = .ok (.aload_n 0, 1) := by decide +kernel
theorem dX8_take_20 : decode cX8_take 20 = .ok (.getfield 38, 3) := by decide +kernel
theorem dX8_take_23 : decode cX8_take 23 = .ok (.iload 7, 2) := by decide +kernel
theorem dX8_take_25 : decode cX8_take 25 = .ok (.iaload, 1) := by decide +kernel
theorem dX8_take_26 : decode cX8_take 26 = .ok (.istore 8, 2) := by decide +kernel
theorem dX8_take_28 : decode cX8_take 28 = .ok (.aload_n 0, 1) := by decide +kernel
theorem dX8_take_29 : decode cX8_take 29 = .ok (.iload 8, 2) := by decide +kernel
theorem dX8_take_31 : decode cX8_take 31 = .ok (.iload_n 1, 1) := by decide +kernel
theorem dX8_take_32 : decode cX8_take 32 = .ok (.iload_n 2, 1) := by decide +kernel
theorem dX8_take_33 : decode cX8_take 33 = .ok (.invokevirtual 53, 3) := by decide +kernel
theorem dX8_take_36 : decode cX8_take 36 = .ok (.ifCond .eq 91, 3) := by decide +kernel
theorem dX8_take_39 : decode cX8_take 39 = .ok (.aload_n 0, 1) := by decide +kernel
theorem dX8_take_40 : decode cX8_take 40 = .ok (.getfield 32, 3) := by decide +kernel
theorem dX8_take_43 : decode cX8_take 43 = .ok (.iload 8, 2) := by decide +kernel
theorem dX8_take_45 : decode cX8_take 45 = .ok (.iaload, 1) := by decide +kernel
theorem dX8_take_46 : decode cX8_take 46 = .ok (.aload_n 0, 1) := by decide +kernel
theorem dX8_take_47 : decode cX8_take 47 = .ok (.getfield 25, 3) := by decide +kernel
theorem dX8_take_50 : decode cX8_take 50 = .ok (.iload 8, 2) := by decide +kernel
theorem dX8_take_52 : decode cX8_take 52 = .ok (.baload, 1) := by decide +kernel
theorem dX8_take_53 : decode cX8_take 53 = .ok (.ifCond .eq 8, 3) := by decide +kernel
theorem dX8_take_56 : decode cX8_take 56 = .ok (.iload 5, 2) := by decide +kernel
theorem dX8_take_58 : decode cX8_take 58 = .ok (.goto 5, 3) := by decide +kernel
theorem dX8_take_61 : decode cX8_take 61 = .ok (.iload 6, 2) := by decide +kernel
theorem dX8_take_63 : decode cX8_take 63 = .ok (.invokestatic 57, 3) := by decide +kernel
theorem dX8_take_66 : decode cX8_take 66 = .ok (.istore 9, 2) := by decide +kernel
theorem dX8_take_68 : decode cX8_take 68 = .ok (.aload_n 0, 1) := by decide +kernel
theorem dX8_take_69 : decode cX8_take 69 = .ok (.getfield 35, 3) := by decide +kernel
theorem dX8_take_72 : decode cX8_take 72 = .ok (.iload 8, 2) := by decide +kernel
theorem dX8_take_74 : decode cX8_take 74 = .ok (.aload_n 0, 1) := by decide +kernel
theorem dX8_take_75 : decode cX8_take 75 = .ok (.getfield 32, 3) := by decide +kernel
theorem dX8_take_78 : decode cX8_take 78 = .ok (.iload 8, 2) := by decide +kernel
theorem dX8_take_80 : decode cX8_take 80 = .ok (.iaload, 1) := by decide +kernel
theorem dX8_take_81 : decode cX8_take 81 = .ok (.iload 9, 2) := by decide +kernel
theorem dX8_take_83 : decode cX8_take 83 = .ok (.isub, 1) := by decide +kernel
theorem dX8_take_84 : decode cX8_take 84 = .ok (.iastore, 1) := by decide +kernel
theorem dX8_take_85 : decode cX8_take 85 = .ok (.iload 5, 2) := by decide +kernel
theorem dX8_take_87 : decode cX8_take 87 = .ok (.aload_n 0, 1) := by decide +kernel
theorem dX8_take_88 : decode cX8_take 88 = .ok (.getfield 25, 3) := by decide +kernel
theorem dX8_take_91 : decode cX8_take 91 = .ok (.iload 8, 2) := by decide +kernel
theorem dX8_take_93 : decode cX8_take 93 = .ok (.baload, 1) := by decide +kernel
theorem dX8_take_94 : decode cX8_take 94 = .ok (.ifCond .eq 8, 3) := by decide +kernel
theorem dX8_take_97 : decode cX8_take 97 = .ok (.iload 9, 2) := by decide +kernel
theorem dX8_take_99 : decode cX8_take 99 = .ok (.goto 4, 3) := by decide +kernel
theorem dX8_take_102 : decode cX8_take 102 = .ok (.iconst 0, 1) := by decide +kernel
theorem dX8_take_103 : decode cX8_take 103 = .ok (.isub, 1) := by decide +kernel
theorem dX8_take_104 : decode cX8_take 104 = .ok (.istore 5, 2) := by decide +kernel
theorem dX8_take_106 : decode cX8_take 106 = .ok (.iload 6, 2) := by decide +kernel
theorem dX8_take_108 : decode cX8_take 108 = .ok (.aload_n 0, 1) := by decide +kernel
theorem dX8_take_109 : decode cX8_take 109 = .ok (.getfield 25, 3) := by decide +kernel
theorem dX8_take_112 : decode cX8_take 112 = .ok (.iload 8, 2) := by decide +kernel
theorem dX8_take_114 : decode cX8_take 114 = .ok (.baload, 1) := by decide +kernel
theorem dX8_take_115 : decode cX8_take 115 = .ok (.ifCond .eq 7, 3) := by decide +kernel
theorem dX8_take_118 : decode cX8_take 118 = .ok (.iconst 0, 1) := by decide +kernel
theorem dX8_take_119 : decode cX8_take 119 = .ok (.goto 5, 3) := by decide +kernel
theorem dX8_take_122 : decode cX8_take 122 = .ok (.iload 9, 2) := by decide +kernel
theorem dX8_take_124 : decode cX8_take 124 = .ok (.isub, 1) := by decide +kernel
theorem dX8_take_125 : decode cX8_take 125 = .ok (.istore 6, 2) := by decide +kernel
theorem dX8_take_127 : decode cX8_take 127 = .ok (.iinc 7 1, 3) := by decide +kernel
theorem dX8_take_130 : decode cX8_take 130 = .ok (.goto (-120), 3) := by decide +kernel
theorem dX8_take_133 : decode cX8_take 133 = .ok (.return_, 1) := by decide +kernel
set_option maxRecDepth 20000 in
theorem ggX9_init_X3_init : GoodIn wsX9_init wsX3_init := goodIn_r _ [33, 34, 2, 3, 35, 36, 37, 38, 39, 19, 20, 40, 41, 42, 43, 44, 45, 46, 47, 48, 49, 50, 51, 52, 53, 54, 55, 56, 57, 58, 59, 60, 61, 62, 63, 64, 65, 66, 67, 68, 69, 70, 71, 72, 73, 74, 75, 76, 77, 78, 79, 80, 81, 82, 83, 84, 85, 86, 87, 88, 89, 90, 91, 92, 93, 94, 95, 96, 97, 98, 99, 100, 101, 102, 103, 104, 105, 106, 107, 178, 136, 137, 138, 139, 140, 141, 142, 143, 144, 157, 158, 159, 160, 161, 162, 163, 164, 165, 179, 180, 181, 182, 183, 184, 185, 186, 187, 188, 189, 190, 191, 192, 193, 194, 195, 196, 197, 198, 199] (by decide +kernel) (by decide +kernel)
set_option maxRecDepth 20000 in
theorem gX9_init_X3_init_n9 : GoodIn wsX9_init (wsX3_init) := ggX9_init_X3_init
set_option maxRecDepth 20000 in
theorem ggX9_init_X1_init : GoodIn wsX9_init wsX1_init := goodIn_r _ [109, 110, 2, 3, 111, 19, 20, 112, 51, 113, 114, 61, 62, 63, 64, 65, 66, 67, 49, 68, 69, 70, 71, 72, 157, 158, 159, 160, 161, 162, 163, 164, 165, 155, 156] (by decide +kernel) (by decide +kernel)
set_option maxRecDepth 20000 in
theorem gX9_init_X1_init_n33 : GoodIn wsX9_init (wsX1_init) := ggX9_init_X1_init
set_option maxRecDepth 20000 in
theorem ggX9_init_X8_init : GoodIn wsX9_init wsX8_init := goodIn_r _ [62, 63, 2, 3, 64, 51, 65, 66, 67, 49, 68, 69, 70, 71, 72, 157, 158, 159, 160, 161, 162, 163, 164, 165] (by decide +kernel) (by decide +kernel)
set_option maxRecDepth 20000 in
theorem gX9_init_X8_init : GoodIn wsX9_init (wsX8_init) := ggX9_init_X8_init
set_option maxRecDepth 20000 in
theorem ggX9_init_X0_init : GoodIn wsX9_init wsX0_init := goodIn_r _ [117, 118, 2, 3, 51, 119, 120, 49, 121, 122, 166, 167, 168, 169] (by decide +kernel) (by decide +kernel)
set_option maxRecDepth 20000 in
theorem gX9_init_X0_init_n54 : GoodIn wsX9_init (wsX0_init) := ggX9_init_X0_init
set_option maxRecDepth 20000 in
theorem ggX9_init_X5_init : GoodIn wsX9_init wsX5_init := goodIn_r _ [124, 125, 2, 3, 51, 126, 127, 128, 129, 130, 131, 132, 19, 20, 133, 134, 135, 61, 62, 63, 64, 65, 66, 67, 49, 68, 69, 70, 71, 72, 170, 171, 172, 173, 174, 175, 176, 177, 157, 158, 159, 160, 161, 162, 163, 164, 165] (by decide +kernel) (by decide +kernel)
set_option maxRecDepth 20000 in
theorem gX9_init_X5_init_n66 : GoodIn wsX9_init (wsX5_init) := ggX9_init_X5_init
theorem dX9_init_0 : decode cX9_init 0 = .ok (.aload_n 0, 1) := by decide +kernel
theorem dX9_init_1 : decode cX9_init 1 = .ok (.invokespecial 1, 3) := by decide +kernel
theorem dX9_init_4 : decode cX9_init 4 = .ok (.aload_n 0, 1) := by decide +kernel
theorem dX9_init_5 : decode cX9_init 5 = .ok (.new 7, 3) := by decide +kernel
theorem dX9_init_8 : decode cX9_init 8 = .ok (.dup, 1) := by decide +kernel
theorem dX9_init_9 : decode cX9_init 9 = .ok (.invokespecial 9, 3) := by decide +kernel
theorem dX9_init_12 : decode cX9_init 12 = .ok (.putfield 10, 3) := by decide +kernel
theorem dX9_init_15 : decode cX9_init 15 = .ok (.aload_n 0, 1) := by decide +kernel
theorem dX9_init_16 : decode cX9_init 16 = .ok (.aload_n 0, 1) := by decide +kernel
theorem dX9_init_17 : decode cX9_init 17 = .ok (.getfield 10, 3) := by decide +kernel
theorem dX9_init_20 : decode cX9_init 20 = .ok (.getfield 16, 3) := by decide +kernel
theorem dX9_init_23 : decode cX9_init 23 = .ok (.putfield 20, 3) := by decide +kernel
theorem dX9_init_26 : decode cX9_init 26 = .ok (.aload_n 0, 1) := by decide +kernel
theorem dX9_init_27 : decode cX9_init 27 = .ok (.aload_n 0, 1) := by decide +kernel
theorem dX9_init_28 : decode cX9_init 28 = .ok (.getfield 10, 3) := by decide +kernel
theorem dX9_init_31 : decode cX9_init 31 = .ok (.getfield 21, 3) := by decide +kernel
theorem dX9_init_34 : decode cX9_init 34 = .ok (.putfield 25, 3) := by decide +kernel
theorem dX9_init_37 : decode cX9_init 37 = .ok (.aload_n 0, 1) := by decide +kernel
theorem dX9_init_38 : decode cX9_init 38 = .ok (.aload_n 0, 1) := by decide +kernel
theorem dX9_init_39 : decode cX9_init 39 = .ok (.getfield 10, 3) := by decide +kernel
theorem dX9_init_42 : decode cX9_init 42 = .ok (.getfield 26, 3) := by decide +kernel
theorem dX9_init_45 : decode cX9_init 45 = .ok (.putfield 30, 3) := by decide +kernel
theorem dX9_init_48 : decode cX9_init 48 = .ok (.aload_n 0, 1) := by decide +kernel
theorem dX9_init_49 : decode cX9_init 49 = .ok (.new 31, 3) := by decide +kernel
theorem dX9_init_52 : decode cX9_init 52 = .ok (.dup, 1) := by decide +kernel
theorem dX9_init_53 : decode cX9_init 53 = .ok (.invokespecial 33, 3) := by decide +kernel
theorem dX9_init_56 : decode cX9_init 56 = .ok (.putfield 34, 3) := by decide +kernel
theorem dX9_init_59 : decode cX9_init 59 = .ok (.aload_n 0, 1) := by decide +kernel
theorem dX9_init_60 : decode cX9_init 60 = .ok (.new 38, 3) := by decide +kernel
theorem dX9_init_63 : decode cX9_init 63 = .ok (.dup, 1) := by decide +kernel
theorem dX9_init_64 : decode cX9_init 64 = .ok (.bipush 60, 2) := by decide +kernel
theorem dX9_init_66 : decode cX9_init 66 = .ok (.invokespecial 40, 3) := by decide +kernel
theorem dX9_init_69 : decode cX9_init 69 = .ok (.putfield 43, 3) := by decide +kernel
theorem dX9_init_72 : decode cX9_init 72 = .ok (.aload_n 0, 1) := by decide +kernel
theorem dX9_init_73 : decode cX9_init 73 = .ok (.bipush 10, 2) := by decide +kernel
theorem dX9_init_75 : decode cX9_init 75 = .ok (.anewarray 46, 3) := by decide +kernel
theorem dX9_init_78 : decode cX9_init 78 = .ok (.putfield 48, 3) := by decide +kernel
theorem dX9_init_81 : decode cX9_init 81 = .ok (.aload_n 0, 1) := by decide +kernel
theorem dX9_init_82 : decode cX9_init 82 = .ok (.new 52, 3) := by decide +kernel
theorem dX9_init_85 : decode cX9_init 85 = .ok (.dup, 1) := by decide +kernel
theorem dX9_init_86 : decode cX9_init 86 = .ok (.invokespecial 54, 3) := by decide +kernel
theorem dX9_init_89 : decode cX9_init 89 = .ok (.putfield 55, 3) := by decide +kernel
theorem dX9_init_92 : decode cX9_init 92 = .ok (.aload_n 0, 1) := by decide +kernel
theorem dX9_init_93 : decode cX9_init 93 = .ok (.iconst 0, 1) := by decide +kernel
theorem dX9_init_94 : decode cX9_init 94 = .ok (.putfield 59, 3) := by decide +kernel
theorem dX9_init_97 : decode cX9_init 97 = .ok (.aload_n 0, 1) := by decide +kernel
theorem dX9_init_98 : decode cX9_init 98 = .ok (.iconst 0, 1) := by decide +kernel
theorem dX9_init_99 : decode cX9_init 99 = .ok (.putfield 63, 3) := by decide +kernel
theorem dX9_init_102 : decode cX9_init 102 = .ok (.iconst 0, 1) := by decide +kernel
theorem dX9_init_103 : decode cX9_init 103 = .ok (.istore_n 1, 1) := by decide +kernel
theorem dX9_init_104 : decode cX9_init 104 = .ok (.iload_n 1, 1) := by decide +kernel
theorem dX9_init_105 : decode cX9_init 105 = .ok (.bipush 10, 2) := by decide +kernel
theorem dX9_init_107 : decode cX9_init 107 = .ok (.if_icmp .ge 22, 3) := by decide +kernel
theorem dX9_init_110 : decode cX9_init 110 = .ok (.aload_n 0, 1) := by decide +kernel
theorem dX9_init_111 : decode cX9_init 111 = .ok (.getfield 48, 3) := by decide +kernel
theorem dX9_init_114 : decode cX9_init 114 = .ok (.iload_n 1, 1) := by decide +kernel
theorem dX9_init_115 : decode cX9_init 115 = .ok (.new 46, 3) := by decide +kernel
theorem dX9_init_118 : decode cX9_init 118 = .ok (.dup, 1) := by decide +kernel
theorem dX9_init_119 : decode cX9_init 119 = .ok (.invokespecial 66, 3) := by decide +kernel
theorem dX9_init_122 : decode cX9_init 122 = .ok (.aastore, 1) := by decide +kernel
theorem dX9_init_123 : decode cX9_init 123 = .ok (.iinc 1 1, 3) := by decide +kernel
theorem dX9_init_126 : decode cX9_init 126 = .ok (.goto (-22), 3) := by decide +kernel
theorem dX9_init_129 : decode cX9_init 129 = .ok (.return_, 1) := by decide +kernel
set_option maxRecDepth 20000 in
theorem ggX9_deposit_X9_checkIndex : GoodIn wsX9_deposit wsX9_checkIndex := goodIn_ca (goodIn_r _ [10, 11, 12] (by decide +kernel) (by decide +kernel)) (goodIn_sub (fun _ h => List.mem_cons_of_mem _ (List.mem_append_left _ (List.mem_append_left _ (List.mem_append_right _ h)))) (by decide +kernel))
set_option maxRecDepth 20000 in
theorem gX9_deposit_X9_checkIndex : GoodIn wsX9_deposit (va_wsS RX9 67 yX9_checkIndex wsX9_checkIndex) := goodIn_app (goodIn_of _ (by decide +kernel)) ggX9_deposit_X9_checkIndex
set_option maxRecDepth 20000 in
theorem ggX9_deposit_X9_checkRange : GoodIn wsX9_deposit wsX9_checkRange := goodIn_ca (goodIn_r _ [15, 16, 17] (by decide +kernel) (by decide +kernel)) (goodIn_sub (fun _ h => List.mem_cons_of_mem _ (List.mem_append_left _ (List.mem_append_right _ h))) (by decide +kernel))
set_option maxRecDepth 20000 in
theorem gX9_deposit_X9_checkRange : GoodIn wsX9_deposit (va_wsS RX9 72 yX9_checkRange wsX9_checkRange) := goodIn_app (goodIn_of _ (by decide +kernel)) ggX9_deposit_X9_checkRange
set_option maxRecDepth 20000 in
theorem ggX9_deposit_X9_checkState : GoodIn wsX9_deposit wsX9_checkState := goodIn_ca (goodIn_r _ [20, 21, 22] (by decide +kernel) (by decide +kernel)) (goodIn_sub (fun _ h => List.mem_cons_of_mem _ (List.mem_append_right _ h)) (by decide +kernel))
set_option maxRecDepth 20000 in
theorem gX9_deposit_X9_checkState : GoodIn wsX9_deposit (va_wsS RX9 85 yX9_checkState wsX9_checkState) := goodIn_app (goodIn_of _ (by decide +kernel)) ggX9_deposit_X9_checkState
theorem dX9_deposit_0 : decode cX9_deposit 0 = .ok (.iload_n 1, 1) := by decide +kernel
theorem dX9_deposit_1 : decode cX9_deposit 1 = .ok (.bipush 6, 2) := by decide +kernel
theorem dX9_deposit_3 : decode cX9_deposit 3 = .ok (.invokestatic 67, 3) := by decide +kernel
theorem dX9_deposit_6 : decode cX9_deposit 6 = .ok (.iload_n 2, 1) := by decide +kernel
theorem dX9_deposit_7 : decode cX9_deposit 7 = .ok (.iconst 1, 1) := by decide +kernel
theorem dX9_deposit_8 : decode cX9_deposit 8 = .ok (.ldc 71, 2) := by decide +kernel
theorem dX9_deposit_10 : decode cX9_deposit 10 = .ok (.invokestatic 72, 3) := by decide +kernel
theorem dX9_deposit_13 : decode cX9_deposit 13 = .ok (.aload_n 0, 1) := by decide +kernel
theorem dX9_deposit_14 : decode cX9_deposit 14 = .ok (.getfield 55, 3) := by decide +kernel
theorem dX9_deposit_17 : decode cX9_deposit 17 = .ok (.getfield 76, 3) := by decide +kernel
theorem dX9_deposit_20 : decode cX9_deposit 20 = .ok (.iload_n 1, 1) := by decide +kernel
theorem dX9_deposit_21 : decode cX9_deposit 21 = .ok (.baload, 1) := by decide +kernel
theorem dX9_deposit_22 : decode cX9_deposit 22 = .ok (.ifCond .ne 23, 3) := by decide +kernel
theorem dX9_deposit_25 : decode cX9_deposit 25 = .ok (.aload_n 0, 1) := by decide +kernel
theorem dX9_deposit_26 : decode cX9_deposit 26 = .ok (.getfield 55, 3) := by decide +kernel
theorem dX9_deposit_29 : decode cX9_deposit 29 = .ok (.getfield 80, 3) := by decide +kernel
theorem dX9_deposit_32 : decode cX9_deposit 32 = .ok (.iload_n 1, 1) := by decide +kernel
theorem dX9_deposit_33 : decode cX9_deposit 33 = .ok (.iaload, 1) := by decide +kernel
theorem dX9_deposit_34 : decode cX9_deposit 34 = .ok (.iload_n 2, 1) := by decide +kernel
theorem dX9_deposit_35 : decode cX9_deposit 35 = .ok (.iadd, 1) := by decide +kernel
theorem dX9_deposit_36 : decode cX9_deposit 36 = .ok (.ldc 84, 2) := by decide +kernel
theorem dX9_deposit_38 : decode cX9_deposit 38 = .ok (.if_icmp .gt 7, 3) := by decide +kernel
theorem dX9_deposit_41 : decode cX9_deposit 41 = .ok (.iconst 1, 1) := by decide +kernel
theorem dX9_deposit_42 : decode cX9_deposit 42 = .ok (.goto 4, 3) := by decide +kernel
theorem dX9_deposit_45 : decode cX9_deposit 45 = .ok (.iconst 0, 1) := by decide +kernel
theorem dX9_deposit_46 : decode cX9_deposit 46 = .ok (.invokestatic 85, 3) := by decide +kernel
theorem dX9_deposit_49 : decode cX9_deposit 49 = .ok (.aload_n 0, 1) := by decide +kernel
theorem dX9_deposit_50 : decode cX9_deposit 50 = .ok (.getfield 55, 3) := by decide +kernel
theorem dX9_deposit_53 : decode cX9_deposit 53 = .ok (.getfield 80, 3) := by decide +kernel
theorem dX9_deposit_56 : decode cX9_deposit 56 = .ok (.iload_n 1, 1) := by decide +kernel
theorem dX9_deposit_57 : decode cX9_deposit 57 = .ok (.dup2, 1) := by decide +kernel
theorem dX9_deposit_58 : decode cX9_deposit 58 = .ok (.iaload, 1) := by decide +kernel
theorem dX9_deposit_59 : decode cX9_deposit 59 = .ok (.iload_n 2, 1) := by decide +kernel
theorem dX9_deposit_60 : decode cX9_deposit 60 = .ok (.iadd, 1) := by decide +kernel
theorem dX9_deposit_61 : decode cX9_deposit 61 = .ok (.iastore, 1) := by decide +kernel
theorem dX9_deposit_62 : decode cX9_deposit 62 = .ok (.aload_n 0, 1) := by decide +kernel
theorem dX9_deposit_63 : decode cX9_deposit 63 = .ok (.getfield 55, 3) := by decide +kernel
theorem dX9_deposit_66 : decode cX9_deposit 66 = .ok (.getfield 89, 3) := by decide +kernel
theorem dX9_deposit_69 : decode cX9_deposit 69 = .ok (.iload_n 1, 1) := by decide +kernel
theorem dX9_deposit_70 : decode cX9_deposit 70 = .ok (.dup2, 1) := by decide +kernel
theorem dX9_deposit_71 : decode cX9_deposit 71 = .ok (.iaload, 1) := by decide +kernel
theorem dX9_deposit_72 : decode cX9_deposit 72 = .ok (.iload_n 2, 1) := by decide +kernel
theorem dX9_deposit_73 : decode cX9_deposit 73 = .ok (.iadd, 1) := by decide +kernel
theorem dX9_deposit_74 : decode cX9_deposit 74 = .ok (.iastore, 1) := by decide +kernel
theorem dX9_deposit_75 : decode cX9_deposit 75 = .ok (.aload_n 0, 1) := by decide +kernel
theorem dX9_deposit_76 : decode cX9_deposit 76 = .ok (.getfield 55, 3) := by decide +kernel
theorem dX9_deposit_79 : decode cX9_deposit 79 = .ok (.getfield 89, 3) := by decide +kernel
theorem dX9_deposit_82 : decode cX9_deposit 82 = .ok (.iload_n 1, 1) := by decide +kernel
theorem dX9_deposit_83 : decode cX9_deposit 83 = .ok (.iaload, 1) := by decide +kernel
theorem dX9_deposit_84 : decode cX9_deposit 84 = .ok (.ireturn, 1) := by decide +kernel
set_option maxRecDepth 20000 in
theorem ggX9_setLimit_X9_checkIndex : GoodIn wsX9_setLimit wsX9_checkIndex := goodIn_ca (goodIn_r _ [7, 8, 9] (by decide +kernel) (by decide +kernel)) (goodIn_sub (fun _ h => List.mem_cons_of_mem _ (List.mem_append_left _ (List.mem_append_left _ (List.mem_append_right _ h)))) (by decide +kernel))
set_option maxRecDepth 20000 in
theorem gX9_setLimit_X9_checkIndex : GoodIn wsX9_setLimit (va_wsS RX9 67 yX9_checkIndex wsX9_checkIndex) := goodIn_app (goodIn_of _ (by decide +kernel)) ggX9_setLimit_X9_checkIndex
set_option maxRecDepth 20000 in
theorem ggX9_setLimit_X9_checkRange : GoodIn wsX9_setLimit wsX9_checkRange := goodIn_ca (goodIn_r _ [12, 13, 14] (by decide +kernel) (by decide +kernel)) (goodIn_sub (fun _ h => List.mem_cons_of_mem _ (List.mem_append_left _ (List.mem_append_right _ h))) (by decide +kernel))
set_option maxRecDepth 20000 in
theorem gX9_setLimit_X9_checkRange : GoodIn wsX9_setLimit (va_wsS RX9 72 yX9_checkRange wsX9_checkRange) := goodIn_app (goodIn_of _ (by decide +kernel)) ggX9_setLimit_X9_checkRange
set_option maxRecDepth 20000 in
theorem ggX9_setLimit_X9_checkState : GoodIn wsX9_setLimit wsX9_checkState := goodIn_ca (goodIn_r _ [17, 18, 19] (by decide +kernel) (by decide +kernel)) (goodIn_sub (fun _ h => List.mem_cons_of_mem _ (List.mem_append_right _ h)) (by decide +kernel))
set_option maxRecDepth 20000 in
theorem gX9_setLimit_X9_checkState : GoodIn wsX9_setLimit (va_wsS RX9 85 yX9_checkState wsX9_checkState) := goodIn_app (goodIn_of _ (by decide +kernel)) ggX9_setLimit_X9_checkState
theorem dX9_setLimit_0 : decode cX9_setLimit 0 = .ok (.iload_n 1, 1) := by decide +kernel
theorem dX9_setLimit_1 : decode cX9_setLimit 1 = .ok (.iconst 3, 1) := by decide +kernel
theorem dX9_setLimit_2 : decode cX9_setLimit 2 = .ok (.invokestatic 67, 3) := by decide +kernel
theorem dX9_setLimit_5 : decode cX9_setLimit 5 = .ok (.iload_n 2, 1) := by decide +kernel
theorem dX9_setLimit_6 : decode cX9_setLimit 6 = .ok (.iconst 0, 1) := by decide +kernel
theorem dX9_setLimit_7 : decode cX9_setLimit 7 = .ok (.bipush 10, 2) := by decide +kernel
theorem dX9_setLimit_9 : decode cX9_setLimit 9 = .ok (.invokestatic 72, 3) := by decide +kernel
theorem dX9_setLimit_12 : decode cX9_setLimit 12 = .ok (.aload_n 0, 1) := by decide +kernel
theorem dX9_setLimit_13 : decode cX9_setLimit 13 = .ok (.getfield 63, 3) := by decide +kernel
theorem dX9_setLimit_16 : decode cX9_setLimit 16 = .ok (.ifCond .ne 7, 3) := by decide +kernel
theorem dX9_setLimit_19 : decode cX9_setLimit 19 = .ok (.iconst 1, 1) := by decide +kernel
theorem dX9_setLimit_20 : decode cX9_setLimit 20 = .ok (.goto 4, 3) := by decide +kernel
theorem dX9_setLimit_23 : decode cX9_setLimit 23 = .ok (.iconst 0, 1) := by decide +kernel
theorem dX9_setLimit_24 : decode cX9_setLimit 24 = .ok (.invokestatic 85, 3) := by decide +kernel
theorem dX9_setLimit_27 : decode cX9_setLimit 27 = .ok (.aload_n 0, 1) := by decide +kernel
theorem dX9_setLimit_28 : decode cX9_setLimit 28 = .ok (.getfield 20, 3) := by decide +kernel
theorem dX9_setLimit_31 : decode cX9_setLimit 31 = .ok (.getfield 92, 3) := by decide +kernel
theorem dX9_setLimit_34 : decode cX9_setLimit 34 = .ok (.iload_n 1, 1) := by decide +kernel
theorem dX9_setLimit_35 : decode cX9_setLimit 35 = .ok (.iaload, 1) := by decide +kernel
theorem dX9_setLimit_36 : decode cX9_setLimit 36 = .ok (.istore_n 3, 1) := by decide +kernel
theorem dX9_setLimit_37 : decode cX9_setLimit 37 = .ok (.aload_n 0, 1) := by decide +kernel
theorem dX9_setLimit_38 : decode cX9_setLimit 38 = .ok (.getfield 20, 3) := by decide +kernel
theorem dX9_setLimit_41 : decode cX9_setLimit 41 = .ok (.getfield 92, 3) := by decide +kernel
theorem dX9_setLimit_44 : decode cX9_setLimit 44 = .ok (.iload_n 1, 1) := by decide +kernel
theorem dX9_setLimit_45 : decode cX9_setLimit 45 = .ok (.iload_n 2, 1) := by decide +kernel
theorem dX9_setLimit_46 : decode cX9_setLimit 46 = .ok (.iastore, 1) := by decide +kernel
theorem dX9_setLimit_47 : decode cX9_setLimit 47 = .ok (.iload_n 3, 1) := by decide +kernel
theorem dX9_setLimit_48 : decode cX9_setLimit 48 = .ok (.ireturn, 1) := by decide +kernel
set_option maxRecDepth 20000 in
theorem ggX9_bid_X9_checkIndex : GoodIn wsX9_bid wsX9_checkIndex := goodIn_ca (goodIn_r _ [8, 9, 10] (by decide +kernel) (by decide +kernel)) (goodIn_sub (fun _ h => List.mem_cons_of_mem _ (List.mem_append_left _ (List.mem_append_left _ (List.mem_append_right _ h)))) (by decide +kernel))
set_option maxRecDepth 20000 in
theorem gX9_bid_X9_checkIndex : GoodIn wsX9_bid (va_wsS RX9 67 yX9_checkIndex wsX9_checkIndex) := goodIn_app (goodIn_of _ (by decide +kernel)) ggX9_bid_X9_checkIndex
set_option maxRecDepth 20000 in
theorem ggX9_bid_X9_checkRange : GoodIn wsX9_bid wsX9_checkRange := goodIn_ca (goodIn_r _ [13, 14, 15] (by decide +kernel) (by decide +kernel)) (goodIn_sub (fun _ h => List.mem_cons_of_mem _ (List.mem_append_left _ (List.mem_append_right _ h))) (by decide +kernel))
set_option maxRecDepth 20000 in
theorem gX9_bid_X9_checkRange : GoodIn wsX9_bid (va_wsS RX9 72 yX9_checkRange wsX9_checkRange) := goodIn_app (goodIn_of _ (by decide +kernel)) ggX9_bid_X9_checkRange
set_option maxRecDepth 20000 in
theorem ggX9_bid_X8_hasRoom : GoodIn wsX9_bid wsX8_hasRoom := goodIn_r _ [20, 21, 22, 62, 63, 64, 65, 66, 67, 68, 69, 70] (by decide +kernel) (by decide +kernel)
set_option maxRecDepth 20000 in
theorem gX9_bid_X8_hasRoom : GoodIn wsX9_bid (wsV RX9 97 RX8 yX8_hasRoom wsX8_hasRoom) := goodIn_app (goodIn_of _ (by decide +kernel)) ggX9_bid_X8_hasRoom
set_option maxRecDepth 20000 in
theorem ggX9_bid_X9_checkState : GoodIn wsX9_bid wsX9_checkState := goodIn_ca (goodIn_r _ [25, 26, 27] (by decide +kernel) (by decide +kernel)) (goodIn_sub (fun _ h => List.mem_cons_of_mem _ (List.mem_append_right _ h)) (by decide +kernel))
set_option maxRecDepth 20000 in
theorem gX9_bid_X9_checkState : GoodIn wsX9_bid (va_wsS RX9 85 yX9_checkState wsX9_checkState) := goodIn_app (goodIn_of _ (by decide +kernel)) ggX9_bid_X9_checkState
set_option maxRecDepth 20000 in
theorem ggX9_bid_X8_add : GoodIn wsX9_bid wsX8_add := goodIn_r _ [31, 21, 32, 33, 34, 35, 36, 37, 38, 39, 17, 18, 19, 20, 22, 40, 41, 42, 43, 44, 45, 46, 47, 62, 63, 64, 65, 66, 67, 68, 69, 70] (by decide +kernel) (by decide +kernel)
set_option maxRecDepth 20000 in
theorem gX9_bid_X8_add : GoodIn wsX9_bid (wsV RX9 101 RX8 yX8_add wsX8_add) := goodIn_app (goodIn_of _ (by decide +kernel)) ggX9_bid_X8_add
theorem dX9_bid_0 : decode cX9_bid 0 = .ok (.iload_n 1, 1) := by decide +kernel
theorem dX9_bid_1 : decode cX9_bid 1 = .ok (.bipush 6, 2) := by decide +kernel
theorem dX9_bid_3 : decode cX9_bid 3 = .ok (.invokestatic 67, 3) := by decide +kernel
theorem dX9_bid_6 : decode cX9_bid 6 = .ok (.iload_n 2, 1) := by decide +kernel
theorem dX9_bid_7 : decode cX9_bid 7 = .ok (.iconst 3, 1) := by decide +kernel
theorem dX9_bid_8 : decode cX9_bid 8 = .ok (.invokestatic 67, 3) := by decide +kernel
theorem dX9_bid_11 : decode cX9_bid 11 = .ok (.iload_n 3, 1) := by decide +kernel
theorem dX9_bid_12 : decode cX9_bid 12 = .ok (.iconst 4, 1) := by decide +kernel
theorem dX9_bid_13 : decode cX9_bid 13 = .ok (.invokestatic 67, 3) := by decide +kernel
theorem dX9_bid_16 : decode cX9_bid 16 = .ok (.iload 5, 2) := by decide +kernel
theorem dX9_bid_18 : decode cX9_bid 18 = .ok (.iconst 0, 1) := by decide +kernel
theorem dX9_bid_19 : decode cX9_bid 19 = .ok (.sipush 200, 3) := by decide +kernel
theorem dX9_bid_22 : decode cX9_bid 22 = .ok (.invokestatic 72, 3) := by decide +kernel
theorem dX9_bid_25 : decode cX9_bid 25 = .ok (.iload 6, 2) := by decide +kernel
theorem dX9_bid_27 : decode cX9_bid 27 = .ok (.iconst 1, 1) := by decide +kernel
theorem dX9_bid_28 : decode cX9_bid 28 = .ok (.bipush 10, 2) := by decide +kernel
theorem dX9_bid_30 : decode cX9_bid 30 = .ok (.invokestatic 72, 3) := by decide +kernel
theorem dX9_bid_33 : decode cX9_bid 33 = .ok (.aload_n 0, 1) := by decide +kernel
theorem dX9_bid_34 : decode cX9_bid 34 = .ok (.getfield 55, 3) := by decide +kernel
theorem dX9_bid_37 : decode cX9_bid 37 = .ok (.getfield 76, 3) := by decide +kernel
theorem dX9_bid_40 : decode cX9_bid 40 = .ok (.iload_n 1, 1) := by decide +kernel
theorem dX9_bid_41 : decode cX9_bid 41 = .ok (.baload, 1) := by decide +kernel
theorem dX9_bid_42 : decode cX9_bid 42 = .ok (.ifCond .ne 24, 3) := by decide +kernel
theorem dX9_bid_45 : decode cX9_bid 45 = .ok (.aload_n 0, 1) := by decide +kernel
theorem dX9_bid_46 : decode cX9_bid 46 = .ok (.getfield 63, 3) := by decide +kernel
theorem dX9_bid_49 : decode cX9_bid 49 = .ok (.ifCond .ne 17, 3) := by decide +kernel
theorem dX9_bid_52 : decode cX9_bid 52 = .ok (.aload_n 0, 1) := by decide +kernel
theorem dX9_bid_53 : decode cX9_bid 53 = .ok (.getfield 25, 3) := by decide +kernel
theorem dX9_bid_56 : decode cX9_bid 56 = .ok (.invokevirtual 97, 3) := by decide +kernel
theorem dX9_bid_59 : decode cX9_bid 59 = .ok (.ifCond .eq 7, 3) := by decide +kernel
theorem dX9_bid_62 : decode cX9_bid 62 = .ok (.iconst 1, 1) := by decide +kernel
theorem dX9_bid_63 : decode cX9_bid 63 = .ok (.goto 4, 3) := by decide +kernel
theorem dX9_bid_66 : decode cX9_bid 66 = .ok (.iconst 0, 1) := by decide +kernel
theorem dX9_bid_67 : decode cX9_bid 67 = .ok (.invokestatic 85, 3) := by decide +kernel
theorem dX9_bid_70 : decode cX9_bid 70 = .ok (.aload_n 0, 1) := by decide +kernel
theorem dX9_bid_71 : decode cX9_bid 71 = .ok (.getfield 25, 3) := by decide +kernel
theorem dX9_bid_74 : decode cX9_bid 74 = .ok (.iload_n 1, 1) := by decide +kernel
theorem dX9_bid_75 : decode cX9_bid 75 = .ok (.iload_n 2, 1) := by decide +kernel
theorem dX9_bid_76 : decode cX9_bid 76 = .ok (.iload_n 3, 1) := by decide +kernel
theorem dX9_bid_77 : decode cX9_bid 77 = .ok (.iload 4, 2) := by decide +kernel
theorem dX9_bid_79 : decode cX9_bid 79 = .ok (.iload 5, 2) := by decide +kernel
theorem dX9_bid_81 : decode cX9_bid 81 = .ok (.iload 6, 2) := by decide +kernel
theorem dX9_bid_83 : decode cX9_bid 83 = .ok (.invokevirtual 101, 3) := by decide +kernel
theorem dX9_bid_86 : decode cX9_bid 86 = .ok (.ireturn, 1) := by decide +kernel
set_option maxRecDepth 20000 in
theorem ggX9_block_X9_checkIndex : GoodIn wsX9_block wsX9_checkIndex := goodIn_ca (goodIn_r _ [9, 10, 11] (by decide +kernel) (by decide +kernel)) (goodIn_sub (fun _ h => List.mem_cons_of_mem _ (List.mem_append_left _ (List.mem_append_left _ (List.mem_append_right _ h)))) (by decide +kernel))
set_option maxRecDepth 20000 in
theorem gX9_block_X9_checkIndex : GoodIn wsX9_block (va_wsS RX9 67 yX9_checkIndex wsX9_checkIndex) := goodIn_app (goodIn_of _ (by decide +kernel)) ggX9_block_X9_checkIndex
set_option maxRecDepth 20000 in
theorem ggX9_block_X9_checkRange : GoodIn wsX9_block wsX9_checkRange := goodIn_ca (goodIn_r _ [14, 15, 16] (by decide +kernel) (by decide +kernel)) (goodIn_sub (fun _ h => List.mem_cons_of_mem _ (List.mem_append_left _ (List.mem_append_right _ h))) (by decide +kernel))
set_option maxRecDepth 20000 in
theorem gX9_block_X9_checkRange : GoodIn wsX9_block (va_wsS RX9 72 yX9_checkRange wsX9_checkRange) := goodIn_app (goodIn_of _ (by decide +kernel)) ggX9_block_X9_checkRange
set_option maxRecDepth 20000 in
theorem ggX9_block_X9_checkState : GoodIn wsX9_block wsX9_checkState := goodIn_ca (goodIn_r _ [19, 20, 21] (by decide +kernel) (by decide +kernel)) (goodIn_sub (fun _ h => List.mem_cons_of_mem _ (List.mem_append_right _ h)) (by decide +kernel))
set_option maxRecDepth 20000 in
theorem gX9_block_X9_checkState : GoodIn wsX9_block (va_wsS RX9 85 yX9_checkState wsX9_checkState) := goodIn_app (goodIn_of _ (by decide +kernel)) ggX9_block_X9_checkState
set_option maxRecDepth 20000 in
theorem ggX9_block_X2_add : GoodIn wsX9_block wsX2_add := goodIn_r _ [26, 27, 28, 29, 30, 31, 32, 33, 34, 35, 50, 51, 52, 53, 54, 55, 56, 57, 58, 59] (by decide +kernel) (by decide +kernel)
set_option maxRecDepth 20000 in
theorem gX9_block_X2_add : GoodIn wsX9_block (wsV RX9 110 RX2 yX2_add wsX2_add) := goodIn_app (goodIn_of _ (by decide +kernel)) ggX9_block_X2_add
theorem dX9_block_0 : decode cX9_block 0 = .ok (.iload_n 1, 1) := by decide +kernel
theorem dX9_block_1 : decode cX9_block 1 = .ok (.bipush 6, 2) := by decide +kernel
theorem dX9_block_3 : decode cX9_block 3 = .ok (.invokestatic 67, 3) := by decide +kernel
theorem dX9_block_6 : decode cX9_block 6 = .ok (.iload_n 2, 1) := by decide +kernel
theorem dX9_block_7 : decode cX9_block 7 = .ok (.iconst 3, 1) := by decide +kernel
theorem dX9_block_8 : decode cX9_block 8 = .ok (.invokestatic 67, 3) := by decide +kernel
theorem dX9_block_11 : decode cX9_block 11 = .ok (.iload_n 3, 1) := by decide +kernel
theorem dX9_block_12 : decode cX9_block 12 = .ok (.iconst 1, 1) := by decide +kernel
theorem dX9_block_13 : decode cX9_block 13 = .ok (.bipush 15, 2) := by decide +kernel
theorem dX9_block_15 : decode cX9_block 15 = .ok (.invokestatic 72, 3) := by decide +kernel
theorem dX9_block_18 : decode cX9_block 18 = .ok (.iload 5, 2) := by decide +kernel
theorem dX9_block_20 : decode cX9_block 20 = .ok (.iconst 0, 1) := by decide +kernel
theorem dX9_block_21 : decode cX9_block 21 = .ok (.sipush 200, 3) := by decide +kernel
theorem dX9_block_24 : decode cX9_block 24 = .ok (.invokestatic 72, 3) := by decide +kernel
theorem dX9_block_27 : decode cX9_block 27 = .ok (.iload 6, 2) := by decide +kernel
theorem dX9_block_29 : decode cX9_block 29 = .ok (.iconst 1, 1) := by decide +kernel
theorem dX9_block_30 : decode cX9_block 30 = .ok (.bipush 10, 2) := by decide +kernel
theorem dX9_block_32 : decode cX9_block 32 = .ok (.invokestatic 72, 3) := by decide +kernel
theorem dX9_block_35 : decode cX9_block 35 = .ok (.aload_n 0, 1) := by decide +kernel
theorem dX9_block_36 : decode cX9_block 36 = .ok (.getfield 55, 3) := by decide +kernel
theorem dX9_block_39 : decode cX9_block 39 = .ok (.getfield 76, 3) := by decide +kernel
theorem dX9_block_42 : decode cX9_block 42 = .ok (.iload_n 1, 1) := by decide +kernel
theorem dX9_block_43 : decode cX9_block 43 = .ok (.baload, 1) := by decide +kernel
theorem dX9_block_44 : decode cX9_block 44 = .ok (.ifCond .ne 25, 3) := by decide +kernel
theorem dX9_block_47 : decode cX9_block 47 = .ok (.aload_n 0, 1) := by decide +kernel
theorem dX9_block_48 : decode cX9_block 48 = .ok (.getfield 63, 3) := by decide +kernel
theorem dX9_block_51 : decode cX9_block 51 = .ok (.ifCond .ne 18, 3) := by decide +kernel
theorem dX9_block_54 : decode cX9_block 54 = .ok (.aload_n 0, 1) := by decide +kernel
theorem dX9_block_55 : decode cX9_block 55 = .ok (.getfield 30, 3) := by decide +kernel
theorem dX9_block_58 : decode cX9_block 58 = .ok (.getfield 105, 3) := by decide +kernel
theorem dX9_block_61 : decode cX9_block 61 = .ok (.iconst 5, 1) := by decide +kernel
theorem dX9_block_62 : decode cX9_block 62 = .ok (.if_icmp .ge 7, 3) := by decide +kernel
theorem dX9_block_65 : decode cX9_block 65 = .ok (.iconst 1, 1) := by decide +kernel
theorem dX9_block_66 : decode cX9_block 66 = .ok (.goto 4, 3) := by decide +kernel
theorem dX9_block_69 : decode cX9_block 69 = .ok (.iconst 0, 1) := by decide +kernel
theorem dX9_block_70 : decode cX9_block 70 = .ok (.invokestatic 85, 3) := by decide +kernel
theorem dX9_block_73 : decode cX9_block 73 = .ok (.aload_n 0, 1) := by decide +kernel
theorem dX9_block_74 : decode cX9_block 74 = .ok (.getfield 30, 3) := by decide +kernel
theorem dX9_block_77 : decode cX9_block 77 = .ok (.iload_n 1, 1) := by decide +kernel
theorem dX9_block_78 : decode cX9_block 78 = .ok (.iload_n 2, 1) := by decide +kernel
theorem dX9_block_79 : decode cX9_block 79 = .ok (.iload_n 3, 1) := by decide +kernel
theorem dX9_block_80 : decode cX9_block 80 = .ok (.iload 4, 2) := by decide +kernel
theorem dX9_block_82 : decode cX9_block 82 = .ok (.iload 5, 2) := by decide +kernel
theorem dX9_block_84 : decode cX9_block 84 = .ok (.iload 6, 2) := by decide +kernel
theorem dX9_block_86 : decode cX9_block 86 = .ok (.invokevirtual 110, 3) := by decide +kernel
theorem dX9_block_89 : decode cX9_block 89 = .ok (.ireturn, 1) := by decide +kernel
set_option maxRecDepth 20000 in
theorem ggX9_link_X9_checkIndex : GoodIn wsX9_link wsX9_checkIndex := goodIn_ca (goodIn_r _ [9, 10, 11] (by decide +kernel) (by decide +kernel)) (goodIn_sub (fun _ h => List.mem_cons_of_mem _ (List.mem_append_left _ (List.mem_append_left _ (List.mem_append_right _ h)))) (by decide +kernel))
set_option maxRecDepth 20000 in
theorem gX9_link_X9_checkIndex : GoodIn wsX9_link (va_wsS RX9 67 yX9_checkIndex wsX9_checkIndex) := goodIn_app (goodIn_of _ (by decide +kernel)) ggX9_link_X9_checkIndex
set_option maxRecDepth 20000 in
theorem ggX9_link_X9_checkRange : GoodIn wsX9_link wsX9_checkRange := goodIn_ca (goodIn_r _ [14, 15, 16] (by decide +kernel) (by decide +kernel)) (goodIn_sub (fun _ h => List.mem_cons_of_mem _ (List.mem_append_left _ (List.mem_append_right _ h))) (by decide +kernel))
set_option maxRecDepth 20000 in
theorem gX9_link_X9_checkRange : GoodIn wsX9_link (va_wsS RX9 72 yX9_checkRange wsX9_checkRange) := goodIn_app (goodIn_of _ (by decide +kernel)) ggX9_link_X9_checkRange
set_option maxRecDepth 20000 in
theorem ggX9_link_X9_checkState : GoodIn wsX9_link wsX9_checkState := goodIn_ca (goodIn_r _ [19, 20, 21] (by decide +kernel) (by decide +kernel)) (goodIn_sub (fun _ h => List.mem_cons_of_mem _ (List.mem_append_right _ h)) (by decide +kernel))
set_option maxRecDepth 20000 in
theorem gX9_link_X9_checkState : GoodIn wsX9_link (va_wsS RX9 85 yX9_checkState wsX9_checkState) := goodIn_app (goodIn_of _ (by decide +kernel)) ggX9_link_X9_checkState
theorem dX9_link_0 : decode cX9_link 0 = .ok (.iload_n 1, 1) := by decide +kernel
theorem dX9_link_1 : decode cX9_link 1 = .ok (.aload_n 0, 1) := by decide +kernel
theorem dX9_link_2 : decode cX9_link 2 = .ok (.getfield 30, 3) := by decide +kernel
theorem dX9_link_5 : decode cX9_link 5 = .ok (.getfield 105, 3) := by decide +kernel
theorem dX9_link_8 : decode cX9_link 8 = .ok (.invokestatic 67, 3) := by decide +kernel
theorem dX9_link_11 : decode cX9_link 11 = .ok (.iload_n 2, 1) := by decide +kernel
theorem dX9_link_12 : decode cX9_link 12 = .ok (.iconst (-1), 1) := by decide +kernel
theorem dX9_link_13 : decode cX9_link 13 = .ok (.iload_n 1, 1) := by decide +kernel
theorem dX9_link_14 : decode cX9_link 14 = .ok (.iconst 1, 1) := by decide +kernel
theorem dX9_link_15 : decode cX9_link 15 = .ok (.isub, 1) := by decide +kernel
theorem dX9_link_16 : decode cX9_link 16 = .ok (.invokestatic 72, 3) := by decide +kernel
theorem dX9_link_19 : decode cX9_link 19 = .ok (.iload_n 3, 1) := by decide +kernel
theorem dX9_link_20 : decode cX9_link 20 = .ok (.iconst (-1), 1) := by decide +kernel
theorem dX9_link_21 : decode cX9_link 21 = .ok (.iconst 2, 1) := by decide +kernel
theorem dX9_link_22 : decode cX9_link 22 = .ok (.invokestatic 72, 3) := by decide +kernel
theorem dX9_link_25 : decode cX9_link 25 = .ok (.aload_n 0, 1) := by decide +kernel
theorem dX9_link_26 : decode cX9_link 26 = .ok (.getfield 63, 3) := by decide +kernel
theorem dX9_link_29 : decode cX9_link 29 = .ok (.ifCond .ne 7, 3) := by decide +kernel
theorem dX9_link_32 : decode cX9_link 32 = .ok (.iconst 1, 1) := by decide +kernel
theorem dX9_link_33 : decode cX9_link 33 = .ok (.goto 4, 3) := by decide +kernel
theorem dX9_link_36 : decode cX9_link 36 = .ok (.iconst 0, 1) := by decide +kernel
theorem dX9_link_37 : decode cX9_link 37 = .ok (.invokestatic 85, 3) := by decide +kernel
theorem dX9_link_40 : decode cX9_link 40 = .ok (.aload_n 0, 1) := by decide +kernel
theorem dX9_link_41 : decode cX9_link 41 = .ok (.getfield 30, 3) := by decide +kernel
theorem dX9_link_44 : decode cX9_link 44 = .ok (.getfield 111, 3) := by decide +kernel
theorem dX9_link_47 : decode cX9_link 47 = .ok (.iload_n 1, 1) := by decide +kernel
theorem dX9_link_48 : decode cX9_link 48 = .ok (.iload_n 2, 1) := by decide +kernel
theorem dX9_link_49 : decode cX9_link 49 = .ok (.iastore, 1) := by decide +kernel
theorem dX9_link_50 : decode cX9_link 50 = .ok (.aload_n 0, 1) := by decide +kernel
theorem dX9_link_51 : decode cX9_link 51 = .ok (.getfield 30, 3) := by decide +kernel
theorem dX9_link_54 : decode cX9_link 54 = .ok (.getfield 114, 3) := by decide +kernel
theorem dX9_link_57 : decode cX9_link 57 = .ok (.iload_n 1, 1) := by decide +kernel
theorem dX9_link_58 : decode cX9_link 58 = .ok (.iload_n 3, 1) := by decide +kernel
theorem dX9_link_59 : decode cX9_link 59 = .ok (.iastore, 1) := by decide +kernel
theorem dX9_link_60 : decode cX9_link 60 = .ok (.return_, 1) := by decide +kernel
set_option maxRecDepth 20000 in
theorem ggX9_ask_X9_checkIndex : GoodIn wsX9_ask wsX9_checkIndex := goodIn_ca (goodIn_r _ [11, 12, 13] (by decide +kernel) (by decide +kernel)) (goodIn_sub (fun _ h => List.mem_cons_of_mem _ (List.mem_append_left _ (List.mem_append_left _ (List.mem_append_right _ h)))) (by decide +kernel))
set_option maxRecDepth 20000 in
theorem gX9_ask_X9_checkIndex : GoodIn wsX9_ask (va_wsS RX9 67 yX9_checkIndex wsX9_checkIndex) := goodIn_app (goodIn_of _ (by decide +kernel)) ggX9_ask_X9_checkIndex
set_option maxRecDepth 20000 in
theorem ggX9_ask_X9_checkRange : GoodIn wsX9_ask wsX9_checkRange := goodIn_ca (goodIn_r _ [16, 1, 2] (by decide +kernel) (by decide +kernel)) (goodIn_sub (fun _ h => List.mem_cons_of_mem _ (List.mem_append_left _ (List.mem_append_right _ h))) (by decide +kernel))
set_option maxRecDepth 20000 in
theorem gX9_ask_X9_checkRange : GoodIn wsX9_ask (va_wsS RX9 72 yX9_checkRange wsX9_checkRange) := goodIn_app (goodIn_of _ (by decide +kernel)) ggX9_ask_X9_checkRange
set_option maxRecDepth 20000 in
theorem ggX9_ask_X8_hasRoom : GoodIn wsX9_ask wsX8_hasRoom := goodIn_r _ [21, 22, 23, 72, 73, 74, 75, 76, 77, 78, 79, 80] (by decide +kernel) (by decide +kernel)
set_option maxRecDepth 20000 in
theorem gX9_ask_X8_hasRoom : GoodIn wsX9_ask (wsV RX9 97 RX8 yX8_hasRoom wsX8_hasRoom) := goodIn_app (goodIn_of _ (by decide +kernel)) ggX9_ask_X8_hasRoom
set_option maxRecDepth 20000 in
theorem ggX9_ask_X9_checkState : GoodIn wsX9_ask wsX9_checkState := goodIn_ca (goodIn_r _ [26, 27, 28] (by decide +kernel) (by decide +kernel)) (goodIn_sub (fun _ h => List.mem_cons_of_mem _ (List.mem_append_right _ h)) (by decide +kernel))
set_option maxRecDepth 20000 in
theorem gX9_ask_X9_checkState : GoodIn wsX9_ask (va_wsS RX9 85 yX9_checkState wsX9_checkState) := goodIn_app (goodIn_of _ (by decide +kernel)) ggX9_ask_X9_checkState
set_option maxRecDepth 20000 in
theorem ggX9_ask_X1_add : GoodIn wsX9_ask wsX1_add := goodIn_r _ [33, 34, 35, 36, 37, 38, 20, 39, 22, 40, 41, 42, 43, 44, 45, 46, 47, 18, 19, 21, 23, 48, 49, 50, 51, 52, 53, 54, 55, 70, 71, 72, 73, 74, 75, 76, 77, 78, 79, 80] (by decide +kernel) (by decide +kernel)
set_option maxRecDepth 20000 in
theorem gX9_ask_X1_add : GoodIn wsX9_ask (wsV RX9 127 RX1 yX1_add wsX1_add) := goodIn_app (goodIn_of _ (by decide +kernel)) ggX9_ask_X1_add
theorem dX9_ask_0 : decode cX9_ask 0 = .ok (.iload_n 1, 1) := by decide +kernel
theorem dX9_ask_1 : decode cX9_ask 1 = .ok (.bipush 6, 2) := by decide +kernel
theorem dX9_ask_3 : decode cX9_ask 3 = .ok (.invokestatic 67, 3) := by decide +kernel
theorem dX9_ask_6 : decode cX9_ask 6 = .ok (.iload_n 2, 1) := by decide +kernel
theorem dX9_ask_7 : decode cX9_ask 7 = .ok (.iconst 3, 1) := by decide +kernel
theorem dX9_ask_8 : decode cX9_ask 8 = .ok (.invokestatic 67, 3) := by decide +kernel
theorem dX9_ask_11 : decode cX9_ask 11 = .ok (.iload_n 3, 1) := by decide +kernel
theorem dX9_ask_12 : decode cX9_ask 12 = .ok (.iconst 3, 1) := by decide +kernel
theorem dX9_ask_13 : decode cX9_ask 13 = .ok (.invokestatic 67, 3) := by decide +kernel
theorem dX9_ask_16 : decode cX9_ask 16 = .ok (.iload_n 2, 1) := by decide +kernel
theorem dX9_ask_17 : decode cX9_ask 17 = .ok (.iload_n 3, 1) := by decide +kernel
theorem dX9_ask_18 : decode cX9_ask 18 = .ok (.if_icmp .ne 13, 3) := by decide +kernel
theorem dX9_ask_21 : decode cX9_ask 21 = .ok (.new 117, 3) := by decide +kernel
theorem dX9_ask_24 : decode cX9_ask 24 = .ok (.dup, 1) := by decide +kernel
theorem dX9_ask_25 : decode cX9_ask 25 = .ok (.ldc 119, 2) := by decide +kernel
theorem dX9_ask_27 : decode cX9_ask 27 = .ok (.invokespecial 121, 3) := by decide +kernel
theorem dX9_ask_30 : decode cX9_ask 30 = .ok (.athrow, 1) := by decide +kernel
theorem dX9_ask_31 : decode cX9_ask 31 = .ok (.iload 4, 2) := by decide +kernel
theorem dX9_ask_33 : decode cX9_ask 33 = .ok (.iconst 1, 1) := by decide +kernel
theorem dX9_ask_34 : decode cX9_ask 34 = .ok (.bipush 10, 2) := by decide +kernel
theorem dX9_ask_36 : decode cX9_ask 36 = .ok (.invokestatic 72, 3) := by decide +kernel
theorem dX9_ask_39 : decode cX9_ask 39 = .ok (.iload 5, 2) := by decide +kernel
theorem dX9_ask_41 : decode cX9_ask 41 = .ok (.iconst 0, 1) := by decide +kernel
theorem dX9_ask_42 : decode cX9_ask 42 = .ok (.sipush 500, 3) := by decide +kernel
theorem dX9_ask_45 : decode cX9_ask 45 = .ok (.invokestatic 72, 3) := by decide +kernel
theorem dX9_ask_48 : decode cX9_ask 48 = .ok (.aload_n 0, 1) := by decide +kernel
theorem dX9_ask_49 : decode cX9_ask 49 = .ok (.getfield 55, 3) := by decide +kernel
theorem dX9_ask_52 : decode cX9_ask 52 = .ok (.getfield 76, 3) := by decide +kernel
theorem dX9_ask_55 : decode cX9_ask 55 = .ok (.iload_n 1, 1) := by decide +kernel
theorem dX9_ask_56 : decode cX9_ask 56 = .ok (.baload, 1) := by decide +kernel
theorem dX9_ask_57 : decode cX9_ask 57 = .ok (.ifCond .ne 27, 3) := by decide +kernel
theorem dX9_ask_60 : decode cX9_ask 60 = .ok (.aload_n 0, 1) := by decide +kernel
theorem dX9_ask_61 : decode cX9_ask 61 = .ok (.getfield 63, 3) := by decide +kernel
theorem dX9_ask_64 : decode cX9_ask 64 = .ok (.ifCond .ne 20, 3) := by decide +kernel
theorem dX9_ask_67 : decode cX9_ask 67 = .ok (.aload_n 0, 1) := by decide +kernel
theorem dX9_ask_68 : decode cX9_ask 68 = .ok (.getfield 34, 3) := by decide +kernel
theorem dX9_ask_71 : decode cX9_ask 71 = .ok (.getfield 124, 3) := by decide +kernel
theorem dX9_ask_74 : decode cX9_ask 74 = .ok (.invokevirtual 97, 3) := by decide +kernel
theorem dX9_ask_77 : decode cX9_ask 77 = .ok (.ifCond .eq 7, 3) := by decide +kernel
theorem dX9_ask_80 : decode cX9_ask 80 = .ok (.iconst 1, 1) := by decide +kernel
theorem dX9_ask_81 : decode cX9_ask 81 = .ok (.goto 4, 3) := by decide +kernel
theorem dX9_ask_84 : decode cX9_ask 84 = .ok (.iconst 0, 1) := by decide +kernel
theorem dX9_ask_85 : decode cX9_ask 85 = .ok (.invokestatic 85, 3) := by decide +kernel
theorem dX9_ask_88 : decode cX9_ask 88 = .ok (.aload_n 0, 1) := by decide +kernel
theorem dX9_ask_89 : decode cX9_ask 89 = .ok (.getfield 34, 3) := by decide +kernel
theorem dX9_ask_92 : decode cX9_ask 92 = .ok (.iload_n 1, 1) := by decide +kernel
theorem dX9_ask_93 : decode cX9_ask 93 = .ok (.iload_n 2, 1) := by decide +kernel
theorem dX9_ask_94 : decode cX9_ask 94 = .ok (.iload_n 3, 1) := by decide +kernel
theorem dX9_ask_95 : decode cX9_ask 95 = .ok (.iload 4, 2) := by decide +kernel
theorem dX9_ask_97 : decode cX9_ask 97 = .ok (.iload 5, 2) := by decide +kernel
theorem dX9_ask_99 : decode cX9_ask 99 = .ok (.invokevirtual 127, 3) := by decide +kernel
theorem dX9_ask_102 : decode cX9_ask 102 = .ok (.ireturn, 1) := by decide +kernel
set_option maxRecDepth 20000 in
theorem ggX9_clear_X9_checkState : GoodIn wsX9_clear wsX9_checkState := goodIn_ca (goodIn_r _ [8, 9, 10] (by decide +kernel) (by decide +kernel)) (goodIn_sub (fun _ h => List.mem_cons_of_mem _ (List.mem_append_right _ h)) (by decide +kernel))
set_option maxRecDepth 20000 in
theorem gX9_clear_X9_checkState : GoodIn wsX9_clear (va_wsS RX9 85 yX9_checkState wsX9_checkState) := goodIn_app (goodIn_of _ (by decide +kernel)) ggX9_clear_X9_checkState
set_option maxRecDepth 20000 in
theorem ggX9_clear_X3_clearDay : GoodIn wsX9_clear wsX3_clearDay := goodIn_r _ [15, 16, 17, 18, 19, 20, 21, 14, 22, 23, 24, 25, 26, 27, 28, 29, 30, 31, 32, 33, 34, 35, 36, 37, 38, 39, 40, 41, 42, 43, 44, 45, 46, 47, 48, 49, 50, 51, 52, 53, 54, 55, 56, 57, 58, 59, 60, 61, 62, 63, 64, 65, 66, 67, 68, 69, 70, 71, 72, 73, 74, 75, 76, 77, 78, 79, 80, 81, 82, 83, 84, 85, 86, 87, 88, 89, 90, 91, 92, 93, 94, 95, 96, 97, 98, 7, 99, 100, 101, 102, 103, 104, 105, 106, 107, 108, 109, 110, 111, 112, 113, 114, 115, 116, 117, 118, 119, 120, 121, 122, 123, 124, 125, 126, 127, 128, 129, 130, 131, 132, 133, 134, 135, 136, 137, 138, 139, 140, 141, 142, 143, 144, 145, 146, 147, 148, 149, 150, 151, 152, 153, 154, 155, 156, 157, 158, 159, 160, 161, 162, 163, 164, 165, 166, 167, 168, 169, 170, 171, 172, 173, 174, 175, 176, 177, 178, 179, 180, 181, 182, 183, 184, 185, 186, 187, 188, 189, 190, 191, 192, 193, 194, 195, 196, 197, 198, 199, 200, 201, 202, 203, 204, 205, 206, 207, 208, 209, 210, 211, 212, 213, 214, 215, 216, 217, 218, 219, 220, 221, 222, 223, 224, 314, 315, 316, 317, 318, 319, 320, 321, 322, 323, 324, 325, 326, 327, 328, 329, 330, 331, 332, 333, 334, 335, 336, 337, 338, 339, 340, 341, 342, 343, 344, 345, 346, 347, 348, 349, 350, 351, 352, 353, 354, 355, 356, 357, 358, 359, 360, 361] (by decide +kernel) (by decide +kernel)
set_option maxRecDepth 20000 in
theorem gX9_clear_X3_clearDay : GoodIn wsX9_clear (wsV RX9 130 RX3 yX3_clearDay wsX3_clearDay) := goodIn_app (goodIn_of _ (by decide +kernel)) ggX9_clear_X3_clearDay
set_option maxRecDepth 20000 in
theorem ggX9_clear_X9_takeBids : GoodIn wsX9_clear wsX9_takeBids := goodIn_r _ [228, 229, 230, 231, 232, 233, 234, 235, 236, 237, 238, 49, 239, 220, 223, 240, 195, 7, 196, 241, 242, 243, 244, 245, 246, 247, 304, 305, 306, 307, 308, 309, 310, 311, 312, 313, 344, 345, 346, 347, 348, 349, 350, 351, 352, 354, 355, 356, 357, 358, 359, 360, 361] (by decide +kernel) (by decide +kernel)
set_option maxRecDepth 20000 in
theorem gX9_clear_X9_takeBids : GoodIn wsX9_clear (wsV RX9 134 RX9 yX9_takeBids wsX9_takeBids) := goodIn_app (goodIn_of _ (by decide +kernel)) ggX9_clear_X9_takeBids
set_option maxRecDepth 20000 in
theorem ggX9_clear_X9_takeBlocks : GoodIn wsX9_clear wsX9_takeBlocks := goodIn_r _ [251, 252, 253, 254, 255, 256, 257, 258, 259, 235, 260, 98, 7, 99, 240, 195, 196, 241, 242, 243, 244, 245, 246, 247, 304, 305, 306, 307, 308, 309, 310, 311, 312, 313, 323, 324, 325, 326, 327, 328, 329, 330, 331, 332, 354, 355, 356, 357, 358, 359, 360, 361] (by decide +kernel) (by decide +kernel)
set_option maxRecDepth 20000 in
theorem gX9_clear_X9_takeBlocks : GoodIn wsX9_clear (wsV RX9 137 RX9 yX9_takeBlocks wsX9_takeBlocks) := goodIn_app (goodIn_of _ (by decide +kernel)) ggX9_clear_X9_takeBlocks
set_option maxRecDepth 20000 in
theorem ggX9_clear_X9_giveRights : GoodIn wsX9_clear wsX9_giveRights := goodIn_r _ [264, 265, 266, 267, 268, 269, 7, 270, 271, 272, 273, 274, 275, 276, 277, 278, 279, 280, 65, 66, 67, 281, 282, 283, 284, 285, 286, 287, 288, 289, 290, 291, 292, 293, 244, 294, 295, 296, 69, 70, 195, 196, 297, 237, 238, 49, 239, 220, 223, 304, 305, 306, 307, 308, 309, 310, 311, 312, 313, 353, 362, 363, 344, 345, 346, 347, 348, 349, 350, 351, 352, 354, 355, 356, 357, 358, 359, 360, 361] (by decide +kernel) (by decide +kernel)
set_option maxRecDepth 20000 in
theorem gX9_clear_X9_giveRights : GoodIn wsX9_clear (wsV RX9 140 RX9 yX9_giveRights wsX9_giveRights) := goodIn_app (goodIn_of _ (by decide +kernel)) ggX9_clear_X9_giveRights
set_option maxRecDepth 20000 in
theorem ggX9_clear_X9_worthTaken : GoodIn wsX9_clear wsX9_worthTaken := goodIn_r _ [301, 252, 254, 229, 230, 231, 302, 303, 179, 180, 94, 181, 96, 182, 121, 97, 120, 98, 7, 99, 183, 184, 185, 186, 187, 188, 189, 236, 237, 238, 49, 239, 220, 223, 304, 305, 306, 307, 308, 309, 310, 311, 312, 313, 323, 324, 325, 326, 327, 328, 329, 330, 331, 332, 344, 345, 346, 347, 348, 349, 350, 351, 352] (by decide +kernel) (by decide +kernel)
set_option maxRecDepth 20000 in
theorem gX9_clear_X9_worthTaken : GoodIn wsX9_clear (wsV RX9 143 RX9 yX9_worthTaken wsX9_worthTaken) := goodIn_app (goodIn_of _ (by decide +kernel)) ggX9_clear_X9_worthTaken
theorem dX9_clear_0 : decode cX9_clear 0 = .ok (.aload_n 0, 1) := by decide +kernel
theorem dX9_clear_1 : decode cX9_clear 1 = .ok (.getfield 63, 3) := by decide +kernel
theorem dX9_clear_4 : decode cX9_clear 4 = .ok (.ifCond .ne 7, 3) := by decide +kernel
theorem dX9_clear_7 : decode cX9_clear 7 = .ok (.iconst 1, 1) := by decide +kernel
theorem dX9_clear_8 : decode cX9_clear 8 = .ok (.goto 4, 3) := by decide +kernel
theorem dX9_clear_11 : decode cX9_clear 11 = .ok (.iconst 0, 1) := by decide +kernel
theorem dX9_clear_12 : decode cX9_clear 12 = .ok (.invokestatic 85, 3) := by decide +kernel
theorem dX9_clear_15 : decode cX9_clear 15 = .ok (.aload_n 0, 1) := by decide +kernel
theorem dX9_clear_16 : decode cX9_clear 16 = .ok (.getfield 48, 3) := by decide +kernel
theorem dX9_clear_19 : decode cX9_clear 19 = .ok (.aload_n 0, 1) := by decide +kernel
theorem dX9_clear_20 : decode cX9_clear 20 = .ok (.getfield 59, 3) := by decide +kernel
theorem dX9_clear_23 : decode cX9_clear 23 = .ok (.aaload, 1) := by decide +kernel
theorem dX9_clear_24 : decode cX9_clear 24 = .ok (.astore_n 1, 1) := by decide +kernel
theorem dX9_clear_25 : decode cX9_clear 25 = .ok (.aload_n 0, 1) := by decide +kernel
theorem dX9_clear_26 : decode cX9_clear 26 = .ok (.getfield 10, 3) := by decide +kernel
theorem dX9_clear_29 : decode cX9_clear 29 = .ok (.aload_n 1, 1) := by decide +kernel
theorem dX9_clear_30 : decode cX9_clear 30 = .ok (.invokevirtual 130, 3) := by decide +kernel
theorem dX9_clear_33 : decode cX9_clear 33 = .ok (.aload_n 0, 1) := by decide +kernel
theorem dX9_clear_34 : decode cX9_clear 34 = .ok (.aload_n 1, 1) := by decide +kernel
theorem dX9_clear_35 : decode cX9_clear 35 = .ok (.invokevirtual 134, 3) := by decide +kernel
theorem dX9_clear_38 : decode cX9_clear 38 = .ok (.aload_n 0, 1) := by decide +kernel
theorem dX9_clear_39 : decode cX9_clear 39 = .ok (.aload_n 1, 1) := by decide +kernel
theorem dX9_clear_40 : decode cX9_clear 40 = .ok (.invokevirtual 137, 3) := by decide +kernel
theorem dX9_clear_43 : decode cX9_clear 43 = .ok (.aload_n 0, 1) := by decide +kernel
theorem dX9_clear_44 : decode cX9_clear 44 = .ok (.aload_n 1, 1) := by decide +kernel
theorem dX9_clear_45 : decode cX9_clear 45 = .ok (.invokevirtual 140, 3) := by decide +kernel
theorem dX9_clear_48 : decode cX9_clear 48 = .ok (.aload_n 0, 1) := by decide +kernel
theorem dX9_clear_49 : decode cX9_clear 49 = .ok (.iconst 1, 1) := by decide +kernel
theorem dX9_clear_50 : decode cX9_clear 50 = .ok (.putfield 63, 3) := by decide +kernel
theorem dX9_clear_53 : decode cX9_clear 53 = .ok (.aload_n 0, 1) := by decide +kernel
theorem dX9_clear_54 : decode cX9_clear 54 = .ok (.invokevirtual 143, 3) := by decide +kernel
theorem dX9_clear_57 : decode cX9_clear 57 = .ok (.ireturn, 1) := by decide +kernel
set_option maxRecDepth 20000 in
theorem ggX9_offer_X9_checkIndex : GoodIn wsX9_offer wsX9_checkIndex := goodIn_ca (goodIn_r _ [8, 9, 10] (by decide +kernel) (by decide +kernel)) (goodIn_sub (fun _ h => List.mem_cons_of_mem _ (List.mem_append_left _ (List.mem_append_left _ (List.mem_append_right _ h)))) (by decide +kernel))
set_option maxRecDepth 20000 in
theorem gX9_offer_X9_checkIndex : GoodIn wsX9_offer (va_wsS RX9 67 yX9_checkIndex wsX9_checkIndex) := goodIn_app (goodIn_of _ (by decide +kernel)) ggX9_offer_X9_checkIndex
set_option maxRecDepth 20000 in
theorem ggX9_offer_X9_checkRange : GoodIn wsX9_offer wsX9_checkRange := goodIn_ca (goodIn_r _ [13, 14, 15] (by decide +kernel) (by decide +kernel)) (goodIn_sub (fun _ h => List.mem_cons_of_mem _ (List.mem_append_left _ (List.mem_append_right _ h))) (by decide +kernel))
set_option maxRecDepth 20000 in
theorem gX9_offer_X9_checkRange : GoodIn wsX9_offer (va_wsS RX9 72 yX9_checkRange wsX9_checkRange) := goodIn_app (goodIn_of _ (by decide +kernel)) ggX9_offer_X9_checkRange
set_option maxRecDepth 20000 in
theorem ggX9_offer_X8_hasRoom : GoodIn wsX9_offer wsX8_hasRoom := goodIn_r _ [20, 21, 22, 113, 114, 115, 116, 117, 118, 119, 120, 121] (by decide +kernel) (by decide +kernel)
set_option maxRecDepth 20000 in
theorem gX9_offer_X8_hasRoom : GoodIn wsX9_offer (wsV RX9 97 RX8 yX8_hasRoom wsX8_hasRoom) := goodIn_app (goodIn_of _ (by decide +kernel)) ggX9_offer_X8_hasRoom
set_option maxRecDepth 20000 in
theorem ggX9_offer_X9_checkState : GoodIn wsX9_offer wsX9_checkState := goodIn_ca (goodIn_r _ [25, 26, 27] (by decide +kernel) (by decide +kernel)) (goodIn_sub (fun _ h => List.mem_cons_of_mem _ (List.mem_append_right _ h)) (by decide +kernel))
set_option maxRecDepth 20000 in
theorem gX9_offer_X9_checkState : GoodIn wsX9_offer (va_wsS RX9 85 yX9_checkState wsX9_checkState) := goodIn_app (goodIn_of _ (by decide +kernel)) ggX9_offer_X9_checkState
set_option maxRecDepth 20000 in
theorem ggX9_offer_X8_add : GoodIn wsX9_offer wsX8_add := goodIn_r _ [31, 21, 32, 33, 34, 35, 36, 37, 38, 39, 17, 18, 19, 20, 22, 40, 41, 42, 43, 44, 45, 46, 47, 113, 114, 115, 116, 117, 118, 119, 120, 121] (by decide +kernel) (by decide +kernel)
set_option maxRecDepth 20000 in
theorem gX9_offer_X8_add : GoodIn wsX9_offer (wsV RX9 101 RX8 yX8_add wsX8_add) := goodIn_app (goodIn_of _ (by decide +kernel)) ggX9_offer_X8_add
set_option maxRecDepth 20000 in
theorem ggX9_offer_X9_tradeAll : GoodIn wsX9_offer wsX9_tradeAll := goodIn_r _ [51, 4, 52, 53, 54, 55, 56, 57, 19, 58, 35, 34, 32, 38, 44, 45, 46, 47, 36, 59, 60, 61, 7, 62, 63, 64, 65, 66, 67, 68, 69, 70, 71, 72, 73, 74, 75, 76, 77, 78, 79, 80, 81, 82, 83, 84, 85, 86, 87, 88, 89, 90, 91, 92, 93, 94, 95, 96, 97, 98, 99, 100, 101, 102, 103, 104, 105, 106, 107, 108, 113, 114, 115, 116, 117, 118, 119, 120, 121, 122, 123, 124, 125, 126, 127, 128, 129, 130] (by decide +kernel) (by decide +kernel)
set_option maxRecDepth 20000 in
theorem gX9_offer_X9_tradeAll : GoodIn wsX9_offer (wsV RX9 147 RX9 yX9_tradeAll wsX9_tradeAll) := goodIn_app (goodIn_of _ (by decide +kernel)) ggX9_offer_X9_tradeAll
theorem dX9_offer_0 : decode cX9_offer 0 = .ok (.iload_n 1, 1) := by decide +kernel
theorem dX9_offer_1 : decode cX9_offer 1 = .ok (.bipush 6, 2) := by decide +kernel
theorem dX9_offer_3 : decode cX9_offer 3 = .ok (.invokestatic 67, 3) := by decide +kernel
theorem dX9_offer_6 : decode cX9_offer 6 = .ok (.iload_n 2, 1) := by decide +kernel
theorem dX9_offer_7 : decode cX9_offer 7 = .ok (.iconst 3, 1) := by decide +kernel
theorem dX9_offer_8 : decode cX9_offer 8 = .ok (.invokestatic 67, 3) := by decide +kernel
theorem dX9_offer_11 : decode cX9_offer 11 = .ok (.iload_n 3, 1) := by decide +kernel
theorem dX9_offer_12 : decode cX9_offer 12 = .ok (.iconst 4, 1) := by decide +kernel
theorem dX9_offer_13 : decode cX9_offer 13 = .ok (.invokestatic 67, 3) := by decide +kernel
theorem dX9_offer_16 : decode cX9_offer 16 = .ok (.iload 5, 2) := by decide +kernel
theorem dX9_offer_18 : decode cX9_offer 18 = .ok (.iconst 0, 1) := by decide +kernel
theorem dX9_offer_19 : decode cX9_offer 19 = .ok (.sipush 300, 3) := by decide +kernel
theorem dX9_offer_22 : decode cX9_offer 22 = .ok (.invokestatic 72, 3) := by decide +kernel
theorem dX9_offer_25 : decode cX9_offer 25 = .ok (.iload 6, 2) := by decide +kernel
theorem dX9_offer_27 : decode cX9_offer 27 = .ok (.iconst 1, 1) := by decide +kernel
theorem dX9_offer_28 : decode cX9_offer 28 = .ok (.bipush 10, 2) := by decide +kernel
theorem dX9_offer_30 : decode cX9_offer 30 = .ok (.invokestatic 72, 3) := by decide +kernel
theorem dX9_offer_33 : decode cX9_offer 33 = .ok (.aload_n 0, 1) := by decide +kernel
theorem dX9_offer_34 : decode cX9_offer 34 = .ok (.getfield 55, 3) := by decide +kernel
theorem dX9_offer_37 : decode cX9_offer 37 = .ok (.getfield 76, 3) := by decide +kernel
theorem dX9_offer_40 : decode cX9_offer 40 = .ok (.iload_n 1, 1) := by decide +kernel
theorem dX9_offer_41 : decode cX9_offer 41 = .ok (.baload, 1) := by decide +kernel
theorem dX9_offer_42 : decode cX9_offer 42 = .ok (.ifCond .ne 25, 3) := by decide +kernel
theorem dX9_offer_45 : decode cX9_offer 45 = .ok (.aload_n 0, 1) := by decide +kernel
theorem dX9_offer_46 : decode cX9_offer 46 = .ok (.getfield 63, 3) := by decide +kernel
theorem dX9_offer_49 : decode cX9_offer 49 = .ok (.iconst 1, 1) := by decide +kernel
theorem dX9_offer_50 : decode cX9_offer 50 = .ok (.if_icmp .ne 17, 3) := by decide +kernel
theorem dX9_offer_53 : decode cX9_offer 53 = .ok (.aload_n 0, 1) := by decide +kernel
theorem dX9_offer_54 : decode cX9_offer 54 = .ok (.getfield 43, 3) := by decide +kernel
theorem dX9_offer_57 : decode cX9_offer 57 = .ok (.invokevirtual 97, 3) := by decide +kernel
theorem dX9_offer_60 : decode cX9_offer 60 = .ok (.ifCond .eq 7, 3) := by decide +kernel
theorem dX9_offer_63 : decode cX9_offer 63 = .ok (.iconst 1, 1) := by decide +kernel
theorem dX9_offer_64 : decode cX9_offer 64 = .ok (.goto 4, 3) := by decide +kernel
theorem dX9_offer_67 : decode cX9_offer 67 = .ok (.iconst 0, 1) := by decide +kernel
theorem dX9_offer_68 : decode cX9_offer 68 = .ok (.invokestatic 85, 3) := by decide +kernel
theorem dX9_offer_71 : decode cX9_offer 71 = .ok (.aload_n 0, 1) := by decide +kernel
theorem dX9_offer_72 : decode cX9_offer 72 = .ok (.getfield 43, 3) := by decide +kernel
theorem dX9_offer_75 : decode cX9_offer 75 = .ok (.iload_n 1, 1) := by decide +kernel
theorem dX9_offer_76 : decode cX9_offer 76 = .ok (.iload_n 2, 1) := by decide +kernel
theorem dX9_offer_77 : decode cX9_offer 77 = .ok (.iload_n 3, 1) := by decide +kernel
theorem dX9_offer_78 : decode cX9_offer 78 = .ok (.iload 4, 2) := by decide +kernel
theorem dX9_offer_80 : decode cX9_offer 80 = .ok (.iload 5, 2) := by decide +kernel
theorem dX9_offer_82 : decode cX9_offer 82 = .ok (.iload 6, 2) := by decide +kernel
theorem dX9_offer_84 : decode cX9_offer 84 = .ok (.invokevirtual 101, 3) := by decide +kernel
theorem dX9_offer_87 : decode cX9_offer 87 = .ok (.istore 7, 2) := by decide +kernel
theorem dX9_offer_89 : decode cX9_offer 89 = .ok (.aload_n 0, 1) := by decide +kernel
theorem dX9_offer_90 : decode cX9_offer 90 = .ok (.iload 7, 2) := by decide +kernel
theorem dX9_offer_92 : decode cX9_offer 92 = .ok (.invokevirtual 147, 3) := by decide +kernel
theorem dX9_offer_95 : decode cX9_offer 95 = .ok (.iload 7, 2) := by decide +kernel
theorem dX9_offer_97 : decode cX9_offer 97 = .ok (.ireturn, 1) := by decide +kernel
set_option maxRecDepth 20000 in
theorem ggX9_aid_X9_checkIndex : GoodIn wsX9_aid wsX9_checkIndex := goodIn_ca (goodIn_r _ [9, 10, 11] (by decide +kernel) (by decide +kernel)) (goodIn_sub (fun _ h => List.mem_cons_of_mem _ (List.mem_append_left _ (List.mem_append_left _ (List.mem_append_right _ h)))) (by decide +kernel))
set_option maxRecDepth 20000 in
theorem gX9_aid_X9_checkIndex : GoodIn wsX9_aid (va_wsS RX9 67 yX9_checkIndex wsX9_checkIndex) := goodIn_app (goodIn_of _ (by decide +kernel)) ggX9_aid_X9_checkIndex
set_option maxRecDepth 20000 in
theorem ggX9_aid_X9_checkRange : GoodIn wsX9_aid wsX9_checkRange := goodIn_ca (goodIn_r _ [14, 15, 16] (by decide +kernel) (by decide +kernel)) (goodIn_sub (fun _ h => List.mem_cons_of_mem _ (List.mem_append_left _ (List.mem_append_right _ h))) (by decide +kernel))
set_option maxRecDepth 20000 in
theorem gX9_aid_X9_checkRange : GoodIn wsX9_aid (va_wsS RX9 72 yX9_checkRange wsX9_checkRange) := goodIn_app (goodIn_of _ (by decide +kernel)) ggX9_aid_X9_checkRange
set_option maxRecDepth 20000 in
theorem ggX9_aid_X8_hasRoom : GoodIn wsX9_aid wsX8_hasRoom := goodIn_r _ [21, 22, 23, 71, 72, 73, 74, 75, 76, 77, 78, 79] (by decide +kernel) (by decide +kernel)
set_option maxRecDepth 20000 in
theorem gX9_aid_X8_hasRoom : GoodIn wsX9_aid (wsV RX9 97 RX8 yX8_hasRoom wsX8_hasRoom) := goodIn_app (goodIn_of _ (by decide +kernel)) ggX9_aid_X8_hasRoom
set_option maxRecDepth 20000 in
theorem ggX9_aid_X9_checkState : GoodIn wsX9_aid wsX9_checkState := goodIn_ca (goodIn_r _ [26, 27, 28] (by decide +kernel) (by decide +kernel)) (goodIn_sub (fun _ h => List.mem_cons_of_mem _ (List.mem_append_right _ h)) (by decide +kernel))
set_option maxRecDepth 20000 in
theorem gX9_aid_X9_checkState : GoodIn wsX9_aid (va_wsS RX9 85 yX9_checkState wsX9_checkState) := goodIn_app (goodIn_of _ (by decide +kernel)) ggX9_aid_X9_checkState
set_option maxRecDepth 20000 in
theorem ggX9_aid_X8_add : GoodIn wsX9_aid wsX8_add := goodIn_r _ [32, 22, 33, 34, 35, 36, 37, 38, 39, 40, 18, 19, 20, 21, 23, 41, 42, 43, 44, 45, 46, 47, 48, 71, 72, 73, 74, 75, 76, 77, 78, 79] (by decide +kernel) (by decide +kernel)
set_option maxRecDepth 20000 in
theorem gX9_aid_X8_add : GoodIn wsX9_aid (wsV RX9 101 RX8 yX8_add wsX8_add) := goodIn_app (goodIn_of _ (by decide +kernel)) ggX9_aid_X8_add
theorem dX9_aid_0 : decode cX9_aid 0 = .ok (.iload_n 1, 1) := by decide +kernel
theorem dX9_aid_1 : decode cX9_aid 1 = .ok (.bipush 6, 2) := by decide +kernel
theorem dX9_aid_3 : decode cX9_aid 3 = .ok (.invokestatic 67, 3) := by decide +kernel
theorem dX9_aid_6 : decode cX9_aid 6 = .ok (.iload_n 2, 1) := by decide +kernel
theorem dX9_aid_7 : decode cX9_aid 7 = .ok (.iconst 4, 1) := by decide +kernel
theorem dX9_aid_8 : decode cX9_aid 8 = .ok (.invokestatic 67, 3) := by decide +kernel
theorem dX9_aid_11 : decode cX9_aid 11 = .ok (.iload 4, 2) := by decide +kernel
theorem dX9_aid_13 : decode cX9_aid 13 = .ok (.iconst 0, 1) := by decide +kernel
theorem dX9_aid_14 : decode cX9_aid 14 = .ok (.sipush 300, 3) := by decide +kernel
theorem dX9_aid_17 : decode cX9_aid 17 = .ok (.invokestatic 72, 3) := by decide +kernel
theorem dX9_aid_20 : decode cX9_aid 20 = .ok (.iload 5, 2) := by decide +kernel
theorem dX9_aid_22 : decode cX9_aid 22 = .ok (.iconst 1, 1) := by decide +kernel
theorem dX9_aid_23 : decode cX9_aid 23 = .ok (.bipush 10, 2) := by decide +kernel
theorem dX9_aid_25 : decode cX9_aid 25 = .ok (.invokestatic 72, 3) := by decide +kernel
theorem dX9_aid_28 : decode cX9_aid 28 = .ok (.aload_n 0, 1) := by decide +kernel
theorem dX9_aid_29 : decode cX9_aid 29 = .ok (.getfield 48, 3) := by decide +kernel
theorem dX9_aid_32 : decode cX9_aid 32 = .ok (.aload_n 0, 1) := by decide +kernel
theorem dX9_aid_33 : decode cX9_aid 33 = .ok (.getfield 59, 3) := by decide +kernel
theorem dX9_aid_36 : decode cX9_aid 36 = .ok (.aaload, 1) := by decide +kernel
theorem dX9_aid_37 : decode cX9_aid 37 = .ok (.getfield 154, 3) := by decide +kernel
theorem dX9_aid_40 : decode cX9_aid 40 = .ok (.astore 6, 2) := by decide +kernel
theorem dX9_aid_42 : decode cX9_aid 42 = .ok (.aload_n 0, 1) := by decide +kernel
theorem dX9_aid_43 : decode cX9_aid 43 = .ok (.getfield 55, 3) := by decide +kernel
theorem dX9_aid_46 : decode cX9_aid 46 = .ok (.getfield 76, 3) := by decide +kernel
theorem dX9_aid_49 : decode cX9_aid 49 = .ok (.iload_n 1, 1) := by decide +kernel
theorem dX9_aid_50 : decode cX9_aid 50 = .ok (.baload, 1) := by decide +kernel
theorem dX9_aid_51 : decode cX9_aid 51 = .ok (.ifCond .ne 15, 3) := by decide +kernel
theorem dX9_aid_54 : decode cX9_aid 54 = .ok (.aload 6, 2) := by decide +kernel
theorem dX9_aid_56 : decode cX9_aid 56 = .ok (.invokevirtual 97, 3) := by decide +kernel
theorem dX9_aid_59 : decode cX9_aid 59 = .ok (.ifCond .eq 7, 3) := by decide +kernel
theorem dX9_aid_62 : decode cX9_aid 62 = .ok (.iconst 1, 1) := by decide +kernel
theorem dX9_aid_63 : decode cX9_aid 63 = .ok (.goto 4, 3) := by decide +kernel
theorem dX9_aid_66 : decode cX9_aid 66 = .ok (.iconst 0, 1) := by decide +kernel
theorem dX9_aid_67 : decode cX9_aid 67 = .ok (.invokestatic 85, 3) := by decide +kernel
theorem dX9_aid_70 : decode cX9_aid 70 = .ok (.aload 6, 2) := by decide +kernel
theorem dX9_aid_72 : decode cX9_aid 72 = .ok (.iload_n 1, 1) := by decide +kernel
theorem dX9_aid_73 : decode cX9_aid 73 = .ok (.iconst 0, 1) := by decide +kernel
theorem dX9_aid_74 : decode cX9_aid 74 = .ok (.iload_n 2, 1) := by decide +kernel
theorem dX9_aid_75 : decode cX9_aid 75 = .ok (.iload_n 3, 1) := by decide +kernel
theorem dX9_aid_76 : decode cX9_aid 76 = .ok (.ifCond .ne 7, 3) := by decide +kernel
theorem dX9_aid_79 : decode cX9_aid 79 = .ok (.iconst 1, 1) := by decide +kernel
theorem dX9_aid_80 : decode cX9_aid 80 = .ok (.goto 4, 3) := by decide +kernel
theorem dX9_aid_83 : decode cX9_aid 83 = .ok (.iconst 0, 1) := by decide +kernel
theorem dX9_aid_84 : decode cX9_aid 84 = .ok (.iload 4, 2) := by decide +kernel
theorem dX9_aid_86 : decode cX9_aid 86 = .ok (.iload 5, 2) := by decide +kernel
theorem dX9_aid_88 : decode cX9_aid 88 = .ok (.invokevirtual 101, 3) := by decide +kernel
theorem dX9_aid_91 : decode cX9_aid 91 = .ok (.ireturn, 1) := by decide +kernel
set_option maxRecDepth 20000 in
theorem ggX9_close_X9_checkState : GoodIn wsX9_close wsX9_checkState := goodIn_ca (goodIn_r _ [13, 14, 15] (by decide +kernel) (by decide +kernel)) (goodIn_sub (fun _ h => List.mem_cons_of_mem _ (List.mem_append_right _ h)) (by decide +kernel))
set_option maxRecDepth 20000 in
theorem gX9_close_X9_checkState : GoodIn wsX9_close (va_wsS RX9 85 yX9_checkState wsX9_checkState) := goodIn_app (goodIn_of _ (by decide +kernel)) ggX9_close_X9_checkState
theorem dX9_close_0 : decode cX9_close 0 = .ok (.aload_n 0, 1) := by decide +kernel
theorem dX9_close_1 : decode cX9_close 1 = .ok (.getfield 63, 3) := by decide +kernel
theorem dX9_close_4 : decode cX9_close 4 = .ok (.iconst 1, 1) := by decide +kernel
theorem dX9_close_5 : decode cX9_close 5 = .ok (.if_icmp .ne 16, 3) := by decide +kernel
theorem dX9_close_8 : decode cX9_close 8 = .ok (.aload_n 0, 1) := by decide +kernel
theorem dX9_close_9 : decode cX9_close 9 = .ok (.getfield 59, 3) := by decide +kernel
theorem dX9_close_12 : decode cX9_close 12 = .ok (.bipush 9, 2) := by decide +kernel
theorem dX9_close_14 : decode cX9_close 14 = .ok (.if_icmp .ge 7, 3) := by decide +kernel
theorem dX9_close_17 : decode cX9_close 17 = .ok (.iconst 1, 1) := by decide +kernel
theorem dX9_close_18 : decode cX9_close 18 = .ok (.goto 4, 3) := by decide +kernel
theorem dX9_close_21 : decode cX9_close 21 = .ok (.iconst 0, 1) := by decide +kernel
theorem dX9_close_22 : decode cX9_close 22 = .ok (.invokestatic 85, 3) := by decide +kernel
theorem dX9_close_25 : decode cX9_close 25 = .ok (.aload_n 0, 1) := by decide +kernel
theorem dX9_close_26 : decode cX9_close 26 = .ok (.getfield 25, 3) := by decide +kernel
theorem dX9_close_29 : decode cX9_close 29 = .ok (.iconst 0, 1) := by decide +kernel
theorem dX9_close_30 : decode cX9_close 30 = .ok (.putfield 150, 3) := by decide +kernel
theorem dX9_close_33 : decode cX9_close 33 = .ok (.aload_n 0, 1) := by decide +kernel
theorem dX9_close_34 : decode cX9_close 34 = .ok (.getfield 30, 3) := by decide +kernel
theorem dX9_close_37 : decode cX9_close 37 = .ok (.iconst 0, 1) := by decide +kernel
theorem dX9_close_38 : decode cX9_close 38 = .ok (.putfield 105, 3) := by decide +kernel
theorem dX9_close_41 : decode cX9_close 41 = .ok (.aload_n 0, 1) := by decide +kernel
theorem dX9_close_42 : decode cX9_close 42 = .ok (.getfield 34, 3) := by decide +kernel
theorem dX9_close_45 : decode cX9_close 45 = .ok (.getfield 124, 3) := by decide +kernel
theorem dX9_close_48 : decode cX9_close 48 = .ok (.iconst 0, 1) := by decide +kernel
theorem dX9_close_49 : decode cX9_close 49 = .ok (.putfield 150, 3) := by decide +kernel
theorem dX9_close_52 : decode cX9_close 52 = .ok (.aload_n 0, 1) := by decide +kernel
theorem dX9_close_53 : decode cX9_close 53 = .ok (.getfield 43, 3) := by decide +kernel
theorem dX9_close_56 : decode cX9_close 56 = .ok (.iconst 0, 1) := by decide +kernel
theorem dX9_close_57 : decode cX9_close 57 = .ok (.putfield 150, 3) := by decide +kernel
theorem dX9_close_60 : decode cX9_close 60 = .ok (.aload_n 0, 1) := by decide +kernel
theorem dX9_close_61 : decode cX9_close 61 = .ok (.dup, 1) := by decide +kernel
theorem dX9_close_62 : decode cX9_close 62 = .ok (.getfield 59, 3) := by decide +kernel
theorem dX9_close_65 : decode cX9_close 65 = .ok (.iconst 1, 1) := by decide +kernel
theorem dX9_close_66 : decode cX9_close 66 = .ok (.iadd, 1) := by decide +kernel
theorem dX9_close_67 : decode cX9_close 67 = .ok (.putfield 59, 3) := by decide +kernel
theorem dX9_close_70 : decode cX9_close 70 = .ok (.aload_n 0, 1) := by decide +kernel
theorem dX9_close_71 : decode cX9_close 71 = .ok (.iconst 0, 1) := by decide +kernel
theorem dX9_close_72 : decode cX9_close 72 = .ok (.putfield 63, 3) := by decide +kernel
theorem dX9_close_75 : decode cX9_close 75 = .ok (.aload_n 0, 1) := by decide +kernel
theorem dX9_close_76 : decode cX9_close 76 = .ok (.getfield 59, 3) := by decide +kernel
theorem dX9_close_79 : decode cX9_close 79 = .ok (.ireturn, 1) := by decide +kernel
set_option maxRecDepth 20000 in
theorem ggX9_read_X9_checkIndex : GoodIn wsX9_read wsX9_checkIndex := goodIn_ca (goodIn_r _ [8, 9, 10] (by decide +kernel) (by decide +kernel)) (goodIn_sub (fun _ h => List.mem_cons_of_mem _ (List.mem_append_left _ (List.mem_append_right _ h))) (by decide +kernel))
set_option maxRecDepth 20000 in
theorem gX9_read_X9_checkIndex : GoodIn wsX9_read (va_wsS RX9 67 yX9_checkIndex wsX9_checkIndex) := goodIn_app (goodIn_of _ (by decide +kernel)) ggX9_read_X9_checkIndex
set_option maxRecDepth 20000 in
theorem ggX9_read_X9_checkRange : GoodIn wsX9_read wsX9_checkRange := goodIn_ca (goodIn_r _ [13, 14, 15] (by decide +kernel) (by decide +kernel)) (goodIn_sub (fun _ h => List.mem_cons_of_mem _ (List.mem_append_right _ h)) (by decide +kernel))
set_option maxRecDepth 20000 in
theorem gX9_read_X9_checkRange : GoodIn wsX9_read (va_wsS RX9 72 yX9_checkRange wsX9_checkRange) := goodIn_app (goodIn_of _ (by decide +kernel)) ggX9_read_X9_checkRange
set_option maxRecDepth 20000 in
theorem ggX9_read_X9_placeOf : GoodIn wsX9_read wsX9_placeOf := goodIn_r _ [18, 19, 20, 7, 21] (by decide +kernel) (by decide +kernel)
set_option maxRecDepth 20000 in
theorem gX9_read_X9_placeOf : GoodIn wsX9_read (va_wsS RX9 157 yX9_placeOf wsX9_placeOf) := goodIn_app (goodIn_of _ (by decide +kernel)) ggX9_read_X9_placeOf
theorem dX9_read_0 : decode cX9_read 0 = .ok (.iload_n 1, 1) := by decide +kernel
theorem dX9_read_1 : decode cX9_read 1 = .ok (.aload_n 0, 1) := by decide +kernel
theorem dX9_read_2 : decode cX9_read 2 = .ok (.getfield 59, 3) := by decide +kernel
theorem dX9_read_5 : decode cX9_read 5 = .ok (.invokestatic 67, 3) := by decide +kernel
theorem dX9_read_8 : decode cX9_read 8 = .ok (.iload_n 2, 1) := by decide +kernel
theorem dX9_read_9 : decode cX9_read 9 = .ok (.bipush 6, 2) := by decide +kernel
theorem dX9_read_11 : decode cX9_read 11 = .ok (.invokestatic 67, 3) := by decide +kernel
theorem dX9_read_14 : decode cX9_read 14 = .ok (.iload_n 3, 1) := by decide +kernel
theorem dX9_read_15 : decode cX9_read 15 = .ok (.iconst 3, 1) := by decide +kernel
theorem dX9_read_16 : decode cX9_read 16 = .ok (.invokestatic 67, 3) := by decide +kernel
theorem dX9_read_19 : decode cX9_read 19 = .ok (.iload 4, 2) := by decide +kernel
theorem dX9_read_21 : decode cX9_read 21 = .ok (.iconst 4, 1) := by decide +kernel
theorem dX9_read_22 : decode cX9_read 22 = .ok (.invokestatic 67, 3) := by decide +kernel
theorem dX9_read_25 : decode cX9_read 25 = .ok (.iload 5, 2) := by decide +kernel
theorem dX9_read_27 : decode cX9_read 27 = .ok (.sipush (-200), 3) := by decide +kernel
theorem dX9_read_30 : decode cX9_read 30 = .ok (.sipush 200, 3) := by decide +kernel
theorem dX9_read_33 : decode cX9_read 33 = .ok (.invokestatic 72, 3) := by decide +kernel
theorem dX9_read_36 : decode cX9_read 36 = .ok (.aload_n 0, 1) := by decide +kernel
theorem dX9_read_37 : decode cX9_read 37 = .ok (.getfield 48, 3) := by decide +kernel
theorem dX9_read_40 : decode cX9_read 40 = .ok (.iload_n 1, 1) := by decide +kernel
theorem dX9_read_41 : decode cX9_read 41 = .ok (.aaload, 1) := by decide +kernel
theorem dX9_read_42 : decode cX9_read 42 = .ok (.astore 6, 2) := by decide +kernel
theorem dX9_read_44 : decode cX9_read 44 = .ok (.iload_n 2, 1) := by decide +kernel
theorem dX9_read_45 : decode cX9_read 45 = .ok (.iload_n 3, 1) := by decide +kernel
theorem dX9_read_46 : decode cX9_read 46 = .ok (.iload 4, 2) := by decide +kernel
theorem dX9_read_48 : decode cX9_read 48 = .ok (.invokestatic 157, 3) := by decide +kernel
theorem dX9_read_51 : decode cX9_read 51 = .ok (.istore 7, 2) := by decide +kernel
theorem dX9_read_53 : decode cX9_read 53 = .ok (.aload 6, 2) := by decide +kernel
theorem dX9_read_55 : decode cX9_read 55 = .ok (.getfield 161, 3) := by decide +kernel
theorem dX9_read_58 : decode cX9_read 58 = .ok (.iload 7, 2) := by decide +kernel
theorem dX9_read_60 : decode cX9_read 60 = .ok (.iload 5, 2) := by decide +kernel
theorem dX9_read_62 : decode cX9_read 62 = .ok (.aload 6, 2) := by decide +kernel
theorem dX9_read_64 : decode cX9_read 64 = .ok (.getfield 164, 3) := by decide +kernel
theorem dX9_read_67 : decode cX9_read 67 = .ok (.iload 7, 2) := by decide +kernel
theorem dX9_read_69 : decode cX9_read 69 = .ok (.iaload, 1) := by decide +kernel
theorem dX9_read_70 : decode cX9_read 70 = .ok (.isub, 1) := by decide +kernel
theorem dX9_read_71 : decode cX9_read 71 = .ok (.iastore, 1) := by decide +kernel
theorem dX9_read_72 : decode cX9_read 72 = .ok (.aload 6, 2) := by decide +kernel
theorem dX9_read_74 : decode cX9_read 74 = .ok (.getfield 161, 3) := by decide +kernel
theorem dX9_read_77 : decode cX9_read 77 = .ok (.iload 7, 2) := by decide +kernel
theorem dX9_read_79 : decode cX9_read 79 = .ok (.iaload, 1) := by decide +kernel
theorem dX9_read_80 : decode cX9_read 80 = .ok (.ireturn, 1) := by decide +kernel
set_option maxRecDepth 20000 in
theorem ggX9_run_X9_checkIndex : GoodIn wsX9_run wsX9_checkIndex := goodIn_ca (goodIn_r _ [10, 11, 12] (by decide +kernel) (by decide +kernel)) (goodIn_sub (fun _ h => List.mem_cons_of_mem _ (List.mem_append_left _ (List.mem_append_right _ h))) (by decide +kernel))
set_option maxRecDepth 20000 in
theorem gX9_run_X9_checkIndex : GoodIn wsX9_run (va_wsS RX9 67 yX9_checkIndex wsX9_checkIndex) := goodIn_app (goodIn_of _ (by decide +kernel)) ggX9_run_X9_checkIndex
set_option maxRecDepth 20000 in
theorem ggX9_run_X9_checkState : GoodIn wsX9_run wsX9_checkState := goodIn_ca (goodIn_r _ [15, 16, 17] (by decide +kernel) (by decide +kernel)) (goodIn_sub (fun _ h => List.mem_cons_of_mem _ (List.mem_append_right _ h)) (by decide +kernel))
set_option maxRecDepth 20000 in
theorem gX9_run_X9_checkState : GoodIn wsX9_run (va_wsS RX9 85 yX9_checkState wsX9_checkState) := goodIn_app (goodIn_of _ (by decide +kernel)) ggX9_run_X9_checkState
set_option maxRecDepth 20000 in
theorem ggX9_run_X5_billOf : GoodIn wsX9_run wsX5_billOf := goodIn_r _ [22, 23, 24, 25, 26, 21, 27, 28, 29, 30, 31, 32, 33, 34, 9, 35, 36, 37, 38, 39, 40, 41, 42, 43, 44, 45, 46, 47, 48, 49, 50, 51, 52, 53, 54, 55, 56, 57, 58, 59, 60, 61, 62, 63, 64, 65, 66, 67, 68, 100, 101, 102, 103, 104, 105, 106, 107, 112, 113, 114, 115, 116, 117, 118, 119, 120] (by decide +kernel) (by decide +kernel)
set_option maxRecDepth 20000 in
theorem gX9_run_X5_billOf : GoodIn wsX9_run (wsV RX9 170 RX5 yX5_billOf wsX5_billOf) := goodIn_app (goodIn_of _ (by decide +kernel)) ggX9_run_X5_billOf
set_option maxRecDepth 20000 in
theorem ggX9_run_X0_payFromHouse : GoodIn wsX9_run wsX0_payFromHouse := goodIn_r _ [73, 74, 75, 108, 109, 110, 111] (by decide +kernel) (by decide +kernel)
set_option maxRecDepth 20000 in
theorem gX9_run_X0_payFromHouse : GoodIn wsX9_run (wsV RX9 177 RX0 yX0_payFromHouse wsX0_payFromHouse) := goodIn_app (goodIn_of _ (by decide +kernel)) ggX9_run_X0_payFromHouse
set_option maxRecDepth 20000 in
theorem ggX9_run_X0_failAll : GoodIn wsX9_run wsX0_failAll := goodIn_r _ [79, 80, 81, 82, 72, 83, 84, 74, 85, 86, 87, 88, 89, 75, 108, 109, 110, 111] (by decide +kernel) (by decide +kernel)
set_option maxRecDepth 20000 in
theorem gX9_run_X0_failAll : GoodIn wsX9_run (wsV RX9 180 RX0 yX0_failAll wsX0_failAll) := goodIn_app (goodIn_of _ (by decide +kernel)) ggX9_run_X0_failAll
theorem dX9_run_0 : decode cX9_run 0 = .ok (.iload_n 1, 1) := by decide +kernel
theorem dX9_run_1 : decode cX9_run 1 = .ok (.aload_n 0, 1) := by decide +kernel
theorem dX9_run_2 : decode cX9_run 2 = .ok (.getfield 59, 3) := by decide +kernel
theorem dX9_run_5 : decode cX9_run 5 = .ok (.invokestatic 67, 3) := by decide +kernel
theorem dX9_run_8 : decode cX9_run 8 = .ok (.aload_n 0, 1) := by decide +kernel
theorem dX9_run_9 : decode cX9_run 9 = .ok (.getfield 48, 3) := by decide +kernel
theorem dX9_run_12 : decode cX9_run 12 = .ok (.iload_n 1, 1) := by decide +kernel
theorem dX9_run_13 : decode cX9_run 13 = .ok (.aaload, 1) := by decide +kernel
theorem dX9_run_14 : decode cX9_run 14 = .ok (.astore_n 2, 1) := by decide +kernel
theorem dX9_run_15 : decode cX9_run 15 = .ok (.aload_n 2, 1) := by decide +kernel
theorem dX9_run_16 : decode cX9_run 16 = .ok (.getfield 167, 3) := by decide +kernel
theorem dX9_run_19 : decode cX9_run 19 = .ok (.iconst 3, 1) := by decide +kernel
theorem dX9_run_20 : decode cX9_run 20 = .ok (.if_icmp .ge 7, 3) := by decide +kernel
theorem dX9_run_23 : decode cX9_run 23 = .ok (.iconst 1, 1) := by decide +kernel
theorem dX9_run_24 : decode cX9_run 24 = .ok (.goto 4, 3) := by decide +kernel
theorem dX9_run_27 : decode cX9_run 27 = .ok (.iconst 0, 1) := by decide +kernel
theorem dX9_run_28 : decode cX9_run 28 = .ok (.invokestatic 85, 3) := by decide +kernel
theorem dX9_run_31 : decode cX9_run 31 = .ok (.aload_n 2, 1) := by decide +kernel
theorem dX9_run_32 : decode cX9_run 32 = .ok (.dup, 1) := by decide +kernel
theorem dX9_run_33 : decode cX9_run 33 = .ok (.getfield 167, 3) := by decide +kernel
theorem dX9_run_36 : decode cX9_run 36 = .ok (.iconst 1, 1) := by decide +kernel
theorem dX9_run_37 : decode cX9_run 37 = .ok (.iadd, 1) := by decide +kernel
theorem dX9_run_38 : decode cX9_run 38 = .ok (.putfield 167, 3) := by decide +kernel
theorem dX9_run_41 : decode cX9_run 41 = .ok (.iconst 0, 1) := by decide +kernel
theorem dX9_run_42 : decode cX9_run 42 = .ok (.istore_n 3, 1) := by decide +kernel
theorem dX9_run_43 : decode cX9_run 43 = .ok (.iload_n 3, 1) := by decide +kernel
theorem dX9_run_44 : decode cX9_run 44 = .ok (.bipush 6, 2) := by decide +kernel
theorem dX9_run_46 : decode cX9_run 46 = .ok (.if_icmp .ge 56, 3) := by decide +kernel
theorem dX9_run_49 : decode cX9_run 49 = .ok (.aload_n 0, 1) := by decide +kernel
theorem dX9_run_50 : decode cX9_run 50 = .ok (.getfield 55, 3) := by decide +kernel
theorem dX9_run_53 : decode cX9_run 53 = .ok (.getfield 76, 3) := by decide +kernel
theorem dX9_run_56 : decode cX9_run 56 = .ok (.iload_n 3, 1) := by decide +kernel
theorem dX9_run_57 : decode cX9_run 57 = .ok (.baload, 1) := by decide +kernel
theorem dX9_run_58 : decode cX9_run 58 = .ok (.ifCond .ne 38, 3) := by decide +kernel
theorem dX9_run_61 : decode cX9_run 61 = .ok (.aload_n 2, 1) := by decide +kernel
theorem dX9_run_62 : decode cX9_run 62 = .ok (.iload_n 3, 1) := by decide +kernel
theorem dX9_run_63 : decode cX9_run 63 = .ok (.invokevirtual 170, 3) := by decide +kernel
theorem dX9_run_66 : decode cX9_run 66 = .ok (.aload_n 2, 1) := by decide +kernel
theorem dX9_run_67 : decode cX9_run 67 = .ok (.getfield 174, 3) := by decide +kernel
theorem dX9_run_70 : decode cX9_run 70 = .ok (.iload_n 3, 1) := by decide +kernel
theorem dX9_run_71 : decode cX9_run 71 = .ok (.iaload, 1) := by decide +kernel
theorem dX9_run_72 : decode cX9_run 72 = .ok (.isub, 1) := by decide +kernel
theorem dX9_run_73 : decode cX9_run 73 = .ok (.istore 4, 2) := by decide +kernel
theorem dX9_run_75 : decode cX9_run 75 = .ok (.aload_n 2, 1) := by decide +kernel
theorem dX9_run_76 : decode cX9_run 76 = .ok (.getfield 174, 3) := by decide +kernel
theorem dX9_run_79 : decode cX9_run 79 = .ok (.iload_n 3, 1) := by decide +kernel
theorem dX9_run_80 : decode cX9_run 80 = .ok (.dup2, 1) := by decide +kernel
theorem dX9_run_81 : decode cX9_run 81 = .ok (.iaload, 1) := by decide +kernel
theorem dX9_run_82 : decode cX9_run 82 = .ok (.iload 4, 2) := by decide +kernel
theorem dX9_run_84 : decode cX9_run 84 = .ok (.iadd, 1) := by decide +kernel
theorem dX9_run_85 : decode cX9_run 85 = .ok (.iastore, 1) := by decide +kernel
theorem dX9_run_86 : decode cX9_run 86 = .ok (.aload_n 0, 1) := by decide +kernel
theorem dX9_run_87 : decode cX9_run 87 = .ok (.getfield 55, 3) := by decide +kernel
theorem dX9_run_90 : decode cX9_run 90 = .ok (.iload_n 3, 1) := by decide +kernel
theorem dX9_run_91 : decode cX9_run 91 = .ok (.iload 4, 2) := by decide +kernel
theorem dX9_run_93 : decode cX9_run 93 = .ok (.invokevirtual 177, 3) := by decide +kernel
theorem dX9_run_96 : decode cX9_run 96 = .ok (.iinc 3 1, 3) := by decide +kernel
theorem dX9_run_99 : decode cX9_run 99 = .ok (.goto (-56), 3) := by decide +kernel
theorem dX9_run_102 : decode cX9_run 102 = .ok (.aload_n 0, 1) := by decide +kernel
theorem dX9_run_103 : decode cX9_run 103 = .ok (.getfield 55, 3) := by decide +kernel
theorem dX9_run_106 : decode cX9_run 106 = .ok (.invokevirtual 180, 3) := by decide +kernel
theorem dX9_run_109 : decode cX9_run 109 = .ok (.ireturn, 1) := by decide +kernel
theorem dX9_day_0 : decode cX9_day 0 = .ok (.aload_n 0, 1) := by decide +kernel
theorem dX9_day_1 : decode cX9_day 1 = .ok (.getfield 59, 3) := by decide +kernel
theorem dX9_day_4 : decode cX9_day 4 = .ok (.ireturn, 1) := by decide +kernel
theorem dX9_phase_0 : decode cX9_phase 0 = .ok (.aload_n 0, 1) := by decide +kernel
theorem dX9_phase_1 : decode cX9_phase 1 = .ok (.getfield 63, 3) := by decide +kernel
theorem dX9_phase_4 : decode cX9_phase 4 = .ok (.ireturn, 1) := by decide +kernel
set_option maxRecDepth 20000 in
theorem ggX9_price_X9_checkIndex : GoodIn wsX9_price wsX9_checkIndex := goodIn_ca (goodIn_r _ [8, 9, 10] (by decide +kernel) (by decide +kernel)) (goodIn_sub (fun _ h => List.mem_cons_of_mem _ (List.mem_append_left _ (List.mem_append_right _ h))) (by decide +kernel))
set_option maxRecDepth 20000 in
theorem gX9_price_X9_checkIndex : GoodIn wsX9_price (va_wsS RX9 67 yX9_checkIndex wsX9_checkIndex) := goodIn_app (goodIn_of _ (by decide +kernel)) ggX9_price_X9_checkIndex
set_option maxRecDepth 20000 in
theorem ggX9_price_X9_checkState : GoodIn wsX9_price wsX9_checkState := goodIn_ca (goodIn_r _ [13, 14, 15] (by decide +kernel) (by decide +kernel)) (goodIn_sub (fun _ h => List.mem_cons_of_mem _ (List.mem_append_right _ h)) (by decide +kernel))
set_option maxRecDepth 20000 in
theorem gX9_price_X9_checkState : GoodIn wsX9_price (va_wsS RX9 85 yX9_checkState wsX9_checkState) := goodIn_app (goodIn_of _ (by decide +kernel)) ggX9_price_X9_checkState
set_option maxRecDepth 20000 in
theorem ggX9_price_X9_spotOf : GoodIn wsX9_price wsX9_spotOf := goodIn_r _ [18] (by decide +kernel) (by decide +kernel)
set_option maxRecDepth 20000 in
theorem gX9_price_X9_spotOf : GoodIn wsX9_price (va_wsS RX9 186 yX9_spotOf wsX9_spotOf) := goodIn_app (goodIn_of _ (by decide +kernel)) ggX9_price_X9_spotOf
theorem dX9_price_0 : decode cX9_price 0 = .ok (.iload_n 1, 1) := by decide +kernel
theorem dX9_price_1 : decode cX9_price 1 = .ok (.iconst 3, 1) := by decide +kernel
theorem dX9_price_2 : decode cX9_price 2 = .ok (.invokestatic 67, 3) := by decide +kernel
theorem dX9_price_5 : decode cX9_price 5 = .ok (.iload_n 2, 1) := by decide +kernel
theorem dX9_price_6 : decode cX9_price 6 = .ok (.iconst 4, 1) := by decide +kernel
theorem dX9_price_7 : decode cX9_price 7 = .ok (.invokestatic 67, 3) := by decide +kernel
theorem dX9_price_10 : decode cX9_price 10 = .ok (.aload_n 0, 1) := by decide +kernel
theorem dX9_price_11 : decode cX9_price 11 = .ok (.getfield 63, 3) := by decide +kernel
theorem dX9_price_14 : decode cX9_price 14 = .ok (.iconst 1, 1) := by decide +kernel
theorem dX9_price_15 : decode cX9_price 15 = .ok (.if_icmp .ne 7, 3) := by decide +kernel
theorem dX9_price_18 : decode cX9_price 18 = .ok (.iconst 1, 1) := by decide +kernel
theorem dX9_price_19 : decode cX9_price 19 = .ok (.goto 4, 3) := by decide +kernel
theorem dX9_price_22 : decode cX9_price 22 = .ok (.iconst 0, 1) := by decide +kernel
theorem dX9_price_23 : decode cX9_price 23 = .ok (.invokestatic 85, 3) := by decide +kernel
theorem dX9_price_26 : decode cX9_price 26 = .ok (.aload_n 0, 1) := by decide +kernel
theorem dX9_price_27 : decode cX9_price 27 = .ok (.getfield 48, 3) := by decide +kernel
theorem dX9_price_30 : decode cX9_price 30 = .ok (.aload_n 0, 1) := by decide +kernel
theorem dX9_price_31 : decode cX9_price 31 = .ok (.getfield 59, 3) := by decide +kernel
theorem dX9_price_34 : decode cX9_price 34 = .ok (.aaload, 1) := by decide +kernel
theorem dX9_price_35 : decode cX9_price 35 = .ok (.getfield 183, 3) := by decide +kernel
theorem dX9_price_38 : decode cX9_price 38 = .ok (.iload_n 1, 1) := by decide +kernel
theorem dX9_price_39 : decode cX9_price 39 = .ok (.iload_n 2, 1) := by decide +kernel
theorem dX9_price_40 : decode cX9_price 40 = .ok (.invokestatic 186, 3) := by decide +kernel
theorem dX9_price_43 : decode cX9_price 43 = .ok (.iaload, 1) := by decide +kernel
theorem dX9_price_44 : decode cX9_price 44 = .ok (.ireturn, 1) := by decide +kernel
set_option maxRecDepth 20000 in
theorem ggX9_net_X9_checkIndex : GoodIn wsX9_net wsX9_checkIndex := goodIn_ca (goodIn_r _ [8, 9, 10] (by decide +kernel) (by decide +kernel)) (goodIn_sub (fun _ h => List.mem_cons_of_mem _ (List.mem_append_left _ (List.mem_append_right _ h))) (by decide +kernel))
set_option maxRecDepth 20000 in
theorem gX9_net_X9_checkIndex : GoodIn wsX9_net (va_wsS RX9 67 yX9_checkIndex wsX9_checkIndex) := goodIn_app (goodIn_of _ (by decide +kernel)) ggX9_net_X9_checkIndex
set_option maxRecDepth 20000 in
theorem ggX9_net_X9_checkState : GoodIn wsX9_net wsX9_checkState := goodIn_ca (goodIn_r _ [13, 14, 15] (by decide +kernel) (by decide +kernel)) (goodIn_sub (fun _ h => List.mem_cons_of_mem _ (List.mem_append_right _ h)) (by decide +kernel))
set_option maxRecDepth 20000 in
theorem gX9_net_X9_checkState : GoodIn wsX9_net (va_wsS RX9 85 yX9_checkState wsX9_checkState) := goodIn_app (goodIn_of _ (by decide +kernel)) ggX9_net_X9_checkState
set_option maxRecDepth 20000 in
theorem ggX9_net_X9_spotOf : GoodIn wsX9_net wsX9_spotOf := goodIn_r _ [18] (by decide +kernel) (by decide +kernel)
set_option maxRecDepth 20000 in
theorem gX9_net_X9_spotOf : GoodIn wsX9_net (va_wsS RX9 186 yX9_spotOf wsX9_spotOf) := goodIn_app (goodIn_of _ (by decide +kernel)) ggX9_net_X9_spotOf
theorem dX9_net_0 : decode cX9_net 0 = .ok (.iload_n 1, 1) := by decide +kernel
theorem dX9_net_1 : decode cX9_net 1 = .ok (.iconst 3, 1) := by decide +kernel
theorem dX9_net_2 : decode cX9_net 2 = .ok (.invokestatic 67, 3) := by decide +kernel
theorem dX9_net_5 : decode cX9_net 5 = .ok (.iload_n 2, 1) := by decide +kernel
theorem dX9_net_6 : decode cX9_net 6 = .ok (.iconst 4, 1) := by decide +kernel
theorem dX9_net_7 : decode cX9_net 7 = .ok (.invokestatic 67, 3) := by decide +kernel
theorem dX9_net_10 : decode cX9_net 10 = .ok (.aload_n 0, 1) := by decide +kernel
theorem dX9_net_11 : decode cX9_net 11 = .ok (.getfield 63, 3) := by decide +kernel
theorem dX9_net_14 : decode cX9_net 14 = .ok (.iconst 1, 1) := by decide +kernel
theorem dX9_net_15 : decode cX9_net 15 = .ok (.if_icmp .ne 7, 3) := by decide +kernel
theorem dX9_net_18 : decode cX9_net 18 = .ok (.iconst 1, 1) := by decide +kernel
theorem dX9_net_19 : decode cX9_net 19 = .ok (.goto 4, 3) := by decide +kernel
theorem dX9_net_22 : decode cX9_net 22 = .ok (.iconst 0, 1) := by decide +kernel
theorem dX9_net_23 : decode cX9_net 23 = .ok (.invokestatic 85, 3) := by decide +kernel
theorem dX9_net_26 : decode cX9_net 26 = .ok (.aload_n 0, 1) := by decide +kernel
theorem dX9_net_27 : decode cX9_net 27 = .ok (.getfield 48, 3) := by decide +kernel
theorem dX9_net_30 : decode cX9_net 30 = .ok (.aload_n 0, 1) := by decide +kernel
theorem dX9_net_31 : decode cX9_net 31 = .ok (.getfield 59, 3) := by decide +kernel
theorem dX9_net_34 : decode cX9_net 34 = .ok (.aaload, 1) := by decide +kernel
theorem dX9_net_35 : decode cX9_net 35 = .ok (.getfield 190, 3) := by decide +kernel
theorem dX9_net_38 : decode cX9_net 38 = .ok (.iload_n 1, 1) := by decide +kernel
theorem dX9_net_39 : decode cX9_net 39 = .ok (.iload_n 2, 1) := by decide +kernel
theorem dX9_net_40 : decode cX9_net 40 = .ok (.invokestatic 186, 3) := by decide +kernel
theorem dX9_net_43 : decode cX9_net 43 = .ok (.iaload, 1) := by decide +kernel
theorem dX9_net_44 : decode cX9_net 44 = .ok (.ireturn, 1) := by decide +kernel
set_option maxRecDepth 20000 in
theorem ggX9_flow_X9_checkIndex : GoodIn wsX9_flow wsX9_checkIndex := goodIn_ca (goodIn_r _ [8, 9, 10] (by decide +kernel) (by decide +kernel)) (goodIn_sub (fun _ h => List.mem_cons_of_mem _ (List.mem_append_left _ (List.mem_append_right _ h))) (by decide +kernel))
set_option maxRecDepth 20000 in
theorem gX9_flow_X9_checkIndex : GoodIn wsX9_flow (va_wsS RX9 67 yX9_checkIndex wsX9_checkIndex) := goodIn_app (goodIn_of _ (by decide +kernel)) ggX9_flow_X9_checkIndex
set_option maxRecDepth 20000 in
theorem ggX9_flow_X9_checkState : GoodIn wsX9_flow wsX9_checkState := goodIn_ca (goodIn_r _ [13, 14, 15] (by decide +kernel) (by decide +kernel)) (goodIn_sub (fun _ h => List.mem_cons_of_mem _ (List.mem_append_right _ h)) (by decide +kernel))
set_option maxRecDepth 20000 in
theorem gX9_flow_X9_checkState : GoodIn wsX9_flow (va_wsS RX9 85 yX9_checkState wsX9_checkState) := goodIn_app (goodIn_of _ (by decide +kernel)) ggX9_flow_X9_checkState
set_option maxRecDepth 20000 in
theorem ggX9_flow_X9_lineBegin : GoodIn wsX9_flow wsX9_lineBegin := goodIn_r _ [18] (by decide +kernel) (by decide +kernel)
set_option maxRecDepth 20000 in
theorem gX9_flow_X9_lineBegin : GoodIn wsX9_flow (va_wsS RX9 193 yX9_lineBegin wsX9_lineBegin) := goodIn_app (goodIn_of _ (by decide +kernel)) ggX9_flow_X9_lineBegin
set_option maxRecDepth 20000 in
theorem ggX9_flow_X9_spotOf : GoodIn wsX9_flow wsX9_spotOf := goodIn_r _ [21] (by decide +kernel) (by decide +kernel)
set_option maxRecDepth 20000 in
theorem gX9_flow_X9_spotOf : GoodIn wsX9_flow (va_wsS RX9 186 yX9_spotOf wsX9_spotOf) := goodIn_app (goodIn_of _ (by decide +kernel)) ggX9_flow_X9_spotOf
set_option maxRecDepth 20000 in
theorem ggX9_flow_X9_lineEnd : GoodIn wsX9_flow wsX9_lineEnd := goodIn_r _ [24] (by decide +kernel) (by decide +kernel)
set_option maxRecDepth 20000 in
theorem gX9_flow_X9_lineEnd : GoodIn wsX9_flow (va_wsS RX9 196 yX9_lineEnd wsX9_lineEnd) := goodIn_app (goodIn_of _ (by decide +kernel)) ggX9_flow_X9_lineEnd
theorem dX9_flow_0 : decode cX9_flow 0 = .ok (.iload_n 1, 1) := by decide +kernel
theorem dX9_flow_1 : decode cX9_flow 1 = .ok (.iconst 3, 1) := by decide +kernel
theorem dX9_flow_2 : decode cX9_flow 2 = .ok (.invokestatic 67, 3) := by decide +kernel
theorem dX9_flow_5 : decode cX9_flow 5 = .ok (.iload_n 2, 1) := by decide +kernel
theorem dX9_flow_6 : decode cX9_flow 6 = .ok (.iconst 4, 1) := by decide +kernel
theorem dX9_flow_7 : decode cX9_flow 7 = .ok (.invokestatic 67, 3) := by decide +kernel
theorem dX9_flow_10 : decode cX9_flow 10 = .ok (.aload_n 0, 1) := by decide +kernel
theorem dX9_flow_11 : decode cX9_flow 11 = .ok (.getfield 63, 3) := by decide +kernel
theorem dX9_flow_14 : decode cX9_flow 14 = .ok (.iconst 1, 1) := by decide +kernel
theorem dX9_flow_15 : decode cX9_flow 15 = .ok (.if_icmp .ne 7, 3) := by decide +kernel
theorem dX9_flow_18 : decode cX9_flow 18 = .ok (.iconst 1, 1) := by decide +kernel
theorem dX9_flow_19 : decode cX9_flow 19 = .ok (.goto 4, 3) := by decide +kernel
theorem dX9_flow_22 : decode cX9_flow 22 = .ok (.iconst 0, 1) := by decide +kernel
theorem dX9_flow_23 : decode cX9_flow 23 = .ok (.invokestatic 85, 3) := by decide +kernel
theorem dX9_flow_26 : decode cX9_flow 26 = .ok (.aload_n 0, 1) := by decide +kernel
theorem dX9_flow_27 : decode cX9_flow 27 = .ok (.getfield 48, 3) := by decide +kernel
theorem dX9_flow_30 : decode cX9_flow 30 = .ok (.aload_n 0, 1) := by decide +kernel
theorem dX9_flow_31 : decode cX9_flow 31 = .ok (.getfield 59, 3) := by decide +kernel
theorem dX9_flow_34 : decode cX9_flow 34 = .ok (.aaload, 1) := by decide +kernel
theorem dX9_flow_35 : decode cX9_flow 35 = .ok (.getfield 190, 3) := by decide +kernel
theorem dX9_flow_38 : decode cX9_flow 38 = .ok (.astore_n 3, 1) := by decide +kernel
theorem dX9_flow_39 : decode cX9_flow 39 = .ok (.aload_n 3, 1) := by decide +kernel
theorem dX9_flow_40 : decode cX9_flow 40 = .ok (.iload_n 1, 1) := by decide +kernel
theorem dX9_flow_41 : decode cX9_flow 41 = .ok (.invokestatic 193, 3) := by decide +kernel
theorem dX9_flow_44 : decode cX9_flow 44 = .ok (.iload_n 2, 1) := by decide +kernel
theorem dX9_flow_45 : decode cX9_flow 45 = .ok (.invokestatic 186, 3) := by decide +kernel
theorem dX9_flow_48 : decode cX9_flow 48 = .ok (.iaload, 1) := by decide +kernel
theorem dX9_flow_49 : decode cX9_flow 49 = .ok (.aload_n 3, 1) := by decide +kernel
theorem dX9_flow_50 : decode cX9_flow 50 = .ok (.iload_n 1, 1) := by decide +kernel
theorem dX9_flow_51 : decode cX9_flow 51 = .ok (.invokestatic 196, 3) := by decide +kernel
theorem dX9_flow_54 : decode cX9_flow 54 = .ok (.iload_n 2, 1) := by decide +kernel
theorem dX9_flow_55 : decode cX9_flow 55 = .ok (.invokestatic 186, 3) := by decide +kernel
theorem dX9_flow_58 : decode cX9_flow 58 = .ok (.iaload, 1) := by decide +kernel
theorem dX9_flow_59 : decode cX9_flow 59 = .ok (.isub, 1) := by decide +kernel
theorem dX9_flow_60 : decode cX9_flow 60 = .ok (.ireturn, 1) := by decide +kernel
set_option maxRecDepth 20000 in
theorem ggX9_isTaken_X9_checkIndex : GoodIn wsX9_isTaken wsX9_checkIndex := goodIn_ca (goodIn_r _ [8, 9, 10] (by decide +kernel) (by decide +kernel)) (goodIn_sub (fun _ h => List.mem_cons_of_mem _ (List.mem_append_left _ (List.mem_append_right _ h))) (by decide +kernel))
set_option maxRecDepth 20000 in
theorem gX9_isTaken_X9_checkIndex : GoodIn wsX9_isTaken (va_wsS RX9 67 yX9_checkIndex wsX9_checkIndex) := goodIn_app (goodIn_of _ (by decide +kernel)) ggX9_isTaken_X9_checkIndex
set_option maxRecDepth 20000 in
theorem ggX9_isTaken_X9_checkState : GoodIn wsX9_isTaken wsX9_checkState := goodIn_ca (goodIn_r _ [13, 14, 15] (by decide +kernel) (by decide +kernel)) (goodIn_sub (fun _ h => List.mem_cons_of_mem _ (List.mem_append_right _ h)) (by decide +kernel))
set_option maxRecDepth 20000 in
theorem gX9_isTaken_X9_checkState : GoodIn wsX9_isTaken (va_wsS RX9 85 yX9_checkState wsX9_checkState) := goodIn_app (goodIn_of _ (by decide +kernel)) ggX9_isTaken_X9_checkState
set_option maxRecDepth 20000 in
theorem ggX9_isTaken_X9_isMember : GoodIn wsX9_isTaken wsX9_isMember := goodIn_r _ [18] (by decide +kernel) (by decide +kernel)
set_option maxRecDepth 20000 in
theorem gX9_isTaken_X9_isMember : GoodIn wsX9_isTaken (va_wsS RX9 205 yX9_isMember wsX9_isMember) := goodIn_app (goodIn_of _ (by decide +kernel)) ggX9_isTaken_X9_isMember
theorem dX9_isTaken_0 : decode cX9_isTaken 0 = .ok (.iload_n 1, 1) := by decide +kernel
theorem dX9_isTaken_1 : decode cX9_isTaken 1 = .ok (.aload_n 0, 1) := by decide +kernel
theorem dX9_isTaken_2 : decode cX9_isTaken 2 = .ok (.getfield 30, 3) := by decide +kernel
theorem dX9_isTaken_5 : decode cX9_isTaken 5 = .ok (.getfield 105, 3) := by decide +kernel
theorem dX9_isTaken_8 : decode cX9_isTaken 8 = .ok (.invokestatic 67, 3) := by decide +kernel
theorem dX9_isTaken_11 : decode cX9_isTaken 11 = .ok (.aload_n 0, 1) := by decide +kernel
theorem dX9_isTaken_12 : decode cX9_isTaken 12 = .ok (.getfield 63, 3) := by decide +kernel
theorem dX9_isTaken_15 : decode cX9_isTaken 15 = .ok (.iconst 1, 1) := by decide +kernel
theorem dX9_isTaken_16 : decode cX9_isTaken 16 = .ok (.if_icmp .ne 7, 3) := by decide +kernel
theorem dX9_isTaken_19 : decode cX9_isTaken 19 = .ok (.iconst 1, 1) := by decide +kernel
theorem dX9_isTaken_20 : decode cX9_isTaken 20 = .ok (.goto 4, 3) := by decide +kernel
theorem dX9_isTaken_23 : decode cX9_isTaken 23 = .ok (.iconst 0, 1) := by decide +kernel
theorem dX9_isTaken_24 : decode cX9_isTaken 24 = .ok (.invokestatic 85, 3) := by decide +kernel
theorem dX9_isTaken_27 : decode cX9_isTaken 27 = .ok (.aload_n 0, 1) := by decide +kernel
theorem dX9_isTaken_28 : decode cX9_isTaken 28 = .ok (.getfield 30, 3) := by decide +kernel
theorem dX9_isTaken_31 : decode cX9_isTaken 31 = .ok (.getfield 202, 3) := by decide +kernel
theorem dX9_isTaken_34 : decode cX9_isTaken 34 = .ok (.iload_n 1, 1) := by decide +kernel
theorem dX9_isTaken_35 : decode cX9_isTaken 35 = .ok (.invokestatic 205, 3) := by decide +kernel
theorem dX9_isTaken_38 : decode cX9_isTaken 38 = .ok (.ireturn, 1) := by decide +kernel
set_option maxRecDepth 20000 in
theorem ggX9_gain_X9_checkIndex : GoodIn wsX9_gain wsX9_checkIndex := goodIn_ca (goodIn_r _ [10, 11, 12] (by decide +kernel) (by decide +kernel)) (goodIn_sub (fun _ h => List.mem_cons_of_mem _ (List.mem_append_left _ (List.mem_append_right _ h))) (by decide +kernel))
set_option maxRecDepth 20000 in
theorem gX9_gain_X9_checkIndex : GoodIn wsX9_gain (va_wsS RX9 67 yX9_checkIndex wsX9_checkIndex) := goodIn_app (goodIn_of _ (by decide +kernel)) ggX9_gain_X9_checkIndex
set_option maxRecDepth 20000 in
theorem ggX9_gain_X9_checkState : GoodIn wsX9_gain wsX9_checkState := goodIn_ca (goodIn_r _ [15, 16, 17] (by decide +kernel) (by decide +kernel)) (goodIn_sub (fun _ h => List.mem_cons_of_mem _ (List.mem_append_right _ h)) (by decide +kernel))
set_option maxRecDepth 20000 in
theorem gX9_gain_X9_checkState : GoodIn wsX9_gain (va_wsS RX9 85 yX9_checkState wsX9_checkState) := goodIn_app (goodIn_of _ (by decide +kernel)) ggX9_gain_X9_checkState
set_option maxRecDepth 20000 in
theorem ggX9_gain_X2_gainBy : GoodIn wsX9_gain wsX2_gainBy := goodIn_r _ [22, 23, 24, 25, 26, 27, 9, 28, 29, 30, 41, 42, 43, 44, 45, 46, 47, 48, 49, 50] (by decide +kernel) (by decide +kernel)
set_option maxRecDepth 20000 in
theorem gX9_gain_X2_gainBy : GoodIn wsX9_gain (wsV RX9 209 RX2 yX2_gainBy wsX2_gainBy) := goodIn_app (goodIn_of _ (by decide +kernel)) ggX9_gain_X2_gainBy
theorem dX9_gain_0 : decode cX9_gain 0 = .ok (.iload_n 1, 1) := by decide +kernel
theorem dX9_gain_1 : decode cX9_gain 1 = .ok (.aload_n 0, 1) := by decide +kernel
theorem dX9_gain_2 : decode cX9_gain 2 = .ok (.getfield 30, 3) := by decide +kernel
theorem dX9_gain_5 : decode cX9_gain 5 = .ok (.getfield 105, 3) := by decide +kernel
theorem dX9_gain_8 : decode cX9_gain 8 = .ok (.invokestatic 67, 3) := by decide +kernel
theorem dX9_gain_11 : decode cX9_gain 11 = .ok (.aload_n 0, 1) := by decide +kernel
theorem dX9_gain_12 : decode cX9_gain 12 = .ok (.getfield 63, 3) := by decide +kernel
theorem dX9_gain_15 : decode cX9_gain 15 = .ok (.iconst 1, 1) := by decide +kernel
theorem dX9_gain_16 : decode cX9_gain 16 = .ok (.if_icmp .ne 7, 3) := by decide +kernel
theorem dX9_gain_19 : decode cX9_gain 19 = .ok (.iconst 1, 1) := by decide +kernel
theorem dX9_gain_20 : decode cX9_gain 20 = .ok (.goto 4, 3) := by decide +kernel
theorem dX9_gain_23 : decode cX9_gain 23 = .ok (.iconst 0, 1) := by decide +kernel
theorem dX9_gain_24 : decode cX9_gain 24 = .ok (.invokestatic 85, 3) := by decide +kernel
theorem dX9_gain_27 : decode cX9_gain 27 = .ok (.aload_n 0, 1) := by decide +kernel
theorem dX9_gain_28 : decode cX9_gain 28 = .ok (.getfield 30, 3) := by decide +kernel
theorem dX9_gain_31 : decode cX9_gain 31 = .ok (.iload_n 1, 1) := by decide +kernel
theorem dX9_gain_32 : decode cX9_gain 32 = .ok (.aload_n 0, 1) := by decide +kernel
theorem dX9_gain_33 : decode cX9_gain 33 = .ok (.getfield 48, 3) := by decide +kernel
theorem dX9_gain_36 : decode cX9_gain 36 = .ok (.aload_n 0, 1) := by decide +kernel
theorem dX9_gain_37 : decode cX9_gain 37 = .ok (.getfield 59, 3) := by decide +kernel
theorem dX9_gain_40 : decode cX9_gain 40 = .ok (.aaload, 1) := by decide +kernel
theorem dX9_gain_41 : decode cX9_gain 41 = .ok (.getfield 183, 3) := by decide +kernel
theorem dX9_gain_44 : decode cX9_gain 44 = .ok (.invokevirtual 209, 3) := by decide +kernel
theorem dX9_gain_47 : decode cX9_gain 47 = .ok (.ireturn, 1) := by decide +kernel
set_option maxRecDepth 20000 in
theorem ggX9_worthAnew_X9_checkState : GoodIn wsX9_worthAnew wsX9_checkState := goodIn_ca (goodIn_r _ [5, 6, 7] (by decide +kernel) (by decide +kernel)) (goodIn_sub (fun _ h => List.mem_cons_of_mem _ (List.mem_append_right _ h)) (by decide +kernel))
set_option maxRecDepth 20000 in
theorem gX9_worthAnew_X9_checkState : GoodIn wsX9_worthAnew (va_wsS RX9 85 yX9_checkState wsX9_checkState) := goodIn_app (goodIn_of _ (by decide +kernel)) ggX9_worthAnew_X9_checkState
set_option maxRecDepth 20000 in
theorem ggX9_worthAnew_X9_worthTaken : GoodIn wsX9_worthAnew wsX9_worthTaken := goodIn_r _ [11, 12, 13, 14, 15, 16, 17, 18, 19, 20, 21, 22, 23, 24, 25, 26, 27, 28, 4, 29, 30, 31, 32, 33, 34, 35, 36, 37, 38, 39, 40, 41, 42, 43, 44, 45, 46, 47, 48, 49, 50, 51, 52, 53, 54, 55, 56, 57, 58, 59, 60, 61, 62, 63, 64, 65, 66, 67, 68, 69, 70, 71, 72] (by decide +kernel) (by decide +kernel)
set_option maxRecDepth 20000 in
theorem gX9_worthAnew_X9_worthTaken : GoodIn wsX9_worthAnew (wsV RX9 143 RX9 yX9_worthTaken wsX9_worthTaken) := goodIn_app (goodIn_of _ (by decide +kernel)) ggX9_worthAnew_X9_worthTaken
theorem dX9_worthAnew_0 : decode cX9_worthAnew 0 = .ok (.aload_n 0, 1) := by decide +kernel
theorem dX9_worthAnew_1 : decode cX9_worthAnew 1 = .ok (.getfield 63, 3) := by decide +kernel
theorem dX9_worthAnew_4 : decode cX9_worthAnew 4 = .ok (.iconst 1, 1) := by decide +kernel
theorem dX9_worthAnew_5 : decode cX9_worthAnew 5 = .ok (.if_icmp .ne 7, 3) := by decide +kernel
theorem dX9_worthAnew_8 : decode cX9_worthAnew 8 = .ok (.iconst 1, 1) := by decide +kernel
theorem dX9_worthAnew_9 : decode cX9_worthAnew 9 = .ok (.goto 4, 3) := by decide +kernel
theorem dX9_worthAnew_12 : decode cX9_worthAnew 12 = .ok (.iconst 0, 1) := by decide +kernel
theorem dX9_worthAnew_13 : decode cX9_worthAnew 13 = .ok (.invokestatic 85, 3) := by decide +kernel
theorem dX9_worthAnew_16 : decode cX9_worthAnew 16 = .ok (.aload_n 0, 1) := by decide +kernel
theorem dX9_worthAnew_17 : decode cX9_worthAnew 17 = .ok (.invokevirtual 143, 3) := by decide +kernel
theorem dX9_worthAnew_20 : decode cX9_worthAnew 20 = .ok (.ireturn, 1) := by decide +kernel
set_option maxRecDepth 20000 in
theorem ggX9_given_X9_checkIndex : GoodIn wsX9_given wsX9_checkIndex := goodIn_ca (goodIn_r _ [8, 9, 10] (by decide +kernel) (by decide +kernel)) (goodIn_sub (fun _ h => List.mem_cons_of_mem _ (List.mem_append_left _ (List.mem_append_right _ h))) (by decide +kernel))
set_option maxRecDepth 20000 in
theorem gX9_given_X9_checkIndex : GoodIn wsX9_given (va_wsS RX9 67 yX9_checkIndex wsX9_checkIndex) := goodIn_app (goodIn_of _ (by decide +kernel)) ggX9_given_X9_checkIndex
set_option maxRecDepth 20000 in
theorem ggX9_given_X9_checkState : GoodIn wsX9_given wsX9_checkState := goodIn_ca (goodIn_r _ [13, 14, 15] (by decide +kernel) (by decide +kernel)) (goodIn_sub (fun _ h => List.mem_cons_of_mem _ (List.mem_append_right _ h)) (by decide +kernel))
set_option maxRecDepth 20000 in
theorem gX9_given_X9_checkState : GoodIn wsX9_given (va_wsS RX9 85 yX9_checkState wsX9_checkState) := goodIn_app (goodIn_of _ (by decide +kernel)) ggX9_given_X9_checkState
set_option maxRecDepth 20000 in
theorem ggX9_given_X8_used : GoodIn wsX9_given wsX8_used := goodIn_r _ [20, 21, 22, 35, 36, 37, 38, 39, 40, 41, 42, 43] (by decide +kernel) (by decide +kernel)
set_option maxRecDepth 20000 in
theorem gX9_given_X8_used : GoodIn wsX9_given (wsV RX9 199 RX8 yX8_used wsX8_used) := goodIn_app (goodIn_of _ (by decide +kernel)) ggX9_given_X8_used
theorem dX9_given_0 : decode cX9_given 0 = .ok (.iload_n 1, 1) := by decide +kernel
theorem dX9_given_1 : decode cX9_given 1 = .ok (.aload_n 0, 1) := by decide +kernel
theorem dX9_given_2 : decode cX9_given 2 = .ok (.getfield 34, 3) := by decide +kernel
theorem dX9_given_5 : decode cX9_given 5 = .ok (.getfield 124, 3) := by decide +kernel
theorem dX9_given_8 : decode cX9_given 8 = .ok (.getfield 150, 3) := by decide +kernel
theorem dX9_given_11 : decode cX9_given 11 = .ok (.invokestatic 67, 3) := by decide +kernel
theorem dX9_given_14 : decode cX9_given 14 = .ok (.aload_n 0, 1) := by decide +kernel
theorem dX9_given_15 : decode cX9_given 15 = .ok (.getfield 63, 3) := by decide +kernel
theorem dX9_given_18 : decode cX9_given 18 = .ok (.iconst 1, 1) := by decide +kernel
theorem dX9_given_19 : decode cX9_given 19 = .ok (.if_icmp .ne 7, 3) := by decide +kernel
theorem dX9_given_22 : decode cX9_given 22 = .ok (.iconst 1, 1) := by decide +kernel
theorem dX9_given_23 : decode cX9_given 23 = .ok (.goto 4, 3) := by decide +kernel
theorem dX9_given_26 : decode cX9_given 26 = .ok (.iconst 0, 1) := by decide +kernel
theorem dX9_given_27 : decode cX9_given 27 = .ok (.invokestatic 85, 3) := by decide +kernel
theorem dX9_given_30 : decode cX9_given 30 = .ok (.aload_n 0, 1) := by decide +kernel
theorem dX9_given_31 : decode cX9_given 31 = .ok (.getfield 34, 3) := by decide +kernel
theorem dX9_given_34 : decode cX9_given 34 = .ok (.getfield 124, 3) := by decide +kernel
theorem dX9_given_37 : decode cX9_given 37 = .ok (.iload_n 1, 1) := by decide +kernel
theorem dX9_given_38 : decode cX9_given 38 = .ok (.invokevirtual 199, 3) := by decide +kernel
theorem dX9_given_41 : decode cX9_given 41 = .ok (.ireturn, 1) := by decide +kernel
set_option maxRecDepth 20000 in
theorem ggX9_left_X9_checkIndex : GoodIn wsX9_left wsX9_checkIndex := goodIn_ca (goodIn_r _ [7, 8, 9] (by decide +kernel) (by decide +kernel)) (goodIn_sub (fun _ h => List.mem_cons_of_mem _ (List.mem_append_right _ h)) (by decide +kernel))
set_option maxRecDepth 20000 in
theorem gX9_left_X9_checkIndex : GoodIn wsX9_left (va_wsS RX9 67 yX9_checkIndex wsX9_checkIndex) := goodIn_app (goodIn_of _ (by decide +kernel)) ggX9_left_X9_checkIndex
theorem dX9_left_0 : decode cX9_left 0 = .ok (.iload_n 1, 1) := by decide +kernel
theorem dX9_left_1 : decode cX9_left 1 = .ok (.aload_n 0, 1) := by decide +kernel
theorem dX9_left_2 : decode cX9_left 2 = .ok (.getfield 43, 3) := by decide +kernel
theorem dX9_left_5 : decode cX9_left 5 = .ok (.getfield 150, 3) := by decide +kernel
theorem dX9_left_8 : decode cX9_left 8 = .ok (.invokestatic 67, 3) := by decide +kernel
theorem dX9_left_11 : decode cX9_left 11 = .ok (.aload_n 0, 1) := by decide +kernel
theorem dX9_left_12 : decode cX9_left 12 = .ok (.getfield 43, 3) := by decide +kernel
theorem dX9_left_15 : decode cX9_left 15 = .ok (.getfield 151, 3) := by decide +kernel
theorem dX9_left_18 : decode cX9_left 18 = .ok (.iload_n 1, 1) := by decide +kernel
theorem dX9_left_19 : decode cX9_left 19 = .ok (.iaload, 1) := by decide +kernel
theorem dX9_left_20 : decode cX9_left 20 = .ok (.ireturn, 1) := by decide +kernel
set_option maxRecDepth 20000 in
theorem ggX9_plan_X9_checkIndex : GoodIn wsX9_plan wsX9_checkIndex := goodIn_ca (goodIn_r _ [7, 8, 9] (by decide +kernel) (by decide +kernel)) (goodIn_sub (fun _ h => List.mem_cons_of_mem _ (List.mem_append_right _ h)) (by decide +kernel))
set_option maxRecDepth 20000 in
theorem gX9_plan_X9_checkIndex : GoodIn wsX9_plan (va_wsS RX9 67 yX9_checkIndex wsX9_checkIndex) := goodIn_app (goodIn_of _ (by decide +kernel)) ggX9_plan_X9_checkIndex
set_option maxRecDepth 20000 in
theorem ggX9_plan_X9_placeOf : GoodIn wsX9_plan wsX9_placeOf := goodIn_r _ [12, 13, 14, 6, 15] (by decide +kernel) (by decide +kernel)
set_option maxRecDepth 20000 in
theorem gX9_plan_X9_placeOf : GoodIn wsX9_plan (va_wsS RX9 157 yX9_placeOf wsX9_placeOf) := goodIn_app (goodIn_of _ (by decide +kernel)) ggX9_plan_X9_placeOf
theorem dX9_plan_0 : decode cX9_plan 0 = .ok (.iload_n 1, 1) := by decide +kernel
theorem dX9_plan_1 : decode cX9_plan 1 = .ok (.aload_n 0, 1) := by decide +kernel
theorem dX9_plan_2 : decode cX9_plan 2 = .ok (.getfield 59, 3) := by decide +kernel
theorem dX9_plan_5 : decode cX9_plan 5 = .ok (.iconst 1, 1) := by decide +kernel
theorem dX9_plan_6 : decode cX9_plan 6 = .ok (.iadd, 1) := by decide +kernel
theorem dX9_plan_7 : decode cX9_plan 7 = .ok (.invokestatic 67, 3) := by decide +kernel
theorem dX9_plan_10 : decode cX9_plan 10 = .ok (.iload_n 2, 1) := by decide +kernel
theorem dX9_plan_11 : decode cX9_plan 11 = .ok (.bipush 6, 2) := by decide +kernel
theorem dX9_plan_13 : decode cX9_plan 13 = .ok (.invokestatic 67, 3) := by decide +kernel
theorem dX9_plan_16 : decode cX9_plan 16 = .ok (.iload_n 3, 1) := by decide +kernel
theorem dX9_plan_17 : decode cX9_plan 17 = .ok (.iconst 3, 1) := by decide +kernel
theorem dX9_plan_18 : decode cX9_plan 18 = .ok (.invokestatic 67, 3) := by decide +kernel
theorem dX9_plan_21 : decode cX9_plan 21 = .ok (.iload 4, 2) := by decide +kernel
theorem dX9_plan_23 : decode cX9_plan 23 = .ok (.iconst 4, 1) := by decide +kernel
theorem dX9_plan_24 : decode cX9_plan 24 = .ok (.invokestatic 67, 3) := by decide +kernel
theorem dX9_plan_27 : decode cX9_plan 27 = .ok (.aload_n 0, 1) := by decide +kernel
theorem dX9_plan_28 : decode cX9_plan 28 = .ok (.getfield 48, 3) := by decide +kernel
theorem dX9_plan_31 : decode cX9_plan 31 = .ok (.iload_n 1, 1) := by decide +kernel
theorem dX9_plan_32 : decode cX9_plan 32 = .ok (.aaload, 1) := by decide +kernel
theorem dX9_plan_33 : decode cX9_plan 33 = .ok (.getfield 164, 3) := by decide +kernel
theorem dX9_plan_36 : decode cX9_plan 36 = .ok (.iload_n 2, 1) := by decide +kernel
theorem dX9_plan_37 : decode cX9_plan 37 = .ok (.iload_n 3, 1) := by decide +kernel
theorem dX9_plan_38 : decode cX9_plan 38 = .ok (.iload 4, 2) := by decide +kernel
theorem dX9_plan_40 : decode cX9_plan 40 = .ok (.invokestatic 157, 3) := by decide +kernel
theorem dX9_plan_43 : decode cX9_plan 43 = .ok (.iaload, 1) := by decide +kernel
theorem dX9_plan_44 : decode cX9_plan 44 = .ok (.ireturn, 1) := by decide +kernel
set_option maxRecDepth 20000 in
theorem ggX9_gap_X9_checkIndex : GoodIn wsX9_gap wsX9_checkIndex := goodIn_ca (goodIn_r _ [6, 7, 8] (by decide +kernel) (by decide +kernel)) (goodIn_sub (fun _ h => List.mem_cons_of_mem _ (List.mem_append_right _ h)) (by decide +kernel))
set_option maxRecDepth 20000 in
theorem gX9_gap_X9_checkIndex : GoodIn wsX9_gap (va_wsS RX9 67 yX9_checkIndex wsX9_checkIndex) := goodIn_app (goodIn_of _ (by decide +kernel)) ggX9_gap_X9_checkIndex
set_option maxRecDepth 20000 in
theorem ggX9_gap_X5_gapOf : GoodIn wsX9_gap wsX5_gapOf := goodIn_r _ [13, 14, 15, 5, 16, 17, 18, 19, 30, 31, 32, 33, 34, 35, 36, 37] (by decide +kernel) (by decide +kernel)
set_option maxRecDepth 20000 in
theorem gX9_gap_X5_gapOf : GoodIn wsX9_gap (wsV RX9 213 RX5 yX5_gapOf wsX5_gapOf) := goodIn_app (goodIn_of _ (by decide +kernel)) ggX9_gap_X5_gapOf
theorem dX9_gap_0 : decode cX9_gap 0 = .ok (.iload_n 1, 1) := by decide +kernel
theorem dX9_gap_1 : decode cX9_gap 1 = .ok (.aload_n 0, 1) := by decide +kernel
theorem dX9_gap_2 : decode cX9_gap 2 = .ok (.getfield 59, 3) := by decide +kernel
theorem dX9_gap_5 : decode cX9_gap 5 = .ok (.invokestatic 67, 3) := by decide +kernel
theorem dX9_gap_8 : decode cX9_gap 8 = .ok (.iload_n 2, 1) := by decide +kernel
theorem dX9_gap_9 : decode cX9_gap 9 = .ok (.iconst 4, 1) := by decide +kernel
theorem dX9_gap_10 : decode cX9_gap 10 = .ok (.invokestatic 67, 3) := by decide +kernel
theorem dX9_gap_13 : decode cX9_gap 13 = .ok (.aload_n 0, 1) := by decide +kernel
theorem dX9_gap_14 : decode cX9_gap 14 = .ok (.getfield 48, 3) := by decide +kernel
theorem dX9_gap_17 : decode cX9_gap 17 = .ok (.iload_n 1, 1) := by decide +kernel
theorem dX9_gap_18 : decode cX9_gap 18 = .ok (.aaload, 1) := by decide +kernel
theorem dX9_gap_19 : decode cX9_gap 19 = .ok (.iload_n 2, 1) := by decide +kernel
theorem dX9_gap_20 : decode cX9_gap 20 = .ok (.invokevirtual 213, 3) := by decide +kernel
theorem dX9_gap_23 : decode cX9_gap 23 = .ok (.ireturn, 1) := by decide +kernel
set_option maxRecDepth 20000 in
theorem ggX9_gapPrice_X9_checkIndex : GoodIn wsX9_gapPrice wsX9_checkIndex := goodIn_ca (goodIn_r _ [6, 7, 8] (by decide +kernel) (by decide +kernel)) (goodIn_sub (fun _ h => List.mem_cons_of_mem _ (List.mem_append_right _ h)) (by decide +kernel))
set_option maxRecDepth 20000 in
theorem gX9_gapPrice_X9_checkIndex : GoodIn wsX9_gapPrice (va_wsS RX9 67 yX9_checkIndex wsX9_checkIndex) := goodIn_app (goodIn_of _ (by decide +kernel)) ggX9_gapPrice_X9_checkIndex
set_option maxRecDepth 20000 in
theorem ggX9_gapPrice_X5_gapOf : GoodIn wsX9_gapPrice wsX5_gapOf := goodIn_r _ [13, 14, 15, 5, 16, 17, 18, 19, 56, 57, 58, 59, 60, 61, 62, 63] (by decide +kernel) (by decide +kernel)
set_option maxRecDepth 20000 in
theorem gX9_gapPrice_X5_gapOf : GoodIn wsX9_gapPrice (wsV RX9 213 RX5 yX5_gapOf wsX5_gapOf) := goodIn_app (goodIn_of _ (by decide +kernel)) ggX9_gapPrice_X5_gapOf
set_option maxRecDepth 20000 in
theorem ggX9_gapPrice_X5_priceOfGap : GoodIn wsX9_gapPrice wsX5_priceOfGap := goodIn_r _ [23, 24, 25, 26, 27, 28, 29, 30, 31, 32, 33, 34, 35, 36, 37, 38, 39, 40, 41, 42, 12, 43, 44, 45, 18, 5, 19, 56, 57, 58, 59, 60, 61, 62, 63, 64, 65, 66, 67, 68, 69, 70, 71, 72] (by decide +kernel) (by decide +kernel)
set_option maxRecDepth 20000 in
theorem gX9_gapPrice_X5_priceOfGap : GoodIn wsX9_gapPrice (wsV RX9 216 RX5 yX5_priceOfGap wsX5_priceOfGap) := goodIn_app (goodIn_of _ (by decide +kernel)) ggX9_gapPrice_X5_priceOfGap
theorem dX9_gapPrice_0 : decode cX9_gapPrice 0 = .ok (.iload_n 1, 1) := by decide +kernel
theorem dX9_gapPrice_1 : decode cX9_gapPrice 1 = .ok (.aload_n 0, 1) := by decide +kernel
theorem dX9_gapPrice_2 : decode cX9_gapPrice 2 = .ok (.getfield 59, 3) := by decide +kernel
theorem dX9_gapPrice_5 : decode cX9_gapPrice 5 = .ok (.invokestatic 67, 3) := by decide +kernel
theorem dX9_gapPrice_8 : decode cX9_gapPrice 8 = .ok (.iload_n 2, 1) := by decide +kernel
theorem dX9_gapPrice_9 : decode cX9_gapPrice 9 = .ok (.iconst 4, 1) := by decide +kernel
theorem dX9_gapPrice_10 : decode cX9_gapPrice 10 = .ok (.invokestatic 67, 3) := by decide +kernel
theorem dX9_gapPrice_13 : decode cX9_gapPrice 13 = .ok (.aload_n 0, 1) := by decide +kernel
theorem dX9_gapPrice_14 : decode cX9_gapPrice 14 = .ok (.getfield 48, 3) := by decide +kernel
theorem dX9_gapPrice_17 : decode cX9_gapPrice 17 = .ok (.iload_n 1, 1) := by decide +kernel
theorem dX9_gapPrice_18 : decode cX9_gapPrice 18 = .ok (.aaload, 1) := by decide +kernel
theorem dX9_gapPrice_19 : decode cX9_gapPrice 19 = .ok (.astore_n 3, 1) := by decide +kernel
theorem dX9_gapPrice_20 : decode cX9_gapPrice 20 = .ok (.aload_n 3, 1) := by decide +kernel
theorem dX9_gapPrice_21 : decode cX9_gapPrice 21 = .ok (.iload_n 2, 1) := by decide +kernel
theorem dX9_gapPrice_22 : decode cX9_gapPrice 22 = .ok (.invokevirtual 213, 3) := by decide +kernel
theorem dX9_gapPrice_25 : decode cX9_gapPrice 25 = .ok (.istore 4, 2) := by decide +kernel
theorem dX9_gapPrice_27 : decode cX9_gapPrice 27 = .ok (.iload 4, 2) := by decide +kernel
theorem dX9_gapPrice_29 : decode cX9_gapPrice 29 = .ok (.ifCond .ne 7, 3) := by decide +kernel
theorem dX9_gapPrice_32 : decode cX9_gapPrice 32 = .ok (.iconst (-1), 1) := by decide +kernel
theorem dX9_gapPrice_33 : decode cX9_gapPrice 33 = .ok (.goto 10, 3) := by decide +kernel
theorem dX9_gapPrice_36 : decode cX9_gapPrice 36 = .ok (.aload_n 3, 1) := by decide +kernel
theorem dX9_gapPrice_37 : decode cX9_gapPrice 37 = .ok (.iload_n 2, 1) := by decide +kernel
theorem dX9_gapPrice_38 : decode cX9_gapPrice 38 = .ok (.iload 4, 2) := by decide +kernel
theorem dX9_gapPrice_40 : decode cX9_gapPrice 40 = .ok (.invokevirtual 216, 3) := by decide +kernel
theorem dX9_gapPrice_43 : decode cX9_gapPrice 43 = .ok (.ireturn, 1) := by decide +kernel
set_option maxRecDepth 20000 in
theorem ggX9_bill_X9_checkIndex : GoodIn wsX9_bill wsX9_checkIndex := goodIn_ca (goodIn_r _ [6, 7, 8] (by decide +kernel) (by decide +kernel)) (goodIn_sub (fun _ h => List.mem_cons_of_mem _ (List.mem_append_right _ h)) (by decide +kernel))
set_option maxRecDepth 20000 in
theorem gX9_bill_X9_checkIndex : GoodIn wsX9_bill (va_wsS RX9 67 yX9_checkIndex wsX9_checkIndex) := goodIn_app (goodIn_of _ (by decide +kernel)) ggX9_bill_X9_checkIndex
set_option maxRecDepth 20000 in
theorem ggX9_bill_X5_billOf : GoodIn wsX9_bill wsX5_billOf := goodIn_r _ [13, 14, 15, 16, 17, 12, 18, 19, 20, 21, 22, 23, 24, 25, 5, 26, 27, 28, 29, 30, 31, 32, 33, 34, 35, 36, 37, 38, 39, 40, 41, 42, 43, 44, 45, 46, 47, 48, 49, 50, 51, 52, 53, 54, 55, 56, 57, 58, 59, 70, 71, 72, 73, 74, 75, 76, 77, 78, 79, 80, 81, 82, 83, 84, 85, 86] (by decide +kernel) (by decide +kernel)
set_option maxRecDepth 20000 in
theorem gX9_bill_X5_billOf : GoodIn wsX9_bill (wsV RX9 170 RX5 yX5_billOf wsX5_billOf) := goodIn_app (goodIn_of _ (by decide +kernel)) ggX9_bill_X5_billOf
theorem dX9_bill_0 : decode cX9_bill 0 = .ok (.iload_n 1, 1) := by decide +kernel
theorem dX9_bill_1 : decode cX9_bill 1 = .ok (.aload_n 0, 1) := by decide +kernel
theorem dX9_bill_2 : decode cX9_bill 2 = .ok (.getfield 59, 3) := by decide +kernel
theorem dX9_bill_5 : decode cX9_bill 5 = .ok (.invokestatic 67, 3) := by decide +kernel
theorem dX9_bill_8 : decode cX9_bill 8 = .ok (.iload_n 2, 1) := by decide +kernel
theorem dX9_bill_9 : decode cX9_bill 9 = .ok (.bipush 6, 2) := by decide +kernel
theorem dX9_bill_11 : decode cX9_bill 11 = .ok (.invokestatic 67, 3) := by decide +kernel
theorem dX9_bill_14 : decode cX9_bill 14 = .ok (.aload_n 0, 1) := by decide +kernel
theorem dX9_bill_15 : decode cX9_bill 15 = .ok (.getfield 48, 3) := by decide +kernel
theorem dX9_bill_18 : decode cX9_bill 18 = .ok (.iload_n 1, 1) := by decide +kernel
theorem dX9_bill_19 : decode cX9_bill 19 = .ok (.aaload, 1) := by decide +kernel
theorem dX9_bill_20 : decode cX9_bill 20 = .ok (.iload_n 2, 1) := by decide +kernel
theorem dX9_bill_21 : decode cX9_bill 21 = .ok (.invokevirtual 170, 3) := by decide +kernel
theorem dX9_bill_24 : decode cX9_bill 24 = .ok (.ireturn, 1) := by decide +kernel
set_option maxRecDepth 20000 in
theorem ggX9_settled_X9_checkIndex : GoodIn wsX9_settled wsX9_checkIndex := goodIn_ca (goodIn_r _ [7, 8, 9] (by decide +kernel) (by decide +kernel)) (goodIn_sub (fun _ h => List.mem_cons_of_mem _ (List.mem_append_right _ h)) (by decide +kernel))
set_option maxRecDepth 20000 in
theorem gX9_settled_X9_checkIndex : GoodIn wsX9_settled (va_wsS RX9 67 yX9_checkIndex wsX9_checkIndex) := goodIn_app (goodIn_of _ (by decide +kernel)) ggX9_settled_X9_checkIndex
theorem dX9_settled_0 : decode cX9_settled 0 = .ok (.iload_n 1, 1) := by decide +kernel
theorem dX9_settled_1 : decode cX9_settled 1 = .ok (.aload_n 0, 1) := by decide +kernel
theorem dX9_settled_2 : decode cX9_settled 2 = .ok (.getfield 59, 3) := by decide +kernel
theorem dX9_settled_5 : decode cX9_settled 5 = .ok (.invokestatic 67, 3) := by decide +kernel
theorem dX9_settled_8 : decode cX9_settled 8 = .ok (.iload_n 2, 1) := by decide +kernel
theorem dX9_settled_9 : decode cX9_settled 9 = .ok (.bipush 6, 2) := by decide +kernel
theorem dX9_settled_11 : decode cX9_settled 11 = .ok (.invokestatic 67, 3) := by decide +kernel
theorem dX9_settled_14 : decode cX9_settled 14 = .ok (.aload_n 0, 1) := by decide +kernel
theorem dX9_settled_15 : decode cX9_settled 15 = .ok (.getfield 48, 3) := by decide +kernel
theorem dX9_settled_18 : decode cX9_settled 18 = .ok (.iload_n 1, 1) := by decide +kernel
theorem dX9_settled_19 : decode cX9_settled 19 = .ok (.aaload, 1) := by decide +kernel
theorem dX9_settled_20 : decode cX9_settled 20 = .ok (.getfield 174, 3) := by decide +kernel
theorem dX9_settled_23 : decode cX9_settled 23 = .ok (.iload_n 2, 1) := by decide +kernel
theorem dX9_settled_24 : decode cX9_settled 24 = .ok (.iaload, 1) := by decide +kernel
theorem dX9_settled_25 : decode cX9_settled 25 = .ok (.ireturn, 1) := by decide +kernel
set_option maxRecDepth 20000 in
theorem ggX9_account_X9_checkIndex : GoodIn wsX9_account wsX9_checkIndex := goodIn_ca (goodIn_r _ [6, 7, 8] (by decide +kernel) (by decide +kernel)) (goodIn_sub (fun _ h => List.mem_cons_of_mem _ (List.mem_append_right _ h)) (by decide +kernel))
set_option maxRecDepth 20000 in
theorem gX9_account_X9_checkIndex : GoodIn wsX9_account (va_wsS RX9 67 yX9_checkIndex wsX9_checkIndex) := goodIn_app (goodIn_of _ (by decide +kernel)) ggX9_account_X9_checkIndex
theorem dX9_account_0 : decode cX9_account 0 = .ok (.iload_n 1, 1) := by decide +kernel
theorem dX9_account_1 : decode cX9_account 1 = .ok (.bipush 6, 2) := by decide +kernel
theorem dX9_account_3 : decode cX9_account 3 = .ok (.invokestatic 67, 3) := by decide +kernel
theorem dX9_account_6 : decode cX9_account 6 = .ok (.aload_n 0, 1) := by decide +kernel
theorem dX9_account_7 : decode cX9_account 7 = .ok (.getfield 55, 3) := by decide +kernel
theorem dX9_account_10 : decode cX9_account 10 = .ok (.getfield 89, 3) := by decide +kernel
theorem dX9_account_13 : decode cX9_account 13 = .ok (.iload_n 1, 1) := by decide +kernel
theorem dX9_account_14 : decode cX9_account 14 = .ok (.iaload, 1) := by decide +kernel
theorem dX9_account_15 : decode cX9_account 15 = .ok (.ireturn, 1) := by decide +kernel
set_option maxRecDepth 20000 in
theorem ggX9_hasFailed_X9_checkIndex : GoodIn wsX9_hasFailed wsX9_checkIndex := goodIn_ca (goodIn_r _ [6, 7, 8] (by decide +kernel) (by decide +kernel)) (goodIn_sub (fun _ h => List.mem_cons_of_mem _ (List.mem_append_right _ h)) (by decide +kernel))
set_option maxRecDepth 20000 in
theorem gX9_hasFailed_X9_checkIndex : GoodIn wsX9_hasFailed (va_wsS RX9 67 yX9_checkIndex wsX9_checkIndex) := goodIn_app (goodIn_of _ (by decide +kernel)) ggX9_hasFailed_X9_checkIndex
theorem dX9_hasFailed_0 : decode cX9_hasFailed 0 = .ok (.iload_n 1, 1) := by decide +kernel
theorem dX9_hasFailed_1 : decode cX9_hasFailed 1 = .ok (.bipush 6, 2) := by decide +kernel
theorem dX9_hasFailed_3 : decode cX9_hasFailed 3 = .ok (.invokestatic 67, 3) := by decide +kernel
theorem dX9_hasFailed_6 : decode cX9_hasFailed 6 = .ok (.aload_n 0, 1) := by decide +kernel
theorem dX9_hasFailed_7 : decode cX9_hasFailed 7 = .ok (.getfield 55, 3) := by decide +kernel
theorem dX9_hasFailed_10 : decode cX9_hasFailed 10 = .ok (.getfield 76, 3) := by decide +kernel
theorem dX9_hasFailed_13 : decode cX9_hasFailed 13 = .ok (.iload_n 1, 1) := by decide +kernel
theorem dX9_hasFailed_14 : decode cX9_hasFailed 14 = .ok (.baload, 1) := by decide +kernel
theorem dX9_hasFailed_15 : decode cX9_hasFailed 15 = .ok (.ireturn, 1) := by decide +kernel
theorem dX9_house_0 : decode cX9_house 0 = .ok (.aload_n 0, 1) := by decide +kernel
theorem dX9_house_1 : decode cX9_house 1 = .ok (.getfield 55, 3) := by decide +kernel
theorem dX9_house_4 : decode cX9_house 4 = .ok (.getfield 219, 3) := by decide +kernel
theorem dX9_house_7 : decode cX9_house 7 = .ok (.ireturn, 1) := by decide +kernel
theorem dX9_checkIndex_0 : decode cX9_checkIndex 0 = .ok (.iload_n 0, 1) := by decide +kernel
theorem dX9_checkIndex_1 : decode cX9_checkIndex 1 = .ok (.ifCond .lt 8, 3) := by decide +kernel
theorem dX9_checkIndex_4 : decode cX9_checkIndex 4 = .ok (.iload_n 0, 1) := by decide +kernel
theorem dX9_checkIndex_5 : decode cX9_checkIndex 5 = .ok (.iload_n 1, 1) := by decide +kernel
theorem dX9_checkIndex_6 : decode cX9_checkIndex 6 = .ok (.if_icmp .lt 11, 3) := by decide +kernel
theorem dX9_checkIndex_9 : decode cX9_checkIndex 9 = .ok (.new 222, 3) := by decide +kernel
theorem dX9_checkIndex_12 : decode cX9_checkIndex 12 = .ok (.dup, 1) := by decide +kernel
theorem dX9_checkIndex_13 : decode cX9_checkIndex 13 = .ok (.invokespecial 224, 3) := by decide +kernel
theorem dX9_checkIndex_16 : decode cX9_checkIndex 16 = .ok (.athrow, 1) := by decide +kernel
theorem dX9_checkIndex_17 : decode cX9_checkIndex 17 = .ok (.return_, 1) := by decide +kernel
theorem dX9_checkRange_0 : decode cX9_checkRange 0 = .ok (.iload_n 0, 1) := by decide +kernel
theorem dX9_checkRange_1 : decode cX9_checkRange 1 = .ok (.iload_n 1, 1) := by decide +kernel
theorem dX9_checkRange_2 : decode cX9_checkRange 2 = .ok (.if_icmp .lt 8, 3) := by decide +kernel
theorem dX9_checkRange_5 : decode cX9_checkRange 5 = .ok (.iload_n 0, 1) := by decide +kernel
theorem dX9_checkRange_6 : decode cX9_checkRange 6 = .ok (.iload_n 2, 1) := by decide +kernel
theorem dX9_checkRange_7 : decode cX9_checkRange 7 = .ok (.if_icmp .le 11, 3) := by decide +kernel
theorem dX9_checkRange_10 : decode cX9_checkRange 10 = .ok (.new 117, 3) := by decide +kernel
theorem dX9_checkRange_13 : decode cX9_checkRange 13 = .ok (.dup, 1) := by decide +kernel
theorem dX9_checkRange_14 : decode cX9_checkRange 14 = .ok (.invokespecial 225, 3) := by decide +kernel
theorem dX9_checkRange_17 : decode cX9_checkRange 17 = .ok (.athrow, 1) := by decide +kernel
theorem dX9_checkRange_18 : decode cX9_checkRange 18 = .ok (.return_, 1) := by decide +kernel
theorem dX9_checkState_0 : decode cX9_checkState 0 = .ok (.iload_n 0, 1) := by decide +kernel
theorem dX9_checkState_1 : decode cX9_checkState 1 = .ok (.ifCond .ne 11, 3) := by decide +kernel
theorem dX9_checkState_4 : decode cX9_checkState 4 = .ok (.new 226, 3) := by decide +kernel
theorem dX9_checkState_7 : decode cX9_checkState 7 = .ok (.dup, 1) := by decide +kernel
theorem dX9_checkState_8 : decode cX9_checkState 8 = .ok (.invokespecial 228, 3) := by decide +kernel
theorem dX9_checkState_11 : decode cX9_checkState 11 = .ok (.athrow, 1) := by decide +kernel
theorem dX9_checkState_12 : decode cX9_checkState 12 = .ok (.return_, 1) := by decide +kernel
theorem dX9_isMember_0 : decode cX9_isMember 0 = .ok (.iload_n 0, 1) := by decide +kernel
theorem dX9_isMember_1 : decode cX9_isMember 1 = .ok (.iload_n 1, 1) := by decide +kernel
theorem dX9_isMember_2 : decode cX9_isMember 2 = .ok (.ishr, 1) := by decide +kernel
theorem dX9_isMember_3 : decode cX9_isMember 3 = .ok (.iconst 1, 1) := by decide +kernel
theorem dX9_isMember_4 : decode cX9_isMember 4 = .ok (.iand, 1) := by decide +kernel
theorem dX9_isMember_5 : decode cX9_isMember 5 = .ok (.iconst 1, 1) := by decide +kernel
theorem dX9_isMember_6 : decode cX9_isMember 6 = .ok (.if_icmp .ne 7, 3) := by decide +kernel
theorem dX9_isMember_9 : decode cX9_isMember 9 = .ok (.iconst 1, 1) := by decide +kernel
theorem dX9_isMember_10 : decode cX9_isMember 10 = .ok (.goto 4, 3) := by decide +kernel
theorem dX9_isMember_13 : decode cX9_isMember 13 = .ok (.iconst 0, 1) := by decide +kernel
theorem dX9_isMember_14 : decode cX9_isMember 14 = .ok (.ireturn, 1) := by decide +kernel
theorem dX9_spotOf_0 : decode cX9_spotOf 0 = .ok (.iload_n 0, 1) := by decide +kernel
theorem dX9_spotOf_1 : decode cX9_spotOf 1 = .ok (.iconst 4, 1) := by decide +kernel
theorem dX9_spotOf_2 : decode cX9_spotOf 2 = .ok (.imul, 1) := by decide +kernel
theorem dX9_spotOf_3 : decode cX9_spotOf 3 = .ok (.iload_n 1, 1) := by decide +kernel
theorem dX9_spotOf_4 : decode cX9_spotOf 4 = .ok (.iadd, 1) := by decide +kernel
theorem dX9_spotOf_5 : decode cX9_spotOf 5 = .ok (.ireturn, 1) := by decide +kernel
set_option maxRecDepth 20000 in
theorem ggX9_placeOf_X9_spotOf : GoodIn wsX9_placeOf wsX9_spotOf := goodIn_r _ [4] (by decide +kernel) (by decide +kernel)
set_option maxRecDepth 20000 in
theorem gX9_placeOf_X9_spotOf : GoodIn wsX9_placeOf (va_wsS RX9 186 yX9_spotOf wsX9_spotOf) := goodIn_app (goodIn_of _ (by decide +kernel)) ggX9_placeOf_X9_spotOf
theorem dX9_placeOf_0 : decode cX9_placeOf 0 = .ok (.iload_n 0, 1) := by decide +kernel
theorem dX9_placeOf_1 : decode cX9_placeOf 1 = .ok (.iconst 3, 1) := by decide +kernel
theorem dX9_placeOf_2 : decode cX9_placeOf 2 = .ok (.imul, 1) := by decide +kernel
theorem dX9_placeOf_3 : decode cX9_placeOf 3 = .ok (.iconst 4, 1) := by decide +kernel
theorem dX9_placeOf_4 : decode cX9_placeOf 4 = .ok (.imul, 1) := by decide +kernel
theorem dX9_placeOf_5 : decode cX9_placeOf 5 = .ok (.iload_n 1, 1) := by decide +kernel
theorem dX9_placeOf_6 : decode cX9_placeOf 6 = .ok (.iload_n 2, 1) := by decide +kernel
theorem dX9_placeOf_7 : decode cX9_placeOf 7 = .ok (.invokestatic 186, 3) := by decide +kernel
theorem dX9_placeOf_10 : decode cX9_placeOf 10 = .ok (.iadd, 1) := by decide +kernel
theorem dX9_placeOf_11 : decode cX9_placeOf 11 = .ok (.ireturn, 1) := by decide +kernel
theorem dX9_lineBegin_0 : decode cX9_lineBegin 0 = .ok (.iload_n 0, 1) := by decide +kernel
theorem dX9_lineBegin_1 : decode cX9_lineBegin 1 = .ok (.iconst 1, 1) := by decide +kernel
theorem dX9_lineBegin_2 : decode cX9_lineBegin 2 = .ok (.if_icmp .ne 7, 3) := by decide +kernel
theorem dX9_lineBegin_5 : decode cX9_lineBegin 5 = .ok (.iconst 1, 1) := by decide +kernel
theorem dX9_lineBegin_6 : decode cX9_lineBegin 6 = .ok (.goto 4, 3) := by decide +kernel
theorem dX9_lineBegin_9 : decode cX9_lineBegin 9 = .ok (.iconst 0, 1) := by decide +kernel
theorem dX9_lineBegin_10 : decode cX9_lineBegin 10 = .ok (.ireturn, 1) := by decide +kernel
theorem dX9_lineEnd_0 : decode cX9_lineEnd 0 = .ok (.iload_n 0, 1) := by decide +kernel
theorem dX9_lineEnd_1 : decode cX9_lineEnd 1 = .ok (.ifCond .ne 7, 3) := by decide +kernel
theorem dX9_lineEnd_4 : decode cX9_lineEnd 4 = .ok (.iconst 1, 1) := by decide +kernel
theorem dX9_lineEnd_5 : decode cX9_lineEnd 5 = .ok (.goto 4, 3) := by decide +kernel
theorem dX9_lineEnd_8 : decode cX9_lineEnd 8 = .ok (.iconst 2, 1) := by decide +kernel
theorem dX9_lineEnd_9 : decode cX9_lineEnd 9 = .ok (.ireturn, 1) := by decide +kernel
theorem dX9_lineBetween_0 : decode cX9_lineBetween 0 = .ok (.iload_n 0, 1) := by decide +kernel
theorem dX9_lineBetween_1 : decode cX9_lineBetween 1 = .ok (.iconst 2, 1) := by decide +kernel
theorem dX9_lineBetween_2 : decode cX9_lineBetween 2 = .ok (.if_icmp .eq 10, 3) := by decide +kernel
theorem dX9_lineBetween_5 : decode cX9_lineBetween 5 = .ok (.iload_n 1, 1) := by decide +kernel
theorem dX9_lineBetween_6 : decode cX9_lineBetween 6 = .ok (.iconst 2, 1) := by decide +kernel
theorem dX9_lineBetween_7 : decode cX9_lineBetween 7 = .ok (.if_icmp .eq 5, 3) := by decide +kernel
theorem dX9_lineBetween_10 : decode cX9_lineBetween 10 = .ok (.iconst 0, 1) := by decide +kernel
theorem dX9_lineBetween_11 : decode cX9_lineBetween 11 = .ok (.ireturn, 1) := by decide +kernel
theorem dX9_lineBetween_12 : decode cX9_lineBetween 12 = .ok (.iload_n 0, 1) := by decide +kernel
theorem dX9_lineBetween_13 : decode cX9_lineBetween 13 = .ok (.ifCond .eq 11, 3) := by decide +kernel
theorem dX9_lineBetween_16 : decode cX9_lineBetween 16 = .ok (.iload_n 1, 1) := by decide +kernel
theorem dX9_lineBetween_17 : decode cX9_lineBetween 17 = .ok (.ifCond .eq 7, 3) := by decide +kernel
theorem dX9_lineBetween_20 : decode cX9_lineBetween 20 = .ok (.iconst 1, 1) := by decide +kernel
theorem dX9_lineBetween_21 : decode cX9_lineBetween 21 = .ok (.goto 4, 3) := by decide +kernel
theorem dX9_lineBetween_24 : decode cX9_lineBetween 24 = .ok (.iconst 2, 1) := by decide +kernel
theorem dX9_lineBetween_25 : decode cX9_lineBetween 25 = .ok (.ireturn, 1) := by decide +kernel
set_option maxRecDepth 20000 in
theorem ggX9_takeBids_X8_used : GoodIn wsX9_takeBids wsX8_used := goodIn_r _ [12, 13, 14, 36, 37, 38, 39, 40, 41, 42, 43, 44] (by decide +kernel) (by decide +kernel)
set_option maxRecDepth 20000 in
theorem gX9_takeBids_X8_used : GoodIn wsX9_takeBids (wsV RX9 199 RX8 yX8_used wsX8_used) := goodIn_app (goodIn_of _ (by decide +kernel)) ggX9_takeBids_X8_used
set_option maxRecDepth 20000 in
theorem ggX9_takeBids_X9_spotOf : GoodIn wsX9_takeBids wsX9_spotOf := goodIn_r _ [18] (by decide +kernel) (by decide +kernel)
set_option maxRecDepth 20000 in
theorem gX9_takeBids_X9_spotOf : GoodIn wsX9_takeBids (va_wsS RX9 186 yX9_spotOf wsX9_spotOf) := goodIn_app (goodIn_of _ (by decide +kernel)) ggX9_takeBids_X9_spotOf
set_option maxRecDepth 20000 in
theorem ggX9_takeBids_X5_book : GoodIn wsX9_takeBids wsX5_book := goodIn_r _ [23, 24, 25, 45, 46, 47, 48, 49, 50, 51, 52] (by decide +kernel) (by decide +kernel)
set_option maxRecDepth 20000 in
theorem gX9_takeBids_X5_book : GoodIn wsX9_takeBids (wsV RX9 241 RX5 yX5_book wsX5_book) := goodIn_app (goodIn_of _ (by decide +kernel)) ggX9_takeBids_X5_book
theorem dX9_takeBids_0 : decode cX9_takeBids 0 = .ok (.iconst 0, 1) := by decide +kernel
theorem dX9_takeBids_1 : decode cX9_takeBids 1 = .ok (.istore_n 2, 1) := by decide +kernel
theorem dX9_takeBids_2 : decode cX9_takeBids 2 = .ok (.iload_n 2, 1) := by decide +kernel
theorem dX9_takeBids_3 : decode cX9_takeBids 3 = .ok (.aload_n 0, 1) := by decide +kernel
theorem dX9_takeBids_4 : decode cX9_takeBids 4 = .ok (.getfield 25, 3) := by decide +kernel
theorem dX9_takeBids_7 : decode cX9_takeBids 7 = .ok (.getfield 150, 3) := by decide +kernel
theorem dX9_takeBids_10 : decode cX9_takeBids 10 = .ok (.if_icmp .ge 88, 3) := by decide +kernel
theorem dX9_takeBids_13 : decode cX9_takeBids 13 = .ok (.aload_n 0, 1) := by decide +kernel
theorem dX9_takeBids_14 : decode cX9_takeBids 14 = .ok (.getfield 25, 3) := by decide +kernel
theorem dX9_takeBids_17 : decode cX9_takeBids 17 = .ok (.getfield 229, 3) := by decide +kernel
theorem dX9_takeBids_20 : decode cX9_takeBids 20 = .ok (.iload_n 2, 1) := by decide +kernel
theorem dX9_takeBids_21 : decode cX9_takeBids 21 = .ok (.baload, 1) := by decide +kernel
theorem dX9_takeBids_22 : decode cX9_takeBids 22 = .ok (.ifCond .eq 15, 3) := by decide +kernel
theorem dX9_takeBids_25 : decode cX9_takeBids 25 = .ok (.aload_n 0, 1) := by decide +kernel
theorem dX9_takeBids_26 : decode cX9_takeBids 26 = .ok (.getfield 25, 3) := by decide +kernel
theorem dX9_takeBids_29 : decode cX9_takeBids 29 = .ok (.iload_n 2, 1) := by decide +kernel
theorem dX9_takeBids_30 : decode cX9_takeBids 30 = .ok (.invokevirtual 199, 3) := by decide +kernel
theorem dX9_takeBids_33 : decode cX9_takeBids 33 = .ok (.ineg, 1) := by decide +kernel
theorem dX9_takeBids_34 : decode cX9_takeBids 34 = .ok (.goto 11, 3) := by decide +kernel
theorem dX9_takeBids_37 : decode cX9_takeBids 37 = .ok (.aload_n 0, 1) := by decide +kernel
theorem dX9_takeBids_38 : decode cX9_takeBids 38 = .ok (.getfield 25, 3) := by decide +kernel
theorem dX9_takeBids_41 : decode cX9_takeBids 41 = .ok (.iload_n 2, 1) := by decide +kernel
theorem dX9_takeBids_42 : decode cX9_takeBids 42 = .ok (.invokevirtual 199, 3) := by decide +kernel
theorem dX9_takeBids_45 : decode cX9_takeBids 45 = .ok (.istore_n 3, 1) := by decide +kernel
theorem dX9_takeBids_46 : decode cX9_takeBids 46 = .ok (.aload_n 0, 1) := by decide +kernel
theorem dX9_takeBids_47 : decode cX9_takeBids 47 = .ok (.getfield 25, 3) := by decide +kernel
theorem dX9_takeBids_50 : decode cX9_takeBids 50 = .ok (.getfield 232, 3) := by decide +kernel
theorem dX9_takeBids_53 : decode cX9_takeBids 53 = .ok (.iload_n 2, 1) := by decide +kernel
theorem dX9_takeBids_54 : decode cX9_takeBids 54 = .ok (.iaload, 1) := by decide +kernel
theorem dX9_takeBids_55 : decode cX9_takeBids 55 = .ok (.aload_n 0, 1) := by decide +kernel
theorem dX9_takeBids_56 : decode cX9_takeBids 56 = .ok (.getfield 25, 3) := by decide +kernel
theorem dX9_takeBids_59 : decode cX9_takeBids 59 = .ok (.getfield 235, 3) := by decide +kernel
theorem dX9_takeBids_62 : decode cX9_takeBids 62 = .ok (.iload_n 2, 1) := by decide +kernel
theorem dX9_takeBids_63 : decode cX9_takeBids 63 = .ok (.iaload, 1) := by decide +kernel
theorem dX9_takeBids_64 : decode cX9_takeBids 64 = .ok (.invokestatic 186, 3) := by decide +kernel
theorem dX9_takeBids_67 : decode cX9_takeBids 67 = .ok (.istore 4, 2) := by decide +kernel
theorem dX9_takeBids_69 : decode cX9_takeBids 69 = .ok (.aload_n 1, 1) := by decide +kernel
theorem dX9_takeBids_70 : decode cX9_takeBids 70 = .ok (.aload_n 0, 1) := by decide +kernel
theorem dX9_takeBids_71 : decode cX9_takeBids 71 = .ok (.getfield 25, 3) := by decide +kernel
theorem dX9_takeBids_74 : decode cX9_takeBids 74 = .ok (.getfield 238, 3) := by decide +kernel
theorem dX9_takeBids_77 : decode cX9_takeBids 77 = .ok (.iload_n 2, 1) := by decide +kernel
theorem dX9_takeBids_78 : decode cX9_takeBids 78 = .ok (.iaload, 1) := by decide +kernel
theorem dX9_takeBids_79 : decode cX9_takeBids 79 = .ok (.iload 4, 2) := by decide +kernel
theorem dX9_takeBids_81 : decode cX9_takeBids 81 = .ok (.iload_n 3, 1) := by decide +kernel
theorem dX9_takeBids_82 : decode cX9_takeBids 82 = .ok (.aload_n 1, 1) := by decide +kernel
theorem dX9_takeBids_83 : decode cX9_takeBids 83 = .ok (.getfield 183, 3) := by decide +kernel
theorem dX9_takeBids_86 : decode cX9_takeBids 86 = .ok (.iload 4, 2) := by decide +kernel
theorem dX9_takeBids_88 : decode cX9_takeBids 88 = .ok (.iaload, 1) := by decide +kernel
theorem dX9_takeBids_89 : decode cX9_takeBids 89 = .ok (.invokevirtual 241, 3) := by decide +kernel
theorem dX9_takeBids_92 : decode cX9_takeBids 92 = .ok (.iinc 2 1, 3) := by decide +kernel
theorem dX9_takeBids_95 : decode cX9_takeBids 95 = .ok (.goto (-93), 3) := by decide +kernel
theorem dX9_takeBids_98 : decode cX9_takeBids 98 = .ok (.return_, 1) := by decide +kernel
set_option maxRecDepth 20000 in
theorem ggX9_takeBlocks_X9_isMember : GoodIn wsX9_takeBlocks wsX9_isMember := goodIn_r _ [13] (by decide +kernel) (by decide +kernel)
set_option maxRecDepth 20000 in
theorem gX9_takeBlocks_X9_isMember : GoodIn wsX9_takeBlocks (va_wsS RX9 205 yX9_isMember wsX9_isMember) := goodIn_app (goodIn_of _ (by decide +kernel)) ggX9_takeBlocks_X9_isMember
set_option maxRecDepth 20000 in
theorem ggX9_takeBlocks_X9_spotOf : GoodIn wsX9_takeBlocks wsX9_spotOf := goodIn_r _ [16] (by decide +kernel) (by decide +kernel)
set_option maxRecDepth 20000 in
theorem gX9_takeBlocks_X9_spotOf : GoodIn wsX9_takeBlocks (va_wsS RX9 186 yX9_spotOf wsX9_spotOf) := goodIn_app (goodIn_of _ (by decide +kernel)) ggX9_takeBlocks_X9_spotOf
set_option maxRecDepth 20000 in
theorem ggX9_takeBlocks_X5_book : GoodIn wsX9_takeBlocks wsX5_book := goodIn_r _ [21, 22, 23, 44, 45, 46, 47, 48, 49, 50, 51] (by decide +kernel) (by decide +kernel)
set_option maxRecDepth 20000 in
theorem gX9_takeBlocks_X5_book : GoodIn wsX9_takeBlocks (wsV RX9 241 RX5 yX5_book wsX5_book) := goodIn_app (goodIn_of _ (by decide +kernel)) ggX9_takeBlocks_X5_book
theorem dX9_takeBlocks_0 : decode cX9_takeBlocks 0 = .ok (.iconst 0, 1) := by decide +kernel
theorem dX9_takeBlocks_1 : decode cX9_takeBlocks 1 = .ok (.istore_n 2, 1) := by decide +kernel
theorem dX9_takeBlocks_2 : decode cX9_takeBlocks 2 = .ok (.iload_n 2, 1) := by decide +kernel
theorem dX9_takeBlocks_3 : decode cX9_takeBlocks 3 = .ok (.aload_n 0, 1) := by decide +kernel
theorem dX9_takeBlocks_4 : decode cX9_takeBlocks 4 = .ok (.getfield 30, 3) := by decide +kernel
theorem dX9_takeBlocks_7 : decode cX9_takeBlocks 7 = .ok (.getfield 105, 3) := by decide +kernel
theorem dX9_takeBlocks_10 : decode cX9_takeBlocks 10 = .ok (.if_icmp .ge 132, 3) := by decide +kernel
theorem dX9_takeBlocks_13 : decode cX9_takeBlocks 13 = .ok (.aload_n 0, 1) := by decide +kernel
theorem dX9_takeBlocks_14 : decode cX9_takeBlocks 14 = .ok (.getfield 30, 3) := by decide +kernel
theorem dX9_takeBlocks_17 : decode cX9_takeBlocks 17 = .ok (.getfield 202, 3) := by decide +kernel
theorem dX9_takeBlocks_20 : decode cX9_takeBlocks 20 = .ok (.iload_n 2, 1) := by decide +kernel
theorem dX9_takeBlocks_21 : decode cX9_takeBlocks 21 = .ok (.invokestatic 205, 3) := by decide +kernel
theorem dX9_takeBlocks_24 : decode cX9_takeBlocks 24 = .ok (.ifCond .ne 6, 3) := by decide +kernel
theorem dX9_takeBlocks_27 : decode cX9_takeBlocks 27 = .ok (.goto 109, 3) := by decide +kernel
theorem dX9_takeBlocks_30 : decode cX9_takeBlocks 30 = .ok (.aload_n 0, 1) := by decide +kernel
theorem dX9_takeBlocks_31 : decode cX9_takeBlocks 31 = .ok (.getfield 30, 3) := by decide +kernel
theorem dX9_takeBlocks_34 : decode cX9_takeBlocks 34 = .ok (.getfield 245, 3) := by decide +kernel
theorem dX9_takeBlocks_37 : decode cX9_takeBlocks 37 = .ok (.iload_n 2, 1) := by decide +kernel
theorem dX9_takeBlocks_38 : decode cX9_takeBlocks 38 = .ok (.baload, 1) := by decide +kernel
theorem dX9_takeBlocks_39 : decode cX9_takeBlocks 39 = .ok (.ifCond .eq 16, 3) := by decide +kernel
theorem dX9_takeBlocks_42 : decode cX9_takeBlocks 42 = .ok (.aload_n 0, 1) := by decide +kernel
theorem dX9_takeBlocks_43 : decode cX9_takeBlocks 43 = .ok (.getfield 30, 3) := by decide +kernel
theorem dX9_takeBlocks_46 : decode cX9_takeBlocks 46 = .ok (.getfield 246, 3) := by decide +kernel
theorem dX9_takeBlocks_49 : decode cX9_takeBlocks 49 = .ok (.iload_n 2, 1) := by decide +kernel
theorem dX9_takeBlocks_50 : decode cX9_takeBlocks 50 = .ok (.iaload, 1) := by decide +kernel
theorem dX9_takeBlocks_51 : decode cX9_takeBlocks 51 = .ok (.ineg, 1) := by decide +kernel
theorem dX9_takeBlocks_52 : decode cX9_takeBlocks 52 = .ok (.goto 12, 3) := by decide +kernel
theorem dX9_takeBlocks_55 : decode cX9_takeBlocks 55 = .ok (.aload_n 0, 1) := by decide +kernel
theorem dX9_takeBlocks_56 : decode cX9_takeBlocks 56 = .ok (.getfield 30, 3) := by decide +kernel
theorem dX9_takeBlocks_59 : decode cX9_takeBlocks 59 = .ok (.getfield 246, 3) := by decide +kernel
theorem dX9_takeBlocks_62 : decode cX9_takeBlocks 62 = .ok (.iload_n 2, 1) := by decide +kernel
theorem dX9_takeBlocks_63 : decode cX9_takeBlocks 63 = .ok (.iaload, 1) := by decide +kernel
theorem dX9_takeBlocks_64 : decode cX9_takeBlocks 64 = .ok (.istore_n 3, 1) := by decide +kernel
theorem dX9_takeBlocks_65 : decode cX9_takeBlocks 65 = .ok (.iconst 0, 1) := by decide +kernel
theorem dX9_takeBlocks_66 : decode cX9_takeBlocks 66 = .ok (.istore 4, 2) := by decide +kernel
theorem dX9_takeBlocks_68 : decode cX9_takeBlocks 68 = .ok (.iload 4, 2) := by decide +kernel
theorem dX9_takeBlocks_70 : decode cX9_takeBlocks 70 = .ok (.iconst 4, 1) := by decide +kernel
theorem dX9_takeBlocks_71 : decode cX9_takeBlocks 71 = .ok (.if_icmp .ge 65, 3) := by decide +kernel
theorem dX9_takeBlocks_74 : decode cX9_takeBlocks 74 = .ok (.aload_n 0, 1) := by decide +kernel
theorem dX9_takeBlocks_75 : decode cX9_takeBlocks 75 = .ok (.getfield 30, 3) := by decide +kernel
theorem dX9_takeBlocks_78 : decode cX9_takeBlocks 78 = .ok (.getfield 249, 3) := by decide +kernel
theorem dX9_takeBlocks_81 : decode cX9_takeBlocks 81 = .ok (.iload_n 2, 1) := by decide +kernel
theorem dX9_takeBlocks_82 : decode cX9_takeBlocks 82 = .ok (.iaload, 1) := by decide +kernel
theorem dX9_takeBlocks_83 : decode cX9_takeBlocks 83 = .ok (.iload 4, 2) := by decide +kernel
theorem dX9_takeBlocks_85 : decode cX9_takeBlocks 85 = .ok (.invokestatic 205, 3) := by decide +kernel
theorem dX9_takeBlocks_88 : decode cX9_takeBlocks 88 = .ok (.ifCond .eq 42, 3) := by decide +kernel
theorem dX9_takeBlocks_91 : decode cX9_takeBlocks 91 = .ok (.aload_n 0, 1) := by decide +kernel
theorem dX9_takeBlocks_92 : decode cX9_takeBlocks 92 = .ok (.getfield 30, 3) := by decide +kernel
theorem dX9_takeBlocks_95 : decode cX9_takeBlocks 95 = .ok (.getfield 252, 3) := by decide +kernel
theorem dX9_takeBlocks_98 : decode cX9_takeBlocks 98 = .ok (.iload_n 2, 1) := by decide +kernel
theorem dX9_takeBlocks_99 : decode cX9_takeBlocks 99 = .ok (.iaload, 1) := by decide +kernel
theorem dX9_takeBlocks_100 : decode cX9_takeBlocks 100 = .ok (.iload 4, 2) := by decide +kernel
theorem dX9_takeBlocks_102 : decode cX9_takeBlocks 102 = .ok (.invokestatic 186, 3) := by decide +kernel
theorem dX9_takeBlocks_105 : decode cX9_takeBlocks 105 = .ok (.istore 5, 2) := by decide +kernel
theorem dX9_takeBlocks_107 : decode cX9_takeBlocks 107 = .ok (.aload_n 1, 1) := by decide +kernel
theorem dX9_takeBlocks_108 : decode cX9_takeBlocks 108 = .ok (.aload_n 0, 1) := by decide +kernel
theorem dX9_takeBlocks_109 : decode cX9_takeBlocks 109 = .ok (.getfield 30, 3) := by decide +kernel
theorem dX9_takeBlocks_112 : decode cX9_takeBlocks 112 = .ok (.getfield 253, 3) := by decide +kernel
theorem dX9_takeBlocks_115 : decode cX9_takeBlocks 115 = .ok (.iload_n 2, 1) := by decide +kernel
theorem dX9_takeBlocks_116 : decode cX9_takeBlocks 116 = .ok (.iaload, 1) := by decide +kernel
theorem dX9_takeBlocks_117 : decode cX9_takeBlocks 117 = .ok (.iload 5, 2) := by decide +kernel
theorem dX9_takeBlocks_119 : decode cX9_takeBlocks 119 = .ok (.iload_n 3, 1) := by decide +kernel
theorem dX9_takeBlocks_120 : decode cX9_takeBlocks 120 = .ok (.aload_n 1, 1) := by decide +kernel
theorem dX9_takeBlocks_121 : decode cX9_takeBlocks 121 = .ok (.getfield 183, 3) := by decide +kernel
theorem dX9_takeBlocks_124 : decode cX9_takeBlocks 124 = .ok (.iload 5, 2) := by decide +kernel
theorem dX9_takeBlocks_126 : decode cX9_takeBlocks 126 = .ok (.iaload, 1) := by decide +kernel
theorem dX9_takeBlocks_127 : decode cX9_takeBlocks 127 = .ok (.invokevirtual 241, 3) := by decide +kernel
theorem dX9_takeBlocks_130 : decode cX9_takeBlocks 130 = .ok (.iinc 4 1, 3) := by decide +kernel
theorem dX9_takeBlocks_133 : decode cX9_takeBlocks 133 = .ok (.goto (-65), 3) := by decide +kernel
theorem dX9_takeBlocks_136 : decode cX9_takeBlocks 136 = .ok (.iinc 2 1, 3) := by decide +kernel
theorem dX9_takeBlocks_139 : decode cX9_takeBlocks 139 = .ok (.goto (-137), 3) := by decide +kernel
theorem dX9_takeBlocks_142 : decode cX9_takeBlocks 142 = .ok (.return_, 1) := by decide +kernel
set_option maxRecDepth 20000 in
theorem ggX9_giveRights_X9_lineBetween : GoodIn wsX9_giveRights wsX9_lineBetween := goodIn_r _ [7] (by decide +kernel) (by decide +kernel)
set_option maxRecDepth 20000 in
theorem gX9_giveRights_X9_lineBetween : GoodIn wsX9_giveRights (va_wsS RX9 254 yX9_lineBetween wsX9_lineBetween) := goodIn_app (goodIn_of _ (by decide +kernel)) ggX9_giveRights_X9_lineBetween
set_option maxRecDepth 20000 in
theorem ggX9_giveRights_X1_giveOut : GoodIn wsX9_giveRights wsX1_giveOut := goodIn_r _ [12, 13, 14, 15, 16, 17, 18, 19, 20, 21, 22, 23, 24, 25, 26, 27, 11, 28, 29, 30, 31, 32, 33, 34, 35, 36, 37, 38, 39, 40, 6, 41, 42, 43, 44, 45, 46, 47, 48, 60, 61, 62, 63, 64, 65, 66, 67, 68, 69, 70, 71, 72, 73, 74, 75, 76, 77, 78] (by decide +kernel) (by decide +kernel)
set_option maxRecDepth 20000 in
theorem gX9_giveRights_X1_giveOut : GoodIn wsX9_giveRights (wsV RX9 257 RX1 yX1_giveOut wsX1_giveOut) := goodIn_app (goodIn_of _ (by decide +kernel)) ggX9_giveRights_X1_giveOut
theorem dX9_giveRights_0 : decode cX9_giveRights 0 = .ok (.iconst 0, 1) := by decide +kernel
theorem dX9_giveRights_1 : decode cX9_giveRights 1 = .ok (.istore_n 2, 1) := by decide +kernel
theorem dX9_giveRights_2 : decode cX9_giveRights 2 = .ok (.iload_n 2, 1) := by decide +kernel
theorem dX9_giveRights_3 : decode cX9_giveRights 3 = .ok (.iconst 3, 1) := by decide +kernel
theorem dX9_giveRights_4 : decode cX9_giveRights 4 = .ok (.if_icmp .ge 50, 3) := by decide +kernel
theorem dX9_giveRights_7 : decode cX9_giveRights 7 = .ok (.iconst 0, 1) := by decide +kernel
theorem dX9_giveRights_8 : decode cX9_giveRights 8 = .ok (.istore_n 3, 1) := by decide +kernel
theorem dX9_giveRights_9 : decode cX9_giveRights 9 = .ok (.iload_n 3, 1) := by decide +kernel
theorem dX9_giveRights_10 : decode cX9_giveRights 10 = .ok (.iconst 3, 1) := by decide +kernel
theorem dX9_giveRights_11 : decode cX9_giveRights 11 = .ok (.if_icmp .ge 37, 3) := by decide +kernel
theorem dX9_giveRights_14 : decode cX9_giveRights 14 = .ok (.iload_n 2, 1) := by decide +kernel
theorem dX9_giveRights_15 : decode cX9_giveRights 15 = .ok (.iload_n 3, 1) := by decide +kernel
theorem dX9_giveRights_16 : decode cX9_giveRights 16 = .ok (.if_icmp .eq 26, 3) := by decide +kernel
theorem dX9_giveRights_19 : decode cX9_giveRights 19 = .ok (.aload_n 0, 1) := by decide +kernel
theorem dX9_giveRights_20 : decode cX9_giveRights 20 = .ok (.getfield 34, 3) := by decide +kernel
theorem dX9_giveRights_23 : decode cX9_giveRights 23 = .ok (.iload_n 2, 1) := by decide +kernel
theorem dX9_giveRights_24 : decode cX9_giveRights 24 = .ok (.iload_n 3, 1) := by decide +kernel
theorem dX9_giveRights_25 : decode cX9_giveRights 25 = .ok (.aload_n 0, 1) := by decide +kernel
theorem dX9_giveRights_26 : decode cX9_giveRights 26 = .ok (.getfield 20, 3) := by decide +kernel
theorem dX9_giveRights_29 : decode cX9_giveRights 29 = .ok (.getfield 92, 3) := by decide +kernel
theorem dX9_giveRights_32 : decode cX9_giveRights 32 = .ok (.iload_n 2, 1) := by decide +kernel
theorem dX9_giveRights_33 : decode cX9_giveRights 33 = .ok (.iload_n 3, 1) := by decide +kernel
theorem dX9_giveRights_34 : decode cX9_giveRights 34 = .ok (.invokestatic 254, 3) := by decide +kernel
theorem dX9_giveRights_37 : decode cX9_giveRights 37 = .ok (.iaload, 1) := by decide +kernel
theorem dX9_giveRights_38 : decode cX9_giveRights 38 = .ok (.aload_n 1, 1) := by decide +kernel
theorem dX9_giveRights_39 : decode cX9_giveRights 39 = .ok (.invokevirtual 257, 3) := by decide +kernel
theorem dX9_giveRights_42 : decode cX9_giveRights 42 = .ok (.iinc 3 1, 3) := by decide +kernel
theorem dX9_giveRights_45 : decode cX9_giveRights 45 = .ok (.goto (-36), 3) := by decide +kernel
theorem dX9_giveRights_48 : decode cX9_giveRights 48 = .ok (.iinc 2 1, 3) := by decide +kernel
theorem dX9_giveRights_51 : decode cX9_giveRights 51 = .ok (.goto (-49), 3) := by decide +kernel
theorem dX9_giveRights_54 : decode cX9_giveRights 54 = .ok (.return_, 1) := by decide +kernel
set_option maxRecDepth 20000 in
theorem ggX9_worthTaken_X2_worthOf : GoodIn wsX9_worthTaken wsX2_worthOf := goodIn_r _ [11, 12, 13, 14, 15, 16, 17, 18, 19, 20, 21, 22, 23, 24, 25, 26, 44, 45, 46, 47, 48, 49, 50, 51, 52, 53] (by decide +kernel) (by decide +kernel)
set_option maxRecDepth 20000 in
theorem gX9_worthTaken_X2_worthOf : GoodIn wsX9_worthTaken (wsV RX9 261 RX2 yX2_worthOf wsX2_worthOf) := goodIn_app (goodIn_of _ (by decide +kernel)) ggX9_worthTaken_X2_worthOf
set_option maxRecDepth 20000 in
theorem ggX9_worthTaken_X8_used : GoodIn wsX9_worthTaken wsX8_used := goodIn_r _ [31, 32, 33, 54, 55, 56, 57, 58, 59, 60, 61, 62] (by decide +kernel) (by decide +kernel)
set_option maxRecDepth 20000 in
theorem gX9_worthTaken_X8_used : GoodIn wsX9_worthTaken (wsV RX9 199 RX8 yX8_used wsX8_used) := goodIn_app (goodIn_of _ (by decide +kernel)) ggX9_worthTaken_X8_used
theorem dX9_worthTaken_0 : decode cX9_worthTaken 0 = .ok (.aload_n 0, 1) := by decide +kernel
theorem dX9_worthTaken_1 : decode cX9_worthTaken 1 = .ok (.getfield 30, 3) := by decide +kernel
theorem dX9_worthTaken_4 : decode cX9_worthTaken 4 = .ok (.aload_n 0, 1) := by decide +kernel
theorem dX9_worthTaken_5 : decode cX9_worthTaken 5 = .ok (.getfield 30, 3) := by decide +kernel
theorem dX9_worthTaken_8 : decode cX9_worthTaken 8 = .ok (.getfield 202, 3) := by decide +kernel
theorem dX9_worthTaken_11 : decode cX9_worthTaken 11 = .ok (.invokevirtual 261, 3) := by decide +kernel
theorem dX9_worthTaken_14 : decode cX9_worthTaken 14 = .ok (.istore_n 1, 1) := by decide +kernel
theorem dX9_worthTaken_15 : decode cX9_worthTaken 15 = .ok (.iconst 0, 1) := by decide +kernel
theorem dX9_worthTaken_16 : decode cX9_worthTaken 16 = .ok (.istore_n 2, 1) := by decide +kernel
theorem dX9_worthTaken_17 : decode cX9_worthTaken 17 = .ok (.iload_n 2, 1) := by decide +kernel
theorem dX9_worthTaken_18 : decode cX9_worthTaken 18 = .ok (.aload_n 0, 1) := by decide +kernel
theorem dX9_worthTaken_19 : decode cX9_worthTaken 19 = .ok (.getfield 25, 3) := by decide +kernel
theorem dX9_worthTaken_22 : decode cX9_worthTaken 22 = .ok (.getfield 150, 3) := by decide +kernel
theorem dX9_worthTaken_25 : decode cX9_worthTaken 25 = .ok (.if_icmp .ge 57, 3) := by decide +kernel
theorem dX9_worthTaken_28 : decode cX9_worthTaken 28 = .ok (.aload_n 0, 1) := by decide +kernel
theorem dX9_worthTaken_29 : decode cX9_worthTaken 29 = .ok (.getfield 25, 3) := by decide +kernel
theorem dX9_worthTaken_32 : decode cX9_worthTaken 32 = .ok (.getfield 229, 3) := by decide +kernel
theorem dX9_worthTaken_35 : decode cX9_worthTaken 35 = .ok (.iload_n 2, 1) := by decide +kernel
theorem dX9_worthTaken_36 : decode cX9_worthTaken 36 = .ok (.baload, 1) := by decide +kernel
theorem dX9_worthTaken_37 : decode cX9_worthTaken 37 = .ok (.ifCond .eq 15, 3) := by decide +kernel
theorem dX9_worthTaken_40 : decode cX9_worthTaken 40 = .ok (.aload_n 0, 1) := by decide +kernel
theorem dX9_worthTaken_41 : decode cX9_worthTaken 41 = .ok (.getfield 25, 3) := by decide +kernel
theorem dX9_worthTaken_44 : decode cX9_worthTaken 44 = .ok (.getfield 264, 3) := by decide +kernel
theorem dX9_worthTaken_47 : decode cX9_worthTaken 47 = .ok (.iload_n 2, 1) := by decide +kernel
theorem dX9_worthTaken_48 : decode cX9_worthTaken 48 = .ok (.iaload, 1) := by decide +kernel
theorem dX9_worthTaken_49 : decode cX9_worthTaken 49 = .ok (.goto 13, 3) := by decide +kernel
theorem dX9_worthTaken_52 : decode cX9_worthTaken 52 = .ok (.aload_n 0, 1) := by decide +kernel
theorem dX9_worthTaken_53 : decode cX9_worthTaken 53 = .ok (.getfield 25, 3) := by decide +kernel
theorem dX9_worthTaken_56 : decode cX9_worthTaken 56 = .ok (.getfield 264, 3) := by decide +kernel
theorem dX9_worthTaken_59 : decode cX9_worthTaken 59 = .ok (.iload_n 2, 1) := by decide +kernel
theorem dX9_worthTaken_60 : decode cX9_worthTaken 60 = .ok (.iaload, 1) := by decide +kernel
theorem dX9_worthTaken_61 : decode cX9_worthTaken 61 = .ok (.ineg, 1) := by decide +kernel
theorem dX9_worthTaken_62 : decode cX9_worthTaken 62 = .ok (.istore_n 3, 1) := by decide +kernel
theorem dX9_worthTaken_63 : decode cX9_worthTaken 63 = .ok (.iload_n 1, 1) := by decide +kernel
theorem dX9_worthTaken_64 : decode cX9_worthTaken 64 = .ok (.iload_n 3, 1) := by decide +kernel
theorem dX9_worthTaken_65 : decode cX9_worthTaken 65 = .ok (.aload_n 0, 1) := by decide +kernel
theorem dX9_worthTaken_66 : decode cX9_worthTaken 66 = .ok (.getfield 25, 3) := by decide +kernel
theorem dX9_worthTaken_69 : decode cX9_worthTaken 69 = .ok (.iload_n 2, 1) := by decide +kernel
theorem dX9_worthTaken_70 : decode cX9_worthTaken 70 = .ok (.invokevirtual 199, 3) := by decide +kernel
theorem dX9_worthTaken_73 : decode cX9_worthTaken 73 = .ok (.imul, 1) := by decide +kernel
theorem dX9_worthTaken_74 : decode cX9_worthTaken 74 = .ok (.iadd, 1) := by decide +kernel
theorem dX9_worthTaken_75 : decode cX9_worthTaken 75 = .ok (.istore_n 1, 1) := by decide +kernel
theorem dX9_worthTaken_76 : decode cX9_worthTaken 76 = .ok (.iinc 2 1, 3) := by decide +kernel
theorem dX9_worthTaken_79 : decode cX9_worthTaken 79 = .ok (.goto (-62), 3) := by decide +kernel
theorem dX9_worthTaken_82 : decode cX9_worthTaken 82 = .ok (.iload_n 1, 1) := by decide +kernel
theorem dX9_worthTaken_83 : decode cX9_worthTaken 83 = .ok (.ireturn, 1) := by decide +kernel
set_option maxRecDepth 20000 in
theorem ggX9_tradeAll_X8_fits : GoodIn wsX9_tradeAll wsX8_fits := goodIn_r _ [9, 10, 11, 12, 13, 14, 15, 16, 8, 17, 18, 70, 71, 72, 73, 74, 75, 76, 77, 78] (by decide +kernel) (by decide +kernel)
set_option maxRecDepth 20000 in
theorem gX9_tradeAll_X8_fits : GoodIn wsX9_tradeAll (wsV RX9 270 RX8 yX8_fits wsX8_fits) := goodIn_app (goodIn_of _ (by decide +kernel)) ggX9_tradeAll_X8_fits
set_option maxRecDepth 20000 in
theorem ggX9_tradeAll_X9_trade : GoodIn wsX9_tradeAll wsX9_trade := goodIn_r _ [23, 1, 24, 25, 26, 27, 28, 3, 29, 30, 31, 32, 33, 34, 35, 36, 37, 22, 38, 39, 40, 41, 42, 43, 44, 45, 46, 47, 48, 49, 50, 51, 52, 53, 54, 55, 56, 57, 58, 59, 60, 61, 62, 63, 64, 65, 66, 67, 68, 69, 70, 71, 72, 73, 74, 75, 76, 77, 78, 79, 80, 81, 82, 83, 84, 85, 86, 87] (by decide +kernel) (by decide +kernel)
set_option maxRecDepth 20000 in
theorem gX9_tradeAll_X9_trade : GoodIn wsX9_tradeAll (wsV RX9 273 RX9 yX9_trade wsX9_trade) := goodIn_app (goodIn_of _ (by decide +kernel)) ggX9_tradeAll_X9_trade
theorem dX9_tradeAll_0 : decode cX9_tradeAll 0 = .ok (.iconst 0, 1) := by decide +kernel
theorem dX9_tradeAll_1 : decode cX9_tradeAll 1 = .ok (.istore_n 2, 1) := by decide +kernel
theorem dX9_tradeAll_2 : decode cX9_tradeAll 2 = .ok (.iload_n 2, 1) := by decide +kernel
theorem dX9_tradeAll_3 : decode cX9_tradeAll 3 = .ok (.aload_n 0, 1) := by decide +kernel
theorem dX9_tradeAll_4 : decode cX9_tradeAll 4 = .ok (.getfield 43, 3) := by decide +kernel
theorem dX9_tradeAll_7 : decode cX9_tradeAll 7 = .ok (.getfield 150, 3) := by decide +kernel
theorem dX9_tradeAll_10 : decode cX9_tradeAll 10 = .ok (.if_icmp .ge 49, 3) := by decide +kernel
theorem dX9_tradeAll_13 : decode cX9_tradeAll 13 = .ok (.aload_n 0, 1) := by decide +kernel
theorem dX9_tradeAll_14 : decode cX9_tradeAll 14 = .ok (.getfield 43, 3) := by decide +kernel
theorem dX9_tradeAll_17 : decode cX9_tradeAll 17 = .ok (.getfield 151, 3) := by decide +kernel
theorem dX9_tradeAll_20 : decode cX9_tradeAll 20 = .ok (.iload_n 1, 1) := by decide +kernel
theorem dX9_tradeAll_21 : decode cX9_tradeAll 21 = .ok (.iaload, 1) := by decide +kernel
theorem dX9_tradeAll_22 : decode cX9_tradeAll 22 = .ok (.ifCond .le 37, 3) := by decide +kernel
theorem dX9_tradeAll_25 : decode cX9_tradeAll 25 = .ok (.aload_n 0, 1) := by decide +kernel
theorem dX9_tradeAll_26 : decode cX9_tradeAll 26 = .ok (.getfield 43, 3) := by decide +kernel
theorem dX9_tradeAll_29 : decode cX9_tradeAll 29 = .ok (.getfield 267, 3) := by decide +kernel
theorem dX9_tradeAll_32 : decode cX9_tradeAll 32 = .ok (.iload_n 2, 1) := by decide +kernel
theorem dX9_tradeAll_33 : decode cX9_tradeAll 33 = .ok (.iaload, 1) := by decide +kernel
theorem dX9_tradeAll_34 : decode cX9_tradeAll 34 = .ok (.istore_n 3, 1) := by decide +kernel
theorem dX9_tradeAll_35 : decode cX9_tradeAll 35 = .ok (.aload_n 0, 1) := by decide +kernel
theorem dX9_tradeAll_36 : decode cX9_tradeAll 36 = .ok (.getfield 43, 3) := by decide +kernel
theorem dX9_tradeAll_39 : decode cX9_tradeAll 39 = .ok (.iload_n 1, 1) := by decide +kernel
theorem dX9_tradeAll_40 : decode cX9_tradeAll 40 = .ok (.iload_n 3, 1) := by decide +kernel
theorem dX9_tradeAll_41 : decode cX9_tradeAll 41 = .ok (.invokevirtual 270, 3) := by decide +kernel
theorem dX9_tradeAll_44 : decode cX9_tradeAll 44 = .ok (.ifCond .eq 9, 3) := by decide +kernel
theorem dX9_tradeAll_47 : decode cX9_tradeAll 47 = .ok (.aload_n 0, 1) := by decide +kernel
theorem dX9_tradeAll_48 : decode cX9_tradeAll 48 = .ok (.iload_n 1, 1) := by decide +kernel
theorem dX9_tradeAll_49 : decode cX9_tradeAll 49 = .ok (.iload_n 3, 1) := by decide +kernel
theorem dX9_tradeAll_50 : decode cX9_tradeAll 50 = .ok (.invokevirtual 273, 3) := by decide +kernel
theorem dX9_tradeAll_53 : decode cX9_tradeAll 53 = .ok (.iinc 2 1, 3) := by decide +kernel
theorem dX9_tradeAll_56 : decode cX9_tradeAll 56 = .ok (.goto (-54), 3) := by decide +kernel
theorem dX9_tradeAll_59 : decode cX9_tradeAll 59 = .ok (.return_, 1) := by decide +kernel
set_option maxRecDepth 20000 in
theorem ggX9_trade_X9_spotOf : GoodIn wsX9_trade wsX9_spotOf := goodIn_r _ [18] (by decide +kernel) (by decide +kernel)
set_option maxRecDepth 20000 in
theorem gX9_trade_X9_spotOf : GoodIn wsX9_trade (va_wsS RX9 186 yX9_spotOf wsX9_spotOf) := goodIn_app (goodIn_of _ (by decide +kernel)) ggX9_trade_X9_spotOf
set_option maxRecDepth 20000 in
theorem ggX9_trade_X9_moveUnit : GoodIn wsX9_trade wsX9_moveUnit := goodIn_r _ [22, 23, 15, 16, 17, 18, 24, 25, 26, 27, 28, 29, 30, 10, 31, 32, 40, 41, 42, 43, 44, 45, 46, 47, 48, 49, 67] (by decide +kernel) (by decide +kernel)
set_option maxRecDepth 20000 in
theorem gX9_trade_X9_moveUnit : GoodIn wsX9_trade (wsV RX9 281 RX9 yX9_moveUnit wsX9_moveUnit) := goodIn_app (goodIn_of _ (by decide +kernel)) ggX9_trade_X9_moveUnit
set_option maxRecDepth 20000 in
theorem ggX9_trade_X5_book : GoodIn wsX9_trade wsX5_book := goodIn_r _ [37, 38, 39, 59, 60, 61, 62, 63, 64, 65, 66] (by decide +kernel) (by decide +kernel)
set_option maxRecDepth 20000 in
theorem gX9_trade_X5_book : GoodIn wsX9_trade (wsV RX9 241 RX5 yX5_book wsX5_book) := goodIn_app (goodIn_of _ (by decide +kernel)) ggX9_trade_X5_book
theorem dX9_trade_0 : decode cX9_trade 0 = .ok (.aload_n 0, 1) := by decide +kernel
theorem dX9_trade_1 : decode cX9_trade 1 = .ok (.getfield 43, 3) := by decide +kernel
theorem dX9_trade_4 : decode cX9_trade 4 = .ok (.getfield 229, 3) := by decide +kernel
theorem dX9_trade_7 : decode cX9_trade 7 = .ok (.iload_n 1, 1) := by decide +kernel
theorem dX9_trade_8 : decode cX9_trade 8 = .ok (.baload, 1) := by decide +kernel
theorem dX9_trade_9 : decode cX9_trade 9 = .ok (.ifCond .eq 7, 3) := by decide +kernel
theorem dX9_trade_12 : decode cX9_trade 12 = .ok (.iload_n 2, 1) := by decide +kernel
theorem dX9_trade_13 : decode cX9_trade 13 = .ok (.goto 4, 3) := by decide +kernel
theorem dX9_trade_16 : decode cX9_trade 16 = .ok (.iload_n 1, 1) := by decide +kernel
theorem dX9_trade_17 : decode cX9_trade 17 = .ok (.istore_n 3, 1) := by decide +kernel
theorem dX9_trade_18 : decode cX9_trade 18 = .ok (.aload_n 0, 1) := by decide +kernel
theorem dX9_trade_19 : decode cX9_trade 19 = .ok (.getfield 43, 3) := by decide +kernel
theorem dX9_trade_22 : decode cX9_trade 22 = .ok (.getfield 229, 3) := by decide +kernel
theorem dX9_trade_25 : decode cX9_trade 25 = .ok (.iload_n 1, 1) := by decide +kernel
theorem dX9_trade_26 : decode cX9_trade 26 = .ok (.baload, 1) := by decide +kernel
theorem dX9_trade_27 : decode cX9_trade 27 = .ok (.ifCond .eq 7, 3) := by decide +kernel
theorem dX9_trade_30 : decode cX9_trade 30 = .ok (.iload_n 1, 1) := by decide +kernel
theorem dX9_trade_31 : decode cX9_trade 31 = .ok (.goto 4, 3) := by decide +kernel
theorem dX9_trade_34 : decode cX9_trade 34 = .ok (.iload_n 2, 1) := by decide +kernel
theorem dX9_trade_35 : decode cX9_trade 35 = .ok (.istore 4, 2) := by decide +kernel
theorem dX9_trade_37 : decode cX9_trade 37 = .ok (.aload_n 0, 1) := by decide +kernel
theorem dX9_trade_38 : decode cX9_trade 38 = .ok (.getfield 43, 3) := by decide +kernel
theorem dX9_trade_41 : decode cX9_trade 41 = .ok (.getfield 235, 3) := by decide +kernel
theorem dX9_trade_44 : decode cX9_trade 44 = .ok (.iload_n 1, 1) := by decide +kernel
theorem dX9_trade_45 : decode cX9_trade 45 = .ok (.iaload, 1) := by decide +kernel
theorem dX9_trade_46 : decode cX9_trade 46 = .ok (.istore 5, 2) := by decide +kernel
theorem dX9_trade_48 : decode cX9_trade 48 = .ok (.aload_n 0, 1) := by decide +kernel
theorem dX9_trade_49 : decode cX9_trade 49 = .ok (.getfield 48, 3) := by decide +kernel
theorem dX9_trade_52 : decode cX9_trade 52 = .ok (.aload_n 0, 1) := by decide +kernel
theorem dX9_trade_53 : decode cX9_trade 53 = .ok (.getfield 59, 3) := by decide +kernel
theorem dX9_trade_56 : decode cX9_trade 56 = .ok (.aaload, 1) := by decide +kernel
theorem dX9_trade_57 : decode cX9_trade 57 = .ok (.astore 6, 2) := by decide +kernel
theorem dX9_trade_59 : decode cX9_trade 59 = .ok (.aload_n 0, 1) := by decide +kernel
theorem dX9_trade_60 : decode cX9_trade 60 = .ok (.getfield 43, 3) := by decide +kernel
theorem dX9_trade_63 : decode cX9_trade 63 = .ok (.getfield 232, 3) := by decide +kernel
theorem dX9_trade_66 : decode cX9_trade 66 = .ok (.iload_n 3, 1) := by decide +kernel
theorem dX9_trade_67 : decode cX9_trade 67 = .ok (.iaload, 1) := by decide +kernel
theorem dX9_trade_68 : decode cX9_trade 68 = .ok (.iload 5, 2) := by decide +kernel
theorem dX9_trade_70 : decode cX9_trade 70 = .ok (.invokestatic 186, 3) := by decide +kernel
theorem dX9_trade_73 : decode cX9_trade 73 = .ok (.istore 7, 2) := by decide +kernel
theorem dX9_trade_75 : decode cX9_trade 75 = .ok (.aload_n 0, 1) := by decide +kernel
theorem dX9_trade_76 : decode cX9_trade 76 = .ok (.getfield 43, 3) := by decide +kernel
theorem dX9_trade_79 : decode cX9_trade 79 = .ok (.getfield 232, 3) := by decide +kernel
theorem dX9_trade_82 : decode cX9_trade 82 = .ok (.iload 4, 2) := by decide +kernel
theorem dX9_trade_84 : decode cX9_trade 84 = .ok (.iaload, 1) := by decide +kernel
theorem dX9_trade_85 : decode cX9_trade 85 = .ok (.iload 5, 2) := by decide +kernel
theorem dX9_trade_87 : decode cX9_trade 87 = .ok (.invokestatic 186, 3) := by decide +kernel
theorem dX9_trade_90 : decode cX9_trade 90 = .ok (.istore 8, 2) := by decide +kernel
theorem dX9_trade_92 : decode cX9_trade 92 = .ok (.aload_n 0, 1) := by decide +kernel
theorem dX9_trade_93 : decode cX9_trade 93 = .ok (.getfield 43, 3) := by decide +kernel
theorem dX9_trade_96 : decode cX9_trade 96 = .ok (.getfield 151, 3) := by decide +kernel
theorem dX9_trade_99 : decode cX9_trade 99 = .ok (.iload_n 1, 1) := by decide +kernel
theorem dX9_trade_100 : decode cX9_trade 100 = .ok (.iaload, 1) := by decide +kernel
theorem dX9_trade_101 : decode cX9_trade 101 = .ok (.aload_n 0, 1) := by decide +kernel
theorem dX9_trade_102 : decode cX9_trade 102 = .ok (.getfield 43, 3) := by decide +kernel
theorem dX9_trade_105 : decode cX9_trade 105 = .ok (.getfield 151, 3) := by decide +kernel
theorem dX9_trade_108 : decode cX9_trade 108 = .ok (.iload_n 2, 1) := by decide +kernel
theorem dX9_trade_109 : decode cX9_trade 109 = .ok (.iaload, 1) := by decide +kernel
theorem dX9_trade_110 : decode cX9_trade 110 = .ok (.invokestatic 276, 3) := by decide +kernel
theorem dX9_trade_113 : decode cX9_trade 113 = .ok (.istore 9, 2) := by decide +kernel
theorem dX9_trade_115 : decode cX9_trade 115 = .ok (.iconst 0, 1) := by decide +kernel
theorem dX9_trade_116 : decode cX9_trade 116 = .ok (.istore 10, 2) := by decide +kernel
theorem dX9_trade_118 : decode cX9_trade 118 = .ok (.iload 10, 2) := by decide +kernel
theorem dX9_trade_120 : decode cX9_trade 120 = .ok (.iload 9, 2) := by decide +kernel
theorem dX9_trade_122 : decode cX9_trade 122 = .ok (.if_icmp .ge 27, 3) := by decide +kernel
theorem dX9_trade_125 : decode cX9_trade 125 = .ok (.aload_n 0, 1) := by decide +kernel
theorem dX9_trade_126 : decode cX9_trade 126 = .ok (.aload 6, 2) := by decide +kernel
theorem dX9_trade_128 : decode cX9_trade 128 = .ok (.getfield 190, 3) := by decide +kernel
theorem dX9_trade_131 : decode cX9_trade 131 = .ok (.iload 7, 2) := by decide +kernel
theorem dX9_trade_133 : decode cX9_trade 133 = .ok (.iload 8, 2) := by decide +kernel
theorem dX9_trade_135 : decode cX9_trade 135 = .ok (.iload 5, 2) := by decide +kernel
theorem dX9_trade_137 : decode cX9_trade 137 = .ok (.invokevirtual 281, 3) := by decide +kernel
theorem dX9_trade_140 : decode cX9_trade 140 = .ok (.ifCond .eq 9, 3) := by decide +kernel
theorem dX9_trade_143 : decode cX9_trade 143 = .ok (.iinc 10 1, 3) := by decide +kernel
theorem dX9_trade_146 : decode cX9_trade 146 = .ok (.goto (-28), 3) := by decide +kernel
theorem dX9_trade_149 : decode cX9_trade 149 = .ok (.aload_n 0, 1) := by decide +kernel
theorem dX9_trade_150 : decode cX9_trade 150 = .ok (.getfield 43, 3) := by decide +kernel
theorem dX9_trade_153 : decode cX9_trade 153 = .ok (.getfield 151, 3) := by decide +kernel
theorem dX9_trade_156 : decode cX9_trade 156 = .ok (.iload_n 1, 1) := by decide +kernel
theorem dX9_trade_157 : decode cX9_trade 157 = .ok (.dup2, 1) := by decide +kernel
theorem dX9_trade_158 : decode cX9_trade 158 = .ok (.iaload, 1) := by decide +kernel
theorem dX9_trade_159 : decode cX9_trade 159 = .ok (.iload 10, 2) := by decide +kernel
theorem dX9_trade_161 : decode cX9_trade 161 = .ok (.isub, 1) := by decide +kernel
theorem dX9_trade_162 : decode cX9_trade 162 = .ok (.iastore, 1) := by decide +kernel
theorem dX9_trade_163 : decode cX9_trade 163 = .ok (.aload_n 0, 1) := by decide +kernel
theorem dX9_trade_164 : decode cX9_trade 164 = .ok (.getfield 43, 3) := by decide +kernel
theorem dX9_trade_167 : decode cX9_trade 167 = .ok (.getfield 151, 3) := by decide +kernel
theorem dX9_trade_170 : decode cX9_trade 170 = .ok (.iload_n 2, 1) := by decide +kernel
theorem dX9_trade_171 : decode cX9_trade 171 = .ok (.dup2, 1) := by decide +kernel
theorem dX9_trade_172 : decode cX9_trade 172 = .ok (.iaload, 1) := by decide +kernel
theorem dX9_trade_173 : decode cX9_trade 173 = .ok (.iload 10, 2) := by decide +kernel
theorem dX9_trade_175 : decode cX9_trade 175 = .ok (.isub, 1) := by decide +kernel
theorem dX9_trade_176 : decode cX9_trade 176 = .ok (.iastore, 1) := by decide +kernel
theorem dX9_trade_177 : decode cX9_trade 177 = .ok (.aload 6, 2) := by decide +kernel
theorem dX9_trade_179 : decode cX9_trade 179 = .ok (.aload_n 0, 1) := by decide +kernel
theorem dX9_trade_180 : decode cX9_trade 180 = .ok (.getfield 43, 3) := by decide +kernel
theorem dX9_trade_183 : decode cX9_trade 183 = .ok (.getfield 238, 3) := by decide +kernel
theorem dX9_trade_186 : decode cX9_trade 186 = .ok (.iload_n 3, 1) := by decide +kernel
theorem dX9_trade_187 : decode cX9_trade 187 = .ok (.iaload, 1) := by decide +kernel
theorem dX9_trade_188 : decode cX9_trade 188 = .ok (.iload 7, 2) := by decide +kernel
theorem dX9_trade_190 : decode cX9_trade 190 = .ok (.iload 10, 2) := by decide +kernel
theorem dX9_trade_192 : decode cX9_trade 192 = .ok (.aload_n 0, 1) := by decide +kernel
theorem dX9_trade_193 : decode cX9_trade 193 = .ok (.getfield 43, 3) := by decide +kernel
theorem dX9_trade_196 : decode cX9_trade 196 = .ok (.getfield 264, 3) := by decide +kernel
theorem dX9_trade_199 : decode cX9_trade 199 = .ok (.iload_n 2, 1) := by decide +kernel
theorem dX9_trade_200 : decode cX9_trade 200 = .ok (.iaload, 1) := by decide +kernel
theorem dX9_trade_201 : decode cX9_trade 201 = .ok (.invokevirtual 241, 3) := by decide +kernel
theorem dX9_trade_204 : decode cX9_trade 204 = .ok (.aload 6, 2) := by decide +kernel
theorem dX9_trade_206 : decode cX9_trade 206 = .ok (.aload_n 0, 1) := by decide +kernel
theorem dX9_trade_207 : decode cX9_trade 207 = .ok (.getfield 43, 3) := by decide +kernel
theorem dX9_trade_210 : decode cX9_trade 210 = .ok (.getfield 238, 3) := by decide +kernel
theorem dX9_trade_213 : decode cX9_trade 213 = .ok (.iload 4, 2) := by decide +kernel
theorem dX9_trade_215 : decode cX9_trade 215 = .ok (.iaload, 1) := by decide +kernel
theorem dX9_trade_216 : decode cX9_trade 216 = .ok (.iload 8, 2) := by decide +kernel
theorem dX9_trade_218 : decode cX9_trade 218 = .ok (.iload 10, 2) := by decide +kernel
theorem dX9_trade_220 : decode cX9_trade 220 = .ok (.ineg, 1) := by decide +kernel
theorem dX9_trade_221 : decode cX9_trade 221 = .ok (.aload_n 0, 1) := by decide +kernel
theorem dX9_trade_222 : decode cX9_trade 222 = .ok (.getfield 43, 3) := by decide +kernel
theorem dX9_trade_225 : decode cX9_trade 225 = .ok (.getfield 264, 3) := by decide +kernel
theorem dX9_trade_228 : decode cX9_trade 228 = .ok (.iload_n 2, 1) := by decide +kernel
theorem dX9_trade_229 : decode cX9_trade 229 = .ok (.iaload, 1) := by decide +kernel
theorem dX9_trade_230 : decode cX9_trade 230 = .ok (.invokevirtual 241, 3) := by decide +kernel
theorem dX9_trade_233 : decode cX9_trade 233 = .ok (.return_, 1) := by decide +kernel
set_option maxRecDepth 20000 in
theorem ggX9_moveUnit_X9_spotOf : GoodIn wsX9_moveUnit wsX9_spotOf := goodIn_r _ [5] (by decide +kernel) (by decide +kernel)
set_option maxRecDepth 20000 in
theorem gX9_moveUnit_X9_spotOf : GoodIn wsX9_moveUnit (va_wsS RX9 186 yX9_spotOf wsX9_spotOf) := goodIn_app (goodIn_of _ (by decide +kernel)) ggX9_moveUnit_X9_spotOf
set_option maxRecDepth 20000 in
theorem ggX9_moveUnit_X6_allows : GoodIn wsX9_moveUnit wsX6_allows := goodIn_r _ [10, 11, 12, 13, 14, 15, 26] (by decide +kernel) (by decide +kernel)
set_option maxRecDepth 20000 in
theorem gX9_moveUnit_X6_allows : GoodIn wsX9_moveUnit (wsV RX9 285 RX6 yX6_allows wsX6_allows) := goodIn_app (goodIn_of _ (by decide +kernel)) ggX9_moveUnit_X6_allows
theorem dX9_moveUnit_0 : decode cX9_moveUnit 0 = .ok (.aload_n 1, 1) := by decide +kernel
theorem dX9_moveUnit_1 : decode cX9_moveUnit 1 = .ok (.iload_n 2, 1) := by decide +kernel
theorem dX9_moveUnit_2 : decode cX9_moveUnit 2 = .ok (.dup2, 1) := by decide +kernel
theorem dX9_moveUnit_3 : decode cX9_moveUnit 3 = .ok (.iaload, 1) := by decide +kernel
theorem dX9_moveUnit_4 : decode cX9_moveUnit 4 = .ok (.iconst 1, 1) := by decide +kernel
theorem dX9_moveUnit_5 : decode cX9_moveUnit 5 = .ok (.iadd, 1) := by decide +kernel
theorem dX9_moveUnit_6 : decode cX9_moveUnit 6 = .ok (.iastore, 1) := by decide +kernel
theorem dX9_moveUnit_7 : decode cX9_moveUnit 7 = .ok (.aload_n 1, 1) := by decide +kernel
theorem dX9_moveUnit_8 : decode cX9_moveUnit 8 = .ok (.iload_n 3, 1) := by decide +kernel
theorem dX9_moveUnit_9 : decode cX9_moveUnit 9 = .ok (.dup2, 1) := by decide +kernel
theorem dX9_moveUnit_10 : decode cX9_moveUnit 10 = .ok (.iaload, 1) := by decide +kernel
theorem dX9_moveUnit_11 : decode cX9_moveUnit 11 = .ok (.iconst 1, 1) := by decide +kernel
theorem dX9_moveUnit_12 : decode cX9_moveUnit 12 = .ok (.isub, 1) := by decide +kernel
theorem dX9_moveUnit_13 : decode cX9_moveUnit 13 = .ok (.iastore, 1) := by decide +kernel
theorem dX9_moveUnit_14 : decode cX9_moveUnit 14 = .ok (.aload_n 0, 1) := by decide +kernel
theorem dX9_moveUnit_15 : decode cX9_moveUnit 15 = .ok (.getfield 20, 3) := by decide +kernel
theorem dX9_moveUnit_18 : decode cX9_moveUnit 18 = .ok (.aload_n 1, 1) := by decide +kernel
theorem dX9_moveUnit_19 : decode cX9_moveUnit 19 = .ok (.iconst 0, 1) := by decide +kernel
theorem dX9_moveUnit_20 : decode cX9_moveUnit 20 = .ok (.iload 4, 2) := by decide +kernel
theorem dX9_moveUnit_22 : decode cX9_moveUnit 22 = .ok (.invokestatic 186, 3) := by decide +kernel
theorem dX9_moveUnit_25 : decode cX9_moveUnit 25 = .ok (.iaload, 1) := by decide +kernel
theorem dX9_moveUnit_26 : decode cX9_moveUnit 26 = .ok (.aload_n 1, 1) := by decide +kernel
theorem dX9_moveUnit_27 : decode cX9_moveUnit 27 = .ok (.iconst 1, 1) := by decide +kernel
theorem dX9_moveUnit_28 : decode cX9_moveUnit 28 = .ok (.iload 4, 2) := by decide +kernel
theorem dX9_moveUnit_30 : decode cX9_moveUnit 30 = .ok (.invokestatic 186, 3) := by decide +kernel
theorem dX9_moveUnit_33 : decode cX9_moveUnit 33 = .ok (.iaload, 1) := by decide +kernel
theorem dX9_moveUnit_34 : decode cX9_moveUnit 34 = .ok (.aload_n 1, 1) := by decide +kernel
theorem dX9_moveUnit_35 : decode cX9_moveUnit 35 = .ok (.iconst 2, 1) := by decide +kernel
theorem dX9_moveUnit_36 : decode cX9_moveUnit 36 = .ok (.iload 4, 2) := by decide +kernel
theorem dX9_moveUnit_38 : decode cX9_moveUnit 38 = .ok (.invokestatic 186, 3) := by decide +kernel
theorem dX9_moveUnit_41 : decode cX9_moveUnit 41 = .ok (.iaload, 1) := by decide +kernel
theorem dX9_moveUnit_42 : decode cX9_moveUnit 42 = .ok (.invokevirtual 285, 3) := by decide +kernel
theorem dX9_moveUnit_45 : decode cX9_moveUnit 45 = .ok (.ifCond .eq 5, 3) := by decide +kernel
theorem dX9_moveUnit_48 : decode cX9_moveUnit 48 = .ok (.iconst 1, 1) := by decide +kernel
theorem dX9_moveUnit_49 : decode cX9_moveUnit 49 = .ok (.ireturn, 1) := by decide +kernel
theorem dX9_moveUnit_50 : decode cX9_moveUnit 50 = .ok (.aload_n 1, 1) := by decide +kernel
theorem dX9_moveUnit_51 : decode cX9_moveUnit 51 = .ok (.iload_n 2, 1) := by decide +kernel
theorem dX9_moveUnit_52 : decode cX9_moveUnit 52 = .ok (.dup2, 1) := by decide +kernel
theorem dX9_moveUnit_53 : decode cX9_moveUnit 53 = .ok (.iaload, 1) := by decide +kernel
theorem dX9_moveUnit_54 : decode cX9_moveUnit 54 = .ok (.iconst 1, 1) := by decide +kernel
theorem dX9_moveUnit_55 : decode cX9_moveUnit 55 = .ok (.isub, 1) := by decide +kernel
theorem dX9_moveUnit_56 : decode cX9_moveUnit 56 = .ok (.iastore, 1) := by decide +kernel
theorem dX9_moveUnit_57 : decode cX9_moveUnit 57 = .ok (.aload_n 1, 1) := by decide +kernel
theorem dX9_moveUnit_58 : decode cX9_moveUnit 58 = .ok (.iload_n 3, 1) := by decide +kernel
theorem dX9_moveUnit_59 : decode cX9_moveUnit 59 = .ok (.dup2, 1) := by decide +kernel
theorem dX9_moveUnit_60 : decode cX9_moveUnit 60 = .ok (.iaload, 1) := by decide +kernel
theorem dX9_moveUnit_61 : decode cX9_moveUnit 61 = .ok (.iconst 1, 1) := by decide +kernel
theorem dX9_moveUnit_62 : decode cX9_moveUnit 62 = .ok (.iadd, 1) := by decide +kernel
theorem dX9_moveUnit_63 : decode cX9_moveUnit 63 = .ok (.iastore, 1) := by decide +kernel
theorem dX9_moveUnit_64 : decode cX9_moveUnit 64 = .ok (.iconst 0, 1) := by decide +kernel
theorem dX9_moveUnit_65 : decode cX9_moveUnit 65 = .ok (.ireturn, 1) := by decide +kernel
theorem dJ6_bitCount_0f7a4_0 : decode cJ6_bitCount_0f7a4 0 = .ok (.iload_n 0, 1) := by decide +kernel
theorem dJ6_bitCount_0f7a4_1 : decode cJ6_bitCount_0f7a4 1 = .ok (.iload_n 0, 1) := by decide +kernel
theorem dJ6_bitCount_0f7a4_2 : decode cJ6_bitCount_0f7a4 2 = .ok (.iconst 1, 1) := by decide +kernel
theorem dJ6_bitCount_0f7a4_3 : decode cJ6_bitCount_0f7a4 3 = .ok (.iushr, 1) := by decide +kernel
theorem dJ6_bitCount_0f7a4_4 : decode cJ6_bitCount_0f7a4 4 = .ok (.ldc_w 265, 3) := by decide +kernel
theorem dJ6_bitCount_0f7a4_7 : decode cJ6_bitCount_0f7a4 7 = .ok (.iand, 1) := by decide +kernel
theorem dJ6_bitCount_0f7a4_8 : decode cJ6_bitCount_0f7a4 8 = .ok (.isub, 1) := by decide +kernel
theorem dJ6_bitCount_0f7a4_9 : decode cJ6_bitCount_0f7a4 9 = .ok (.istore_n 0, 1) := by decide +kernel
theorem dJ6_bitCount_0f7a4_10 : decode cJ6_bitCount_0f7a4 10 = .ok (.iload_n 0, 1) := by decide +kernel
theorem dJ6_bitCount_0f7a4_11 : decode cJ6_bitCount_0f7a4 11 = .ok (.ldc_w 266, 3) := by decide +kernel
theorem dJ6_bitCount_0f7a4_14 : decode cJ6_bitCount_0f7a4 14 = .ok (.iand, 1) := by decide +kernel
theorem dJ6_bitCount_0f7a4_15 : decode cJ6_bitCount_0f7a4 15 = .ok (.iload_n 0, 1) := by decide +kernel
theorem dJ6_bitCount_0f7a4_16 : decode cJ6_bitCount_0f7a4 16 = .ok (.iconst 2, 1) := by decide +kernel
theorem dJ6_bitCount_0f7a4_17 : decode cJ6_bitCount_0f7a4 17 = .ok (.iushr, 1) := by decide +kernel
theorem dJ6_bitCount_0f7a4_18 : decode cJ6_bitCount_0f7a4 18 = .ok (.ldc_w 266, 3) := by decide +kernel
theorem dJ6_bitCount_0f7a4_21 : decode cJ6_bitCount_0f7a4 21 = .ok (.iand, 1) := by decide +kernel
theorem dJ6_bitCount_0f7a4_22 : decode cJ6_bitCount_0f7a4 22 = .ok (.iadd, 1) := by decide +kernel
theorem dJ6_bitCount_0f7a4_23 : decode cJ6_bitCount_0f7a4 23 = .ok (.istore_n 0, 1) := by decide +kernel
theorem dJ6_bitCount_0f7a4_24 : decode cJ6_bitCount_0f7a4 24 = .ok (.iload_n 0, 1) := by decide +kernel
theorem dJ6_bitCount_0f7a4_25 : decode cJ6_bitCount_0f7a4 25 = .ok (.iload_n 0, 1) := by decide +kernel
theorem dJ6_bitCount_0f7a4_26 : decode cJ6_bitCount_0f7a4 26 = .ok (.iconst 4, 1) := by decide +kernel
theorem dJ6_bitCount_0f7a4_27 : decode cJ6_bitCount_0f7a4 27 = .ok (.iushr, 1) := by decide +kernel
theorem dJ6_bitCount_0f7a4_28 : decode cJ6_bitCount_0f7a4 28 = .ok (.iadd, 1) := by decide +kernel
theorem dJ6_bitCount_0f7a4_29 : decode cJ6_bitCount_0f7a4 29 = .ok (.ldc_w 267, 3) := by decide +kernel
theorem dJ6_bitCount_0f7a4_32 : decode cJ6_bitCount_0f7a4 32 = .ok (.iand, 1) := by decide +kernel
theorem dJ6_bitCount_0f7a4_33 : decode cJ6_bitCount_0f7a4 33 = .ok (.istore_n 0, 1) := by decide +kernel
theorem dJ6_bitCount_0f7a4_34 : decode cJ6_bitCount_0f7a4 34 = .ok (.iload_n 0, 1) := by decide +kernel
theorem dJ6_bitCount_0f7a4_35 : decode cJ6_bitCount_0f7a4 35 = .ok (.iload_n 0, 1) := by decide +kernel
theorem dJ6_bitCount_0f7a4_36 : decode cJ6_bitCount_0f7a4 36 = .ok (.bipush 8, 2) := by decide +kernel
theorem dJ6_bitCount_0f7a4_38 : decode cJ6_bitCount_0f7a4 38 = .ok (.iushr, 1) := by decide +kernel
theorem dJ6_bitCount_0f7a4_39 : decode cJ6_bitCount_0f7a4 39 = .ok (.iadd, 1) := by decide +kernel
theorem dJ6_bitCount_0f7a4_40 : decode cJ6_bitCount_0f7a4 40 = .ok (.istore_n 0, 1) := by decide +kernel
theorem dJ6_bitCount_0f7a4_41 : decode cJ6_bitCount_0f7a4 41 = .ok (.iload_n 0, 1) := by decide +kernel
theorem dJ6_bitCount_0f7a4_42 : decode cJ6_bitCount_0f7a4 42 = .ok (.iload_n 0, 1) := by decide +kernel
theorem dJ6_bitCount_0f7a4_43 : decode cJ6_bitCount_0f7a4 43 = .ok (.bipush 16, 2) := by decide +kernel
theorem dJ6_bitCount_0f7a4_45 : decode cJ6_bitCount_0f7a4 45 = .ok (.iushr, 1) := by decide +kernel
theorem dJ6_bitCount_0f7a4_46 : decode cJ6_bitCount_0f7a4 46 = .ok (.iadd, 1) := by decide +kernel
theorem dJ6_bitCount_0f7a4_47 : decode cJ6_bitCount_0f7a4 47 = .ok (.istore_n 0, 1) := by decide +kernel
theorem dJ6_bitCount_0f7a4_48 : decode cJ6_bitCount_0f7a4 48 = .ok (.iload_n 0, 1) := by decide +kernel
theorem dJ6_bitCount_0f7a4_49 : decode cJ6_bitCount_0f7a4 49 = .ok (.bipush 63, 2) := by decide +kernel
theorem dJ6_bitCount_0f7a4_51 : decode cJ6_bitCount_0f7a4 51 = .ok (.iand, 1) := by decide +kernel
theorem dJ6_bitCount_0f7a4_52 : decode cJ6_bitCount_0f7a4 52 = .ok (.ireturn, 1) := by decide +kernel
theorem dJ9_abs_0f7a4_0 : decode cJ9_abs_0f7a4 0 = .ok (.iload_n 0, 1) := by decide +kernel
theorem dJ9_abs_0f7a4_1 : decode cJ9_abs_0f7a4 1 = .ok (.ifCond .ge 8, 3) := by decide +kernel
theorem dJ9_abs_0f7a4_4 : decode cJ9_abs_0f7a4 4 = .ok (.iload_n 0, 1) := by decide +kernel
theorem dJ9_abs_0f7a4_5 : decode cJ9_abs_0f7a4 5 = .ok (.ineg, 1) := by decide +kernel
theorem dJ9_abs_0f7a4_6 : decode cJ9_abs_0f7a4 6 = .ok (.goto 4, 3) := by decide +kernel
theorem dJ9_abs_0f7a4_9 : decode cJ9_abs_0f7a4 9 = .ok (.iload_n 0, 1) := by decide +kernel
theorem dJ9_abs_0f7a4_10 : decode cJ9_abs_0f7a4 10 = .ok (.ireturn, 1) := by decide +kernel
theorem dJ9_max_7cf53_0 : decode cJ9_max_7cf53 0 = .ok (.iload_n 0, 1) := by decide +kernel
theorem dJ9_max_7cf53_1 : decode cJ9_max_7cf53 1 = .ok (.iload_n 1, 1) := by decide +kernel
theorem dJ9_max_7cf53_2 : decode cJ9_max_7cf53 2 = .ok (.if_icmp .lt 7, 3) := by decide +kernel
theorem dJ9_max_7cf53_5 : decode cJ9_max_7cf53 5 = .ok (.iload_n 0, 1) := by decide +kernel
theorem dJ9_max_7cf53_6 : decode cJ9_max_7cf53 6 = .ok (.goto 4, 3) := by decide +kernel
theorem dJ9_max_7cf53_9 : decode cJ9_max_7cf53 9 = .ok (.iload_n 1, 1) := by decide +kernel
theorem dJ9_max_7cf53_10 : decode cJ9_max_7cf53 10 = .ok (.ireturn, 1) := by decide +kernel
theorem dJ9_min_7cf53_0 : decode cJ9_min_7cf53 0 = .ok (.iload_n 0, 1) := by decide +kernel
theorem dJ9_min_7cf53_1 : decode cJ9_min_7cf53 1 = .ok (.iload_n 1, 1) := by decide +kernel
theorem dJ9_min_7cf53_2 : decode cJ9_min_7cf53 2 = .ok (.if_icmp .gt 7, 3) := by decide +kernel
theorem dJ9_min_7cf53_5 : decode cJ9_min_7cf53 5 = .ok (.iload_n 0, 1) := by decide +kernel
theorem dJ9_min_7cf53_6 : decode cJ9_min_7cf53 6 = .ok (.goto 4, 3) := by decide +kernel
theorem dJ9_min_7cf53_9 : decode cJ9_min_7cf53 9 = .ok (.iload_n 1, 1) := by decide +kernel
theorem dJ9_min_7cf53_10 : decode cJ9_min_7cf53 10 = .ok (.ireturn, 1) := by decide +kernel
