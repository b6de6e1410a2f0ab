theorem dX0_init_0 : decode cX0_init 0 = .ok (.aload_n 0, 1) := by decide +kernel
theorem dX0_init_1 : decode cX0_init 1 = .ok (.invokespecial 3, 3) := by decide +kernel
theorem dX0_init_4 : decode cX0_init 4 = .ok (.aload_n 0, 1) := by decide +kernel
theorem dX0_init_5 : decode cX0_init 5 = .ok (.bipush 6, 2) := by decide +kernel
theorem dX0_init_7 : decode cX0_init 7 = .ok (.newarray .int, 2) := by decide +kernel
theorem dX0_init_9 : decode cX0_init 9 = .ok (.putfield 9, 3) := by decide +kernel
theorem dX0_init_12 : decode cX0_init 12 = .ok (.aload_n 0, 1) := by decide +kernel
theorem dX0_init_13 : decode cX0_init 13 = .ok (.bipush 6, 2) := by decide +kernel
theorem dX0_init_15 : decode cX0_init 15 = .ok (.newarray .int, 2) := by decide +kernel
theorem dX0_init_17 : decode cX0_init 17 = .ok (.putfield 15, 3) := by decide +kernel
theorem dX0_init_20 : decode cX0_init 20 = .ok (.aload_n 0, 1) := by decide +kernel
theorem dX0_init_21 : decode cX0_init 21 = .ok (.bipush 6, 2) := by decide +kernel
theorem dX0_init_23 : decode cX0_init 23 = .ok (.newarray .boolean, 2) := by decide +kernel
theorem dX0_init_25 : decode cX0_init 25 = .ok (.putfield 18, 3) := by decide +kernel
theorem dX0_init_28 : decode cX0_init 28 = .ok (.aload_n 0, 1) := by decide +kernel
theorem dX0_init_29 : decode cX0_init 29 = .ok (.iconst 0, 1) := by decide +kernel
theorem dX0_init_30 : decode cX0_init 30 = .ok (.putfield 22, 3) := by decide +kernel
theorem dX0_init_33 : decode cX0_init 33 = .ok (.return_, 1) := by decide +kernel
theorem dX0_payFromHouse_0 : decode cX0_payFromHouse 0 = .ok (.aload_n 0, 1) := by decide +kernel
theorem dX0_payFromHouse_1 : decode cX0_payFromHouse 1 = .ok (.getfield 9, 3) := by decide +kernel
theorem dX0_payFromHouse_4 : decode cX0_payFromHouse 4 = .ok (.iload_n 1, 1) := by decide +kernel
theorem dX0_payFromHouse_5 : decode cX0_payFromHouse 5 = .ok (.dup2, 1) := by decide +kernel
theorem dX0_payFromHouse_6 : decode cX0_payFromHouse 6 = .ok (.iaload, 1) := by decide +kernel
theorem dX0_payFromHouse_7 : decode cX0_payFromHouse 7 = .ok (.iload_n 2, 1) := by decide +kernel
theorem dX0_payFromHouse_8 : decode cX0_payFromHouse 8 = .ok (.iadd, 1) := by decide +kernel
theorem dX0_payFromHouse_9 : decode cX0_payFromHouse 9 = .ok (.iastore, 1) := by decide +kernel
theorem dX0_payFromHouse_10 : decode cX0_payFromHouse 10 = .ok (.aload_n 0, 1) := by decide +kernel
theorem dX0_payFromHouse_11 : decode cX0_payFromHouse 11 = .ok (.dup, 1) := by decide +kernel
theorem dX0_payFromHouse_12 : decode cX0_payFromHouse 12 = .ok (.getfield 22, 3) := by decide +kernel
theorem dX0_payFromHouse_15 : decode cX0_payFromHouse 15 = .ok (.iload_n 2, 1) := by decide +kernel
theorem dX0_payFromHouse_16 : decode cX0_payFromHouse 16 = .ok (.isub, 1) := by decide +kernel
theorem dX0_payFromHouse_17 : decode cX0_payFromHouse 17 = .ok (.putfield 22, 3) := by decide +kernel
theorem dX0_payFromHouse_20 : decode cX0_payFromHouse 20 = .ok (.return_, 1) := by decide +kernel
set_option maxRecDepth 20000 in
theorem ggX0_failAll_X0_nextToFail : GoodIn wsX0_failAll wsX0_nextToFail := goodIn_r _ [5, 6, 7, 14, 15, 16, 17] (by decide +kernel) (by decide +kernel)
set_option maxRecDepth 20000 in
theorem gX0_failAll_X0_nextToFail : GoodIn wsX0_failAll (wsV RX0 26 RX0 yX0_nextToFail wsX0_nextToFail) := goodIn_app (goodIn_of _ (by decide +kernel)) ggX0_failAll_X0_nextToFail
set_option maxRecDepth 20000 in
theorem ggX0_failAll_X0_fail : GoodIn wsX0_failAll wsX0_fail := goodIn_r _ [11, 7, 6, 12, 13, 14, 15, 16, 17] (by decide +kernel) (by decide +kernel)
set_option maxRecDepth 20000 in
theorem gX0_failAll_X0_fail : GoodIn wsX0_failAll (wsV RX0 30 RX0 yX0_fail wsX0_fail) := goodIn_app (goodIn_of _ (by decide +kernel)) ggX0_failAll_X0_fail
theorem dX0_failAll_0 : decode cX0_failAll 0 = .ok (.iconst 0, 1) := by decide +kernel
theorem dX0_failAll_1 : decode cX0_failAll 1 = .ok (.istore_n 1, 1) := by decide +kernel
theorem dX0_failAll_2 : decode cX0_failAll 2 = .ok (.aload_n 0, 1) := by decide +kernel
theorem dX0_failAll_3 : decode cX0_failAll 3 = .ok (.invokevirtual 26, 3) := by decide +kernel
theorem dX0_failAll_6 : decode cX0_failAll 6 = .ok (.istore_n 2, 1) := by decide +kernel
theorem dX0_failAll_7 : decode cX0_failAll 7 = .ok (.iload_n 2, 1) := by decide +kernel
theorem dX0_failAll_8 : decode cX0_failAll 8 = .ok (.iconst (-1), 1) := by decide +kernel
theorem dX0_failAll_9 : decode cX0_failAll 9 = .ok (.if_icmp .eq 25, 3) := by decide +kernel
theorem dX0_failAll_12 : decode cX0_failAll 12 = .ok (.iload_n 1, 1) := by decide +kernel
theorem dX0_failAll_13 : decode cX0_failAll 13 = .ok (.bipush 6, 2) := by decide +kernel
theorem dX0_failAll_15 : decode cX0_failAll 15 = .ok (.if_icmp .ge 19, 3) := by decide +kernel
theorem dX0_failAll_18 : decode cX0_failAll 18 = .ok (.aload_n 0, 1) := by decide +kernel
theorem dX0_failAll_19 : decode cX0_failAll 19 = .ok (.iload_n 2, 1) := by decide +kernel
theorem dX0_failAll_20 : decode cX0_failAll 20 = .ok (.invokevirtual 30, 3) := by decide +kernel
theorem dX0_failAll_23 : decode cX0_failAll 23 = .ok (.iinc 1 1, 3) := by decide +kernel
theorem dX0_failAll_26 : decode cX0_failAll 26 = .ok (.aload_n 0, 1) := by decide +kernel
theorem dX0_failAll_27 : decode cX0_failAll 27 = .ok (.invokevirtual 26, 3) := by decide +kernel
theorem dX0_failAll_30 : decode cX0_failAll 30 = .ok (.istore_n 2, 1) := by decide +kernel
theorem dX0_failAll_31 : decode cX0_failAll 31 = .ok (.goto (-24), 3) := by decide +kernel
theorem dX0_failAll_34 : decode cX0_failAll 34 = .ok (.iload_n 1, 1) := by decide +kernel
theorem dX0_failAll_35 : decode cX0_failAll 35 = .ok (.ireturn, 1) := by decide +kernel
theorem dX0_nextToFail_0 : decode cX0_nextToFail 0 = .ok (.iconst 0, 1) := by decide +kernel
theorem dX0_nextToFail_1 : decode cX0_nextToFail 1 = .ok (.istore_n 1, 1) := by decide +kernel
theorem dX0_nextToFail_2 : decode cX0_nextToFail 2 = .ok (.iload_n 1, 1) := by decide +kernel
theorem dX0_nextToFail_3 : decode cX0_nextToFail 3 = .ok (.bipush 6, 2) := by decide +kernel
theorem dX0_nextToFail_5 : decode cX0_nextToFail 5 = .ok (.if_icmp .ge 29, 3) := by decide +kernel
theorem dX0_nextToFail_8 : decode cX0_nextToFail 8 = .ok (.aload_n 0, 1) := by decide +kernel
theorem dX0_nextToFail_9 : decode cX0_nextToFail 9 = .ok (.getfield 18, 3) := by decide +kernel
theorem dX0_nextToFail_12 : decode cX0_nextToFail 12 = .ok (.iload_n 1, 1) := by decide +kernel
theorem dX0_nextToFail_13 : decode cX0_nextToFail 13 = .ok (.baload, 1) := by decide +kernel
theorem dX0_nextToFail_14 : decode cX0_nextToFail 14 = .ok (.ifCond .ne 14, 3) := by decide +kernel
theorem dX0_nextToFail_17 : decode cX0_nextToFail 17 = .ok (.aload_n 0, 1) := by decide +kernel
theorem dX0_nextToFail_18 : decode cX0_nextToFail 18 = .ok (.getfield 9, 3) := by decide +kernel
theorem dX0_nextToFail_21 : decode cX0_nextToFail 21 = .ok (.iload_n 1, 1) := by decide +kernel
theorem dX0_nextToFail_22 : decode cX0_nextToFail 22 = .ok (.iaload, 1) := by decide +kernel
theorem dX0_nextToFail_23 : decode cX0_nextToFail 23 = .ok (.ifCond .ge 5, 3) := by decide +kernel
theorem dX0_nextToFail_26 : decode cX0_nextToFail 26 = .ok (.iload_n 1, 1) := by decide +kernel
theorem dX0_nextToFail_27 : decode cX0_nextToFail 27 = .ok (.ireturn, 1) := by decide +kernel
theorem dX0_nextToFail_28 : decode cX0_nextToFail 28 = .ok (.iinc 1 1, 3) := by decide +kernel
theorem dX0_nextToFail_31 : decode cX0_nextToFail 31 = .ok (.goto (-29), 3) := by decide +kernel
theorem dX0_nextToFail_34 : decode cX0_nextToFail 34 = .ok (.iconst (-1), 1) := by decide +kernel
theorem dX0_nextToFail_35 : decode cX0_nextToFail 35 = .ok (.ireturn, 1) := by decide +kernel
theorem dX0_fail_0 : decode cX0_fail 0 = .ok (.aload_n 0, 1) := by decide +kernel
theorem dX0_fail_1 : decode cX0_fail 1 = .ok (.getfield 9, 3) := by decide +kernel
theorem dX0_fail_4 : decode cX0_fail 4 = .ok (.iload_n 1, 1) := by decide +kernel
theorem dX0_fail_5 : decode cX0_fail 5 = .ok (.iaload, 1) := by decide +kernel
theorem dX0_fail_6 : decode cX0_fail 6 = .ok (.ineg, 1) := by decide +kernel
theorem dX0_fail_7 : decode cX0_fail 7 = .ok (.istore_n 2, 1) := by decide +kernel
theorem dX0_fail_8 : decode cX0_fail 8 = .ok (.aload_n 0, 1) := by decide +kernel
theorem dX0_fail_9 : decode cX0_fail 9 = .ok (.getfield 9, 3) := by decide +kernel
theorem dX0_fail_12 : decode cX0_fail 12 = .ok (.iload_n 1, 1) := by decide +kernel
theorem dX0_fail_13 : decode cX0_fail 13 = .ok (.iconst 0, 1) := by decide +kernel
theorem dX0_fail_14 : decode cX0_fail 14 = .ok (.iastore, 1) := by decide +kernel
theorem dX0_fail_15 : decode cX0_fail 15 = .ok (.aload_n 0, 1) := by decide +kernel
theorem dX0_fail_16 : decode cX0_fail 16 = .ok (.getfield 18, 3) := by decide +kernel
theorem dX0_fail_19 : decode cX0_fail 19 = .ok (.iload_n 1, 1) := by decide +kernel
theorem dX0_fail_20 : decode cX0_fail 20 = .ok (.iconst 1, 1) := by decide +kernel
theorem dX0_fail_21 : decode cX0_fail 21 = .ok (.bastore, 1) := by decide +kernel
theorem dX0_fail_22 : decode cX0_fail 22 = .ok (.lconst 0, 1) := by decide +kernel
theorem dX0_fail_23 : decode cX0_fail 23 = .ok (.lstore_n 3, 1) := by decide +kernel
theorem dX0_fail_24 : decode cX0_fail 24 = .ok (.iconst 0, 1) := by decide +kernel
theorem dX0_fail_25 : decode cX0_fail 25 = .ok (.istore 5, 2) := by decide +kernel
theorem dX0_fail_27 : decode cX0_fail 27 = .ok (.iload 5, 2) := by decide +kernel
theorem dX0_fail_29 : decode cX0_fail 29 = .ok (.bipush 6, 2) := by decide +kernel
theorem dX0_fail_31 : decode cX0_fail 31 = .ok (.if_icmp .ge 34, 3) := by decide +kernel
theorem dX0_fail_34 : decode cX0_fail 34 = .ok (.lload_n 3, 1) := by decide +kernel
theorem dX0_fail_35 : decode cX0_fail 35 = .ok (.aload_n 0, 1) := by decide +kernel
theorem dX0_fail_36 : decode cX0_fail 36 = .ok (.getfield 18, 3) := by decide +kernel
theorem dX0_fail_39 : decode cX0_fail 39 = .ok (.iload 5, 2) := by decide +kernel
theorem dX0_fail_41 : decode cX0_fail 41 = .ok (.baload, 1) := by decide +kernel
theorem dX0_fail_42 : decode cX0_fail 42 = .ok (.ifCond .eq 7, 3) := by decide +kernel
theorem dX0_fail_45 : decode cX0_fail 45 = .ok (.lconst 0, 1) := by decide +kernel
theorem dX0_fail_46 : decode cX0_fail 46 = .ok (.goto 11, 3) := by decide +kernel
theorem dX0_fail_49 : decode cX0_fail 49 = .ok (.aload_n 0, 1) := by decide +kernel
theorem dX0_fail_50 : decode cX0_fail 50 = .ok (.getfield 15, 3) := by decide +kernel
theorem dX0_fail_53 : decode cX0_fail 53 = .ok (.iload 5, 2) := by decide +kernel
theorem dX0_fail_55 : decode cX0_fail 55 = .ok (.iaload, 1) := by decide +kernel
theorem dX0_fail_56 : decode cX0_fail 56 = .ok (.i2l, 1) := by decide +kernel
theorem dX0_fail_57 : decode cX0_fail 57 = .ok (.ladd, 1) := by decide +kernel
theorem dX0_fail_58 : decode cX0_fail 58 = .ok (.lstore_n 3, 1) := by decide +kernel
theorem dX0_fail_59 : decode cX0_fail 59 = .ok (.iinc 5 1, 3) := by decide +kernel
theorem dX0_fail_62 : decode cX0_fail 62 = .ok (.goto (-35), 3) := by decide +kernel
theorem dX0_fail_65 : decode cX0_fail 65 = .ok (.iload_n 2, 1) := by decide +kernel
theorem dX0_fail_66 : decode cX0_fail 66 = .ok (.istore 5, 2) := by decide +kernel
theorem dX0_fail_68 : decode cX0_fail 68 = .ok (.iconst 0, 1) := by decide +kernel
theorem dX0_fail_69 : decode cX0_fail 69 = .ok (.istore 6, 2) := by decide +kernel
theorem dX0_fail_71 : decode cX0_fail 71 = .ok (.iload 6, 2) := by decide +kernel
theorem dX0_fail_73 : decode cX0_fail 73 = .ok (.bipush 6, 2) := by decide +kernel
theorem dX0_fail_75 : decode cX0_fail 75 = .ok (.if_icmp .ge 60, 3) := by decide +kernel
theorem dX0_fail_78 : decode cX0_fail 78 = .ok (.aload_n 0, 1) := by decide +kernel
theorem dX0_fail_79 : decode cX0_fail 79 = .ok (.getfield 18, 3) := by decide +kernel
theorem dX0_fail_82 : decode cX0_fail 82 = .ok (.iload 6, 2) := by decide +kernel
theorem dX0_fail_84 : decode cX0_fail 84 = .ok (.baload, 1) := by decide +kernel
theorem dX0_fail_85 : decode cX0_fail 85 = .ok (.ifCond .ne 44, 3) := by decide +kernel
theorem dX0_fail_88 : decode cX0_fail 88 = .ok (.lload_n 3, 1) := by decide +kernel
theorem dX0_fail_89 : decode cX0_fail 89 = .ok (.lconst 0, 1) := by decide +kernel
theorem dX0_fail_90 : decode cX0_fail 90 = .ok (.lcmp, 1) := by decide +kernel
theorem dX0_fail_91 : decode cX0_fail 91 = .ok (.ifCond .le 38, 3) := by decide +kernel
theorem dX0_fail_94 : decode cX0_fail 94 = .ok (.iload_n 2, 1) := by decide +kernel
theorem dX0_fail_95 : decode cX0_fail 95 = .ok (.i2l, 1) := by decide +kernel
theorem dX0_fail_96 : decode cX0_fail 96 = .ok (.aload_n 0, 1) := by decide +kernel
theorem dX0_fail_97 : decode cX0_fail 97 = .ok (.getfield 15, 3) := by decide +kernel
theorem dX0_fail_100 : decode cX0_fail 100 = .ok (.iload 6, 2) := by decide +kernel
theorem dX0_fail_102 : decode cX0_fail 102 = .ok (.iaload, 1) := by decide +kernel
theorem dX0_fail_103 : decode cX0_fail 103 = .ok (.i2l, 1) := by decide +kernel
theorem dX0_fail_104 : decode cX0_fail 104 = .ok (.lmul, 1) := by decide +kernel
theorem dX0_fail_105 : decode cX0_fail 105 = .ok (.lload_n 3, 1) := by decide +kernel
theorem dX0_fail_106 : decode cX0_fail 106 = .ok (.ldiv, 1) := by decide +kernel
theorem dX0_fail_107 : decode cX0_fail 107 = .ok (.l2i, 1) := by decide +kernel
theorem dX0_fail_108 : decode cX0_fail 108 = .ok (.istore 7, 2) := by decide +kernel
theorem dX0_fail_110 : decode cX0_fail 110 = .ok (.aload_n 0, 1) := by decide +kernel
theorem dX0_fail_111 : decode cX0_fail 111 = .ok (.getfield 9, 3) := by decide +kernel
theorem dX0_fail_114 : decode cX0_fail 114 = .ok (.iload 6, 2) := by decide +kernel
theorem dX0_fail_116 : decode cX0_fail 116 = .ok (.dup2, 1) := by decide +kernel
theorem dX0_fail_117 : decode cX0_fail 117 = .ok (.iaload, 1) := by decide +kernel
theorem dX0_fail_118 : decode cX0_fail 118 = .ok (.iload 7, 2) := by decide +kernel
theorem dX0_fail_120 : decode cX0_fail 120 = .ok (.isub, 1) := by decide +kernel
theorem dX0_fail_121 : decode cX0_fail 121 = .ok (.iastore, 1) := by decide +kernel
theorem dX0_fail_122 : decode cX0_fail 122 = .ok (.iload 5, 2) := by decide +kernel
theorem dX0_fail_124 : decode cX0_fail 124 = .ok (.iload 7, 2) := by decide +kernel
theorem dX0_fail_126 : decode cX0_fail 126 = .ok (.isub, 1) := by decide +kernel
theorem dX0_fail_127 : decode cX0_fail 127 = .ok (.istore 5, 2) := by decide +kernel
theorem dX0_fail_129 : decode cX0_fail 129 = .ok (.iinc 6 1, 3) := by decide +kernel
theorem dX0_fail_132 : decode cX0_fail 132 = .ok (.goto (-61), 3) := by decide +kernel
theorem dX0_fail_135 : decode cX0_fail 135 = .ok (.aload_n 0, 1) := by decide +kernel
theorem dX0_fail_136 : decode cX0_fail 136 = .ok (.dup, 1) := by decide +kernel
theorem dX0_fail_137 : decode cX0_fail 137 = .ok (.getfield 22, 3) := by decide +kernel
theorem dX0_fail_140 : decode cX0_fail 140 = .ok (.iload 5, 2) := by decide +kernel
theorem dX0_fail_142 : decode cX0_fail 142 = .ok (.isub, 1) := by decide +kernel
theorem dX0_fail_143 : decode cX0_fail 143 = .ok (.putfield 22, 3) := by decide +kernel
theorem dX0_fail_146 : decode cX0_fail 146 = .ok (.return_, 1) := by decide +kernel
set_option maxRecDepth 20000 in
theorem ggX1_init_X8_init : GoodIn wsX1_init wsX8_init := goodIn_r _ [12, 13, 2, 3, 14, 8, 15, 16, 17, 18, 19, 20, 21, 22, 23, 24, 25, 26, 27, 28, 29, 30, 31, 32] (by decide +kernel) (by decide +kernel)
set_option maxRecDepth 20000 in
theorem gX1_init_X8_init : GoodIn wsX1_init (wsX8_init) := ggX1_init_X8_init
theorem dX1_init_0 : decode cX1_init 0 = .ok (.aload_n 0, 1) := by decide +kernel
theorem dX1_init_1 : decode cX1_init 1 = .ok (.invokespecial 3, 3) := by decide +kernel
theorem dX1_init_4 : decode cX1_init 4 = .ok (.aload_n 0, 1) := by decide +kernel
theorem dX1_init_5 : decode cX1_init 5 = .ok (.new 9, 3) := by decide +kernel
theorem dX1_init_8 : decode cX1_init 8 = .ok (.dup, 1) := by decide +kernel
theorem dX1_init_9 : decode cX1_init 9 = .ok (.bipush 20, 2) := by decide +kernel
theorem dX1_init_11 : decode cX1_init 11 = .ok (.invokespecial 11, 3) := by decide +kernel
theorem dX1_init_14 : decode cX1_init 14 = .ok (.putfield 14, 3) := by decide +kernel
theorem dX1_init_17 : decode cX1_init 17 = .ok (.aload_n 0, 1) := by decide +kernel
theorem dX1_init_18 : decode cX1_init 18 = .ok (.bipush 20, 2) := by decide +kernel
theorem dX1_init_20 : decode cX1_init 20 = .ok (.newarray .int, 2) := by decide +kernel
theorem dX1_init_22 : decode cX1_init 22 = .ok (.putfield 20, 3) := by decide +kernel
theorem dX1_init_25 : decode cX1_init 25 = .ok (.return_, 1) := by decide +kernel
set_option maxRecDepth 20000 in
theorem ggX1_add_X8_add : GoodIn wsX1_add wsX8_add := goodIn_r _ [7, 8, 9, 10, 11, 12, 13, 14, 15, 16, 17, 18, 6, 19, 20, 21, 22, 23, 24, 25, 26, 27, 28, 31, 32, 33, 34, 35, 36, 37, 38, 39] (by decide +kernel) (by decide +kernel)
set_option maxRecDepth 20000 in
theorem gX1_add_X8_add : GoodIn wsX1_add (wsV RX1 24 RX8 yX8_add wsX8_add) := goodIn_app (goodIn_of _ (by decide +kernel)) ggX1_add_X8_add
theorem dX1_add_0 : decode cX1_add 0 = .ok (.aload_n 0, 1) := by decide +kernel
theorem dX1_add_1 : decode cX1_add 1 = .ok (.getfield 14, 3) := by decide +kernel
theorem dX1_add_4 : decode cX1_add 4 = .ok (.iload_n 1, 1) := by decide +kernel
theorem dX1_add_5 : decode cX1_add 5 = .ok (.iload_n 2, 1) := by decide +kernel
theorem dX1_add_6 : decode cX1_add 6 = .ok (.iconst 0, 1) := by decide +kernel
theorem dX1_add_7 : decode cX1_add 7 = .ok (.iconst 1, 1) := by decide +kernel
theorem dX1_add_8 : decode cX1_add 8 = .ok (.iload 5, 2) := by decide +kernel
theorem dX1_add_10 : decode cX1_add 10 = .ok (.iload 4, 2) := by decide +kernel
theorem dX1_add_12 : decode cX1_add 12 = .ok (.invokevirtual 24, 3) := by decide +kernel
theorem dX1_add_15 : decode cX1_add 15 = .ok (.istore 6, 2) := by decide +kernel
theorem dX1_add_17 : decode cX1_add 17 = .ok (.iload 6, 2) := by decide +kernel
theorem dX1_add_19 : decode cX1_add 19 = .ok (.iconst (-1), 1) := by decide +kernel
theorem dX1_add_20 : decode cX1_add 20 = .ok (.if_icmp .eq 11, 3) := by decide +kernel
theorem dX1_add_23 : decode cX1_add 23 = .ok (.aload_n 0, 1) := by decide +kernel
theorem dX1_add_24 : decode cX1_add 24 = .ok (.getfield 20, 3) := by decide +kernel
theorem dX1_add_27 : decode cX1_add 27 = .ok (.iload 6, 2) := by decide +kernel
theorem dX1_add_29 : decode cX1_add 29 = .ok (.iload_n 3, 1) := by decide +kernel
theorem dX1_add_30 : decode cX1_add 30 = .ok (.iastore, 1) := by decide +kernel
theorem dX1_add_31 : decode cX1_add 31 = .ok (.iload 6, 2) := by decide +kernel
theorem dX1_add_33 : decode cX1_add 33 = .ok (.ireturn, 1) := by decide +kernel
set_option maxRecDepth 20000 in
theorem ggX1_giveOut_X1_isBetween : GoodIn wsX1_giveOut wsX1_isBetween := goodIn_r _ [17, 1, 18, 19, 39, 40, 41, 42, 43, 44, 45, 46, 47, 48, 49] (by decide +kernel) (by decide +kernel)
set_option maxRecDepth 20000 in
theorem gX1_giveOut_X1_isBetween : GoodIn wsX1_giveOut (wsV RX1 35 RX1 yX1_isBetween wsX1_isBetween) := goodIn_app (goodIn_of _ (by decide +kernel)) ggX1_giveOut_X1_isBetween
set_option maxRecDepth 20000 in
theorem ggX1_giveOut_X5_differenceOf : GoodIn wsX1_giveOut wsX5_differenceOf := goodIn_r _ [24, 25, 26, 27, 7, 28, 29, 30, 31, 50, 51, 52, 53, 54, 55, 56, 57] (by decide +kernel) (by decide +kernel)
set_option maxRecDepth 20000 in
theorem gX1_giveOut_X5_differenceOf : GoodIn wsX1_giveOut (wsV RX1 54 RX5 yX5_differenceOf wsX5_differenceOf) := goodIn_app (goodIn_of _ (by decide +kernel)) ggX1_giveOut_X5_differenceOf
set_option maxRecDepth 20000 in
theorem ggX1_giveOut_X8_used : GoodIn wsX1_giveOut wsX8_used := goodIn_r _ [36, 37, 38, 41, 42, 43, 44, 45, 46, 47, 48, 49] (by decide +kernel) (by decide +kernel)
set_option maxRecDepth 20000 in
theorem gX1_giveOut_X8_used : GoodIn wsX1_giveOut (wsV RX1 65 RX8 yX8_used wsX8_used) := goodIn_app (goodIn_of _ (by decide +kernel)) ggX1_giveOut_X8_used
theorem dX1_giveOut_0 : decode cX1_giveOut 0 = .ok (.iload_n 3, 1) := by decide +kernel
theorem dX1_giveOut_1 : decode cX1_giveOut 1 = .ok (.istore 5, 2) := by decide +kernel
theorem dX1_giveOut_3 : decode cX1_giveOut 3 = .ok (.iconst 0, 1) := by decide +kernel
theorem dX1_giveOut_4 : decode cX1_giveOut 4 = .ok (.istore 6, 2) := by decide +kernel
theorem dX1_giveOut_6 : decode cX1_giveOut 6 = .ok (.iconst 1, 1) := by decide +kernel
theorem dX1_giveOut_7 : decode cX1_giveOut 7 = .ok (.istore 7, 2) := by decide +kernel
theorem dX1_giveOut_9 : decode cX1_giveOut 9 = .ok (.iconst 0, 1) := by decide +kernel
theorem dX1_giveOut_10 : decode cX1_giveOut 10 = .ok (.istore 8, 2) := by decide +kernel
theorem dX1_giveOut_12 : decode cX1_giveOut 12 = .ok (.iload 8, 2) := by decide +kernel
theorem dX1_giveOut_14 : decode cX1_giveOut 14 = .ok (.aload_n 0, 1) := by decide +kernel
theorem dX1_giveOut_15 : decode cX1_giveOut 15 = .ok (.getfield 14, 3) := by decide +kernel
theorem dX1_giveOut_18 : decode cX1_giveOut 18 = .ok (.getfield 28, 3) := by decide +kernel
theorem dX1_giveOut_21 : decode cX1_giveOut 21 = .ok (.if_icmp .ge 118, 3) := by decide +kernel
theorem dX1_giveOut_24 : decode cX1_giveOut 24 = .ok (.aload_n 0, 1) := by decide +kernel
theorem dX1_giveOut_25 : decode cX1_giveOut 25 = .ok (.getfield 14, 3) := by decide +kernel
theorem dX1_giveOut_28 : decode cX1_giveOut 28 = .ok (.getfield 32, 3) := by decide +kernel
theorem dX1_giveOut_31 : decode cX1_giveOut 31 = .ok (.iload 8, 2) := by decide +kernel
theorem dX1_giveOut_33 : decode cX1_giveOut 33 = .ok (.iaload, 1) := by decide +kernel
theorem dX1_giveOut_34 : decode cX1_giveOut 34 = .ok (.istore 9, 2) := by decide +kernel
theorem dX1_giveOut_36 : decode cX1_giveOut 36 = .ok (.aload_n 0, 1) := by decide +kernel
theorem dX1_giveOut_37 : decode cX1_giveOut 37 = .ok (.iload 9, 2) := by decide +kernel
theorem dX1_giveOut_39 : decode cX1_giveOut 39 = .ok (.iload_n 1, 1) := by decide +kernel
theorem dX1_giveOut_40 : decode cX1_giveOut 40 = .ok (.iload_n 2, 1) := by decide +kernel
theorem dX1_giveOut_41 : decode cX1_giveOut 41 = .ok (.invokevirtual 35, 3) := by decide +kernel
theorem dX1_giveOut_44 : decode cX1_giveOut 44 = .ok (.ifCond .eq 89, 3) := by decide +kernel
theorem dX1_giveOut_47 : decode cX1_giveOut 47 = .ok (.iload 5, 2) := by decide +kernel
theorem dX1_giveOut_49 : decode cX1_giveOut 49 = .ok (.aload_n 0, 1) := by decide +kernel
theorem dX1_giveOut_50 : decode cX1_giveOut 50 = .ok (.getfield 14, 3) := by decide +kernel
theorem dX1_giveOut_53 : decode cX1_giveOut 53 = .ok (.getfield 39, 3) := by decide +kernel
theorem dX1_giveOut_56 : decode cX1_giveOut 56 = .ok (.iload 9, 2) := by decide +kernel
theorem dX1_giveOut_58 : decode cX1_giveOut 58 = .ok (.iaload, 1) := by decide +kernel
theorem dX1_giveOut_59 : decode cX1_giveOut 59 = .ok (.invokestatic 42, 3) := by decide +kernel
theorem dX1_giveOut_62 : decode cX1_giveOut 62 = .ok (.istore 10, 2) := by decide +kernel
theorem dX1_giveOut_64 : decode cX1_giveOut 64 = .ok (.aload_n 0, 1) := by decide +kernel
theorem dX1_giveOut_65 : decode cX1_giveOut 65 = .ok (.getfield 14, 3) := by decide +kernel
theorem dX1_giveOut_68 : decode cX1_giveOut 68 = .ok (.getfield 48, 3) := by decide +kernel
theorem dX1_giveOut_71 : decode cX1_giveOut 71 = .ok (.iload 9, 2) := by decide +kernel
theorem dX1_giveOut_73 : decode cX1_giveOut 73 = .ok (.dup2, 1) := by decide +kernel
theorem dX1_giveOut_74 : decode cX1_giveOut 74 = .ok (.iaload, 1) := by decide +kernel
theorem dX1_giveOut_75 : decode cX1_giveOut 75 = .ok (.iload 10, 2) := by decide +kernel
theorem dX1_giveOut_77 : decode cX1_giveOut 77 = .ok (.isub, 1) := by decide +kernel
theorem dX1_giveOut_78 : decode cX1_giveOut 78 = .ok (.iastore, 1) := by decide +kernel
theorem dX1_giveOut_79 : decode cX1_giveOut 79 = .ok (.iload 5, 2) := by decide +kernel
theorem dX1_giveOut_81 : decode cX1_giveOut 81 = .ok (.iload 10, 2) := by decide +kernel
theorem dX1_giveOut_83 : decode cX1_giveOut 83 = .ok (.isub, 1) := by decide +kernel
theorem dX1_giveOut_84 : decode cX1_giveOut 84 = .ok (.istore 5, 2) := by decide +kernel
theorem dX1_giveOut_86 : decode cX1_giveOut 86 = .ok (.iload 10, 2) := by decide +kernel
theorem dX1_giveOut_88 : decode cX1_giveOut 88 = .ok (.ifCond .le 16, 3) := by decide +kernel
theorem dX1_giveOut_91 : decode cX1_giveOut 91 = .ok (.aload_n 0, 1) := by decide +kernel
theorem dX1_giveOut_92 : decode cX1_giveOut 92 = .ok (.getfield 14, 3) := by decide +kernel
theorem dX1_giveOut_95 : decode cX1_giveOut 95 = .ok (.getfield 51, 3) := by decide +kernel
theorem dX1_giveOut_98 : decode cX1_giveOut 98 = .ok (.iload 9, 2) := by decide +kernel
theorem dX1_giveOut_100 : decode cX1_giveOut 100 = .ok (.iaload, 1) := by decide +kernel
theorem dX1_giveOut_101 : decode cX1_giveOut 101 = .ok (.goto 5, 3) := by decide +kernel
theorem dX1_giveOut_104 : decode cX1_giveOut 104 = .ok (.iload 6, 2) := by decide +kernel
theorem dX1_giveOut_106 : decode cX1_giveOut 106 = .ok (.istore 6, 2) := by decide +kernel
theorem dX1_giveOut_108 : decode cX1_giveOut 108 = .ok (.iload 7, 2) := by decide +kernel
theorem dX1_giveOut_110 : decode cX1_giveOut 110 = .ok (.ifCond .eq 20, 3) := by decide +kernel
theorem dX1_giveOut_113 : decode cX1_giveOut 113 = .ok (.aload_n 0, 1) := by decide +kernel
theorem dX1_giveOut_114 : decode cX1_giveOut 114 = .ok (.getfield 14, 3) := by decide +kernel
theorem dX1_giveOut_117 : decode cX1_giveOut 117 = .ok (.getfield 48, 3) := by decide +kernel
theorem dX1_giveOut_120 : decode cX1_giveOut 120 = .ok (.iload 9, 2) := by decide +kernel
theorem dX1_giveOut_122 : decode cX1_giveOut 122 = .ok (.iaload, 1) := by decide +kernel
theorem dX1_giveOut_123 : decode cX1_giveOut 123 = .ok (.ifCond .ne 7, 3) := by decide +kernel
theorem dX1_giveOut_126 : decode cX1_giveOut 126 = .ok (.iconst 1, 1) := by decide +kernel
theorem dX1_giveOut_127 : decode cX1_giveOut 127 = .ok (.goto 4, 3) := by decide +kernel
theorem dX1_giveOut_130 : decode cX1_giveOut 130 = .ok (.iconst 0, 1) := by decide +kernel
theorem dX1_giveOut_131 : decode cX1_giveOut 131 = .ok (.istore 7, 2) := by decide +kernel
theorem dX1_giveOut_133 : decode cX1_giveOut 133 = .ok (.iinc 8 1, 3) := by decide +kernel
theorem dX1_giveOut_136 : decode cX1_giveOut 136 = .ok (.goto (-124), 3) := by decide +kernel
theorem dX1_giveOut_139 : decode cX1_giveOut 139 = .ok (.aload 4, 2) := by decide +kernel
theorem dX1_giveOut_141 : decode cX1_giveOut 141 = .ok (.iload_n 1, 1) := by decide +kernel
theorem dX1_giveOut_142 : decode cX1_giveOut 142 = .ok (.iload_n 2, 1) := by decide +kernel
theorem dX1_giveOut_143 : decode cX1_giveOut 143 = .ok (.invokevirtual 54, 3) := by decide +kernel
theorem dX1_giveOut_146 : decode cX1_giveOut 146 = .ok (.iload 7, 2) := by decide +kernel
theorem dX1_giveOut_148 : decode cX1_giveOut 148 = .ok (.ifCond .eq 7, 3) := by decide +kernel
theorem dX1_giveOut_151 : decode cX1_giveOut 151 = .ok (.iconst 0, 1) := by decide +kernel
theorem dX1_giveOut_152 : decode cX1_giveOut 152 = .ok (.goto 5, 3) := by decide +kernel
theorem dX1_giveOut_155 : decode cX1_giveOut 155 = .ok (.iload 6, 2) := by decide +kernel
theorem dX1_giveOut_157 : decode cX1_giveOut 157 = .ok (.isub, 1) := by decide +kernel
theorem dX1_giveOut_158 : decode cX1_giveOut 158 = .ok (.istore 8, 2) := by decide +kernel
theorem dX1_giveOut_160 : decode cX1_giveOut 160 = .ok (.iconst 0, 1) := by decide +kernel
theorem dX1_giveOut_161 : decode cX1_giveOut 161 = .ok (.istore 9, 2) := by decide +kernel
theorem dX1_giveOut_163 : decode cX1_giveOut 163 = .ok (.iload 9, 2) := by decide +kernel
theorem dX1_giveOut_165 : decode cX1_giveOut 165 = .ok (.aload_n 0, 1) := by decide +kernel
theorem dX1_giveOut_166 : decode cX1_giveOut 166 = .ok (.getfield 14, 3) := by decide +kernel
theorem dX1_giveOut_169 : decode cX1_giveOut 169 = .ok (.getfield 28, 3) := by decide +kernel
theorem dX1_giveOut_172 : decode cX1_giveOut 172 = .ok (.if_icmp .ge 51, 3) := by decide +kernel
theorem dX1_giveOut_175 : decode cX1_giveOut 175 = .ok (.aload_n 0, 1) := by decide +kernel
theorem dX1_giveOut_176 : decode cX1_giveOut 176 = .ok (.iload 9, 2) := by decide +kernel
theorem dX1_giveOut_178 : decode cX1_giveOut 178 = .ok (.iload_n 1, 1) := by decide +kernel
theorem dX1_giveOut_179 : decode cX1_giveOut 179 = .ok (.iload_n 2, 1) := by decide +kernel
theorem dX1_giveOut_180 : decode cX1_giveOut 180 = .ok (.invokevirtual 35, 3) := by decide +kernel
theorem dX1_giveOut_183 : decode cX1_giveOut 183 = .ok (.ifCond .eq 34, 3) := by decide +kernel
theorem dX1_giveOut_186 : decode cX1_giveOut 186 = .ok (.aload 4, 2) := by decide +kernel
theorem dX1_giveOut_188 : decode cX1_giveOut 188 = .ok (.getfield 59, 3) := by decide +kernel
theorem dX1_giveOut_191 : decode cX1_giveOut 191 = .ok (.aload_n 0, 1) := by decide +kernel
theorem dX1_giveOut_192 : decode cX1_giveOut 192 = .ok (.getfield 14, 3) := by decide +kernel
theorem dX1_giveOut_195 : decode cX1_giveOut 195 = .ok (.getfield 62, 3) := by decide +kernel
theorem dX1_giveOut_198 : decode cX1_giveOut 198 = .ok (.iload 9, 2) := by decide +kernel
theorem dX1_giveOut_200 : decode cX1_giveOut 200 = .ok (.iaload, 1) := by decide +kernel
theorem dX1_giveOut_201 : decode cX1_giveOut 201 = .ok (.dup2, 1) := by decide +kernel
theorem dX1_giveOut_202 : decode cX1_giveOut 202 = .ok (.iaload, 1) := by decide +kernel
theorem dX1_giveOut_203 : decode cX1_giveOut 203 = .ok (.iload 8, 2) := by decide +kernel
theorem dX1_giveOut_205 : decode cX1_giveOut 205 = .ok (.aload_n 0, 1) := by decide +kernel
theorem dX1_giveOut_206 : decode cX1_giveOut 206 = .ok (.getfield 14, 3) := by decide +kernel
theorem dX1_giveOut_209 : decode cX1_giveOut 209 = .ok (.iload 9, 2) := by decide +kernel
theorem dX1_giveOut_211 : decode cX1_giveOut 211 = .ok (.invokevirtual 65, 3) := by decide +kernel
theorem dX1_giveOut_214 : decode cX1_giveOut 214 = .ok (.imul, 1) := by decide +kernel
theorem dX1_giveOut_215 : decode cX1_giveOut 215 = .ok (.iadd, 1) := by decide +kernel
theorem dX1_giveOut_216 : decode cX1_giveOut 216 = .ok (.iastore, 1) := by decide +kernel
theorem dX1_giveOut_217 : decode cX1_giveOut 217 = .ok (.iinc 9 1, 3) := by decide +kernel
theorem dX1_giveOut_220 : decode cX1_giveOut 220 = .ok (.goto (-57), 3) := by decide +kernel
theorem dX1_giveOut_223 : decode cX1_giveOut 223 = .ok (.return_, 1) := by decide +kernel
theorem dX1_isBetween_0 : decode cX1_isBetween 0 = .ok (.aload_n 0, 1) := by decide +kernel
theorem dX1_isBetween_1 : decode cX1_isBetween 1 = .ok (.getfield 14, 3) := by decide +kernel
theorem dX1_isBetween_4 : decode cX1_isBetween 4 = .ok (.getfield 69, 3) := by decide +kernel
theorem dX1_isBetween_7 : decode cX1_isBetween 7 = .ok (.iload_n 1, 1) := by decide +kernel
theorem dX1_isBetween_8 : decode cX1_isBetween 8 = .ok (.iaload, 1) := by decide +kernel
theorem dX1_isBetween_9 : decode cX1_isBetween 9 = .ok (.iload_n 2, 1) := by decide +kernel
theorem dX1_isBetween_10 : decode cX1_isBetween 10 = .ok (.if_icmp .ne 17, 3) := by decide +kernel
theorem dX1_isBetween_13 : decode cX1_isBetween 13 = .ok (.aload_n 0, 1) := by decide +kernel
theorem dX1_isBetween_14 : decode cX1_isBetween 14 = .ok (.getfield 20, 3) := by decide +kernel
theorem dX1_isBetween_17 : decode cX1_isBetween 17 = .ok (.iload_n 1, 1) := by decide +kernel
theorem dX1_isBetween_18 : decode cX1_isBetween 18 = .ok (.iaload, 1) := by decide +kernel
theorem dX1_isBetween_19 : decode cX1_isBetween 19 = .ok (.iload_n 3, 1) := by decide +kernel
theorem dX1_isBetween_20 : decode cX1_isBetween 20 = .ok (.if_icmp .ne 7, 3) := by decide +kernel
theorem dX1_isBetween_23 : decode cX1_isBetween 23 = .ok (.iconst 1, 1) := by decide +kernel
theorem dX1_isBetween_24 : decode cX1_isBetween 24 = .ok (.goto 4, 3) := by decide +kernel
theorem dX1_isBetween_27 : decode cX1_isBetween 27 = .ok (.iconst 0, 1) := by decide +kernel
theorem dX1_isBetween_28 : decode cX1_isBetween 28 = .ok (.ireturn, 1) := by decide +kernel
theorem dX2_init_0 : decode cX2_init 0 = .ok (.aload_n 0, 1) := by decide +kernel
theorem dX2_init_1 : decode cX2_init 1 = .ok (.invokespecial 3, 3) := by decide +kernel
theorem dX2_init_4 : decode cX2_init 4 = .ok (.aload_n 0, 1) := by decide +kernel
theorem dX2_init_5 : decode cX2_init 5 = .ok (.iconst 5, 1) := by decide +kernel
theorem dX2_init_6 : decode cX2_init 6 = .ok (.newarray .int, 2) := by decide +kernel
theorem dX2_init_8 : decode cX2_init 8 = .ok (.putfield 9, 3) := by decide +kernel
theorem dX2_init_11 : decode cX2_init 11 = .ok (.aload_n 0, 1) := by decide +kernel
theorem dX2_init_12 : decode cX2_init 12 = .ok (.iconst 5, 1) := by decide +kernel
theorem dX2_init_13 : decode cX2_init 13 = .ok (.newarray .int, 2) := by decide +kernel
theorem dX2_init_15 : decode cX2_init 15 = .ok (.putfield 15, 3) := by decide +kernel
theorem dX2_init_18 : decode cX2_init 18 = .ok (.aload_n 0, 1) := by decide +kernel
theorem dX2_init_19 : decode cX2_init 19 = .ok (.iconst 5, 1) := by decide +kernel
theorem dX2_init_20 : decode cX2_init 20 = .ok (.newarray .int, 2) := by decide +kernel
theorem dX2_init_22 : decode cX2_init 22 = .ok (.putfield 18, 3) := by decide +kernel
theorem dX2_init_25 : decode cX2_init 25 = .ok (.aload_n 0, 1) := by decide +kernel
theorem dX2_init_26 : decode cX2_init 26 = .ok (.iconst 5, 1) := by decide +kernel
theorem dX2_init_27 : decode cX2_init 27 = .ok (.newarray .boolean, 2) := by decide +kernel
theorem dX2_init_29 : decode cX2_init 29 = .ok (.putfield 21, 3) := by decide +kernel
theorem dX2_init_32 : decode cX2_init 32 = .ok (.aload_n 0, 1) := by decide +kernel
theorem dX2_init_33 : decode cX2_init 33 = .ok (.iconst 5, 1) := by decide +kernel
theorem dX2_init_34 : decode cX2_init 34 = .ok (.newarray .int, 2) := by decide +kernel
theorem dX2_init_36 : decode cX2_init 36 = .ok (.putfield 25, 3) := by decide +kernel
theorem dX2_init_39 : decode cX2_init 39 = .ok (.aload_n 0, 1) := by decide +kernel
theorem dX2_init_40 : decode cX2_init 40 = .ok (.iconst 5, 1) := by decide +kernel
theorem dX2_init_41 : decode cX2_init 41 = .ok (.newarray .int, 2) := by decide +kernel
theorem dX2_init_43 : decode cX2_init 43 = .ok (.putfield 28, 3) := by decide +kernel
theorem dX2_init_46 : decode cX2_init 46 = .ok (.aload_n 0, 1) := by decide +kernel
theorem dX2_init_47 : decode cX2_init 47 = .ok (.iconst 5, 1) := by decide +kernel
theorem dX2_init_48 : decode cX2_init 48 = .ok (.newarray .int, 2) := by decide +kernel
theorem dX2_init_50 : decode cX2_init 50 = .ok (.putfield 31, 3) := by decide +kernel
theorem dX2_init_53 : decode cX2_init 53 = .ok (.aload_n 0, 1) := by decide +kernel
theorem dX2_init_54 : decode cX2_init 54 = .ok (.iconst 5, 1) := by decide +kernel
theorem dX2_init_55 : decode cX2_init 55 = .ok (.newarray .int, 2) := by decide +kernel
theorem dX2_init_57 : decode cX2_init 57 = .ok (.putfield 34, 3) := by decide +kernel
theorem dX2_init_60 : decode cX2_init 60 = .ok (.aload_n 0, 1) := by decide +kernel
theorem dX2_init_61 : decode cX2_init 61 = .ok (.iconst 0, 1) := by decide +kernel
theorem dX2_init_62 : decode cX2_init 62 = .ok (.putfield 37, 3) := by decide +kernel
theorem dX2_init_65 : decode cX2_init 65 = .ok (.aload_n 0, 1) := by decide +kernel
theorem dX2_init_66 : decode cX2_init 66 = .ok (.iconst 0, 1) := by decide +kernel
theorem dX2_init_67 : decode cX2_init 67 = .ok (.putfield 41, 3) := by decide +kernel
theorem dX2_init_70 : decode cX2_init 70 = .ok (.return_, 1) := by decide +kernel
theorem dX2_add_0 : decode cX2_add 0 = .ok (.aload_n 0, 1) := by decide +kernel
theorem dX2_add_1 : decode cX2_add 1 = .ok (.getfield 37, 3) := by decide +kernel
theorem dX2_add_4 : decode cX2_add 4 = .ok (.iconst 5, 1) := by decide +kernel
theorem dX2_add_5 : decode cX2_add 5 = .ok (.if_icmp .lt 5, 3) := by decide +kernel
theorem dX2_add_8 : decode cX2_add 8 = .ok (.iconst (-1), 1) := by decide +kernel
theorem dX2_add_9 : decode cX2_add 9 = .ok (.ireturn, 1) := by decide +kernel
theorem dX2_add_10 : decode cX2_add 10 = .ok (.aload_n 0, 1) := by decide +kernel
theorem dX2_add_11 : decode cX2_add 11 = .ok (.getfield 37, 3) := by decide +kernel
theorem dX2_add_14 : decode cX2_add 14 = .ok (.istore 7, 2) := by decide +kernel
theorem dX2_add_16 : decode cX2_add 16 = .ok (.aload_n 0, 1) := by decide +kernel
theorem dX2_add_17 : decode cX2_add 17 = .ok (.getfield 9, 3) := by decide +kernel
theorem dX2_add_20 : decode cX2_add 20 = .ok (.iload 7, 2) := by decide +kernel
theorem dX2_add_22 : decode cX2_add 22 = .ok (.iload_n 1, 1) := by decide +kernel
theorem dX2_add_23 : decode cX2_add 23 = .ok (.iastore, 1) := by decide +kernel
theorem dX2_add_24 : decode cX2_add 24 = .ok (.aload_n 0, 1) := by decide +kernel
theorem dX2_add_25 : decode cX2_add 25 = .ok (.getfield 15, 3) := by decide +kernel
theorem dX2_add_28 : decode cX2_add 28 = .ok (.iload 7, 2) := by decide +kernel
theorem dX2_add_30 : decode cX2_add 30 = .ok (.iload_n 2, 1) := by decide +kernel
theorem dX2_add_31 : decode cX2_add 31 = .ok (.iastore, 1) := by decide +kernel
theorem dX2_add_32 : decode cX2_add 32 = .ok (.aload_n 0, 1) := by decide +kernel
theorem dX2_add_33 : decode cX2_add 33 = .ok (.getfield 18, 3) := by decide +kernel
theorem dX2_add_36 : decode cX2_add 36 = .ok (.iload 7, 2) := by decide +kernel
theorem dX2_add_38 : decode cX2_add 38 = .ok (.iload_n 3, 1) := by decide +kernel
theorem dX2_add_39 : decode cX2_add 39 = .ok (.iastore, 1) := by decide +kernel
theorem dX2_add_40 : decode cX2_add 40 = .ok (.aload_n 0, 1) := by decide +kernel
theorem dX2_add_41 : decode cX2_add 41 = .ok (.getfield 21, 3) := by decide +kernel
theorem dX2_add_44 : decode cX2_add 44 = .ok (.iload 7, 2) := by decide +kernel
theorem dX2_add_46 : decode cX2_add 46 = .ok (.iload 4, 2) := by decide +kernel
theorem dX2_add_48 : decode cX2_add 48 = .ok (.bastore, 1) := by decide +kernel
theorem dX2_add_49 : decode cX2_add 49 = .ok (.aload_n 0, 1) := by decide +kernel
theorem dX2_add_50 : decode cX2_add 50 = .ok (.getfield 25, 3) := by decide +kernel
theorem dX2_add_53 : decode cX2_add 53 = .ok (.iload 7, 2) := by decide +kernel
theorem dX2_add_55 : decode cX2_add 55 = .ok (.iload 5, 2) := by decide +kernel
theorem dX2_add_57 : decode cX2_add 57 = .ok (.iastore, 1) := by decide +kernel
theorem dX2_add_58 : decode cX2_add 58 = .ok (.aload_n 0, 1) := by decide +kernel
theorem dX2_add_59 : decode cX2_add 59 = .ok (.getfield 28, 3) := by decide +kernel
theorem dX2_add_62 : decode cX2_add 62 = .ok (.iload 7, 2) := by decide +kernel
theorem dX2_add_64 : decode cX2_add 64 = .ok (.iload 6, 2) := by decide +kernel
theorem dX2_add_66 : decode cX2_add 66 = .ok (.iastore, 1) := by decide +kernel
theorem dX2_add_67 : decode cX2_add 67 = .ok (.aload_n 0, 1) := by decide +kernel
theorem dX2_add_68 : decode cX2_add 68 = .ok (.getfield 31, 3) := by decide +kernel
theorem dX2_add_71 : decode cX2_add 71 = .ok (.iload 7, 2) := by decide +kernel
theorem dX2_add_73 : decode cX2_add 73 = .ok (.iconst (-1), 1) := by decide +kernel
theorem dX2_add_74 : decode cX2_add 74 = .ok (.iastore, 1) := by decide +kernel
theorem dX2_add_75 : decode cX2_add 75 = .ok (.aload_n 0, 1) := by decide +kernel
theorem dX2_add_76 : decode cX2_add 76 = .ok (.getfield 34, 3) := by decide +kernel
theorem dX2_add_79 : decode cX2_add 79 = .ok (.iload 7, 2) := by decide +kernel
theorem dX2_add_81 : decode cX2_add 81 = .ok (.iconst (-1), 1) := by decide +kernel
theorem dX2_add_82 : decode cX2_add 82 = .ok (.iastore, 1) := by decide +kernel
theorem dX2_add_83 : decode cX2_add 83 = .ok (.aload_n 0, 1) := by decide +kernel
theorem dX2_add_84 : decode cX2_add 84 = .ok (.dup, 1) := by decide +kernel
theorem dX2_add_85 : decode cX2_add 85 = .ok (.getfield 37, 3) := by decide +kernel
theorem dX2_add_88 : decode cX2_add 88 = .ok (.iconst 1, 1) := by decide +kernel
theorem dX2_add_89 : decode cX2_add 89 = .ok (.iadd, 1) := by decide +kernel
theorem dX2_add_90 : decode cX2_add 90 = .ok (.putfield 37, 3) := by decide +kernel
theorem dX2_add_93 : decode cX2_add 93 = .ok (.iload 7, 2) := by decide +kernel
theorem dX2_add_95 : decode cX2_add 95 = .ok (.ireturn, 1) := by decide +kernel
set_option maxRecDepth 20000 in
theorem ggX2_isAllowed_X9_isMember : GoodIn wsX2_isAllowed wsX9_isMember := goodIn_r _ [6] (by decide +kernel) (by decide +kernel)
set_option maxRecDepth 20000 in
theorem gX2_isAllowed_X9_isMember_n44 : GoodIn wsX2_isAllowed (wsX9_isMember) := ggX2_isAllowed_X9_isMember
theorem dX2_isAllowed_0 : decode cX2_isAllowed 0 = .ok (.iconst 0, 1) := by decide +kernel
theorem dX2_isAllowed_1 : decode cX2_isAllowed 1 = .ok (.istore_n 2, 1) := by decide +kernel
theorem dX2_isAllowed_2 : decode cX2_isAllowed 2 = .ok (.iconst 0, 1) := by decide +kernel
theorem dX2_isAllowed_3 : decode cX2_isAllowed 3 = .ok (.istore_n 3, 1) := by decide +kernel
theorem dX2_isAllowed_4 : decode cX2_isAllowed 4 = .ok (.iload_n 3, 1) := by decide +kernel
theorem dX2_isAllowed_5 : decode cX2_isAllowed 5 = .ok (.aload_n 0, 1) := by decide +kernel
theorem dX2_isAllowed_6 : decode cX2_isAllowed 6 = .ok (.getfield 37, 3) := by decide +kernel
theorem dX2_isAllowed_9 : decode cX2_isAllowed 9 = .ok (.if_icmp .ge 81, 3) := by decide +kernel
theorem dX2_isAllowed_12 : decode cX2_isAllowed 12 = .ok (.iload_n 1, 1) := by decide +kernel
theorem dX2_isAllowed_13 : decode cX2_isAllowed 13 = .ok (.iload_n 3, 1) := by decide +kernel
theorem dX2_isAllowed_14 : decode cX2_isAllowed 14 = .ok (.invokestatic 44, 3) := by decide +kernel
theorem dX2_isAllowed_17 : decode cX2_isAllowed 17 = .ok (.ifCond .ne 6, 3) := by decide +kernel
theorem dX2_isAllowed_20 : decode cX2_isAllowed 20 = .ok (.goto 64, 3) := by decide +kernel
theorem dX2_isAllowed_23 : decode cX2_isAllowed 23 = .ok (.aload_n 0, 1) := by decide +kernel
theorem dX2_isAllowed_24 : decode cX2_isAllowed 24 = .ok (.getfield 31, 3) := by decide +kernel
theorem dX2_isAllowed_27 : decode cX2_isAllowed 27 = .ok (.iload_n 3, 1) := by decide +kernel
theorem dX2_isAllowed_28 : decode cX2_isAllowed 28 = .ok (.iaload, 1) := by decide +kernel
theorem dX2_isAllowed_29 : decode cX2_isAllowed 29 = .ok (.iconst (-1), 1) := by decide +kernel
theorem dX2_isAllowed_30 : decode cX2_isAllowed 30 = .ok (.if_icmp .eq 18, 3) := by decide +kernel
theorem dX2_isAllowed_33 : decode cX2_isAllowed 33 = .ok (.iload_n 1, 1) := by decide +kernel
theorem dX2_isAllowed_34 : decode cX2_isAllowed 34 = .ok (.aload_n 0, 1) := by decide +kernel
theorem dX2_isAllowed_35 : decode cX2_isAllowed 35 = .ok (.getfield 31, 3) := by decide +kernel
theorem dX2_isAllowed_38 : decode cX2_isAllowed 38 = .ok (.iload_n 3, 1) := by decide +kernel
theorem dX2_isAllowed_39 : decode cX2_isAllowed 39 = .ok (.iaload, 1) := by decide +kernel
theorem dX2_isAllowed_40 : decode cX2_isAllowed 40 = .ok (.invokestatic 44, 3) := by decide +kernel
theorem dX2_isAllowed_43 : decode cX2_isAllowed 43 = .ok (.ifCond .ne 5, 3) := by decide +kernel
theorem dX2_isAllowed_46 : decode cX2_isAllowed 46 = .ok (.iconst 0, 1) := by decide +kernel
theorem dX2_isAllowed_47 : decode cX2_isAllowed 47 = .ok (.ireturn, 1) := by decide +kernel
theorem dX2_isAllowed_48 : decode cX2_isAllowed 48 = .ok (.aload_n 0, 1) := by decide +kernel
theorem dX2_isAllowed_49 : decode cX2_isAllowed 49 = .ok (.getfield 34, 3) := by decide +kernel
theorem dX2_isAllowed_52 : decode cX2_isAllowed 52 = .ok (.iload_n 3, 1) := by decide +kernel
theorem dX2_isAllowed_53 : decode cX2_isAllowed 53 = .ok (.iaload, 1) := by decide +kernel
theorem dX2_isAllowed_54 : decode cX2_isAllowed 54 = .ok (.iconst (-1), 1) := by decide +kernel
theorem dX2_isAllowed_55 : decode cX2_isAllowed 55 = .ok (.if_icmp .eq 29, 3) := by decide +kernel
theorem dX2_isAllowed_58 : decode cX2_isAllowed 58 = .ok (.iload_n 2, 1) := by decide +kernel
theorem dX2_isAllowed_59 : decode cX2_isAllowed 59 = .ok (.aload_n 0, 1) := by decide +kernel
theorem dX2_isAllowed_60 : decode cX2_isAllowed 60 = .ok (.getfield 34, 3) := by decide +kernel
theorem dX2_isAllowed_63 : decode cX2_isAllowed 63 = .ok (.iload_n 3, 1) := by decide +kernel
theorem dX2_isAllowed_64 : decode cX2_isAllowed 64 = .ok (.iaload, 1) := by decide +kernel
theorem dX2_isAllowed_65 : decode cX2_isAllowed 65 = .ok (.invokestatic 44, 3) := by decide +kernel
theorem dX2_isAllowed_68 : decode cX2_isAllowed 68 = .ok (.ifCond .eq 5, 3) := by decide +kernel
theorem dX2_isAllowed_71 : decode cX2_isAllowed 71 = .ok (.iconst 0, 1) := by decide +kernel
theorem dX2_isAllowed_72 : decode cX2_isAllowed 72 = .ok (.ireturn, 1) := by decide +kernel
theorem dX2_isAllowed_73 : decode cX2_isAllowed 73 = .ok (.iload_n 2, 1) := by decide +kernel
theorem dX2_isAllowed_74 : decode cX2_isAllowed 74 = .ok (.iconst 1, 1) := by decide +kernel
theorem dX2_isAllowed_75 : decode cX2_isAllowed 75 = .ok (.aload_n 0, 1) := by decide +kernel
theorem dX2_isAllowed_76 : decode cX2_isAllowed 76 = .ok (.getfield 34, 3) := by decide +kernel
theorem dX2_isAllowed_79 : decode cX2_isAllowed 79 = .ok (.iload_n 3, 1) := by decide +kernel
theorem dX2_isAllowed_80 : decode cX2_isAllowed 80 = .ok (.iaload, 1) := by decide +kernel
theorem dX2_isAllowed_81 : decode cX2_isAllowed 81 = .ok (.ishl, 1) := by decide +kernel
theorem dX2_isAllowed_82 : decode cX2_isAllowed 82 = .ok (.ior, 1) := by decide +kernel
theorem dX2_isAllowed_83 : decode cX2_isAllowed 83 = .ok (.istore_n 2, 1) := by decide +kernel
theorem dX2_isAllowed_84 : decode cX2_isAllowed 84 = .ok (.iinc 3 1, 3) := by decide +kernel
theorem dX2_isAllowed_87 : decode cX2_isAllowed 87 = .ok (.goto (-83), 3) := by decide +kernel
theorem dX2_isAllowed_90 : decode cX2_isAllowed 90 = .ok (.iconst 1, 1) := by decide +kernel
theorem dX2_isAllowed_91 : decode cX2_isAllowed 91 = .ok (.ireturn, 1) := by decide +kernel
set_option maxRecDepth 20000 in
theorem ggX2_partIn_X9_isMember : GoodIn wsX2_partIn wsX9_isMember := goodIn_r _ [5] (by decide +kernel) (by decide +kernel)
set_option maxRecDepth 20000 in
theorem gX2_partIn_X9_isMember_n44 : GoodIn wsX2_partIn (wsX9_isMember) := ggX2_partIn_X9_isMember
theorem dX2_partIn_0 : decode cX2_partIn 0 = .ok (.iconst 0, 1) := by decide +kernel
theorem dX2_partIn_1 : decode cX2_partIn 1 = .ok (.istore_n 3, 1) := by decide +kernel
theorem dX2_partIn_2 : decode cX2_partIn 2 = .ok (.iconst 0, 1) := by decide +kernel
theorem dX2_partIn_3 : decode cX2_partIn 3 = .ok (.istore 4, 2) := by decide +kernel
theorem dX2_partIn_5 : decode cX2_partIn 5 = .ok (.iload 4, 2) := by decide +kernel
theorem dX2_partIn_7 : decode cX2_partIn 7 = .ok (.aload_n 0, 1) := by decide +kernel
theorem dX2_partIn_8 : decode cX2_partIn 8 = .ok (.getfield 37, 3) := by decide +kernel
theorem dX2_partIn_11 : decode cX2_partIn 11 = .ok (.if_icmp .ge 39, 3) := by decide +kernel
theorem dX2_partIn_14 : decode cX2_partIn 14 = .ok (.iload_n 1, 1) := by decide +kernel
theorem dX2_partIn_15 : decode cX2_partIn 15 = .ok (.iload 4, 2) := by decide +kernel
theorem dX2_partIn_17 : decode cX2_partIn 17 = .ok (.invokestatic 44, 3) := by decide +kernel
theorem dX2_partIn_20 : decode cX2_partIn 20 = .ok (.ifCond .eq 24, 3) := by decide +kernel
theorem dX2_partIn_23 : decode cX2_partIn 23 = .ok (.aload_n 0, 1) := by decide +kernel
theorem dX2_partIn_24 : decode cX2_partIn 24 = .ok (.getfield 18, 3) := by decide +kernel
theorem dX2_partIn_27 : decode cX2_partIn 27 = .ok (.iload 4, 2) := by decide +kernel
theorem dX2_partIn_29 : decode cX2_partIn 29 = .ok (.iaload, 1) := by decide +kernel
theorem dX2_partIn_30 : decode cX2_partIn 30 = .ok (.iload_n 2, 1) := by decide +kernel
theorem dX2_partIn_31 : decode cX2_partIn 31 = .ok (.invokestatic 44, 3) := by decide +kernel
theorem dX2_partIn_34 : decode cX2_partIn 34 = .ok (.ifCond .eq 10, 3) := by decide +kernel
theorem dX2_partIn_37 : decode cX2_partIn 37 = .ok (.iload_n 3, 1) := by decide +kernel
theorem dX2_partIn_38 : decode cX2_partIn 38 = .ok (.iconst 1, 1) := by decide +kernel
theorem dX2_partIn_39 : decode cX2_partIn 39 = .ok (.iload 4, 2) := by decide +kernel
theorem dX2_partIn_41 : decode cX2_partIn 41 = .ok (.ishl, 1) := by decide +kernel
theorem dX2_partIn_42 : decode cX2_partIn 42 = .ok (.ior, 1) := by decide +kernel
theorem dX2_partIn_43 : decode cX2_partIn 43 = .ok (.istore_n 3, 1) := by decide +kernel
theorem dX2_partIn_44 : decode cX2_partIn 44 = .ok (.iinc 4 1, 3) := by decide +kernel
theorem dX2_partIn_47 : decode cX2_partIn 47 = .ok (.goto (-42), 3) := by decide +kernel
theorem dX2_partIn_50 : decode cX2_partIn 50 = .ok (.iload_n 3, 1) := by decide +kernel
theorem dX2_partIn_51 : decode cX2_partIn 51 = .ok (.ireturn, 1) := by decide +kernel
set_option maxRecDepth 20000 in
theorem ggX2_unitsOf_X9_isMember : GoodIn wsX2_unitsOf wsX9_isMember := goodIn_r _ [7] (by decide +kernel) (by decide +kernel)
set_option maxRecDepth 20000 in
theorem gX2_unitsOf_X9_isMember_n44 : GoodIn wsX2_unitsOf (wsX9_isMember) := ggX2_unitsOf_X9_isMember
theorem dX2_unitsOf_0 : decode cX2_unitsOf 0 = .ok (.iconst 0, 1) := by decide +kernel
theorem dX2_unitsOf_1 : decode cX2_unitsOf 1 = .ok (.istore_n 3, 1) := by decide +kernel
theorem dX2_unitsOf_2 : decode cX2_unitsOf 2 = .ok (.iconst 0, 1) := by decide +kernel
theorem dX2_unitsOf_3 : decode cX2_unitsOf 3 = .ok (.istore 4, 2) := by decide +kernel
theorem dX2_unitsOf_5 : decode cX2_unitsOf 5 = .ok (.iload 4, 2) := by decide +kernel
theorem dX2_unitsOf_7 : decode cX2_unitsOf 7 = .ok (.aload_n 0, 1) := by decide +kernel
theorem dX2_unitsOf_8 : decode cX2_unitsOf 8 = .ok (.getfield 37, 3) := by decide +kernel
theorem dX2_unitsOf_11 : decode cX2_unitsOf 11 = .ok (.if_icmp .ge 60, 3) := by decide +kernel
theorem dX2_unitsOf_14 : decode cX2_unitsOf 14 = .ok (.iload_n 1, 1) := by decide +kernel
theorem dX2_unitsOf_15 : decode cX2_unitsOf 15 = .ok (.iload 4, 2) := by decide +kernel
theorem dX2_unitsOf_17 : decode cX2_unitsOf 17 = .ok (.invokestatic 44, 3) := by decide +kernel
theorem dX2_unitsOf_20 : decode cX2_unitsOf 20 = .ok (.ifCond .eq 45, 3) := by decide +kernel
theorem dX2_unitsOf_23 : decode cX2_unitsOf 23 = .ok (.aload_n 0, 1) := by decide +kernel
theorem dX2_unitsOf_24 : decode cX2_unitsOf 24 = .ok (.getfield 15, 3) := by decide +kernel
theorem dX2_unitsOf_27 : decode cX2_unitsOf 27 = .ok (.iload 4, 2) := by decide +kernel
theorem dX2_unitsOf_29 : decode cX2_unitsOf 29 = .ok (.iaload, 1) := by decide +kernel
theorem dX2_unitsOf_30 : decode cX2_unitsOf 30 = .ok (.iload_n 2, 1) := by decide +kernel
theorem dX2_unitsOf_31 : decode cX2_unitsOf 31 = .ok (.if_icmp .ne 34, 3) := by decide +kernel
theorem dX2_unitsOf_34 : decode cX2_unitsOf 34 = .ok (.iload_n 3, 1) := by decide +kernel
theorem dX2_unitsOf_35 : decode cX2_unitsOf 35 = .ok (.aload_n 0, 1) := by decide +kernel
theorem dX2_unitsOf_36 : decode cX2_unitsOf 36 = .ok (.getfield 21, 3) := by decide +kernel
theorem dX2_unitsOf_39 : decode cX2_unitsOf 39 = .ok (.iload 4, 2) := by decide +kernel
theorem dX2_unitsOf_41 : decode cX2_unitsOf 41 = .ok (.baload, 1) := by decide +kernel
theorem dX2_unitsOf_42 : decode cX2_unitsOf 42 = .ok (.ifCond .eq 14, 3) := by decide +kernel
theorem dX2_unitsOf_45 : decode cX2_unitsOf 45 = .ok (.aload_n 0, 1) := by decide +kernel
theorem dX2_unitsOf_46 : decode cX2_unitsOf 46 = .ok (.getfield 28, 3) := by decide +kernel
theorem dX2_unitsOf_49 : decode cX2_unitsOf 49 = .ok (.iload 4, 2) := by decide +kernel
theorem dX2_unitsOf_51 : decode cX2_unitsOf 51 = .ok (.iaload, 1) := by decide +kernel
theorem dX2_unitsOf_52 : decode cX2_unitsOf 52 = .ok (.ineg, 1) := by decide +kernel
theorem dX2_unitsOf_53 : decode cX2_unitsOf 53 = .ok (.goto 10, 3) := by decide +kernel
theorem dX2_unitsOf_56 : decode cX2_unitsOf 56 = .ok (.aload_n 0, 1) := by decide +kernel
theorem dX2_unitsOf_57 : decode cX2_unitsOf 57 = .ok (.getfield 28, 3) := by decide +kernel
theorem dX2_unitsOf_60 : decode cX2_unitsOf 60 = .ok (.iload 4, 2) := by decide +kernel
theorem dX2_unitsOf_62 : decode cX2_unitsOf 62 = .ok (.iaload, 1) := by decide +kernel
theorem dX2_unitsOf_63 : decode cX2_unitsOf 63 = .ok (.iadd, 1) := by decide +kernel
theorem dX2_unitsOf_64 : decode cX2_unitsOf 64 = .ok (.istore_n 3, 1) := by decide +kernel
theorem dX2_unitsOf_65 : decode cX2_unitsOf 65 = .ok (.iinc 4 1, 3) := by decide +kernel
theorem dX2_unitsOf_68 : decode cX2_unitsOf 68 = .ok (.goto (-63), 3) := by decide +kernel
theorem dX2_unitsOf_71 : decode cX2_unitsOf 71 = .ok (.iload_n 3, 1) := by decide +kernel
theorem dX2_unitsOf_72 : decode cX2_unitsOf 72 = .ok (.ireturn, 1) := by decide +kernel
set_option maxRecDepth 20000 in
theorem ggX2_worthOf_X9_isMember : GoodIn wsX2_worthOf wsX9_isMember := goodIn_r _ [8] (by decide +kernel) (by decide +kernel)
set_option maxRecDepth 20000 in
theorem gX2_worthOf_X9_isMember_n44 : GoodIn wsX2_worthOf (wsX9_isMember) := ggX2_worthOf_X9_isMember
set_option maxRecDepth 20000 in
theorem ggX2_worthOf_J6_bitCount_0f7a4 : GoodIn wsX2_worthOf wsJ6_bitCount_0f7a4 := goodIn_r _ [12, 13, 14, 15] (by decide +kernel) (by decide +kernel)
set_option maxRecDepth 20000 in
theorem gX2_worthOf_J6_bitCount_0f7a4 : GoodIn wsX2_worthOf (va_wsS RX2 48 yJ6_bitCount_0f7a4 wsJ6_bitCount_0f7a4) := goodIn_app (goodIn_of _ (by decide +kernel)) ggX2_worthOf_J6_bitCount_0f7a4
theorem dX2_worthOf_0 : decode cX2_worthOf 0 = .ok (.iconst 0, 1) := by decide +kernel
theorem dX2_worthOf_1 : decode cX2_worthOf 1 = .ok (.istore_n 2, 1) := by decide +kernel
theorem dX2_worthOf_2 : decode cX2_worthOf 2 = .ok (.iconst 0, 1) := by decide +kernel
theorem dX2_worthOf_3 : decode cX2_worthOf 3 = .ok (.istore_n 3, 1) := by decide +kernel
theorem dX2_worthOf_4 : decode cX2_worthOf 4 = .ok (.iload_n 3, 1) := by decide +kernel
theorem dX2_worthOf_5 : decode cX2_worthOf 5 = .ok (.aload_n 0, 1) := by decide +kernel
theorem dX2_worthOf_6 : decode cX2_worthOf 6 = .ok (.getfield 37, 3) := by decide +kernel
theorem dX2_worthOf_9 : decode cX2_worthOf 9 = .ok (.if_icmp .ge 62, 3) := by decide +kernel
theorem dX2_worthOf_12 : decode cX2_worthOf 12 = .ok (.iload_n 1, 1) := by decide +kernel
theorem dX2_worthOf_13 : decode cX2_worthOf 13 = .ok (.iload_n 3, 1) := by decide +kernel
theorem dX2_worthOf_14 : decode cX2_worthOf 14 = .ok (.invokestatic 44, 3) := by decide +kernel
theorem dX2_worthOf_17 : decode cX2_worthOf 17 = .ok (.ifCond .eq 48, 3) := by decide +kernel
theorem dX2_worthOf_20 : decode cX2_worthOf 20 = .ok (.aload_n 0, 1) := by decide +kernel
theorem dX2_worthOf_21 : decode cX2_worthOf 21 = .ok (.getfield 25, 3) := by decide +kernel
theorem dX2_worthOf_24 : decode cX2_worthOf 24 = .ok (.iload_n 3, 1) := by decide +kernel
theorem dX2_worthOf_25 : decode cX2_worthOf 25 = .ok (.iaload, 1) := by decide +kernel
theorem dX2_worthOf_26 : decode cX2_worthOf 26 = .ok (.aload_n 0, 1) := by decide +kernel
theorem dX2_worthOf_27 : decode cX2_worthOf 27 = .ok (.getfield 28, 3) := by decide +kernel
theorem dX2_worthOf_30 : decode cX2_worthOf 30 = .ok (.iload_n 3, 1) := by decide +kernel
theorem dX2_worthOf_31 : decode cX2_worthOf 31 = .ok (.iaload, 1) := by decide +kernel
theorem dX2_worthOf_32 : decode cX2_worthOf 32 = .ok (.imul, 1) := by decide +kernel
theorem dX2_worthOf_33 : decode cX2_worthOf 33 = .ok (.aload_n 0, 1) := by decide +kernel
theorem dX2_worthOf_34 : decode cX2_worthOf 34 = .ok (.getfield 18, 3) := by decide +kernel
theorem dX2_worthOf_37 : decode cX2_worthOf 37 = .ok (.iload_n 3, 1) := by decide +kernel
theorem dX2_worthOf_38 : decode cX2_worthOf 38 = .ok (.iaload, 1) := by decide +kernel
theorem dX2_worthOf_39 : decode cX2_worthOf 39 = .ok (.invokestatic 48, 3) := by decide +kernel
theorem dX2_worthOf_42 : decode cX2_worthOf 42 = .ok (.imul, 1) := by decide +kernel
theorem dX2_worthOf_43 : decode cX2_worthOf 43 = .ok (.istore 4, 2) := by decide +kernel
theorem dX2_worthOf_45 : decode cX2_worthOf 45 = .ok (.iload_n 2, 1) := by decide +kernel
theorem dX2_worthOf_46 : decode cX2_worthOf 46 = .ok (.aload_n 0, 1) := by decide +kernel
theorem dX2_worthOf_47 : decode cX2_worthOf 47 = .ok (.getfield 21, 3) := by decide +kernel
theorem dX2_worthOf_50 : decode cX2_worthOf 50 = .ok (.iload_n 3, 1) := by decide +kernel
theorem dX2_worthOf_51 : decode cX2_worthOf 51 = .ok (.baload, 1) := by decide +kernel
theorem dX2_worthOf_52 : decode cX2_worthOf 52 = .ok (.ifCond .eq 8, 3) := by decide +kernel
theorem dX2_worthOf_55 : decode cX2_worthOf 55 = .ok (.iload 4, 2) := by decide +kernel
theorem dX2_worthOf_57 : decode cX2_worthOf 57 = .ok (.goto 6, 3) := by decide +kernel
theorem dX2_worthOf_60 : decode cX2_worthOf 60 = .ok (.iload 4, 2) := by decide +kernel
theorem dX2_worthOf_62 : decode cX2_worthOf 62 = .ok (.ineg, 1) := by decide +kernel
theorem dX2_worthOf_63 : decode cX2_worthOf 63 = .ok (.iadd, 1) := by decide +kernel
theorem dX2_worthOf_64 : decode cX2_worthOf 64 = .ok (.istore_n 2, 1) := by decide +kernel
theorem dX2_worthOf_65 : decode cX2_worthOf 65 = .ok (.iinc 3 1, 3) := by decide +kernel
theorem dX2_worthOf_68 : decode cX2_worthOf 68 = .ok (.goto (-64), 3) := by decide +kernel
theorem dX2_worthOf_71 : decode cX2_worthOf 71 = .ok (.iload_n 2, 1) := by decide +kernel
theorem dX2_worthOf_72 : decode cX2_worthOf 72 = .ok (.ireturn, 1) := by decide +kernel
set_option maxRecDepth 20000 in
theorem ggX2_gainBy_X9_isMember : GoodIn wsX2_gainBy wsX9_isMember := goodIn_r _ [7] (by decide +kernel) (by decide +kernel)
set_option maxRecDepth 20000 in
theorem gX2_gainBy_X9_isMember_n44 : GoodIn wsX2_gainBy (wsX9_isMember) := ggX2_gainBy_X9_isMember
set_option maxRecDepth 20000 in
theorem ggX2_gainBy_X9_spotOf : GoodIn wsX2_gainBy wsX9_spotOf := goodIn_r _ [9] (by decide +kernel) (by decide +kernel)
set_option maxRecDepth 20000 in
theorem gX2_gainBy_X9_spotOf_n54 : GoodIn wsX2_gainBy (wsX9_spotOf) := ggX2_gainBy_X9_spotOf
theorem dX2_gainBy_0 : decode cX2_gainBy 0 = .ok (.iconst 0, 1) := by decide +kernel
theorem dX2_gainBy_1 : decode cX2_gainBy 1 = .ok (.istore_n 3, 1) := by decide +kernel
theorem dX2_gainBy_2 : decode cX2_gainBy 2 = .ok (.iconst 0, 1) := by decide +kernel
theorem dX2_gainBy_3 : decode cX2_gainBy 3 = .ok (.istore 4, 2) := by decide +kernel
theorem dX2_gainBy_5 : decode cX2_gainBy 5 = .ok (.iload 4, 2) := by decide +kernel
theorem dX2_gainBy_7 : decode cX2_gainBy 7 = .ok (.iconst 4, 1) := by decide +kernel
theorem dX2_gainBy_8 : decode cX2_gainBy 8 = .ok (.if_icmp .ge 46, 3) := by decide +kernel
theorem dX2_gainBy_11 : decode cX2_gainBy 11 = .ok (.aload_n 0, 1) := by decide +kernel
theorem dX2_gainBy_12 : decode cX2_gainBy 12 = .ok (.getfield 18, 3) := by decide +kernel
theorem dX2_gainBy_15 : decode cX2_gainBy 15 = .ok (.iload_n 1, 1) := by decide +kernel
theorem dX2_gainBy_16 : decode cX2_gainBy 16 = .ok (.iaload, 1) := by decide +kernel
theorem dX2_gainBy_17 : decode cX2_gainBy 17 = .ok (.iload 4, 2) := by decide +kernel
theorem dX2_gainBy_19 : decode cX2_gainBy 19 = .ok (.invokestatic 44, 3) := by decide +kernel
theorem dX2_gainBy_22 : decode cX2_gainBy 22 = .ok (.ifCond .eq 26, 3) := by decide +kernel
theorem dX2_gainBy_25 : decode cX2_gainBy 25 = .ok (.iload_n 3, 1) := by decide +kernel
theorem dX2_gainBy_26 : decode cX2_gainBy 26 = .ok (.aload_n 2, 1) := by decide +kernel
theorem dX2_gainBy_27 : decode cX2_gainBy 27 = .ok (.aload_n 0, 1) := by decide +kernel
theorem dX2_gainBy_28 : decode cX2_gainBy 28 = .ok (.getfield 15, 3) := by decide +kernel
theorem dX2_gainBy_31 : decode cX2_gainBy 31 = .ok (.iload_n 1, 1) := by decide +kernel
theorem dX2_gainBy_32 : decode cX2_gainBy 32 = .ok (.iaload, 1) := by decide +kernel
theorem dX2_gainBy_33 : decode cX2_gainBy 33 = .ok (.iload 4, 2) := by decide +kernel
theorem dX2_gainBy_35 : decode cX2_gainBy 35 = .ok (.invokestatic 54, 3) := by decide +kernel
theorem dX2_gainBy_38 : decode cX2_gainBy 38 = .ok (.iaload, 1) := by decide +kernel
theorem dX2_gainBy_39 : decode cX2_gainBy 39 = .ok (.aload_n 0, 1) := by decide +kernel
theorem dX2_gainBy_40 : decode cX2_gainBy 40 = .ok (.getfield 25, 3) := by decide +kernel
theorem dX2_gainBy_43 : decode cX2_gainBy 43 = .ok (.iload_n 1, 1) := by decide +kernel
theorem dX2_gainBy_44 : decode cX2_gainBy 44 = .ok (.iaload, 1) := by decide +kernel
theorem dX2_gainBy_45 : decode cX2_gainBy 45 = .ok (.isub, 1) := by decide +kernel
theorem dX2_gainBy_46 : decode cX2_gainBy 46 = .ok (.iadd, 1) := by decide +kernel
theorem dX2_gainBy_47 : decode cX2_gainBy 47 = .ok (.istore_n 3, 1) := by decide +kernel
theorem dX2_gainBy_48 : decode cX2_gainBy 48 = .ok (.iinc 4 1, 3) := by decide +kernel
theorem dX2_gainBy_51 : decode cX2_gainBy 51 = .ok (.goto (-46), 3) := by decide +kernel
theorem dX2_gainBy_54 : decode cX2_gainBy 54 = .ok (.aload_n 0, 1) := by decide +kernel
theorem dX2_gainBy_55 : decode cX2_gainBy 55 = .ok (.getfield 21, 3) := by decide +kernel
theorem dX2_gainBy_58 : decode cX2_gainBy 58 = .ok (.iload_n 1, 1) := by decide +kernel
theorem dX2_gainBy_59 : decode cX2_gainBy 59 = .ok (.baload, 1) := by decide +kernel
theorem dX2_gainBy_60 : decode cX2_gainBy 60 = .ok (.ifCond .eq 8, 3) := by decide +kernel
theorem dX2_gainBy_63 : decode cX2_gainBy 63 = .ok (.iload_n 3, 1) := by decide +kernel
theorem dX2_gainBy_64 : decode cX2_gainBy 64 = .ok (.ineg, 1) := by decide +kernel
theorem dX2_gainBy_65 : decode cX2_gainBy 65 = .ok (.goto 4, 3) := by decide +kernel
theorem dX2_gainBy_68 : decode cX2_gainBy 68 = .ok (.iload_n 3, 1) := by decide +kernel
theorem dX2_gainBy_69 : decode cX2_gainBy 69 = .ok (.ireturn, 1) := by decide +kernel
set_option maxRecDepth 20000 in
theorem ggX2_hasLoser_X9_isMember : GoodIn wsX2_hasLoser wsX9_isMember := goodIn_r _ [4] (by decide +kernel) (by decide +kernel)
set_option maxRecDepth 20000 in
theorem gX2_hasLoser_X9_isMember_n44 : GoodIn wsX2_hasLoser (wsX9_isMember) := ggX2_hasLoser_X9_isMember
set_option maxRecDepth 20000 in
theorem ggX2_hasLoser_X2_gainBy : GoodIn wsX2_hasLoser wsX2_gainBy := goodIn_r _ [9, 10, 11, 12, 13, 2, 3, 4, 14, 15, 16, 17, 18, 19, 20, 21, 22, 23, 24, 25] (by decide +kernel) (by decide +kernel)
set_option maxRecDepth 20000 in
theorem gX2_hasLoser_X2_gainBy : GoodIn wsX2_hasLoser (wsV RX2 58 RX2 yX2_gainBy wsX2_gainBy) := goodIn_app (goodIn_of _ (by decide +kernel)) ggX2_hasLoser_X2_gainBy
theorem dX2_hasLoser_0 : decode cX2_hasLoser 0 = .ok (.iconst 0, 1) := by decide +kernel
theorem dX2_hasLoser_1 : decode cX2_hasLoser 1 = .ok (.istore_n 3, 1) := by decide +kernel
theorem dX2_hasLoser_2 : decode cX2_hasLoser 2 = .ok (.iload_n 3, 1) := by decide +kernel
theorem dX2_hasLoser_3 : decode cX2_hasLoser 3 = .ok (.aload_n 0, 1) := by decide +kernel
theorem dX2_hasLoser_4 : decode cX2_hasLoser 4 = .ok (.getfield 37, 3) := by decide +kernel
theorem dX2_hasLoser_7 : decode cX2_hasLoser 7 = .ok (.if_icmp .ge 28, 3) := by decide +kernel
theorem dX2_hasLoser_10 : decode cX2_hasLoser 10 = .ok (.iload_n 1, 1) := by decide +kernel
theorem dX2_hasLoser_11 : decode cX2_hasLoser 11 = .ok (.iload_n 3, 1) := by decide +kernel
theorem dX2_hasLoser_12 : decode cX2_hasLoser 12 = .ok (.invokestatic 44, 3) := by decide +kernel
theorem dX2_hasLoser_15 : decode cX2_hasLoser 15 = .ok (.ifCond .eq 14, 3) := by decide +kernel
theorem dX2_hasLoser_18 : decode cX2_hasLoser 18 = .ok (.aload_n 0, 1) := by decide +kernel
theorem dX2_hasLoser_19 : decode cX2_hasLoser 19 = .ok (.iload_n 3, 1) := by decide +kernel
theorem dX2_hasLoser_20 : decode cX2_hasLoser 20 = .ok (.aload_n 2, 1) := by decide +kernel
theorem dX2_hasLoser_21 : decode cX2_hasLoser 21 = .ok (.invokevirtual 58, 3) := by decide +kernel
theorem dX2_hasLoser_24 : decode cX2_hasLoser 24 = .ok (.ifCond .ge 5, 3) := by decide +kernel
theorem dX2_hasLoser_27 : decode cX2_hasLoser 27 = .ok (.iconst 1, 1) := by decide +kernel
theorem dX2_hasLoser_28 : decode cX2_hasLoser 28 = .ok (.ireturn, 1) := by decide +kernel
theorem dX2_hasLoser_29 : decode cX2_hasLoser 29 = .ok (.iinc 3 1, 3) := by decide +kernel
theorem dX2_hasLoser_32 : decode cX2_hasLoser 32 = .ok (.goto (-30), 3) := by decide +kernel
theorem dX2_hasLoser_35 : decode cX2_hasLoser 35 = .ok (.iconst 0, 1) := by decide +kernel
theorem dX2_hasLoser_36 : decode cX2_hasLoser 36 = .ok (.ireturn, 1) := by decide +kernel
set_option maxRecDepth 20000 in
theorem ggX3_init_X6_init : GoodIn wsX3_init wsX6_init := goodIn_r _ [28, 29, 2, 3, 22, 30, 79] (by decide +kernel) (by decide +kernel)
set_option maxRecDepth 20000 in
theorem gX3_init_X6_init_n11 : GoodIn wsX3_init (wsX6_init) := ggX3_init_X6_init
set_option maxRecDepth 20000 in
theorem ggX3_init_X8_init : GoodIn wsX3_init wsX8_init := goodIn_r _ [33, 34, 2, 3, 35, 22, 36, 37, 38, 20, 39, 40, 41, 42, 43, 89, 90, 91, 92, 93, 94, 95, 96, 97] (by decide +kernel) (by decide +kernel)
set_option maxRecDepth 20000 in
theorem gX3_init_X8_init : GoodIn wsX3_init (wsX8_init) := ggX3_init_X8_init
set_option maxRecDepth 20000 in
theorem ggX3_init_X2_init : GoodIn wsX3_init wsX2_init := goodIn_r _ [45, 46, 2, 3, 22, 47, 48, 49, 20, 50, 51, 52, 53, 54, 55, 56, 98, 99, 100, 101, 102, 103, 104, 105, 106, 107] (by decide +kernel) (by decide +kernel)
set_option maxRecDepth 20000 in
theorem gX3_init_X2_init_n29 : GoodIn wsX3_init (wsX2_init) := ggX3_init_X2_init
set_option maxRecDepth 20000 in
theorem ggX3_init_X7_init : GoodIn wsX3_init wsX7_init := goodIn_r _ [59, 60, 2, 3, 61, 62, 22, 63, 64, 65, 66, 67, 68, 69, 70, 71, 72, 73, 74, 75, 76, 77, 78, 108, 109, 110, 111, 112, 113, 114, 115, 116, 117, 118] (by decide +kernel) (by decide +kernel)
set_option maxRecDepth 20000 in
theorem gX3_init_X7_init : GoodIn wsX3_init (wsX7_init) := ggX3_init_X7_init
theorem dX3_init_0 : decode cX3_init 0 = .ok (.aload_n 0, 1) := by decide +kernel
theorem dX3_init_1 : decode cX3_init 1 = .ok (.invokespecial 3, 3) := by decide +kernel
theorem dX3_init_4 : decode cX3_init 4 = .ok (.aload_n 0, 1) := by decide +kernel
theorem dX3_init_5 : decode cX3_init 5 = .ok (.new 9, 3) := by decide +kernel
theorem dX3_init_8 : decode cX3_init 8 = .ok (.dup, 1) := by decide +kernel
theorem dX3_init_9 : decode cX3_init 9 = .ok (.invokespecial 11, 3) := by decide +kernel
theorem dX3_init_12 : decode cX3_init 12 = .ok (.putfield 12, 3) := by decide +kernel
theorem dX3_init_15 : decode cX3_init 15 = .ok (.aload_n 0, 1) := by decide +kernel
theorem dX3_init_16 : decode cX3_init 16 = .ok (.new 18, 3) := by decide +kernel
theorem dX3_init_19 : decode cX3_init 19 = .ok (.dup, 1) := by decide +kernel
theorem dX3_init_20 : decode cX3_init 20 = .ok (.bipush 40, 2) := by decide +kernel
theorem dX3_init_22 : decode cX3_init 22 = .ok (.invokespecial 20, 3) := by decide +kernel
theorem dX3_init_25 : decode cX3_init 25 = .ok (.putfield 23, 3) := by decide +kernel
theorem dX3_init_28 : decode cX3_init 28 = .ok (.aload_n 0, 1) := by decide +kernel
theorem dX3_init_29 : decode cX3_init 29 = .ok (.new 27, 3) := by decide +kernel
theorem dX3_init_32 : decode cX3_init 32 = .ok (.dup, 1) := by decide +kernel
theorem dX3_init_33 : decode cX3_init 33 = .ok (.invokespecial 29, 3) := by decide +kernel
theorem dX3_init_36 : decode cX3_init 36 = .ok (.putfield 30, 3) := by decide +kernel
theorem dX3_init_39 : decode cX3_init 39 = .ok (.aload_n 0, 1) := by decide +kernel
theorem dX3_init_40 : decode cX3_init 40 = .ok (.new 34, 3) := by decide +kernel
theorem dX3_init_43 : decode cX3_init 43 = .ok (.dup, 1) := by decide +kernel
theorem dX3_init_44 : decode cX3_init 44 = .ok (.invokespecial 36, 3) := by decide +kernel
theorem dX3_init_47 : decode cX3_init 47 = .ok (.putfield 37, 3) := by decide +kernel
theorem dX3_init_50 : decode cX3_init 50 = .ok (.aload_n 0, 1) := by decide +kernel
theorem dX3_init_51 : decode cX3_init 51 = .ok (.sipush 128, 3) := by decide +kernel
theorem dX3_init_54 : decode cX3_init 54 = .ok (.newarray .boolean, 2) := by decide +kernel
theorem dX3_init_56 : decode cX3_init 56 = .ok (.putfield 41, 3) := by decide +kernel
theorem dX3_init_59 : decode cX3_init 59 = .ok (.aload_n 0, 1) := by decide +kernel
theorem dX3_init_60 : decode cX3_init 60 = .ok (.sipush 128, 3) := by decide +kernel
theorem dX3_init_63 : decode cX3_init 63 = .ok (.newarray .int, 2) := by decide +kernel
theorem dX3_init_65 : decode cX3_init 65 = .ok (.putfield 45, 3) := by decide +kernel
theorem dX3_init_68 : decode cX3_init 68 = .ok (.aload_n 0, 1) := by decide +kernel
theorem dX3_init_69 : decode cX3_init 69 = .ok (.sipush 384, 3) := by decide +kernel
theorem dX3_init_72 : decode cX3_init 72 = .ok (.newarray .int, 2) := by decide +kernel
theorem dX3_init_74 : decode cX3_init 74 = .ok (.putfield 49, 3) := by decide +kernel
theorem dX3_init_77 : decode cX3_init 77 = .ok (.aload_n 0, 1) := by decide +kernel
theorem dX3_init_78 : decode cX3_init 78 = .ok (.sipush 384, 3) := by decide +kernel
theorem dX3_init_81 : decode cX3_init 81 = .ok (.newarray .int, 2) := by decide +kernel
theorem dX3_init_83 : decode cX3_init 83 = .ok (.putfield 52, 3) := by decide +kernel
theorem dX3_init_86 : decode cX3_init 86 = .ok (.aload_n 0, 1) := by decide +kernel
theorem dX3_init_87 : decode cX3_init 87 = .ok (.bipush 12, 2) := by decide +kernel
theorem dX3_init_89 : decode cX3_init 89 = .ok (.newarray .int, 2) := by decide +kernel
theorem dX3_init_91 : decode cX3_init 91 = .ok (.putfield 55, 3) := by decide +kernel
theorem dX3_init_94 : decode cX3_init 94 = .ok (.return_, 1) := by decide +kernel
set_option maxRecDepth 20000 in
theorem ggX3_clearDay_X3_searchHour : GoodIn wsX3_clearDay wsX3_searchHour := goodIn_r _ [8, 9, 10, 1, 2, 11, 12, 13, 14, 15, 16, 17, 18, 19, 20, 21, 22, 23, 24, 25, 26, 27, 28, 29, 30, 31, 32, 33, 34, 35, 36, 37, 38, 39, 40, 41, 42, 43, 44, 45, 46, 47, 48, 49, 50, 51, 52, 53, 54, 55, 56, 57, 58, 59, 60, 61, 62, 63, 64, 65, 66, 67, 68, 69, 7, 70, 71, 72, 73, 74, 75, 76, 77, 78, 79, 80, 81, 82, 83, 84, 85, 86, 87, 88, 89, 90, 91, 92, 93, 94, 95, 96, 97, 98, 99, 100, 101, 102, 103, 104, 105, 106, 107, 108, 109, 110, 111, 112, 113, 114, 115, 116, 117, 118, 119, 120, 121, 122, 123, 124, 125, 126, 127, 128, 129, 130, 131, 132, 133, 134, 135, 136, 137, 138, 139, 140, 141, 142, 143, 144, 145, 146, 147, 148, 149, 150, 151, 152, 153, 154, 155, 212, 213, 214, 215, 216, 217, 218, 219, 220, 231, 232, 233, 234, 235, 236, 237, 238, 239, 240, 241, 242, 243, 244, 245, 246, 247, 248, 249, 250, 221, 222, 223, 224, 225, 226, 227, 228, 229, 230, 251] (by decide +kernel) (by decide +kernel)
set_option maxRecDepth 20000 in
theorem gX3_clearDay_X3_searchHour : GoodIn wsX3_clearDay (wsV RX3 58 RX3 yX3_searchHour wsX3_searchHour) := goodIn_app (goodIn_of _ (by decide +kernel)) ggX3_clearDay_X3_searchHour
set_option maxRecDepth 20000 in
theorem ggX3_clearDay_X3_bestSet : GoodIn wsX3_clearDay wsX3_bestSet := goodIn_r _ [159, 2, 160, 161, 162, 7, 163, 147, 164, 165, 166, 167, 80, 168, 82, 169, 108, 83, 107, 84, 85, 86, 170, 171, 172, 173, 174, 175, 176, 73, 74, 75, 76, 77, 78, 79, 81, 67, 68, 69, 70, 71, 72, 51, 52, 53, 87, 88, 89, 90, 91, 92, 177, 178, 179, 180, 181, 151, 182, 183, 184, 185, 186, 187, 188, 189, 190, 191, 106, 212, 213, 214, 215, 216, 217, 218, 219, 220, 221, 222, 223, 224, 225, 226, 227, 228, 229, 230] (by decide +kernel) (by decide +kernel)
set_option maxRecDepth 20000 in
theorem gX3_clearDay_X3_bestSet : GoodIn wsX3_clearDay (wsV RX3 61 RX3 yX3_bestSet wsX3_bestSet) := goodIn_app (goodIn_of _ (by decide +kernel)) ggX3_clearDay_X3_bestSet
set_option maxRecDepth 20000 in
theorem ggX3_clearDay_X3_takeHour : GoodIn wsX3_clearDay wsX3_takeHour := goodIn_r _ [195, 2, 3, 9, 10, 149, 196, 197, 198, 151, 77, 78, 79, 80, 81, 82, 83, 84, 85, 86, 73, 74, 75, 7, 76, 12, 13, 14, 15, 16, 17, 18, 19, 20, 21, 22, 23, 24, 25, 26, 27, 28, 29, 30, 31, 32, 33, 34, 35, 36, 37, 38, 39, 40, 41, 199, 103, 104, 105, 106, 107, 108, 200, 60, 61, 62, 54, 55, 52, 56, 63, 64, 65, 66, 201, 202, 203, 204, 205, 206, 207, 208, 209, 51, 53, 210, 211, 182, 183, 212, 213, 214, 215, 216, 217, 218, 219, 220, 221, 222, 223, 224, 225, 226, 227, 228, 229, 230, 231, 232, 233, 234, 235, 236, 252, 253, 254, 255, 256, 257, 258, 259, 237, 238, 239, 240, 241, 242, 243, 244, 245, 246, 247, 248, 249, 250] (by decide +kernel) (by decide +kernel)
set_option maxRecDepth 20000 in
theorem gX3_clearDay_X3_takeHour : GoodIn wsX3_clearDay (wsV RX3 69 RX3 yX3_takeHour wsX3_takeHour) := goodIn_app (goodIn_of _ (by decide +kernel)) ggX3_clearDay_X3_takeHour
theorem dX3_clearDay_0 : decode cX3_clearDay 0 = .ok (.iconst 0, 1) := by decide +kernel
theorem dX3_clearDay_1 : decode cX3_clearDay 1 = .ok (.istore_n 2, 1) := by decide +kernel
theorem dX3_clearDay_2 : decode cX3_clearDay 2 = .ok (.iload_n 2, 1) := by decide +kernel
theorem dX3_clearDay_3 : decode cX3_clearDay 3 = .ok (.aload_n 0, 1) := by decide +kernel
theorem dX3_clearDay_4 : decode cX3_clearDay 4 = .ok (.getfield 41, 3) := by decide +kernel
theorem dX3_clearDay_7 : decode cX3_clearDay 7 = .ok (.arraylength, 1) := by decide +kernel
theorem dX3_clearDay_8 : decode cX3_clearDay 8 = .ok (.if_icmp .ge 16, 3) := by decide +kernel
theorem dX3_clearDay_11 : decode cX3_clearDay 11 = .ok (.aload_n 0, 1) := by decide +kernel
theorem dX3_clearDay_12 : decode cX3_clearDay 12 = .ok (.getfield 41, 3) := by decide +kernel
theorem dX3_clearDay_15 : decode cX3_clearDay 15 = .ok (.iload_n 2, 1) := by decide +kernel
theorem dX3_clearDay_16 : decode cX3_clearDay 16 = .ok (.iconst 0, 1) := by decide +kernel
theorem dX3_clearDay_17 : decode cX3_clearDay 17 = .ok (.bastore, 1) := by decide +kernel
theorem dX3_clearDay_18 : decode cX3_clearDay 18 = .ok (.iinc 2 1, 3) := by decide +kernel
theorem dX3_clearDay_21 : decode cX3_clearDay 21 = .ok (.goto (-19), 3) := by decide +kernel
theorem dX3_clearDay_24 : decode cX3_clearDay 24 = .ok (.iconst 0, 1) := by decide +kernel
theorem dX3_clearDay_25 : decode cX3_clearDay 25 = .ok (.istore_n 2, 1) := by decide +kernel
theorem dX3_clearDay_26 : decode cX3_clearDay 26 = .ok (.iload_n 2, 1) := by decide +kernel
theorem dX3_clearDay_27 : decode cX3_clearDay 27 = .ok (.iconst 4, 1) := by decide +kernel
theorem dX3_clearDay_28 : decode cX3_clearDay 28 = .ok (.if_icmp .ge 14, 3) := by decide +kernel
theorem dX3_clearDay_31 : decode cX3_clearDay 31 = .ok (.aload_n 0, 1) := by decide +kernel
theorem dX3_clearDay_32 : decode cX3_clearDay 32 = .ok (.iload_n 2, 1) := by decide +kernel
theorem dX3_clearDay_33 : decode cX3_clearDay 33 = .ok (.invokevirtual 58, 3) := by decide +kernel
theorem dX3_clearDay_36 : decode cX3_clearDay 36 = .ok (.iinc 2 1, 3) := by decide +kernel
theorem dX3_clearDay_39 : decode cX3_clearDay 39 = .ok (.goto (-13), 3) := by decide +kernel
theorem dX3_clearDay_42 : decode cX3_clearDay 42 = .ok (.aload_n 0, 1) := by decide +kernel
theorem dX3_clearDay_43 : decode cX3_clearDay 43 = .ok (.getfield 30, 3) := by decide +kernel
theorem dX3_clearDay_46 : decode cX3_clearDay 46 = .ok (.aload_n 0, 1) := by decide +kernel
theorem dX3_clearDay_47 : decode cX3_clearDay 47 = .ok (.invokevirtual 61, 3) := by decide +kernel
theorem dX3_clearDay_50 : decode cX3_clearDay 50 = .ok (.putfield 65, 3) := by decide +kernel
theorem dX3_clearDay_53 : decode cX3_clearDay 53 = .ok (.iconst 0, 1) := by decide +kernel
theorem dX3_clearDay_54 : decode cX3_clearDay 54 = .ok (.istore_n 2, 1) := by decide +kernel
theorem dX3_clearDay_55 : decode cX3_clearDay 55 = .ok (.iload_n 2, 1) := by decide +kernel
theorem dX3_clearDay_56 : decode cX3_clearDay 56 = .ok (.iconst 4, 1) := by decide +kernel
theorem dX3_clearDay_57 : decode cX3_clearDay 57 = .ok (.if_icmp .ge 15, 3) := by decide +kernel
theorem dX3_clearDay_60 : decode cX3_clearDay 60 = .ok (.aload_n 0, 1) := by decide +kernel
theorem dX3_clearDay_61 : decode cX3_clearDay 61 = .ok (.iload_n 2, 1) := by decide +kernel
theorem dX3_clearDay_62 : decode cX3_clearDay 62 = .ok (.aload_n 1, 1) := by decide +kernel
theorem dX3_clearDay_63 : decode cX3_clearDay 63 = .ok (.invokevirtual 69, 3) := by decide +kernel
theorem dX3_clearDay_66 : decode cX3_clearDay 66 = .ok (.iinc 2 1, 3) := by decide +kernel
theorem dX3_clearDay_69 : decode cX3_clearDay 69 = .ok (.goto (-14), 3) := by decide +kernel
theorem dX3_clearDay_72 : decode cX3_clearDay 72 = .ok (.return_, 1) := by decide +kernel
theorem dX3_setCount_0 : decode cX3_setCount 0 = .ok (.bipush 32, 2) := by decide +kernel
theorem dX3_setCount_2 : decode cX3_setCount 2 = .ok (.iconst 1, 1) := by decide +kernel
theorem dX3_setCount_3 : decode cX3_setCount 3 = .ok (.aload_n 0, 1) := by decide +kernel
theorem dX3_setCount_4 : decode cX3_setCount 4 = .ok (.getfield 30, 3) := by decide +kernel
theorem dX3_setCount_7 : decode cX3_setCount 7 = .ok (.getfield 73, 3) := by decide +kernel
theorem dX3_setCount_10 : decode cX3_setCount 10 = .ok (.ishl, 1) := by decide +kernel
theorem dX3_setCount_11 : decode cX3_setCount 11 = .ok (.invokestatic 76, 3) := by decide +kernel
theorem dX3_setCount_14 : decode cX3_setCount 14 = .ok (.ireturn, 1) := by decide +kernel
set_option maxRecDepth 20000 in
theorem ggX3_slotOf_X2_partIn : GoodIn wsX3_slotOf wsX2_partIn := goodIn_r _ [6, 7, 8, 9, 10, 11, 21, 22, 23, 24, 25, 26, 27, 28, 29, 30] (by decide +kernel) (by decide +kernel)
set_option maxRecDepth 20000 in
theorem gX3_slotOf_X2_partIn : GoodIn wsX3_slotOf (wsV RX3 82 RX2 yX2_partIn wsX2_partIn) := goodIn_app (goodIn_of _ (by decide +kernel)) ggX3_slotOf_X2_partIn
theorem dX3_slotOf_0 : decode cX3_slotOf 0 = .ok (.iload_n 2, 1) := by decide +kernel
theorem dX3_slotOf_1 : decode cX3_slotOf 1 = .ok (.bipush 32, 2) := by decide +kernel
theorem dX3_slotOf_3 : decode cX3_slotOf 3 = .ok (.imul, 1) := by decide +kernel
theorem dX3_slotOf_4 : decode cX3_slotOf 4 = .ok (.aload_n 0, 1) := by decide +kernel
theorem dX3_slotOf_5 : decode cX3_slotOf 5 = .ok (.getfield 30, 3) := by decide +kernel
theorem dX3_slotOf_8 : decode cX3_slotOf 8 = .ok (.iload_n 1, 1) := by decide +kernel
theorem dX3_slotOf_9 : decode cX3_slotOf 9 = .ok (.iload_n 2, 1) := by decide +kernel
theorem dX3_slotOf_10 : decode cX3_slotOf 10 = .ok (.invokevirtual 82, 3) := by decide +kernel
theorem dX3_slotOf_13 : decode cX3_slotOf 13 = .ok (.iadd, 1) := by decide +kernel
theorem dX3_slotOf_14 : decode cX3_slotOf 14 = .ok (.ireturn, 1) := by decide +kernel
set_option maxRecDepth 20000 in
theorem ggX3_searchHour_X7_draw : GoodIn wsX3_searchHour wsX7_draw := goodIn_r _ [10, 11, 12, 13, 14, 15, 16, 17, 18, 19, 20, 21, 22, 23, 24, 25, 26, 27, 28, 29, 30, 31, 32, 33, 34, 35, 160, 161, 162, 163, 164, 165, 166, 167, 168, 169, 170, 171, 172, 173, 174, 175, 176, 177, 178, 179] (by decide +kernel) (by decide +kernel)
set_option maxRecDepth 20000 in
theorem gX3_searchHour_X7_draw : GoodIn wsX3_searchHour (wsV RX3 85 RX7 yX7_draw wsX7_draw) := goodIn_app (goodIn_of _ (by decide +kernel)) ggX3_searchHour_X7_draw
set_option maxRecDepth 20000 in
theorem ggX3_searchHour_X7_weighBids : GoodIn wsX3_searchHour wsX7_weighBids := goodIn_r _ [39, 11, 40, 41, 42, 15, 43, 17, 44, 45, 46, 47, 18, 48, 49, 50, 51, 52, 22, 25, 53, 54, 55, 56, 57, 58, 59, 60, 160, 161, 162, 163, 164, 165, 166, 167, 168, 169, 170] (by decide +kernel) (by decide +kernel)
set_option maxRecDepth 20000 in
theorem gX3_searchHour_X7_weighBids : GoodIn wsX3_searchHour (wsV RX3 89 RX7 yX7_weighBids wsX7_weighBids) := goodIn_app (goodIn_of _ (by decide +kernel)) ggX3_searchHour_X7_weighBids
set_option maxRecDepth 20000 in
theorem ggX3_searchHour_X3_setCount : GoodIn wsX3_searchHour wsX3_setCount := goodIn_r _ [65, 4, 66, 67, 45, 46, 47, 151, 152, 153, 154, 155, 156, 157, 158, 159, 180, 181, 182, 183, 184, 185, 186, 187, 188, 189] (by decide +kernel) (by decide +kernel)
set_option maxRecDepth 20000 in
theorem gX3_searchHour_X3_setCount : GoodIn wsX3_searchHour (wsV RX3 92 RX3 yX3_setCount wsX3_setCount) := goodIn_app (goodIn_of _ (by decide +kernel)) ggX3_searchHour_X3_setCount
set_option maxRecDepth 20000 in
theorem ggX3_searchHour_X3_slotOf : GoodIn wsX3_searchHour wsX3_slotOf := goodIn_r _ [71, 4, 72, 73, 74, 75, 76, 77, 78, 79, 80, 81, 151, 152, 153, 154, 155, 156, 157, 158, 159, 180, 181, 182, 183, 184, 185, 186, 187, 188, 189] (by decide +kernel) (by decide +kernel)
set_option maxRecDepth 20000 in
theorem gX3_searchHour_X3_slotOf : GoodIn wsX3_searchHour (wsV RX3 95 RX3 yX3_slotOf wsX3_slotOf) := goodIn_app (goodIn_of _ (by decide +kernel)) ggX3_searchHour_X3_slotOf
set_option maxRecDepth 20000 in
theorem ggX3_searchHour_X2_isAllowed : GoodIn wsX3_searchHour wsX2_isAllowed := goodIn_r _ [85, 77, 86, 87, 79, 80, 81, 180, 181, 182, 183, 184, 185, 186, 187, 188, 189] (by decide +kernel) (by decide +kernel)
set_option maxRecDepth 20000 in
theorem gX3_searchHour_X2_isAllowed : GoodIn wsX3_searchHour (wsV RX3 98 RX2 yX2_isAllowed wsX2_isAllowed) := goodIn_app (goodIn_of _ (by decide +kernel)) ggX3_searchHour_X2_isAllowed
set_option maxRecDepth 20000 in
theorem ggX3_searchHour_X2_partIn : GoodIn wsX3_searchHour wsX2_partIn := goodIn_r _ [76, 77, 78, 79, 80, 81, 180, 181, 182, 183, 184, 185, 186, 187, 188, 189] (by decide +kernel) (by decide +kernel)
set_option maxRecDepth 20000 in
theorem gX3_searchHour_X2_partIn : GoodIn wsX3_searchHour (wsV RX3 82 RX2 yX2_partIn wsX2_partIn) := goodIn_app (goodIn_of _ (by decide +kernel)) ggX3_searchHour_X2_partIn
set_option maxRecDepth 20000 in
theorem ggX3_searchHour_X7_search : GoodIn wsX3_searchHour wsX7_search := goodIn_r _ [91, 92, 93, 94, 95, 96, 97, 98, 99, 75, 100, 77, 101, 102, 103, 79, 80, 81, 104, 105, 106, 9, 107, 11, 108, 109, 45, 46, 47, 110, 111, 112, 113, 114, 115, 49, 50, 116, 117, 118, 119, 120, 121, 122, 123, 124, 125, 126, 127, 128, 129, 130, 131, 132, 133, 15, 134, 18, 17, 52, 51, 135, 136, 137, 160, 161, 162, 163, 164, 165, 180, 181, 182, 183, 184, 185, 186, 187, 188, 189, 166, 167, 168, 169, 170, 190] (by decide +kernel) (by decide +kernel)
set_option maxRecDepth 20000 in
theorem gX3_searchHour_X7_search : GoodIn wsX3_searchHour (wsV RX3 102 RX7 yX7_search wsX7_search) := goodIn_app (goodIn_of _ (by decide +kernel)) ggX3_searchHour_X7_search
set_option maxRecDepth 20000 in
theorem ggX3_searchHour_X3_keep : GoodIn wsX3_searchHour wsX3_keep := goodIn_r _ [141, 3, 142, 1, 143, 144, 145, 146, 147, 148, 149, 9, 150, 93, 92, 96, 151, 152, 153, 154, 155, 156, 157, 158, 159, 160, 161, 162, 163, 164, 165] (by decide +kernel) (by decide +kernel)
set_option maxRecDepth 20000 in
theorem gX3_searchHour_X3_keep : GoodIn wsX3_searchHour (wsV RX3 105 RX3 yX3_keep wsX3_keep) := goodIn_app (goodIn_of _ (by decide +kernel)) ggX3_searchHour_X3_keep
theorem dX3_searchHour_0 : decode cX3_searchHour 0 = .ok (.aload_n 0, 1) := by decide +kernel
theorem dX3_searchHour_1 : decode cX3_searchHour 1 = .ok (.getfield 37, 3) := by decide +kernel
theorem dX3_searchHour_4 : decode cX3_searchHour 4 = .ok (.aload_n 0, 1) := by decide +kernel
theorem dX3_searchHour_5 : decode cX3_searchHour 5 = .ok (.getfield 23, 3) := by decide +kernel
theorem dX3_searchHour_8 : decode cX3_searchHour 8 = .ok (.iload_n 1, 1) := by decide +kernel
theorem dX3_searchHour_9 : decode cX3_searchHour 9 = .ok (.invokevirtual 85, 3) := by decide +kernel
theorem dX3_searchHour_12 : decode cX3_searchHour 12 = .ok (.aload_n 0, 1) := by decide +kernel
theorem dX3_searchHour_13 : decode cX3_searchHour 13 = .ok (.getfield 37, 3) := by decide +kernel
theorem dX3_searchHour_16 : decode cX3_searchHour 16 = .ok (.invokevirtual 89, 3) := by decide +kernel
theorem dX3_searchHour_19 : decode cX3_searchHour 19 = .ok (.aload_n 0, 1) := by decide +kernel
theorem dX3_searchHour_20 : decode cX3_searchHour 20 = .ok (.invokevirtual 92, 3) := by decide +kernel
theorem dX3_searchHour_23 : decode cX3_searchHour 23 = .ok (.istore_n 2, 1) := by decide +kernel
theorem dX3_searchHour_24 : decode cX3_searchHour 24 = .ok (.iconst 0, 1) := by decide +kernel
theorem dX3_searchHour_25 : decode cX3_searchHour 25 = .ok (.istore_n 3, 1) := by decide +kernel
theorem dX3_searchHour_26 : decode cX3_searchHour 26 = .ok (.iload_n 3, 1) := by decide +kernel
theorem dX3_searchHour_27 : decode cX3_searchHour 27 = .ok (.iload_n 2, 1) := by decide +kernel
theorem dX3_searchHour_28 : decode cX3_searchHour 28 = .ok (.if_icmp .ge 68, 3) := by decide +kernel
theorem dX3_searchHour_31 : decode cX3_searchHour 31 = .ok (.aload_n 0, 1) := by decide +kernel
theorem dX3_searchHour_32 : decode cX3_searchHour 32 = .ok (.iload_n 3, 1) := by decide +kernel
theorem dX3_searchHour_33 : decode cX3_searchHour 33 = .ok (.iload_n 1, 1) := by decide +kernel
theorem dX3_searchHour_34 : decode cX3_searchHour 34 = .ok (.invokevirtual 95, 3) := by decide +kernel
theorem dX3_searchHour_37 : decode cX3_searchHour 37 = .ok (.istore 4, 2) := by decide +kernel
theorem dX3_searchHour_39 : decode cX3_searchHour 39 = .ok (.aload_n 0, 1) := by decide +kernel
theorem dX3_searchHour_40 : decode cX3_searchHour 40 = .ok (.getfield 41, 3) := by decide +kernel
theorem dX3_searchHour_43 : decode cX3_searchHour 43 = .ok (.iload 4, 2) := by decide +kernel
theorem dX3_searchHour_45 : decode cX3_searchHour 45 = .ok (.baload, 1) := by decide +kernel
theorem dX3_searchHour_46 : decode cX3_searchHour 46 = .ok (.ifCond .ne 44, 3) := by decide +kernel
theorem dX3_searchHour_49 : decode cX3_searchHour 49 = .ok (.aload_n 0, 1) := by decide +kernel
theorem dX3_searchHour_50 : decode cX3_searchHour 50 = .ok (.getfield 30, 3) := by decide +kernel
theorem dX3_searchHour_53 : decode cX3_searchHour 53 = .ok (.iload_n 3, 1) := by decide +kernel
theorem dX3_searchHour_54 : decode cX3_searchHour 54 = .ok (.invokevirtual 98, 3) := by decide +kernel
theorem dX3_searchHour_57 : decode cX3_searchHour 57 = .ok (.ifCond .eq 33, 3) := by decide +kernel
theorem dX3_searchHour_60 : decode cX3_searchHour 60 = .ok (.aload_n 0, 1) := by decide +kernel
theorem dX3_searchHour_61 : decode cX3_searchHour 61 = .ok (.getfield 37, 3) := by decide +kernel
theorem dX3_searchHour_64 : decode cX3_searchHour 64 = .ok (.aload_n 0, 1) := by decide +kernel
theorem dX3_searchHour_65 : decode cX3_searchHour 65 = .ok (.getfield 12, 3) := by decide +kernel
theorem dX3_searchHour_68 : decode cX3_searchHour 68 = .ok (.aload_n 0, 1) := by decide +kernel
theorem dX3_searchHour_69 : decode cX3_searchHour 69 = .ok (.getfield 30, 3) := by decide +kernel
theorem dX3_searchHour_72 : decode cX3_searchHour 72 = .ok (.aload_n 0, 1) := by decide +kernel
theorem dX3_searchHour_73 : decode cX3_searchHour 73 = .ok (.getfield 30, 3) := by decide +kernel
theorem dX3_searchHour_76 : decode cX3_searchHour 76 = .ok (.iload_n 3, 1) := by decide +kernel
theorem dX3_searchHour_77 : decode cX3_searchHour 77 = .ok (.iload_n 1, 1) := by decide +kernel
theorem dX3_searchHour_78 : decode cX3_searchHour 78 = .ok (.invokevirtual 82, 3) := by decide +kernel
theorem dX3_searchHour_81 : decode cX3_searchHour 81 = .ok (.invokevirtual 102, 3) := by decide +kernel
theorem dX3_searchHour_84 : decode cX3_searchHour 84 = .ok (.aload_n 0, 1) := by decide +kernel
theorem dX3_searchHour_85 : decode cX3_searchHour 85 = .ok (.iload 4, 2) := by decide +kernel
theorem dX3_searchHour_87 : decode cX3_searchHour 87 = .ok (.invokevirtual 105, 3) := by decide +kernel
theorem dX3_searchHour_90 : decode cX3_searchHour 90 = .ok (.iinc 3 1, 3) := by decide +kernel
theorem dX3_searchHour_93 : decode cX3_searchHour 93 = .ok (.goto (-67), 3) := by decide +kernel
theorem dX3_searchHour_96 : decode cX3_searchHour 96 = .ok (.return_, 1) := by decide +kernel
set_option maxRecDepth 20000 in
theorem ggX3_keep_X7_priceOf : GoodIn wsX3_keep wsX7_priceOf := goodIn_r _ [12, 13, 14, 15, 25, 26, 27, 28, 29, 30] (by decide +kernel) (by decide +kernel)
set_option maxRecDepth 20000 in
theorem gX3_keep_X7_priceOf : GoodIn wsX3_keep (wsV RX3 112 RX7 yX7_priceOf wsX7_priceOf) := goodIn_app (goodIn_of _ (by decide +kernel)) ggX3_keep_X7_priceOf
theorem dX3_keep_0 : decode cX3_keep 0 = .ok (.aload_n 0, 1) := by decide +kernel
theorem dX3_keep_1 : decode cX3_keep 1 = .ok (.getfield 41, 3) := by decide +kernel
theorem dX3_keep_4 : decode cX3_keep 4 = .ok (.iload_n 1, 1) := by decide +kernel
theorem dX3_keep_5 : decode cX3_keep 5 = .ok (.iconst 1, 1) := by decide +kernel
theorem dX3_keep_6 : decode cX3_keep 6 = .ok (.bastore, 1) := by decide +kernel
theorem dX3_keep_7 : decode cX3_keep 7 = .ok (.aload_n 0, 1) := by decide +kernel
theorem dX3_keep_8 : decode cX3_keep 8 = .ok (.getfield 45, 3) := by decide +kernel
theorem dX3_keep_11 : decode cX3_keep 11 = .ok (.iload_n 1, 1) := by decide +kernel
theorem dX3_keep_12 : decode cX3_keep 12 = .ok (.aload_n 0, 1) := by decide +kernel
theorem dX3_keep_13 : decode cX3_keep 13 = .ok (.getfield 37, 3) := by decide +kernel
theorem dX3_keep_16 : decode cX3_keep 16 = .ok (.getfield 108, 3) := by decide +kernel
theorem dX3_keep_19 : decode cX3_keep 19 = .ok (.iastore, 1) := by decide +kernel
theorem dX3_keep_20 : decode cX3_keep 20 = .ok (.iconst 0, 1) := by decide +kernel
theorem dX3_keep_21 : decode cX3_keep 21 = .ok (.istore_n 2, 1) := by decide +kernel
theorem dX3_keep_22 : decode cX3_keep 22 = .ok (.iload_n 2, 1) := by decide +kernel
theorem dX3_keep_23 : decode cX3_keep 23 = .ok (.iconst 3, 1) := by decide +kernel
theorem dX3_keep_24 : decode cX3_keep 24 = .ok (.if_icmp .ge 46, 3) := by decide +kernel
theorem dX3_keep_27 : decode cX3_keep 27 = .ok (.aload_n 0, 1) := by decide +kernel
theorem dX3_keep_28 : decode cX3_keep 28 = .ok (.getfield 49, 3) := by decide +kernel
theorem dX3_keep_31 : decode cX3_keep 31 = .ok (.iload_n 1, 1) := by decide +kernel
theorem dX3_keep_32 : decode cX3_keep 32 = .ok (.iconst 3, 1) := by decide +kernel
theorem dX3_keep_33 : decode cX3_keep 33 = .ok (.imul, 1) := by decide +kernel
theorem dX3_keep_34 : decode cX3_keep 34 = .ok (.iload_n 2, 1) := by decide +kernel
theorem dX3_keep_35 : decode cX3_keep 35 = .ok (.iadd, 1) := by decide +kernel
theorem dX3_keep_36 : decode cX3_keep 36 = .ok (.aload_n 0, 1) := by decide +kernel
theorem dX3_keep_37 : decode cX3_keep 37 = .ok (.getfield 37, 3) := by decide +kernel
theorem dX3_keep_40 : decode cX3_keep 40 = .ok (.getfield 111, 3) := by decide +kernel
theorem dX3_keep_43 : decode cX3_keep 43 = .ok (.iload_n 2, 1) := by decide +kernel
theorem dX3_keep_44 : decode cX3_keep 44 = .ok (.iaload, 1) := by decide +kernel
theorem dX3_keep_45 : decode cX3_keep 45 = .ok (.iastore, 1) := by decide +kernel
theorem dX3_keep_46 : decode cX3_keep 46 = .ok (.aload_n 0, 1) := by decide +kernel
theorem dX3_keep_47 : decode cX3_keep 47 = .ok (.getfield 52, 3) := by decide +kernel
theorem dX3_keep_50 : decode cX3_keep 50 = .ok (.iload_n 1, 1) := by decide +kernel
theorem dX3_keep_51 : decode cX3_keep 51 = .ok (.iconst 3, 1) := by decide +kernel
theorem dX3_keep_52 : decode cX3_keep 52 = .ok (.imul, 1) := by decide +kernel
theorem dX3_keep_53 : decode cX3_keep 53 = .ok (.iload_n 2, 1) := by decide +kernel
theorem dX3_keep_54 : decode cX3_keep 54 = .ok (.iadd, 1) := by decide +kernel
theorem dX3_keep_55 : decode cX3_keep 55 = .ok (.aload_n 0, 1) := by decide +kernel
theorem dX3_keep_56 : decode cX3_keep 56 = .ok (.getfield 37, 3) := by decide +kernel
theorem dX3_keep_59 : decode cX3_keep 59 = .ok (.iload_n 2, 1) := by decide +kernel
theorem dX3_keep_60 : decode cX3_keep 60 = .ok (.invokevirtual 112, 3) := by decide +kernel
theorem dX3_keep_63 : decode cX3_keep 63 = .ok (.iastore, 1) := by decide +kernel
theorem dX3_keep_64 : decode cX3_keep 64 = .ok (.iinc 2 1, 3) := by decide +kernel
theorem dX3_keep_67 : decode cX3_keep 67 = .ok (.goto (-45), 3) := by decide +kernel
theorem dX3_keep_70 : decode cX3_keep 70 = .ok (.return_, 1) := by decide +kernel
set_option maxRecDepth 20000 in
theorem ggX3_bestSet_X3_worthWith : GoodIn wsX3_bestSet wsX3_worthWith := goodIn_r _ [6, 1, 7, 8, 9, 10, 11, 12, 13, 14, 15, 16, 17, 18, 19, 20, 21, 22, 23, 24, 25, 26, 27, 28, 29, 30, 31, 5, 32, 33, 34, 35, 36, 69, 70, 71, 72, 73, 74, 75, 76, 77, 78, 79, 80, 81, 82, 83, 84, 85, 86, 87] (by decide +kernel) (by decide +kernel)
set_option maxRecDepth 20000 in
theorem gX3_bestSet_X3_worthWith : GoodIn wsX3_bestSet (wsV RX3 116 RX3 yX3_worthWith wsX3_worthWith) := goodIn_app (goodIn_of _ (by decide +kernel)) ggX3_bestSet_X3_worthWith
set_option maxRecDepth 20000 in
theorem ggX3_bestSet_X3_setCount : GoodIn wsX3_bestSet wsX3_setCount := goodIn_r _ [40, 1, 41, 42, 43, 44, 45, 69, 70, 71, 72, 73, 74, 75, 76, 77, 78, 79, 80, 81, 82, 83, 84, 85, 86, 87] (by decide +kernel) (by decide +kernel)
set_option maxRecDepth 20000 in
theorem gX3_bestSet_X3_setCount : GoodIn wsX3_bestSet (wsV RX3 92 RX3 yX3_setCount wsX3_setCount) := goodIn_app (goodIn_of _ (by decide +kernel)) ggX3_bestSet_X3_setCount
set_option maxRecDepth 20000 in
theorem ggX3_bestSet_X2_isAllowed : GoodIn wsX3_bestSet wsX2_isAllowed := goodIn_r _ [49, 14, 50, 51, 19, 20, 21, 78, 79, 80, 81, 82, 83, 84, 85, 86, 87] (by decide +kernel) (by decide +kernel)
set_option maxRecDepth 20000 in
theorem gX3_bestSet_X2_isAllowed : GoodIn wsX3_bestSet (wsV RX3 98 RX2 yX2_isAllowed wsX2_isAllowed) := goodIn_app (goodIn_of _ (by decide +kernel)) ggX3_bestSet_X2_isAllowed
set_option maxRecDepth 20000 in
theorem ggX3_bestSet_X3_isLosing : GoodIn wsX3_bestSet wsX3_isLosing := goodIn_r _ [55, 56, 57, 1, 29, 30, 31, 5, 32, 33, 34, 35, 12, 36, 14, 17, 19, 20, 21, 58, 59, 60, 61, 62, 63, 64, 65, 66, 67, 68, 15, 18, 69, 70, 71, 72, 73, 74, 75, 76, 77, 78, 79, 80, 81, 82, 83, 84, 85, 86, 87] (by decide +kernel) (by decide +kernel)
set_option maxRecDepth 20000 in
theorem gX3_bestSet_X3_isLosing : GoodIn wsX3_bestSet (wsV RX3 119 RX3 yX3_isLosing wsX3_isLosing) := goodIn_app (goodIn_of _ (by decide +kernel)) ggX3_bestSet_X3_isLosing
theorem dX3_bestSet_0 : decode cX3_bestSet 0 = .ok (.iconst 0, 1) := by decide +kernel
theorem dX3_bestSet_1 : decode cX3_bestSet 1 = .ok (.istore_n 1, 1) := by decide +kernel
theorem dX3_bestSet_2 : decode cX3_bestSet 2 = .ok (.aload_n 0, 1) := by decide +kernel
theorem dX3_bestSet_3 : decode cX3_bestSet 3 = .ok (.iconst 0, 1) := by decide +kernel
theorem dX3_bestSet_4 : decode cX3_bestSet 4 = .ok (.invokevirtual 116, 3) := by decide +kernel
theorem dX3_bestSet_7 : decode cX3_bestSet 7 = .ok (.istore_n 2, 1) := by decide +kernel
theorem dX3_bestSet_8 : decode cX3_bestSet 8 = .ok (.aload_n 0, 1) := by decide +kernel
theorem dX3_bestSet_9 : decode cX3_bestSet 9 = .ok (.invokevirtual 92, 3) := by decide +kernel
theorem dX3_bestSet_12 : decode cX3_bestSet 12 = .ok (.istore_n 3, 1) := by decide +kernel
theorem dX3_bestSet_13 : decode cX3_bestSet 13 = .ok (.iconst 1, 1) := by decide +kernel
theorem dX3_bestSet_14 : decode cX3_bestSet 14 = .ok (.istore 4, 2) := by decide +kernel
theorem dX3_bestSet_16 : decode cX3_bestSet 16 = .ok (.iload 4, 2) := by decide +kernel
theorem dX3_bestSet_18 : decode cX3_bestSet 18 = .ok (.iload_n 3, 1) := by decide +kernel
theorem dX3_bestSet_19 : decode cX3_bestSet 19 = .ok (.if_icmp .ge 50, 3) := by decide +kernel
theorem dX3_bestSet_22 : decode cX3_bestSet 22 = .ok (.aload_n 0, 1) := by decide +kernel
theorem dX3_bestSet_23 : decode cX3_bestSet 23 = .ok (.getfield 30, 3) := by decide +kernel
theorem dX3_bestSet_26 : decode cX3_bestSet 26 = .ok (.iload 4, 2) := by decide +kernel
theorem dX3_bestSet_28 : decode cX3_bestSet 28 = .ok (.invokevirtual 98, 3) := by decide +kernel
theorem dX3_bestSet_31 : decode cX3_bestSet 31 = .ok (.ifCond .eq 32, 3) := by decide +kernel
theorem dX3_bestSet_34 : decode cX3_bestSet 34 = .ok (.aload_n 0, 1) := by decide +kernel
theorem dX3_bestSet_35 : decode cX3_bestSet 35 = .ok (.iload 4, 2) := by decide +kernel
theorem dX3_bestSet_37 : decode cX3_bestSet 37 = .ok (.invokevirtual 116, 3) := by decide +kernel
theorem dX3_bestSet_40 : decode cX3_bestSet 40 = .ok (.istore 5, 2) := by decide +kernel
theorem dX3_bestSet_42 : decode cX3_bestSet 42 = .ok (.iload 5, 2) := by decide +kernel
theorem dX3_bestSet_44 : decode cX3_bestSet 44 = .ok (.iload_n 2, 1) := by decide +kernel
theorem dX3_bestSet_45 : decode cX3_bestSet 45 = .ok (.if_icmp .le 18, 3) := by decide +kernel
theorem dX3_bestSet_48 : decode cX3_bestSet 48 = .ok (.aload_n 0, 1) := by decide +kernel
theorem dX3_bestSet_49 : decode cX3_bestSet 49 = .ok (.iload 4, 2) := by decide +kernel
theorem dX3_bestSet_51 : decode cX3_bestSet 51 = .ok (.invokevirtual 119, 3) := by decide +kernel
theorem dX3_bestSet_54 : decode cX3_bestSet 54 = .ok (.ifCond .ne 9, 3) := by decide +kernel
theorem dX3_bestSet_57 : decode cX3_bestSet 57 = .ok (.iload 4, 2) := by decide +kernel
theorem dX3_bestSet_59 : decode cX3_bestSet 59 = .ok (.istore_n 1, 1) := by decide +kernel
theorem dX3_bestSet_60 : decode cX3_bestSet 60 = .ok (.iload 5, 2) := by decide +kernel
theorem dX3_bestSet_62 : decode cX3_bestSet 62 = .ok (.istore_n 2, 1) := by decide +kernel
theorem dX3_bestSet_63 : decode cX3_bestSet 63 = .ok (.iinc 4 1, 3) := by decide +kernel
theorem dX3_bestSet_66 : decode cX3_bestSet 66 = .ok (.goto (-50), 3) := by decide +kernel
theorem dX3_bestSet_69 : decode cX3_bestSet 69 = .ok (.iload_n 1, 1) := by decide +kernel
theorem dX3_bestSet_70 : decode cX3_bestSet 70 = .ok (.ireturn, 1) := by decide +kernel
set_option maxRecDepth 20000 in
theorem ggX3_worthWith_X2_worthOf : GoodIn wsX3_worthWith wsX2_worthOf := goodIn_r _ [8, 9, 10, 11, 12, 13, 14, 15, 16, 17, 18, 19, 20, 21, 22, 23, 42, 43, 44, 45, 46, 47, 48, 49, 50, 51] (by decide +kernel) (by decide +kernel)
set_option maxRecDepth 20000 in
theorem gX3_worthWith_X2_worthOf : GoodIn wsX3_worthWith (wsV RX3 122 RX2 yX2_worthOf wsX2_worthOf) := goodIn_app (goodIn_of _ (by decide +kernel)) ggX3_worthWith_X2_worthOf
set_option maxRecDepth 20000 in
theorem ggX3_worthWith_X3_slotOf : GoodIn wsX3_worthWith wsX3_slotOf := goodIn_r _ [28, 1, 29, 30, 31, 7, 32, 9, 12, 14, 15, 16, 33, 34, 35, 36, 37, 38, 39, 40, 41, 42, 43, 44, 45, 46, 47, 48, 49, 50, 51] (by decide +kernel) (by decide +kernel)
set_option maxRecDepth 20000 in
theorem gX3_worthWith_X3_slotOf : GoodIn wsX3_worthWith (wsV RX3 95 RX3 yX3_slotOf wsX3_slotOf) := goodIn_app (goodIn_of _ (by decide +kernel)) ggX3_worthWith_X3_slotOf
theorem dX3_worthWith_0 : decode cX3_worthWith 0 = .ok (.aload_n 0, 1) := by decide +kernel
theorem dX3_worthWith_1 : decode cX3_worthWith 1 = .ok (.getfield 30, 3) := by decide +kernel
theorem dX3_worthWith_4 : decode cX3_worthWith 4 = .ok (.iload_n 1, 1) := by decide +kernel
theorem dX3_worthWith_5 : decode cX3_worthWith 5 = .ok (.invokevirtual 122, 3) := by decide +kernel
theorem dX3_worthWith_8 : decode cX3_worthWith 8 = .ok (.istore_n 2, 1) := by decide +kernel
theorem dX3_worthWith_9 : decode cX3_worthWith 9 = .ok (.iconst 0, 1) := by decide +kernel
theorem dX3_worthWith_10 : decode cX3_worthWith 10 = .ok (.istore_n 3, 1) := by decide +kernel
theorem dX3_worthWith_11 : decode cX3_worthWith 11 = .ok (.iload_n 3, 1) := by decide +kernel
theorem dX3_worthWith_12 : decode cX3_worthWith 12 = .ok (.iconst 4, 1) := by decide +kernel
theorem dX3_worthWith_13 : decode cX3_worthWith 13 = .ok (.if_icmp .ge 37, 3) := by decide +kernel
theorem dX3_worthWith_16 : decode cX3_worthWith 16 = .ok (.aload_n 0, 1) := by decide +kernel
theorem dX3_worthWith_17 : decode cX3_worthWith 17 = .ok (.getfield 45, 3) := by decide +kernel
theorem dX3_worthWith_20 : decode cX3_worthWith 20 = .ok (.aload_n 0, 1) := by decide +kernel
theorem dX3_worthWith_21 : decode cX3_worthWith 21 = .ok (.iload_n 1, 1) := by decide +kernel
theorem dX3_worthWith_22 : decode cX3_worthWith 22 = .ok (.iload_n 3, 1) := by decide +kernel
theorem dX3_worthWith_23 : decode cX3_worthWith 23 = .ok (.invokevirtual 95, 3) := by decide +kernel
theorem dX3_worthWith_26 : decode cX3_worthWith 26 = .ok (.iaload, 1) := by decide +kernel
theorem dX3_worthWith_27 : decode cX3_worthWith 27 = .ok (.istore 4, 2) := by decide +kernel
theorem dX3_worthWith_29 : decode cX3_worthWith 29 = .ok (.iload 4, 2) := by decide +kernel
theorem dX3_worthWith_31 : decode cX3_worthWith 31 = .ok (.ldc 125, 2) := by decide +kernel
theorem dX3_worthWith_33 : decode cX3_worthWith 33 = .ok (.if_icmp .ne 6, 3) := by decide +kernel
theorem dX3_worthWith_36 : decode cX3_worthWith 36 = .ok (.ldc 125, 2) := by decide +kernel
theorem dX3_worthWith_38 : decode cX3_worthWith 38 = .ok (.ireturn, 1) := by decide +kernel
theorem dX3_worthWith_39 : decode cX3_worthWith 39 = .ok (.iload_n 2, 1) := by decide +kernel
theorem dX3_worthWith_40 : decode cX3_worthWith 40 = .ok (.iload 4, 2) := by decide +kernel
theorem dX3_worthWith_42 : decode cX3_worthWith 42 = .ok (.iadd, 1) := by decide +kernel
theorem dX3_worthWith_43 : decode cX3_worthWith 43 = .ok (.istore_n 2, 1) := by decide +kernel
theorem dX3_worthWith_44 : decode cX3_worthWith 44 = .ok (.iinc 3 1, 3) := by decide +kernel
theorem dX3_worthWith_47 : decode cX3_worthWith 47 = .ok (.goto (-36), 3) := by decide +kernel
theorem dX3_worthWith_50 : decode cX3_worthWith 50 = .ok (.iload_n 2, 1) := by decide +kernel
theorem dX3_worthWith_51 : decode cX3_worthWith 51 = .ok (.ireturn, 1) := by decide +kernel
set_option maxRecDepth 20000 in
theorem ggX3_isLosing_X3_slotOf : GoodIn wsX3_isLosing wsX3_slotOf := goodIn_r _ [8, 3, 9, 10, 11, 12, 13, 14, 15, 16, 17, 18, 32, 33, 34, 35, 36, 37, 38, 39, 40, 41, 42, 43, 44, 45, 46, 47, 48, 49, 50] (by decide +kernel) (by decide +kernel)
set_option maxRecDepth 20000 in
theorem gX3_isLosing_X3_slotOf : GoodIn wsX3_isLosing (wsV RX3 95 RX3 yX3_slotOf wsX3_slotOf) := goodIn_app (goodIn_of _ (by decide +kernel)) ggX3_isLosing_X3_slotOf
set_option maxRecDepth 20000 in
theorem ggX3_isLosing_X9_spotOf : GoodIn wsX3_isLosing wsX9_spotOf := goodIn_r _ [20] (by decide +kernel) (by decide +kernel)
set_option maxRecDepth 20000 in
theorem gX3_isLosing_X9_spotOf_n126 : GoodIn wsX3_isLosing (wsX9_spotOf) := ggX3_isLosing_X9_spotOf
set_option maxRecDepth 20000 in
theorem ggX3_isLosing_X2_hasLoser : GoodIn wsX3_isLosing wsX2_hasLoser := goodIn_r _ [24, 14, 16, 17, 18, 25, 26, 27, 12, 28, 15, 29, 30, 31, 19, 20, 41, 42, 43, 44, 45, 46, 47, 48, 49, 50] (by decide +kernel) (by decide +kernel)
set_option maxRecDepth 20000 in
theorem gX3_isLosing_X2_hasLoser : GoodIn wsX3_isLosing (wsV RX3 129 RX2 yX2_hasLoser wsX2_hasLoser) := goodIn_app (goodIn_of _ (by decide +kernel)) ggX3_isLosing_X2_hasLoser
theorem dX3_isLosing_0 : decode cX3_isLosing 0 = .ok (.iconst 0, 1) := by decide +kernel
theorem dX3_isLosing_1 : decode cX3_isLosing 1 = .ok (.istore_n 2, 1) := by decide +kernel
theorem dX3_isLosing_2 : decode cX3_isLosing 2 = .ok (.iload_n 2, 1) := by decide +kernel
theorem dX3_isLosing_3 : decode cX3_isLosing 3 = .ok (.iconst 4, 1) := by decide +kernel
theorem dX3_isLosing_4 : decode cX3_isLosing 4 = .ok (.if_icmp .ge 53, 3) := by decide +kernel
theorem dX3_isLosing_7 : decode cX3_isLosing 7 = .ok (.aload_n 0, 1) := by decide +kernel
theorem dX3_isLosing_8 : decode cX3_isLosing 8 = .ok (.iload_n 1, 1) := by decide +kernel
theorem dX3_isLosing_9 : decode cX3_isLosing 9 = .ok (.iload_n 2, 1) := by decide +kernel
theorem dX3_isLosing_10 : decode cX3_isLosing 10 = .ok (.invokevirtual 95, 3) := by decide +kernel
theorem dX3_isLosing_13 : decode cX3_isLosing 13 = .ok (.istore_n 3, 1) := by decide +kernel
theorem dX3_isLosing_14 : decode cX3_isLosing 14 = .ok (.iconst 0, 1) := by decide +kernel
theorem dX3_isLosing_15 : decode cX3_isLosing 15 = .ok (.istore 4, 2) := by decide +kernel
theorem dX3_isLosing_17 : decode cX3_isLosing 17 = .ok (.iload 4, 2) := by decide +kernel
theorem dX3_isLosing_19 : decode cX3_isLosing 19 = .ok (.iconst 3, 1) := by decide +kernel
theorem dX3_isLosing_20 : decode cX3_isLosing 20 = .ok (.if_icmp .ge 31, 3) := by decide +kernel
theorem dX3_isLosing_23 : decode cX3_isLosing 23 = .ok (.aload_n 0, 1) := by decide +kernel
theorem dX3_isLosing_24 : decode cX3_isLosing 24 = .ok (.getfield 55, 3) := by decide +kernel
theorem dX3_isLosing_27 : decode cX3_isLosing 27 = .ok (.iload 4, 2) := by decide +kernel
theorem dX3_isLosing_29 : decode cX3_isLosing 29 = .ok (.iload_n 2, 1) := by decide +kernel
theorem dX3_isLosing_30 : decode cX3_isLosing 30 = .ok (.invokestatic 126, 3) := by decide +kernel
theorem dX3_isLosing_33 : decode cX3_isLosing 33 = .ok (.aload_n 0, 1) := by decide +kernel
theorem dX3_isLosing_34 : decode cX3_isLosing 34 = .ok (.getfield 52, 3) := by decide +kernel
theorem dX3_isLosing_37 : decode cX3_isLosing 37 = .ok (.iload_n 3, 1) := by decide +kernel
theorem dX3_isLosing_38 : decode cX3_isLosing 38 = .ok (.iconst 3, 1) := by decide +kernel
theorem dX3_isLosing_39 : decode cX3_isLosing 39 = .ok (.imul, 1) := by decide +kernel
theorem dX3_isLosing_40 : decode cX3_isLosing 40 = .ok (.iload 4, 2) := by decide +kernel
theorem dX3_isLosing_42 : decode cX3_isLosing 42 = .ok (.iadd, 1) := by decide +kernel
theorem dX3_isLosing_43 : decode cX3_isLosing 43 = .ok (.iaload, 1) := by decide +kernel
theorem dX3_isLosing_44 : decode cX3_isLosing 44 = .ok (.iastore, 1) := by decide +kernel
theorem dX3_isLosing_45 : decode cX3_isLosing 45 = .ok (.iinc 4 1, 3) := by decide +kernel
theorem dX3_isLosing_48 : decode cX3_isLosing 48 = .ok (.goto (-31), 3) := by decide +kernel
theorem dX3_isLosing_51 : decode cX3_isLosing 51 = .ok (.iinc 2 1, 3) := by decide +kernel
theorem dX3_isLosing_54 : decode cX3_isLosing 54 = .ok (.goto (-52), 3) := by decide +kernel
theorem dX3_isLosing_57 : decode cX3_isLosing 57 = .ok (.aload_n 0, 1) := by decide +kernel
theorem dX3_isLosing_58 : decode cX3_isLosing 58 = .ok (.getfield 30, 3) := by decide +kernel
theorem dX3_isLosing_61 : decode cX3_isLosing 61 = .ok (.iload_n 1, 1) := by decide +kernel
theorem dX3_isLosing_62 : decode cX3_isLosing 62 = .ok (.aload_n 0, 1) := by decide +kernel
theorem dX3_isLosing_63 : decode cX3_isLosing 63 = .ok (.getfield 55, 3) := by decide +kernel
theorem dX3_isLosing_66 : decode cX3_isLosing 66 = .ok (.invokevirtual 129, 3) := by decide +kernel
theorem dX3_isLosing_69 : decode cX3_isLosing 69 = .ok (.ireturn, 1) := by decide +kernel
set_option maxRecDepth 20000 in
theorem ggX3_takeHour_X2_partIn : GoodIn wsX3_takeHour wsX2_partIn := goodIn_r _ [14, 15, 16, 17, 18, 19, 98, 99, 100, 101, 102, 103, 104, 105, 106, 107] (by decide +kernel) (by decide +kernel)
set_option maxRecDepth 20000 in
theorem gX3_takeHour_X2_partIn : GoodIn wsX3_takeHour (wsV RX3 82 RX2 yX2_partIn wsX2_partIn) := goodIn_app (goodIn_of _ (by decide +kernel)) ggX3_takeHour_X2_partIn
set_option maxRecDepth 20000 in
theorem ggX3_takeHour_X3_slotOf : GoodIn wsX3_takeHour wsX3_slotOf := goodIn_r _ [24, 1, 10, 11, 12, 13, 14, 15, 16, 17, 18, 19, 89, 90, 91, 92, 93, 94, 95, 96, 97, 98, 99, 100, 101, 102, 103, 104, 105, 106, 107] (by decide +kernel) (by decide +kernel)
set_option maxRecDepth 20000 in
theorem gX3_takeHour_X3_slotOf : GoodIn wsX3_takeHour (wsV RX3 95 RX3 yX3_slotOf wsX3_slotOf) := goodIn_app (goodIn_of _ (by decide +kernel)) ggX3_takeHour_X3_slotOf
set_option maxRecDepth 20000 in
theorem ggX3_takeHour_X7_draw : GoodIn wsX3_takeHour wsX7_draw := goodIn_r _ [29, 30, 31, 32, 33, 34, 35, 36, 37, 38, 39, 40, 41, 42, 43, 44, 45, 46, 47, 48, 49, 50, 51, 52, 53, 54, 108, 109, 110, 111, 112, 113, 122, 123, 124, 125, 126, 127, 128, 129, 130, 131, 132, 133, 134, 135] (by decide +kernel) (by decide +kernel)
set_option maxRecDepth 20000 in
theorem gX3_takeHour_X7_draw : GoodIn wsX3_takeHour (wsV RX3 85 RX7 yX7_draw wsX7_draw) := goodIn_app (goodIn_of _ (by decide +kernel)) ggX3_takeHour_X7_draw
set_option maxRecDepth 20000 in
theorem ggX3_takeHour_X2_unitsOf : GoodIn wsX3_takeHour wsX2_unitsOf := goodIn_r _ [58, 15, 59, 60, 61, 17, 18, 19, 98, 99, 100, 101, 102, 103, 104, 105, 106, 107] (by decide +kernel) (by decide +kernel)
set_option maxRecDepth 20000 in
theorem gX3_takeHour_X2_unitsOf : GoodIn wsX3_takeHour (wsV RX3 133 RX2 yX2_unitsOf wsX2_unitsOf) := goodIn_app (goodIn_of _ (by decide +kernel)) ggX3_takeHour_X2_unitsOf
set_option maxRecDepth 20000 in
theorem ggX3_takeHour_X4_buysFor : GoodIn wsX3_takeHour wsX4_buysFor := goodIn_r _ [65, 66, 67, 68, 69, 37, 36, 70, 71, 72, 34, 73, 41, 44, 122, 123, 124, 125, 126] (by decide +kernel) (by decide +kernel)
set_option maxRecDepth 20000 in
theorem gX3_takeHour_X4_buysFor : GoodIn wsX3_takeHour (wsV RX3 140 RX4 yX4_buysFor wsX4_buysFor) := goodIn_app (goodIn_of _ (by decide +kernel)) ggX3_takeHour_X4_buysFor
set_option maxRecDepth 20000 in
theorem ggX3_takeHour_X8_take : GoodIn wsX3_takeHour wsX8_take := goodIn_r _ [77, 78, 79, 80, 81, 82, 83, 68, 84, 85, 86, 46, 47, 48, 49, 50, 51, 127, 128, 129, 130, 131, 132, 133, 134, 135] (by decide +kernel) (by decide +kernel)
set_option maxRecDepth 20000 in
theorem gX3_takeHour_X8_take : GoodIn wsX3_takeHour (wsV RX3 145 RX8 yX8_take wsX8_take) := goodIn_app (goodIn_of _ (by decide +kernel)) ggX3_takeHour_X8_take
set_option maxRecDepth 20000 in
theorem ggX3_takeHour_X9_spotOf : GoodIn wsX3_takeHour wsX9_spotOf := goodIn_r _ [88] (by decide +kernel) (by decide +kernel)
set_option maxRecDepth 20000 in
theorem gX3_takeHour_X9_spotOf_n126 : GoodIn wsX3_takeHour (wsX9_spotOf) := ggX3_takeHour_X9_spotOf
theorem dX3_takeHour_0 : decode cX3_takeHour 0 = .ok (.aload_n 0, 1) := by decide +kernel
theorem dX3_takeHour_1 : decode cX3_takeHour 1 = .ok (.getfield 30, 3) := by decide +kernel
theorem dX3_takeHour_4 : decode cX3_takeHour 4 = .ok (.aload_n 0, 1) := by decide +kernel
theorem dX3_takeHour_5 : decode cX3_takeHour 5 = .ok (.getfield 30, 3) := by decide +kernel
theorem dX3_takeHour_8 : decode cX3_takeHour 8 = .ok (.getfield 65, 3) := by decide +kernel
theorem dX3_takeHour_11 : decode cX3_takeHour 11 = .ok (.iload_n 1, 1) := by decide +kernel
theorem dX3_takeHour_12 : decode cX3_takeHour 12 = .ok (.invokevirtual 82, 3) := by decide +kernel
theorem dX3_takeHour_15 : decode cX3_takeHour 15 = .ok (.istore_n 3, 1) := by decide +kernel
theorem dX3_takeHour_16 : decode cX3_takeHour 16 = .ok (.aload_n 0, 1) := by decide +kernel
theorem dX3_takeHour_17 : decode cX3_takeHour 17 = .ok (.aload_n 0, 1) := by decide +kernel
theorem dX3_takeHour_18 : decode cX3_takeHour 18 = .ok (.getfield 30, 3) := by decide +kernel
theorem dX3_takeHour_21 : decode cX3_takeHour 21 = .ok (.getfield 65, 3) := by decide +kernel
theorem dX3_takeHour_24 : decode cX3_takeHour 24 = .ok (.iload_n 1, 1) := by decide +kernel
theorem dX3_takeHour_25 : decode cX3_takeHour 25 = .ok (.invokevirtual 95, 3) := by decide +kernel
theorem dX3_takeHour_28 : decode cX3_takeHour 28 = .ok (.istore 4, 2) := by decide +kernel
theorem dX3_takeHour_30 : decode cX3_takeHour 30 = .ok (.aload_n 0, 1) := by decide +kernel
theorem dX3_takeHour_31 : decode cX3_takeHour 31 = .ok (.getfield 37, 3) := by decide +kernel
theorem dX3_takeHour_34 : decode cX3_takeHour 34 = .ok (.aload_n 0, 1) := by decide +kernel
theorem dX3_takeHour_35 : decode cX3_takeHour 35 = .ok (.getfield 23, 3) := by decide +kernel
theorem dX3_takeHour_38 : decode cX3_takeHour 38 = .ok (.iload_n 1, 1) := by decide +kernel
theorem dX3_takeHour_39 : decode cX3_takeHour 39 = .ok (.invokevirtual 85, 3) := by decide +kernel
theorem dX3_takeHour_42 : decode cX3_takeHour 42 = .ok (.iconst 0, 1) := by decide +kernel
theorem dX3_takeHour_43 : decode cX3_takeHour 43 = .ok (.istore 5, 2) := by decide +kernel
theorem dX3_takeHour_45 : decode cX3_takeHour 45 = .ok (.iload 5, 2) := by decide +kernel
theorem dX3_takeHour_47 : decode cX3_takeHour 47 = .ok (.iconst 3, 1) := by decide +kernel
theorem dX3_takeHour_48 : decode cX3_takeHour 48 = .ok (.if_icmp .ge 114, 3) := by decide +kernel
theorem dX3_takeHour_51 : decode cX3_takeHour 51 = .ok (.aload_n 0, 1) := by decide +kernel
theorem dX3_takeHour_52 : decode cX3_takeHour 52 = .ok (.getfield 49, 3) := by decide +kernel
theorem dX3_takeHour_55 : decode cX3_takeHour 55 = .ok (.iload 4, 2) := by decide +kernel
theorem dX3_takeHour_57 : decode cX3_takeHour 57 = .ok (.iconst 3, 1) := by decide +kernel
theorem dX3_takeHour_58 : decode cX3_takeHour 58 = .ok (.imul, 1) := by decide +kernel
theorem dX3_takeHour_59 : decode cX3_takeHour 59 = .ok (.iload 5, 2) := by decide +kernel
theorem dX3_takeHour_61 : decode cX3_takeHour 61 = .ok (.iadd, 1) := by decide +kernel
theorem dX3_takeHour_62 : decode cX3_takeHour 62 = .ok (.iaload, 1) := by decide +kernel
theorem dX3_takeHour_63 : decode cX3_takeHour 63 = .ok (.istore 6, 2) := by decide +kernel
theorem dX3_takeHour_65 : decode cX3_takeHour 65 = .ok (.iload 6, 2) := by decide +kernel
theorem dX3_takeHour_67 : decode cX3_takeHour 67 = .ok (.aload_n 0, 1) := by decide +kernel
theorem dX3_takeHour_68 : decode cX3_takeHour 68 = .ok (.getfield 30, 3) := by decide +kernel
theorem dX3_takeHour_71 : decode cX3_takeHour 71 = .ok (.iload_n 3, 1) := by decide +kernel
theorem dX3_takeHour_72 : decode cX3_takeHour 72 = .ok (.iload 5, 2) := by decide +kernel
theorem dX3_takeHour_74 : decode cX3_takeHour 74 = .ok (.invokevirtual 133, 3) := by decide +kernel
theorem dX3_takeHour_77 : decode cX3_takeHour 77 = .ok (.isub, 1) := by decide +kernel
theorem dX3_takeHour_78 : decode cX3_takeHour 78 = .ok (.istore 7, 2) := by decide +kernel
theorem dX3_takeHour_80 : decode cX3_takeHour 80 = .ok (.aload_n 0, 1) := by decide +kernel
theorem dX3_takeHour_81 : decode cX3_takeHour 81 = .ok (.getfield 37, 3) := by decide +kernel
theorem dX3_takeHour_84 : decode cX3_takeHour 84 = .ok (.getfield 136, 3) := by decide +kernel
theorem dX3_takeHour_87 : decode cX3_takeHour 87 = .ok (.iload 5, 2) := by decide +kernel
theorem dX3_takeHour_89 : decode cX3_takeHour 89 = .ok (.aaload, 1) := by decide +kernel
theorem dX3_takeHour_90 : decode cX3_takeHour 90 = .ok (.iload 7, 2) := by decide +kernel
theorem dX3_takeHour_92 : decode cX3_takeHour 92 = .ok (.invokevirtual 140, 3) := by decide +kernel
theorem dX3_takeHour_95 : decode cX3_takeHour 95 = .ok (.istore 8, 2) := by decide +kernel
theorem dX3_takeHour_97 : decode cX3_takeHour 97 = .ok (.iload 8, 2) := by decide +kernel
theorem dX3_takeHour_99 : decode cX3_takeHour 99 = .ok (.iconst (-1), 1) := by decide +kernel
theorem dX3_takeHour_100 : decode cX3_takeHour 100 = .ok (.if_icmp .eq 20, 3) := by decide +kernel
theorem dX3_takeHour_103 : decode cX3_takeHour 103 = .ok (.aload_n 0, 1) := by decide +kernel
theorem dX3_takeHour_104 : decode cX3_takeHour 104 = .ok (.getfield 23, 3) := by decide +kernel
theorem dX3_takeHour_107 : decode cX3_takeHour 107 = .ok (.iload 5, 2) := by decide +kernel
theorem dX3_takeHour_109 : decode cX3_takeHour 109 = .ok (.iload_n 1, 1) := by decide +kernel
theorem dX3_takeHour_110 : decode cX3_takeHour 110 = .ok (.iload 8, 2) := by decide +kernel
theorem dX3_takeHour_112 : decode cX3_takeHour 112 = .ok (.iload 8, 2) := by decide +kernel
theorem dX3_takeHour_114 : decode cX3_takeHour 114 = .ok (.iload 7, 2) := by decide +kernel
theorem dX3_takeHour_116 : decode cX3_takeHour 116 = .ok (.iadd, 1) := by decide +kernel
theorem dX3_takeHour_117 : decode cX3_takeHour 117 = .ok (.invokevirtual 145, 3) := by decide +kernel
theorem dX3_takeHour_120 : decode cX3_takeHour 120 = .ok (.aload_n 2, 1) := by decide +kernel
theorem dX3_takeHour_121 : decode cX3_takeHour 121 = .ok (.getfield 149, 3) := by decide +kernel
theorem dX3_takeHour_124 : decode cX3_takeHour 124 = .ok (.iload 5, 2) := by decide +kernel
theorem dX3_takeHour_126 : decode cX3_takeHour 126 = .ok (.iload_n 1, 1) := by decide +kernel
theorem dX3_takeHour_127 : decode cX3_takeHour 127 = .ok (.invokestatic 126, 3) := by decide +kernel
theorem dX3_takeHour_130 : decode cX3_takeHour 130 = .ok (.iload 6, 2) := by decide +kernel
theorem dX3_takeHour_132 : decode cX3_takeHour 132 = .ok (.iastore, 1) := by decide +kernel
theorem dX3_takeHour_133 : decode cX3_takeHour 133 = .ok (.aload_n 2, 1) := by decide +kernel
theorem dX3_takeHour_134 : decode cX3_takeHour 134 = .ok (.getfield 152, 3) := by decide +kernel
theorem dX3_takeHour_137 : decode cX3_takeHour 137 = .ok (.iload 5, 2) := by decide +kernel
theorem dX3_takeHour_139 : decode cX3_takeHour 139 = .ok (.iload_n 1, 1) := by decide +kernel
theorem dX3_takeHour_140 : decode cX3_takeHour 140 = .ok (.invokestatic 126, 3) := by decide +kernel
theorem dX3_takeHour_143 : decode cX3_takeHour 143 = .ok (.aload_n 0, 1) := by decide +kernel
theorem dX3_takeHour_144 : decode cX3_takeHour 144 = .ok (.getfield 52, 3) := by decide +kernel
theorem dX3_takeHour_147 : decode cX3_takeHour 147 = .ok (.iload 4, 2) := by decide +kernel
theorem dX3_takeHour_149 : decode cX3_takeHour 149 = .ok (.iconst 3, 1) := by decide +kernel
theorem dX3_takeHour_150 : decode cX3_takeHour 150 = .ok (.imul, 1) := by decide +kernel
theorem dX3_takeHour_151 : decode cX3_takeHour 151 = .ok (.iload 5, 2) := by decide +kernel
theorem dX3_takeHour_153 : decode cX3_takeHour 153 = .ok (.iadd, 1) := by decide +kernel
theorem dX3_takeHour_154 : decode cX3_takeHour 154 = .ok (.iaload, 1) := by decide +kernel
theorem dX3_takeHour_155 : decode cX3_takeHour 155 = .ok (.iastore, 1) := by decide +kernel
theorem dX3_takeHour_156 : decode cX3_takeHour 156 = .ok (.iinc 5 1, 3) := by decide +kernel
theorem dX3_takeHour_159 : decode cX3_takeHour 159 = .ok (.goto (-114), 3) := by decide +kernel
theorem dX3_takeHour_162 : decode cX3_takeHour 162 = .ok (.return_, 1) := by decide +kernel
theorem dX4_init_0 : decode cX4_init 0 = .ok (.aload_n 0, 1) := by decide +kernel
theorem dX4_init_1 : decode cX4_init 1 = .ok (.invokespecial 3, 3) := by decide +kernel
theorem dX4_init_4 : decode cX4_init 4 = .ok (.aload_n 0, 1) := by decide +kernel
theorem dX4_init_5 : decode cX4_init 5 = .ok (.sipush 401, 3) := by decide +kernel
theorem dX4_init_8 : decode cX4_init 8 = .ok (.newarray .int, 2) := by decide +kernel
theorem dX4_init_10 : decode cX4_init 10 = .ok (.putfield 11, 3) := by decide +kernel
theorem dX4_init_13 : decode cX4_init 13 = .ok (.aload_n 0, 1) := by decide +kernel
theorem dX4_init_14 : decode cX4_init 14 = .ok (.sipush 401, 3) := by decide +kernel
theorem dX4_init_17 : decode cX4_init 17 = .ok (.newarray .int, 2) := by decide +kernel
theorem dX4_init_19 : decode cX4_init 19 = .ok (.putfield 15, 3) := by decide +kernel
theorem dX4_init_22 : decode cX4_init 22 = .ok (.aload_n 0, 1) := by decide +kernel
theorem dX4_init_23 : decode cX4_init 23 = .ok (.sipush 143, 3) := by decide +kernel
theorem dX4_init_26 : decode cX4_init 26 = .ok (.newarray .int, 2) := by decide +kernel
theorem dX4_init_28 : decode cX4_init 28 = .ok (.putfield 18, 3) := by decide +kernel
theorem dX4_init_31 : decode cX4_init 31 = .ok (.aload_n 0, 1) := by decide +kernel
theorem dX4_init_32 : decode cX4_init 32 = .ok (.iconst 0, 1) := by decide +kernel
theorem dX4_init_33 : decode cX4_init 33 = .ok (.putfield 21, 3) := by decide +kernel
theorem dX4_init_36 : decode cX4_init 36 = .ok (.aload_n 0, 1) := by decide +kernel
theorem dX4_init_37 : decode cX4_init 37 = .ok (.iconst 0, 1) := by decide +kernel
theorem dX4_init_38 : decode cX4_init 38 = .ok (.putfield 25, 3) := by decide +kernel
theorem dX4_init_41 : decode cX4_init 41 = .ok (.return_, 1) := by decide +kernel
set_option maxRecDepth 20000 in
theorem ggX4_draw_X8_isIn : GoodIn wsX4_draw wsX8_isIn := goodIn_r _ [14, 15, 16, 26, 27, 28, 29, 30, 31, 32, 33, 34] (by decide +kernel) (by decide +kernel)
set_option maxRecDepth 20000 in
theorem gX4_draw_X8_isIn : GoodIn wsX4_draw (wsV RX4 36 RX8 yX8_isIn wsX8_isIn) := goodIn_app (goodIn_of _ (by decide +kernel)) ggX4_draw_X8_isIn
set_option maxRecDepth 20000 in
theorem ggX4_draw_X4_extend : GoodIn wsX4_draw wsX4_extend := goodIn_r _ [20] (by decide +kernel) (by decide +kernel)
set_option maxRecDepth 20000 in
theorem gX4_draw_X4_extend : GoodIn wsX4_draw (va_wsS RX4 50 yX4_extend wsX4_extend) := goodIn_app (goodIn_of _ (by decide +kernel)) ggX4_draw_X4_extend
theorem dX4_draw_0 : decode cX4_draw 0 = .ok (.aload_n 0, 1) := by decide +kernel
theorem dX4_draw_1 : decode cX4_draw 1 = .ok (.iconst 0, 1) := by decide +kernel
theorem dX4_draw_2 : decode cX4_draw 2 = .ok (.putfield 21, 3) := by decide +kernel
theorem dX4_draw_5 : decode cX4_draw 5 = .ok (.aload_n 0, 1) := by decide +kernel
theorem dX4_draw_6 : decode cX4_draw 6 = .ok (.iconst 0, 1) := by decide +kernel
theorem dX4_draw_7 : decode cX4_draw 7 = .ok (.putfield 25, 3) := by decide +kernel
theorem dX4_draw_10 : decode cX4_draw 10 = .ok (.iconst 0, 1) := by decide +kernel
theorem dX4_draw_11 : decode cX4_draw 11 = .ok (.istore 4, 2) := by decide +kernel
theorem dX4_draw_13 : decode cX4_draw 13 = .ok (.iload 4, 2) := by decide +kernel
theorem dX4_draw_15 : decode cX4_draw 15 = .ok (.aload_n 1, 1) := by decide +kernel
theorem dX4_draw_16 : decode cX4_draw 16 = .ok (.getfield 28, 3) := by decide +kernel
theorem dX4_draw_19 : decode cX4_draw 19 = .ok (.if_icmp .ge 100, 3) := by decide +kernel
theorem dX4_draw_22 : decode cX4_draw 22 = .ok (.aload_n 1, 1) := by decide +kernel
theorem dX4_draw_23 : decode cX4_draw 23 = .ok (.getfield 33, 3) := by decide +kernel
theorem dX4_draw_26 : decode cX4_draw 26 = .ok (.iload 4, 2) := by decide +kernel
theorem dX4_draw_28 : decode cX4_draw 28 = .ok (.iaload, 1) := by decide +kernel
theorem dX4_draw_29 : decode cX4_draw 29 = .ok (.istore 5, 2) := by decide +kernel
theorem dX4_draw_31 : decode cX4_draw 31 = .ok (.aload_n 1, 1) := by decide +kernel
theorem dX4_draw_32 : decode cX4_draw 32 = .ok (.iload 5, 2) := by decide +kernel
theorem dX4_draw_34 : decode cX4_draw 34 = .ok (.iload_n 2, 1) := by decide +kernel
theorem dX4_draw_35 : decode cX4_draw 35 = .ok (.iload_n 3, 1) := by decide +kernel
theorem dX4_draw_36 : decode cX4_draw 36 = .ok (.invokevirtual 36, 3) := by decide +kernel
theorem dX4_draw_39 : decode cX4_draw 39 = .ok (.ifCond .eq 74, 3) := by decide +kernel
theorem dX4_draw_42 : decode cX4_draw 42 = .ok (.aload_n 1, 1) := by decide +kernel
theorem dX4_draw_43 : decode cX4_draw 43 = .ok (.getfield 40, 3) := by decide +kernel
theorem dX4_draw_46 : decode cX4_draw 46 = .ok (.iload 5, 2) := by decide +kernel
theorem dX4_draw_48 : decode cX4_draw 48 = .ok (.baload, 1) := by decide +kernel
theorem dX4_draw_49 : decode cX4_draw 49 = .ok (.ifCond .eq 35, 3) := by decide +kernel
theorem dX4_draw_52 : decode cX4_draw 52 = .ok (.aload_n 0, 1) := by decide +kernel
theorem dX4_draw_53 : decode cX4_draw 53 = .ok (.aload_n 0, 1) := by decide +kernel
theorem dX4_draw_54 : decode cX4_draw 54 = .ok (.getfield 15, 3) := by decide +kernel
theorem dX4_draw_57 : decode cX4_draw 57 = .ok (.aload_n 0, 1) := by decide +kernel
theorem dX4_draw_58 : decode cX4_draw 58 = .ok (.getfield 25, 3) := by decide +kernel
theorem dX4_draw_61 : decode cX4_draw 61 = .ok (.aload_n 1, 1) := by decide +kernel
theorem dX4_draw_62 : decode cX4_draw 62 = .ok (.getfield 44, 3) := by decide +kernel
theorem dX4_draw_65 : decode cX4_draw 65 = .ok (.iload 5, 2) := by decide +kernel
theorem dX4_draw_67 : decode cX4_draw 67 = .ok (.iaload, 1) := by decide +kernel
theorem dX4_draw_68 : decode cX4_draw 68 = .ok (.aload_n 1, 1) := by decide +kernel
theorem dX4_draw_69 : decode cX4_draw 69 = .ok (.getfield 47, 3) := by decide +kernel
theorem dX4_draw_72 : decode cX4_draw 72 = .ok (.iload 5, 2) := by decide +kernel
theorem dX4_draw_74 : decode cX4_draw 74 = .ok (.iaload, 1) := by decide +kernel
theorem dX4_draw_75 : decode cX4_draw 75 = .ok (.invokestatic 50, 3) := by decide +kernel
theorem dX4_draw_78 : decode cX4_draw 78 = .ok (.putfield 25, 3) := by decide +kernel
theorem dX4_draw_81 : decode cX4_draw 81 = .ok (.goto 32, 3) := by decide +kernel
theorem dX4_draw_84 : decode cX4_draw 84 = .ok (.aload_n 0, 1) := by decide +kernel
theorem dX4_draw_85 : decode cX4_draw 85 = .ok (.aload_n 0, 1) := by decide +kernel
theorem dX4_draw_86 : decode cX4_draw 86 = .ok (.getfield 11, 3) := by decide +kernel
theorem dX4_draw_89 : decode cX4_draw 89 = .ok (.aload_n 0, 1) := by decide +kernel
theorem dX4_draw_90 : decode cX4_draw 90 = .ok (.getfield 21, 3) := by decide +kernel
theorem dX4_draw_93 : decode cX4_draw 93 = .ok (.aload_n 1, 1) := by decide +kernel
theorem dX4_draw_94 : decode cX4_draw 94 = .ok (.getfield 44, 3) := by decide +kernel
theorem dX4_draw_97 : decode cX4_draw 97 = .ok (.iload 5, 2) := by decide +kernel
theorem dX4_draw_99 : decode cX4_draw 99 = .ok (.iaload, 1) := by decide +kernel
theorem dX4_draw_100 : decode cX4_draw 100 = .ok (.aload_n 1, 1) := by decide +kernel
theorem dX4_draw_101 : decode cX4_draw 101 = .ok (.getfield 47, 3) := by decide +kernel
theorem dX4_draw_104 : decode cX4_draw 104 = .ok (.iload 5, 2) := by decide +kernel
theorem dX4_draw_106 : decode cX4_draw 106 = .ok (.iaload, 1) := by decide +kernel
theorem dX4_draw_107 : decode cX4_draw 107 = .ok (.invokestatic 50, 3) := by decide +kernel
theorem dX4_draw_110 : decode cX4_draw 110 = .ok (.putfield 21, 3) := by decide +kernel
theorem dX4_draw_113 : decode cX4_draw 113 = .ok (.iinc 4 1, 3) := by decide +kernel
theorem dX4_draw_116 : decode cX4_draw 116 = .ok (.goto (-103), 3) := by decide +kernel
theorem dX4_draw_119 : decode cX4_draw 119 = .ok (.return_, 1) := by decide +kernel
set_option maxRecDepth 20000 in
theorem ggX4_weigh_X4_buysFor : GoodIn wsX4_weigh wsX4_buysFor := goodIn_r _ [18, 7, 8, 4, 9, 6, 1, 19, 20, 21, 17, 22, 12, 13, 23, 24, 25, 26, 27] (by decide +kernel) (by decide +kernel)
set_option maxRecDepth 20000 in
theorem gX4_weigh_X4_buysFor : GoodIn wsX4_weigh (wsV RX4 63 RX4 yX4_buysFor wsX4_buysFor) := goodIn_app (goodIn_of _ (by decide +kernel)) ggX4_weigh_X4_buysFor
theorem dX4_weigh_0 : decode cX4_weigh 0 = .ok (.bipush 71, 2) := by decide +kernel
theorem dX4_weigh_2 : decode cX4_weigh 2 = .ok (.aload_n 0, 1) := by decide +kernel
theorem dX4_weigh_3 : decode cX4_weigh 3 = .ok (.getfield 21, 3) := by decide +kernel
theorem dX4_weigh_6 : decode cX4_weigh 6 = .ok (.invokestatic 54, 3) := by decide +kernel
theorem dX4_weigh_9 : decode cX4_weigh 9 = .ok (.istore_n 1, 1) := by decide +kernel
theorem dX4_weigh_10 : decode cX4_weigh 10 = .ok (.bipush (-71), 2) := by decide +kernel
theorem dX4_weigh_12 : decode cX4_weigh 12 = .ok (.aload_n 0, 1) := by decide +kernel
theorem dX4_weigh_13 : decode cX4_weigh 13 = .ok (.getfield 25, 3) := by decide +kernel
theorem dX4_weigh_16 : decode cX4_weigh 16 = .ok (.ineg, 1) := by decide +kernel
theorem dX4_weigh_17 : decode cX4_weigh 17 = .ok (.invokestatic 60, 3) := by decide +kernel
theorem dX4_weigh_20 : decode cX4_weigh 20 = .ok (.istore_n 2, 1) := by decide +kernel
theorem dX4_weigh_21 : decode cX4_weigh 21 = .ok (.iload_n 2, 1) := by decide +kernel
theorem dX4_weigh_22 : decode cX4_weigh 22 = .ok (.iload_n 1, 1) := by decide +kernel
theorem dX4_weigh_23 : decode cX4_weigh 23 = .ok (.if_icmp .gt 49, 3) := by decide +kernel
theorem dX4_weigh_26 : decode cX4_weigh 26 = .ok (.aload_n 0, 1) := by decide +kernel
theorem dX4_weigh_27 : decode cX4_weigh 27 = .ok (.iload_n 2, 1) := by decide +kernel
theorem dX4_weigh_28 : decode cX4_weigh 28 = .ok (.invokevirtual 63, 3) := by decide +kernel
theorem dX4_weigh_31 : decode cX4_weigh 31 = .ok (.istore_n 3, 1) := by decide +kernel
theorem dX4_weigh_32 : decode cX4_weigh 32 = .ok (.aload_n 0, 1) := by decide +kernel
theorem dX4_weigh_33 : decode cX4_weigh 33 = .ok (.getfield 18, 3) := by decide +kernel
theorem dX4_weigh_36 : decode cX4_weigh 36 = .ok (.iload_n 2, 1) := by decide +kernel
theorem dX4_weigh_37 : decode cX4_weigh 37 = .ok (.bipush 71, 2) := by decide +kernel
theorem dX4_weigh_39 : decode cX4_weigh 39 = .ok (.iadd, 1) := by decide +kernel
theorem dX4_weigh_40 : decode cX4_weigh 40 = .ok (.iload_n 3, 1) := by decide +kernel
theorem dX4_weigh_41 : decode cX4_weigh 41 = .ok (.iconst (-1), 1) := by decide +kernel
theorem dX4_weigh_42 : decode cX4_weigh 42 = .ok (.if_icmp .ne 8, 3) := by decide +kernel
theorem dX4_weigh_45 : decode cX4_weigh 45 = .ok (.ldc 67, 2) := by decide +kernel
theorem dX4_weigh_47 : decode cX4_weigh 47 = .ok (.goto 18, 3) := by decide +kernel
theorem dX4_weigh_50 : decode cX4_weigh 50 = .ok (.aload_n 0, 1) := by decide +kernel
theorem dX4_weigh_51 : decode cX4_weigh 51 = .ok (.getfield 15, 3) := by decide +kernel
theorem dX4_weigh_54 : decode cX4_weigh 54 = .ok (.iload_n 3, 1) := by decide +kernel
theorem dX4_weigh_55 : decode cX4_weigh 55 = .ok (.iaload, 1) := by decide +kernel
theorem dX4_weigh_56 : decode cX4_weigh 56 = .ok (.aload_n 0, 1) := by decide +kernel
theorem dX4_weigh_57 : decode cX4_weigh 57 = .ok (.getfield 11, 3) := by decide +kernel
theorem dX4_weigh_60 : decode cX4_weigh 60 = .ok (.iload_n 3, 1) := by decide +kernel
theorem dX4_weigh_61 : decode cX4_weigh 61 = .ok (.iload_n 2, 1) := by decide +kernel
theorem dX4_weigh_62 : decode cX4_weigh 62 = .ok (.iadd, 1) := by decide +kernel
theorem dX4_weigh_63 : decode cX4_weigh 63 = .ok (.iaload, 1) := by decide +kernel
theorem dX4_weigh_64 : decode cX4_weigh 64 = .ok (.isub, 1) := by decide +kernel
theorem dX4_weigh_65 : decode cX4_weigh 65 = .ok (.iastore, 1) := by decide +kernel
theorem dX4_weigh_66 : decode cX4_weigh 66 = .ok (.iinc 2 1, 3) := by decide +kernel
theorem dX4_weigh_69 : decode cX4_weigh 69 = .ok (.goto (-48), 3) := by decide +kernel
theorem dX4_weigh_72 : decode cX4_weigh 72 = .ok (.return_, 1) := by decide +kernel
theorem dX4_extend_0 : decode cX4_extend 0 = .ok (.iload_n 1, 1) := by decide +kernel
theorem dX4_extend_1 : decode cX4_extend 1 = .ok (.istore 4, 2) := by decide +kernel
theorem dX4_extend_3 : decode cX4_extend 3 = .ok (.iconst 0, 1) := by decide +kernel
theorem dX4_extend_4 : decode cX4_extend 4 = .ok (.istore 5, 2) := by decide +kernel
theorem dX4_extend_6 : decode cX4_extend 6 = .ok (.iload 5, 2) := by decide +kernel
theorem dX4_extend_8 : decode cX4_extend 8 = .ok (.iload_n 3, 1) := by decide +kernel
theorem dX4_extend_9 : decode cX4_extend 9 = .ok (.if_icmp .ge 32, 3) := by decide +kernel
theorem dX4_extend_12 : decode cX4_extend 12 = .ok (.iload 4, 2) := by decide +kernel
theorem dX4_extend_14 : decode cX4_extend 14 = .ok (.sipush 400, 3) := by decide +kernel
theorem dX4_extend_17 : decode cX4_extend 17 = .ok (.if_icmp .ge 24, 3) := by decide +kernel
theorem dX4_extend_20 : decode cX4_extend 20 = .ok (.aload_n 0, 1) := by decide +kernel
theorem dX4_extend_21 : decode cX4_extend 21 = .ok (.iload 4, 2) := by decide +kernel
theorem dX4_extend_23 : decode cX4_extend 23 = .ok (.iconst 1, 1) := by decide +kernel
theorem dX4_extend_24 : decode cX4_extend 24 = .ok (.iadd, 1) := by decide +kernel
theorem dX4_extend_25 : decode cX4_extend 25 = .ok (.aload_n 0, 1) := by decide +kernel
theorem dX4_extend_26 : decode cX4_extend 26 = .ok (.iload 4, 2) := by decide +kernel
theorem dX4_extend_28 : decode cX4_extend 28 = .ok (.iaload, 1) := by decide +kernel
theorem dX4_extend_29 : decode cX4_extend 29 = .ok (.iload_n 2, 1) := by decide +kernel
theorem dX4_extend_30 : decode cX4_extend 30 = .ok (.iadd, 1) := by decide +kernel
theorem dX4_extend_31 : decode cX4_extend 31 = .ok (.iastore, 1) := by decide +kernel
theorem dX4_extend_32 : decode cX4_extend 32 = .ok (.iinc 4 1, 3) := by decide +kernel
theorem dX4_extend_35 : decode cX4_extend 35 = .ok (.iinc 5 1, 3) := by decide +kernel
theorem dX4_extend_38 : decode cX4_extend 38 = .ok (.goto (-32), 3) := by decide +kernel
theorem dX4_extend_41 : decode cX4_extend 41 = .ok (.iload 4, 2) := by decide +kernel
theorem dX4_extend_43 : decode cX4_extend 43 = .ok (.ireturn, 1) := by decide +kernel
set_option maxRecDepth 20000 in
theorem ggX4_buysFor_X4_isPairWorth : GoodIn wsX4_buysFor wsX4_isPairWorth := goodIn_r _ [11, 12, 13, 14, 15, 16, 17, 18] (by decide +kernel) (by decide +kernel)
set_option maxRecDepth 20000 in
theorem gX4_buysFor_X4_isPairWorth : GoodIn wsX4_buysFor (wsV RX4 68 RX4 yX4_isPairWorth wsX4_isPairWorth) := goodIn_app (goodIn_of _ (by decide +kernel)) ggX4_buysFor_X4_isPairWorth
theorem dX4_buysFor_0 : decode cX4_buysFor 0 = .ok (.iconst 0, 1) := by decide +kernel
theorem dX4_buysFor_1 : decode cX4_buysFor 1 = .ok (.iload_n 1, 1) := by decide +kernel
theorem dX4_buysFor_2 : decode cX4_buysFor 2 = .ok (.ineg, 1) := by decide +kernel
theorem dX4_buysFor_3 : decode cX4_buysFor 3 = .ok (.invokestatic 60, 3) := by decide +kernel
theorem dX4_buysFor_6 : decode cX4_buysFor 6 = .ok (.istore_n 2, 1) := by decide +kernel
theorem dX4_buysFor_7 : decode cX4_buysFor 7 = .ok (.iload_n 2, 1) := by decide +kernel
theorem dX4_buysFor_8 : decode cX4_buysFor 8 = .ok (.aload_n 0, 1) := by decide +kernel
theorem dX4_buysFor_9 : decode cX4_buysFor 9 = .ok (.getfield 25, 3) := by decide +kernel
theorem dX4_buysFor_12 : decode cX4_buysFor 12 = .ok (.if_icmp .gt 13, 3) := by decide +kernel
theorem dX4_buysFor_15 : decode cX4_buysFor 15 = .ok (.iload_n 2, 1) := by decide +kernel
theorem dX4_buysFor_16 : decode cX4_buysFor 16 = .ok (.iload_n 1, 1) := by decide +kernel
theorem dX4_buysFor_17 : decode cX4_buysFor 17 = .ok (.iadd, 1) := by decide +kernel
theorem dX4_buysFor_18 : decode cX4_buysFor 18 = .ok (.aload_n 0, 1) := by decide +kernel
theorem dX4_buysFor_19 : decode cX4_buysFor 19 = .ok (.getfield 21, 3) := by decide +kernel
theorem dX4_buysFor_22 : decode cX4_buysFor 22 = .ok (.if_icmp .le 5, 3) := by decide +kernel
theorem dX4_buysFor_25 : decode cX4_buysFor 25 = .ok (.iconst (-1), 1) := by decide +kernel
theorem dX4_buysFor_26 : decode cX4_buysFor 26 = .ok (.ireturn, 1) := by decide +kernel
theorem dX4_buysFor_27 : decode cX4_buysFor 27 = .ok (.iload_n 2, 1) := by decide +kernel
theorem dX4_buysFor_28 : decode cX4_buysFor 28 = .ok (.aload_n 0, 1) := by decide +kernel
theorem dX4_buysFor_29 : decode cX4_buysFor 29 = .ok (.getfield 25, 3) := by decide +kernel
theorem dX4_buysFor_32 : decode cX4_buysFor 32 = .ok (.if_icmp .ge 30, 3) := by decide +kernel
theorem dX4_buysFor_35 : decode cX4_buysFor 35 = .ok (.iload_n 2, 1) := by decide +kernel
theorem dX4_buysFor_36 : decode cX4_buysFor 36 = .ok (.iload_n 1, 1) := by decide +kernel
theorem dX4_buysFor_37 : decode cX4_buysFor 37 = .ok (.iadd, 1) := by decide +kernel
theorem dX4_buysFor_38 : decode cX4_buysFor 38 = .ok (.aload_n 0, 1) := by decide +kernel
theorem dX4_buysFor_39 : decode cX4_buysFor 39 = .ok (.getfield 21, 3) := by decide +kernel
theorem dX4_buysFor_42 : decode cX4_buysFor 42 = .ok (.if_icmp .ge 20, 3) := by decide +kernel
theorem dX4_buysFor_45 : decode cX4_buysFor 45 = .ok (.aload_n 0, 1) := by decide +kernel
theorem dX4_buysFor_46 : decode cX4_buysFor 46 = .ok (.iload_n 2, 1) := by decide +kernel
theorem dX4_buysFor_47 : decode cX4_buysFor 47 = .ok (.iload_n 2, 1) := by decide +kernel
theorem dX4_buysFor_48 : decode cX4_buysFor 48 = .ok (.iload_n 1, 1) := by decide +kernel
theorem dX4_buysFor_49 : decode cX4_buysFor 49 = .ok (.iadd, 1) := by decide +kernel
theorem dX4_buysFor_50 : decode cX4_buysFor 50 = .ok (.invokevirtual 68, 3) := by decide +kernel
theorem dX4_buysFor_53 : decode cX4_buysFor 53 = .ok (.ifCond .eq 9, 3) := by decide +kernel
theorem dX4_buysFor_56 : decode cX4_buysFor 56 = .ok (.iinc 2 1, 3) := by decide +kernel
theorem dX4_buysFor_59 : decode cX4_buysFor 59 = .ok (.goto (-32), 3) := by decide +kernel
theorem dX4_buysFor_62 : decode cX4_buysFor 62 = .ok (.iload_n 2, 1) := by decide +kernel
theorem dX4_buysFor_63 : decode cX4_buysFor 63 = .ok (.ireturn, 1) := by decide +kernel
theorem dX4_isPairWorth_0 : decode cX4_isPairWorth 0 = .ok (.aload_n 0, 1) := by decide +kernel
theorem dX4_isPairWorth_1 : decode cX4_isPairWorth 1 = .ok (.getfield 15, 3) := by decide +kernel
theorem dX4_isPairWorth_4 : decode cX4_isPairWorth 4 = .ok (.iload_n 1, 1) := by decide +kernel
theorem dX4_isPairWorth_5 : decode cX4_isPairWorth 5 = .ok (.iconst 1, 1) := by decide +kernel
theorem dX4_isPairWorth_6 : decode cX4_isPairWorth 6 = .ok (.iadd, 1) := by decide +kernel
theorem dX4_isPairWorth_7 : decode cX4_isPairWorth 7 = .ok (.iaload, 1) := by decide +kernel
theorem dX4_isPairWorth_8 : decode cX4_isPairWorth 8 = .ok (.aload_n 0, 1) := by decide +kernel
theorem dX4_isPairWorth_9 : decode cX4_isPairWorth 9 = .ok (.getfield 15, 3) := by decide +kernel
theorem dX4_isPairWorth_12 : decode cX4_isPairWorth 12 = .ok (.iload_n 1, 1) := by decide +kernel
theorem dX4_isPairWorth_13 : decode cX4_isPairWorth 13 = .ok (.iaload, 1) := by decide +kernel
theorem dX4_isPairWorth_14 : decode cX4_isPairWorth 14 = .ok (.isub, 1) := by decide +kernel
theorem dX4_isPairWorth_15 : decode cX4_isPairWorth 15 = .ok (.aload_n 0, 1) := by decide +kernel
theorem dX4_isPairWorth_16 : decode cX4_isPairWorth 16 = .ok (.getfield 11, 3) := by decide +kernel
theorem dX4_isPairWorth_19 : decode cX4_isPairWorth 19 = .ok (.iload_n 2, 1) := by decide +kernel
theorem dX4_isPairWorth_20 : decode cX4_isPairWorth 20 = .ok (.iconst 1, 1) := by decide +kernel
theorem dX4_isPairWorth_21 : decode cX4_isPairWorth 21 = .ok (.iadd, 1) := by decide +kernel
theorem dX4_isPairWorth_22 : decode cX4_isPairWorth 22 = .ok (.iaload, 1) := by decide +kernel
theorem dX4_isPairWorth_23 : decode cX4_isPairWorth 23 = .ok (.aload_n 0, 1) := by decide +kernel
theorem dX4_isPairWorth_24 : decode cX4_isPairWorth 24 = .ok (.getfield 11, 3) := by decide +kernel
theorem dX4_isPairWorth_27 : decode cX4_isPairWorth 27 = .ok (.iload_n 2, 1) := by decide +kernel
theorem dX4_isPairWorth_28 : decode cX4_isPairWorth 28 = .ok (.iaload, 1) := by decide +kernel
theorem dX4_isPairWorth_29 : decode cX4_isPairWorth 29 = .ok (.isub, 1) := by decide +kernel
theorem dX4_isPairWorth_30 : decode cX4_isPairWorth 30 = .ok (.if_icmp .le 7, 3) := by decide +kernel
theorem dX4_isPairWorth_33 : decode cX4_isPairWorth 33 = .ok (.iconst 1, 1) := by decide +kernel
theorem dX4_isPairWorth_34 : decode cX4_isPairWorth 34 = .ok (.goto 4, 3) := by decide +kernel
theorem dX4_isPairWorth_37 : decode cX4_isPairWorth 37 = .ok (.iconst 0, 1) := by decide +kernel
theorem dX4_isPairWorth_38 : decode cX4_isPairWorth 38 = .ok (.ireturn, 1) := by decide +kernel
theorem dX4_worthOf_0 : decode cX4_worthOf 0 = .ok (.iload_n 1, 1) := by decide +kernel
theorem dX4_worthOf_1 : decode cX4_worthOf 1 = .ok (.aload_n 0, 1) := by decide +kernel
theorem dX4_worthOf_2 : decode cX4_worthOf 2 = .ok (.getfield 25, 3) := by decide +kernel
theorem dX4_worthOf_5 : decode cX4_worthOf 5 = .ok (.ineg, 1) := by decide +kernel
theorem dX4_worthOf_6 : decode cX4_worthOf 6 = .ok (.if_icmp .lt 23, 3) := by decide +kernel
theorem dX4_worthOf_9 : decode cX4_worthOf 9 = .ok (.iload_n 1, 1) := by decide +kernel
theorem dX4_worthOf_10 : decode cX4_worthOf 10 = .ok (.aload_n 0, 1) := by decide +kernel
theorem dX4_worthOf_11 : decode cX4_worthOf 11 = .ok (.getfield 21, 3) := by decide +kernel
theorem dX4_worthOf_14 : decode cX4_worthOf 14 = .ok (.if_icmp .gt 15, 3) := by decide +kernel
theorem dX4_worthOf_17 : decode cX4_worthOf 17 = .ok (.iload_n 1, 1) := by decide +kernel
theorem dX4_worthOf_18 : decode cX4_worthOf 18 = .ok (.bipush (-71), 2) := by decide +kernel
theorem dX4_worthOf_20 : decode cX4_worthOf 20 = .ok (.if_icmp .lt 9, 3) := by decide +kernel
theorem dX4_worthOf_23 : decode cX4_worthOf 23 = .ok (.iload_n 1, 1) := by decide +kernel
theorem dX4_worthOf_24 : decode cX4_worthOf 24 = .ok (.bipush 71, 2) := by decide +kernel
theorem dX4_worthOf_26 : decode cX4_worthOf 26 = .ok (.if_icmp .le 6, 3) := by decide +kernel
theorem dX4_worthOf_29 : decode cX4_worthOf 29 = .ok (.ldc 67, 2) := by decide +kernel
theorem dX4_worthOf_31 : decode cX4_worthOf 31 = .ok (.ireturn, 1) := by decide +kernel
theorem dX4_worthOf_32 : decode cX4_worthOf 32 = .ok (.aload_n 0, 1) := by decide +kernel
theorem dX4_worthOf_33 : decode cX4_worthOf 33 = .ok (.getfield 18, 3) := by decide +kernel
theorem dX4_worthOf_36 : decode cX4_worthOf 36 = .ok (.iload_n 1, 1) := by decide +kernel
theorem dX4_worthOf_37 : decode cX4_worthOf 37 = .ok (.bipush 71, 2) := by decide +kernel
theorem dX4_worthOf_39 : decode cX4_worthOf 39 = .ok (.iadd, 1) := by decide +kernel
theorem dX4_worthOf_40 : decode cX4_worthOf 40 = .ok (.iaload, 1) := by decide +kernel
theorem dX4_worthOf_41 : decode cX4_worthOf 41 = .ok (.ireturn, 1) := by decide +kernel
set_option maxRecDepth 20000 in
theorem ggX5_init_X8_init : GoodIn wsX5_init wsX8_init := goodIn_r _ [18, 19, 2, 3, 20, 4, 21, 22, 23, 24, 25, 26, 27, 28, 29, 38, 39, 40, 41, 42, 43, 44, 45, 46] (by decide +kernel) (by decide +kernel)
set_option maxRecDepth 20000 in
theorem gX5_init_X8_init : GoodIn wsX5_init (wsX8_init) := ggX5_init_X8_init
theorem dX5_init_0 : decode cX5_init 0 = .ok (.aload_n 0, 1) := by decide +kernel
theorem dX5_init_1 : decode cX5_init 1 = .ok (.invokespecial 3, 3) := by decide +kernel
theorem dX5_init_4 : decode cX5_init 4 = .ok (.aload_n 0, 1) := by decide +kernel
theorem dX5_init_5 : decode cX5_init 5 = .ok (.bipush 12, 2) := by decide +kernel
theorem dX5_init_7 : decode cX5_init 7 = .ok (.newarray .int, 2) := by decide +kernel
theorem dX5_init_9 : decode cX5_init 9 = .ok (.putfield 9, 3) := by decide +kernel
theorem dX5_init_12 : decode cX5_init 12 = .ok (.aload_n 0, 1) := by decide +kernel
theorem dX5_init_13 : decode cX5_init 13 = .ok (.bipush 12, 2) := by decide +kernel
theorem dX5_init_15 : decode cX5_init 15 = .ok (.newarray .int, 2) := by decide +kernel
theorem dX5_init_17 : decode cX5_init 17 = .ok (.putfield 15, 3) := by decide +kernel
theorem dX5_init_20 : decode cX5_init 20 = .ok (.aload_n 0, 1) := by decide +kernel
theorem dX5_init_21 : decode cX5_init 21 = .ok (.bipush 72, 2) := by decide +kernel
theorem dX5_init_23 : decode cX5_init 23 = .ok (.newarray .int, 2) := by decide +kernel
theorem dX5_init_25 : decode cX5_init 25 = .ok (.putfield 18, 3) := by decide +kernel
theorem dX5_init_28 : decode cX5_init 28 = .ok (.aload_n 0, 1) := by decide +kernel
theorem dX5_init_29 : decode cX5_init 29 = .ok (.bipush 72, 2) := by decide +kernel
theorem dX5_init_31 : decode cX5_init 31 = .ok (.newarray .int, 2) := by decide +kernel
theorem dX5_init_33 : decode cX5_init 33 = .ok (.putfield 21, 3) := by decide +kernel
theorem dX5_init_36 : decode cX5_init 36 = .ok (.aload_n 0, 1) := by decide +kernel
theorem dX5_init_37 : decode cX5_init 37 = .ok (.bipush 6, 2) := by decide +kernel
theorem dX5_init_39 : decode cX5_init 39 = .ok (.newarray .int, 2) := by decide +kernel
theorem dX5_init_41 : decode cX5_init 41 = .ok (.putfield 24, 3) := by decide +kernel
theorem dX5_init_44 : decode cX5_init 44 = .ok (.aload_n 0, 1) := by decide +kernel
theorem dX5_init_45 : decode cX5_init 45 = .ok (.bipush 6, 2) := by decide +kernel
theorem dX5_init_47 : decode cX5_init 47 = .ok (.newarray .int, 2) := by decide +kernel
theorem dX5_init_49 : decode cX5_init 49 = .ok (.putfield 27, 3) := by decide +kernel
theorem dX5_init_52 : decode cX5_init 52 = .ok (.aload_n 0, 1) := by decide +kernel
theorem dX5_init_53 : decode cX5_init 53 = .ok (.new 30, 3) := by decide +kernel
theorem dX5_init_56 : decode cX5_init 56 = .ok (.dup, 1) := by decide +kernel
theorem dX5_init_57 : decode cX5_init 57 = .ok (.bipush 30, 2) := by decide +kernel
theorem dX5_init_59 : decode cX5_init 59 = .ok (.invokespecial 32, 3) := by decide +kernel
theorem dX5_init_62 : decode cX5_init 62 = .ok (.putfield 35, 3) := by decide +kernel
theorem dX5_init_65 : decode cX5_init 65 = .ok (.aload_n 0, 1) := by decide +kernel
theorem dX5_init_66 : decode cX5_init 66 = .ok (.iconst 0, 1) := by decide +kernel
theorem dX5_init_67 : decode cX5_init 67 = .ok (.putfield 39, 3) := by decide +kernel
theorem dX5_init_70 : decode cX5_init 70 = .ok (.return_, 1) := by decide +kernel
theorem dX5_book_0 : decode cX5_book 0 = .ok (.aload_n 0, 1) := by decide +kernel
theorem dX5_book_1 : decode cX5_book 1 = .ok (.getfield 18, 3) := by decide +kernel
theorem dX5_book_4 : decode cX5_book 4 = .ok (.iload_n 1, 1) := by decide +kernel
theorem dX5_book_5 : decode cX5_book 5 = .ok (.iconst 3, 1) := by decide +kernel
theorem dX5_book_6 : decode cX5_book 6 = .ok (.imul, 1) := by decide +kernel
theorem dX5_book_7 : decode cX5_book 7 = .ok (.iconst 4, 1) := by decide +kernel
theorem dX5_book_8 : decode cX5_book 8 = .ok (.imul, 1) := by decide +kernel
theorem dX5_book_9 : decode cX5_book 9 = .ok (.iload_n 2, 1) := by decide +kernel
theorem dX5_book_10 : decode cX5_book 10 = .ok (.iadd, 1) := by decide +kernel
theorem dX5_book_11 : decode cX5_book 11 = .ok (.dup2, 1) := by decide +kernel
theorem dX5_book_12 : decode cX5_book 12 = .ok (.iaload, 1) := by decide +kernel
theorem dX5_book_13 : decode cX5_book 13 = .ok (.iload_n 3, 1) := by decide +kernel
theorem dX5_book_14 : decode cX5_book 14 = .ok (.iadd, 1) := by decide +kernel
theorem dX5_book_15 : decode cX5_book 15 = .ok (.iastore, 1) := by decide +kernel
theorem dX5_book_16 : decode cX5_book 16 = .ok (.aload_n 0, 1) := by decide +kernel
theorem dX5_book_17 : decode cX5_book 17 = .ok (.getfield 24, 3) := by decide +kernel
theorem dX5_book_20 : decode cX5_book 20 = .ok (.iload_n 1, 1) := by decide +kernel
theorem dX5_book_21 : decode cX5_book 21 = .ok (.dup2, 1) := by decide +kernel
theorem dX5_book_22 : decode cX5_book 22 = .ok (.iaload, 1) := by decide +kernel
theorem dX5_book_23 : decode cX5_book 23 = .ok (.iload_n 3, 1) := by decide +kernel
theorem dX5_book_24 : decode cX5_book 24 = .ok (.iload 4, 2) := by decide +kernel
theorem dX5_book_26 : decode cX5_book 26 = .ok (.imul, 1) := by decide +kernel
theorem dX5_book_27 : decode cX5_book 27 = .ok (.iadd, 1) := by decide +kernel
theorem dX5_book_28 : decode cX5_book 28 = .ok (.iastore, 1) := by decide +kernel
theorem dX5_book_29 : decode cX5_book 29 = .ok (.return_, 1) := by decide +kernel
set_option maxRecDepth 20000 in
theorem ggX5_differenceOf_X9_spotOf : GoodIn wsX5_differenceOf wsX9_spotOf := goodIn_r _ [8] (by decide +kernel) (by decide +kernel)
set_option maxRecDepth 20000 in
theorem gX5_differenceOf_X9_spotOf_n43 : GoodIn wsX5_differenceOf (wsX9_spotOf) := ggX5_differenceOf_X9_spotOf
theorem dX5_differenceOf_0 : decode cX5_differenceOf 0 = .ok (.iconst 0, 1) := by decide +kernel
theorem dX5_differenceOf_1 : decode cX5_differenceOf 1 = .ok (.istore_n 3, 1) := by decide +kernel
theorem dX5_differenceOf_2 : decode cX5_differenceOf 2 = .ok (.iconst 0, 1) := by decide +kernel
theorem dX5_differenceOf_3 : decode cX5_differenceOf 3 = .ok (.istore 4, 2) := by decide +kernel
theorem dX5_differenceOf_5 : decode cX5_differenceOf 5 = .ok (.iload 4, 2) := by decide +kernel
theorem dX5_differenceOf_7 : decode cX5_differenceOf 7 = .ok (.iconst 4, 1) := by decide +kernel
theorem dX5_differenceOf_8 : decode cX5_differenceOf 8 = .ok (.if_icmp .ge 39, 3) := by decide +kernel
theorem dX5_differenceOf_11 : decode cX5_differenceOf 11 = .ok (.iload_n 3, 1) := by decide +kernel
theorem dX5_differenceOf_12 : decode cX5_differenceOf 12 = .ok (.iconst 0, 1) := by decide +kernel
theorem dX5_differenceOf_13 : decode cX5_differenceOf 13 = .ok (.aload_n 0, 1) := by decide +kernel
theorem dX5_differenceOf_14 : decode cX5_differenceOf 14 = .ok (.getfield 9, 3) := by decide +kernel
theorem dX5_differenceOf_17 : decode cX5_differenceOf 17 = .ok (.iload_n 2, 1) := by decide +kernel
theorem dX5_differenceOf_18 : decode cX5_differenceOf 18 = .ok (.iload 4, 2) := by decide +kernel
theorem dX5_differenceOf_20 : decode cX5_differenceOf 20 = .ok (.invokestatic 43, 3) := by decide +kernel
theorem dX5_differenceOf_23 : decode cX5_differenceOf 23 = .ok (.iaload, 1) := by decide +kernel
theorem dX5_differenceOf_24 : decode cX5_differenceOf 24 = .ok (.aload_n 0, 1) := by decide +kernel
theorem dX5_differenceOf_25 : decode cX5_differenceOf 25 = .ok (.getfield 9, 3) := by decide +kernel
theorem dX5_differenceOf_28 : decode cX5_differenceOf 28 = .ok (.iload_n 1, 1) := by decide +kernel
theorem dX5_differenceOf_29 : decode cX5_differenceOf 29 = .ok (.iload 4, 2) := by decide +kernel
theorem dX5_differenceOf_31 : decode cX5_differenceOf 31 = .ok (.invokestatic 43, 3) := by decide +kernel
theorem dX5_differenceOf_34 : decode cX5_differenceOf 34 = .ok (.iaload, 1) := by decide +kernel
theorem dX5_differenceOf_35 : decode cX5_differenceOf 35 = .ok (.isub, 1) := by decide +kernel
theorem dX5_differenceOf_36 : decode cX5_differenceOf 36 = .ok (.invokestatic 47, 3) := by decide +kernel
theorem dX5_differenceOf_39 : decode cX5_differenceOf 39 = .ok (.iadd, 1) := by decide +kernel
theorem dX5_differenceOf_40 : decode cX5_differenceOf 40 = .ok (.istore_n 3, 1) := by decide +kernel
theorem dX5_differenceOf_41 : decode cX5_differenceOf 41 = .ok (.iinc 4 1, 3) := by decide +kernel
theorem dX5_differenceOf_44 : decode cX5_differenceOf 44 = .ok (.goto (-39), 3) := by decide +kernel
theorem dX5_differenceOf_47 : decode cX5_differenceOf 47 = .ok (.iload_n 3, 1) := by decide +kernel
theorem dX5_differenceOf_48 : decode cX5_differenceOf 48 = .ok (.ireturn, 1) := by decide +kernel
set_option maxRecDepth 20000 in
theorem ggX5_gapOf_X9_placeOf : GoodIn wsX5_gapOf wsX9_placeOf := goodIn_r _ [4, 5, 6, 3, 7] (by decide +kernel) (by decide +kernel)
set_option maxRecDepth 20000 in
theorem gX5_gapOf_X9_placeOf_n52 : GoodIn wsX5_gapOf (wsX9_placeOf) := ggX5_gapOf_X9_placeOf
theorem dX5_gapOf_0 : decode cX5_gapOf 0 = .ok (.iconst 0, 1) := by decide +kernel
theorem dX5_gapOf_1 : decode cX5_gapOf 1 = .ok (.istore_n 2, 1) := by decide +kernel
theorem dX5_gapOf_2 : decode cX5_gapOf 2 = .ok (.iconst 0, 1) := by decide +kernel
theorem dX5_gapOf_3 : decode cX5_gapOf 3 = .ok (.istore_n 3, 1) := by decide +kernel
theorem dX5_gapOf_4 : decode cX5_gapOf 4 = .ok (.iload_n 3, 1) := by decide +kernel
theorem dX5_gapOf_5 : decode cX5_gapOf 5 = .ok (.bipush 6, 2) := by decide +kernel
theorem dX5_gapOf_7 : decode cX5_gapOf 7 = .ok (.if_icmp .ge 39, 3) := by decide +kernel
theorem dX5_gapOf_10 : decode cX5_gapOf 10 = .ok (.iconst 0, 1) := by decide +kernel
theorem dX5_gapOf_11 : decode cX5_gapOf 11 = .ok (.istore 4, 2) := by decide +kernel
theorem dX5_gapOf_13 : decode cX5_gapOf 13 = .ok (.iload 4, 2) := by decide +kernel
theorem dX5_gapOf_15 : decode cX5_gapOf 15 = .ok (.iconst 3, 1) := by decide +kernel
theorem dX5_gapOf_16 : decode cX5_gapOf 16 = .ok (.if_icmp .ge 24, 3) := by decide +kernel
theorem dX5_gapOf_19 : decode cX5_gapOf 19 = .ok (.iload_n 2, 1) := by decide +kernel
theorem dX5_gapOf_20 : decode cX5_gapOf 20 = .ok (.aload_n 0, 1) := by decide +kernel
theorem dX5_gapOf_21 : decode cX5_gapOf 21 = .ok (.getfield 21, 3) := by decide +kernel
theorem dX5_gapOf_24 : decode cX5_gapOf 24 = .ok (.iload_n 3, 1) := by decide +kernel
theorem dX5_gapOf_25 : decode cX5_gapOf 25 = .ok (.iload 4, 2) := by decide +kernel
theorem dX5_gapOf_27 : decode cX5_gapOf 27 = .ok (.iload_n 1, 1) := by decide +kernel
theorem dX5_gapOf_28 : decode cX5_gapOf 28 = .ok (.invokestatic 52, 3) := by decide +kernel
theorem dX5_gapOf_31 : decode cX5_gapOf 31 = .ok (.iaload, 1) := by decide +kernel
theorem dX5_gapOf_32 : decode cX5_gapOf 32 = .ok (.iadd, 1) := by decide +kernel
theorem dX5_gapOf_33 : decode cX5_gapOf 33 = .ok (.istore_n 2, 1) := by decide +kernel
theorem dX5_gapOf_34 : decode cX5_gapOf 34 = .ok (.iinc 4 1, 3) := by decide +kernel
theorem dX5_gapOf_37 : decode cX5_gapOf 37 = .ok (.goto (-24), 3) := by decide +kernel
theorem dX5_gapOf_40 : decode cX5_gapOf 40 = .ok (.iinc 3 1, 3) := by decide +kernel
theorem dX5_gapOf_43 : decode cX5_gapOf 43 = .ok (.goto (-39), 3) := by decide +kernel
theorem dX5_gapOf_46 : decode cX5_gapOf 46 = .ok (.iload_n 2, 1) := by decide +kernel
theorem dX5_gapOf_47 : decode cX5_gapOf 47 = .ok (.ireturn, 1) := by decide +kernel
set_option maxRecDepth 20000 in
theorem ggX5_priceOfGap_X5_helps : GoodIn wsX5_priceOfGap wsX5_helps := goodIn_r _ [21, 5, 22, 23, 27, 28, 29, 30, 31, 32, 33, 34, 35, 36, 37, 38, 39, 40, 41, 42, 43] (by decide +kernel) (by decide +kernel)
set_option maxRecDepth 20000 in
theorem gX5_priceOfGap_X5_helps : GoodIn wsX5_priceOfGap (wsV RX5 66 RX5 yX5_helps wsX5_helps) := goodIn_app (goodIn_of _ (by decide +kernel)) ggX5_priceOfGap_X5_helps
set_option maxRecDepth 20000 in
theorem ggX5_priceOfGap_X9_spotOf : GoodIn wsX5_priceOfGap wsX9_spotOf := goodIn_r _ [26] (by decide +kernel) (by decide +kernel)
set_option maxRecDepth 20000 in
theorem gX5_priceOfGap_X9_spotOf_n43 : GoodIn wsX5_priceOfGap (wsX9_spotOf) := ggX5_priceOfGap_X9_spotOf
theorem dX5_priceOfGap_0 : decode cX5_priceOfGap 0 = .ok (.iload_n 2, 1) := by decide +kernel
theorem dX5_priceOfGap_1 : decode cX5_priceOfGap 1 = .ok (.invokestatic 56, 3) := by decide +kernel
theorem dX5_priceOfGap_4 : decode cX5_priceOfGap 4 = .ok (.istore_n 3, 1) := by decide +kernel
theorem dX5_priceOfGap_5 : decode cX5_priceOfGap 5 = .ok (.iload_n 2, 1) := by decide +kernel
theorem dX5_priceOfGap_6 : decode cX5_priceOfGap 6 = .ok (.ifCond .ge 9, 3) := by decide +kernel
theorem dX5_priceOfGap_9 : decode cX5_priceOfGap 9 = .ok (.sipush 300, 3) := by decide +kernel
theorem dX5_priceOfGap_12 : decode cX5_priceOfGap 12 = .ok (.goto 4, 3) := by decide +kernel
theorem dX5_priceOfGap_15 : decode cX5_priceOfGap 15 = .ok (.iconst 0, 1) := by decide +kernel
theorem dX5_priceOfGap_16 : decode cX5_priceOfGap 16 = .ok (.istore 4, 2) := by decide +kernel
theorem dX5_priceOfGap_18 : decode cX5_priceOfGap 18 = .ok (.iconst 0, 1) := by decide +kernel
theorem dX5_priceOfGap_19 : decode cX5_priceOfGap 19 = .ok (.istore 5, 2) := by decide +kernel
theorem dX5_priceOfGap_21 : decode cX5_priceOfGap 21 = .ok (.iload 5, 2) := by decide +kernel
theorem dX5_priceOfGap_23 : decode cX5_priceOfGap 23 = .ok (.aload_n 0, 1) := by decide +kernel
theorem dX5_priceOfGap_24 : decode cX5_priceOfGap 24 = .ok (.getfield 35, 3) := by decide +kernel
theorem dX5_priceOfGap_27 : decode cX5_priceOfGap 27 = .ok (.getfield 60, 3) := by decide +kernel
theorem dX5_priceOfGap_30 : decode cX5_priceOfGap 30 = .ok (.if_icmp .ge 70, 3) := by decide +kernel
theorem dX5_priceOfGap_33 : decode cX5_priceOfGap 33 = .ok (.iload_n 3, 1) := by decide +kernel
theorem dX5_priceOfGap_34 : decode cX5_priceOfGap 34 = .ok (.ifCond .le 66, 3) := by decide +kernel
theorem dX5_priceOfGap_37 : decode cX5_priceOfGap 37 = .ok (.aload_n 0, 1) := by decide +kernel
theorem dX5_priceOfGap_38 : decode cX5_priceOfGap 38 = .ok (.getfield 35, 3) := by decide +kernel
theorem dX5_priceOfGap_41 : decode cX5_priceOfGap 41 = .ok (.getfield 63, 3) := by decide +kernel
theorem dX5_priceOfGap_44 : decode cX5_priceOfGap 44 = .ok (.iload 5, 2) := by decide +kernel
theorem dX5_priceOfGap_46 : decode cX5_priceOfGap 46 = .ok (.iaload, 1) := by decide +kernel
theorem dX5_priceOfGap_47 : decode cX5_priceOfGap 47 = .ok (.istore 6, 2) := by decide +kernel
theorem dX5_priceOfGap_49 : decode cX5_priceOfGap 49 = .ok (.aload_n 0, 1) := by decide +kernel
theorem dX5_priceOfGap_50 : decode cX5_priceOfGap 50 = .ok (.iload 6, 2) := by decide +kernel
theorem dX5_priceOfGap_52 : decode cX5_priceOfGap 52 = .ok (.iload_n 1, 1) := by decide +kernel
theorem dX5_priceOfGap_53 : decode cX5_priceOfGap 53 = .ok (.iload_n 2, 1) := by decide +kernel
theorem dX5_priceOfGap_54 : decode cX5_priceOfGap 54 = .ok (.invokevirtual 66, 3) := by decide +kernel
theorem dX5_priceOfGap_57 : decode cX5_priceOfGap 57 = .ok (.ifCond .eq 37, 3) := by decide +kernel
theorem dX5_priceOfGap_60 : decode cX5_priceOfGap 60 = .ok (.iload_n 3, 1) := by decide +kernel
theorem dX5_priceOfGap_61 : decode cX5_priceOfGap 61 = .ok (.aload_n 0, 1) := by decide +kernel
theorem dX5_priceOfGap_62 : decode cX5_priceOfGap 62 = .ok (.getfield 35, 3) := by decide +kernel
theorem dX5_priceOfGap_65 : decode cX5_priceOfGap 65 = .ok (.getfield 70, 3) := by decide +kernel
theorem dX5_priceOfGap_68 : decode cX5_priceOfGap 68 = .ok (.iload 6, 2) := by decide +kernel
theorem dX5_priceOfGap_70 : decode cX5_priceOfGap 70 = .ok (.iaload, 1) := by decide +kernel
theorem dX5_priceOfGap_71 : decode cX5_priceOfGap 71 = .ok (.isub, 1) := by decide +kernel
theorem dX5_priceOfGap_72 : decode cX5_priceOfGap 72 = .ok (.istore_n 3, 1) := by decide +kernel
theorem dX5_priceOfGap_73 : decode cX5_priceOfGap 73 = .ok (.iload_n 3, 1) := by decide +kernel
theorem dX5_priceOfGap_74 : decode cX5_priceOfGap 74 = .ok (.ifCond .le 8, 3) := by decide +kernel
theorem dX5_priceOfGap_77 : decode cX5_priceOfGap 77 = .ok (.iload 4, 2) := by decide +kernel
theorem dX5_priceOfGap_79 : decode cX5_priceOfGap 79 = .ok (.goto 13, 3) := by decide +kernel
theorem dX5_priceOfGap_82 : decode cX5_priceOfGap 82 = .ok (.aload_n 0, 1) := by decide +kernel
theorem dX5_priceOfGap_83 : decode cX5_priceOfGap 83 = .ok (.getfield 35, 3) := by decide +kernel
theorem dX5_priceOfGap_86 : decode cX5_priceOfGap 86 = .ok (.getfield 73, 3) := by decide +kernel
theorem dX5_priceOfGap_89 : decode cX5_priceOfGap 89 = .ok (.iload 6, 2) := by decide +kernel
theorem dX5_priceOfGap_91 : decode cX5_priceOfGap 91 = .ok (.iaload, 1) := by decide +kernel
theorem dX5_priceOfGap_92 : decode cX5_priceOfGap 92 = .ok (.istore 4, 2) := by decide +kernel
theorem dX5_priceOfGap_94 : decode cX5_priceOfGap 94 = .ok (.iinc 5 1, 3) := by decide +kernel
theorem dX5_priceOfGap_97 : decode cX5_priceOfGap 97 = .ok (.goto (-76), 3) := by decide +kernel
theorem dX5_priceOfGap_100 : decode cX5_priceOfGap 100 = .ok (.iconst 0, 1) := by decide +kernel
theorem dX5_priceOfGap_101 : decode cX5_priceOfGap 101 = .ok (.istore 5, 2) := by decide +kernel
theorem dX5_priceOfGap_103 : decode cX5_priceOfGap 103 = .ok (.iload 5, 2) := by decide +kernel
theorem dX5_priceOfGap_105 : decode cX5_priceOfGap 105 = .ok (.iconst 3, 1) := by decide +kernel
theorem dX5_priceOfGap_106 : decode cX5_priceOfGap 106 = .ok (.if_icmp .ge 45, 3) := by decide +kernel
theorem dX5_priceOfGap_109 : decode cX5_priceOfGap 109 = .ok (.aload_n 0, 1) := by decide +kernel
theorem dX5_priceOfGap_110 : decode cX5_priceOfGap 110 = .ok (.getfield 9, 3) := by decide +kernel
theorem dX5_priceOfGap_113 : decode cX5_priceOfGap 113 = .ok (.iload 5, 2) := by decide +kernel
theorem dX5_priceOfGap_115 : decode cX5_priceOfGap 115 = .ok (.iload_n 1, 1) := by decide +kernel
theorem dX5_priceOfGap_116 : decode cX5_priceOfGap 116 = .ok (.invokestatic 43, 3) := by decide +kernel
theorem dX5_priceOfGap_119 : decode cX5_priceOfGap 119 = .ok (.iaload, 1) := by decide +kernel
theorem dX5_priceOfGap_120 : decode cX5_priceOfGap 120 = .ok (.istore 6, 2) := by decide +kernel
theorem dX5_priceOfGap_122 : decode cX5_priceOfGap 122 = .ok (.iload_n 2, 1) := by decide +kernel
theorem dX5_priceOfGap_123 : decode cX5_priceOfGap 123 = .ok (.ifCond .ge 13, 3) := by decide +kernel
theorem dX5_priceOfGap_126 : decode cX5_priceOfGap 126 = .ok (.iload 4, 2) := by decide +kernel
theorem dX5_priceOfGap_128 : decode cX5_priceOfGap 128 = .ok (.iload 6, 2) := by decide +kernel
theorem dX5_priceOfGap_130 : decode cX5_priceOfGap 130 = .ok (.invokestatic 47, 3) := by decide +kernel
theorem dX5_priceOfGap_133 : decode cX5_priceOfGap 133 = .ok (.goto 10, 3) := by decide +kernel
theorem dX5_priceOfGap_136 : decode cX5_priceOfGap 136 = .ok (.iload 4, 2) := by decide +kernel
theorem dX5_priceOfGap_138 : decode cX5_priceOfGap 138 = .ok (.iload 6, 2) := by decide +kernel
theorem dX5_priceOfGap_140 : decode cX5_priceOfGap 140 = .ok (.invokestatic 76, 3) := by decide +kernel
theorem dX5_priceOfGap_143 : decode cX5_priceOfGap 143 = .ok (.istore 4, 2) := by decide +kernel
theorem dX5_priceOfGap_145 : decode cX5_priceOfGap 145 = .ok (.iinc 5 1, 3) := by decide +kernel
theorem dX5_priceOfGap_148 : decode cX5_priceOfGap 148 = .ok (.goto (-45), 3) := by decide +kernel
theorem dX5_priceOfGap_151 : decode cX5_priceOfGap 151 = .ok (.iload 4, 2) := by decide +kernel
theorem dX5_priceOfGap_153 : decode cX5_priceOfGap 153 = .ok (.ireturn, 1) := by decide +kernel
theorem dX5_helps_0 : decode cX5_helps 0 = .ok (.aload_n 0, 1) := by decide +kernel
theorem dX5_helps_1 : decode cX5_helps 1 = .ok (.getfield 35, 3) := by decide +kernel
theorem dX5_helps_4 : decode cX5_helps 4 = .ok (.getfield 79, 3) := by decide +kernel
theorem dX5_helps_7 : decode cX5_helps 7 = .ok (.iload_n 1, 1) := by decide +kernel
theorem dX5_helps_8 : decode cX5_helps 8 = .ok (.iaload, 1) := by decide +kernel
theorem dX5_helps_9 : decode cX5_helps 9 = .ok (.iload_n 2, 1) := by decide +kernel
theorem dX5_helps_10 : decode cX5_helps 10 = .ok (.if_icmp .ne 28, 3) := by decide +kernel
theorem dX5_helps_13 : decode cX5_helps 13 = .ok (.aload_n 0, 1) := by decide +kernel
theorem dX5_helps_14 : decode cX5_helps 14 = .ok (.getfield 35, 3) := by decide +kernel
theorem dX5_helps_17 : decode cX5_helps 17 = .ok (.getfield 82, 3) := by decide +kernel
theorem dX5_helps_20 : decode cX5_helps 20 = .ok (.iload_n 1, 1) := by decide +kernel
theorem dX5_helps_21 : decode cX5_helps 21 = .ok (.baload, 1) := by decide +kernel
theorem dX5_helps_22 : decode cX5_helps 22 = .ok (.iload_n 3, 1) := by decide +kernel
theorem dX5_helps_23 : decode cX5_helps 23 = .ok (.ifCond .le 7, 3) := by decide +kernel
theorem dX5_helps_26 : decode cX5_helps 26 = .ok (.iconst 1, 1) := by decide +kernel
theorem dX5_helps_27 : decode cX5_helps 27 = .ok (.goto 4, 3) := by decide +kernel
theorem dX5_helps_30 : decode cX5_helps 30 = .ok (.iconst 0, 1) := by decide +kernel
theorem dX5_helps_31 : decode cX5_helps 31 = .ok (.if_icmp .ne 7, 3) := by decide +kernel
theorem dX5_helps_34 : decode cX5_helps 34 = .ok (.iconst 1, 1) := by decide +kernel
theorem dX5_helps_35 : decode cX5_helps 35 = .ok (.goto 4, 3) := by decide +kernel
theorem dX5_helps_38 : decode cX5_helps 38 = .ok (.iconst 0, 1) := by decide +kernel
theorem dX5_helps_39 : decode cX5_helps 39 = .ok (.ireturn, 1) := by decide +kernel
set_option maxRecDepth 20000 in
theorem ggX5_unitsUsed_X5_helps : GoodIn wsX5_unitsUsed wsX5_helps := goodIn_r _ [17, 5, 18, 19, 20, 21, 22, 23, 24, 25, 26, 27, 28, 29, 30, 31, 32, 33, 34, 35, 36] (by decide +kernel) (by decide +kernel)
set_option maxRecDepth 20000 in
theorem gX5_unitsUsed_X5_helps : GoodIn wsX5_unitsUsed (wsV RX5 66 RX5 yX5_helps wsX5_helps) := goodIn_app (goodIn_of _ (by decide +kernel)) ggX5_unitsUsed_X5_helps
theorem dX5_unitsUsed_0 : decode cX5_unitsUsed 0 = .ok (.iload_n 3, 1) := by decide +kernel
theorem dX5_unitsUsed_1 : decode cX5_unitsUsed 1 = .ok (.invokestatic 56, 3) := by decide +kernel
theorem dX5_unitsUsed_4 : decode cX5_unitsUsed 4 = .ok (.istore 4, 2) := by decide +kernel
theorem dX5_unitsUsed_6 : decode cX5_unitsUsed 6 = .ok (.iconst 0, 1) := by decide +kernel
theorem dX5_unitsUsed_7 : decode cX5_unitsUsed 7 = .ok (.istore 5, 2) := by decide +kernel
theorem dX5_unitsUsed_9 : decode cX5_unitsUsed 9 = .ok (.iconst 0, 1) := by decide +kernel
theorem dX5_unitsUsed_10 : decode cX5_unitsUsed 10 = .ok (.istore 6, 2) := by decide +kernel
theorem dX5_unitsUsed_12 : decode cX5_unitsUsed 12 = .ok (.iload 6, 2) := by decide +kernel
theorem dX5_unitsUsed_14 : decode cX5_unitsUsed 14 = .ok (.aload_n 0, 1) := by decide +kernel
theorem dX5_unitsUsed_15 : decode cX5_unitsUsed 15 = .ok (.getfield 35, 3) := by decide +kernel
theorem dX5_unitsUsed_18 : decode cX5_unitsUsed 18 = .ok (.getfield 60, 3) := by decide +kernel
theorem dX5_unitsUsed_21 : decode cX5_unitsUsed 21 = .ok (.if_icmp .ge 86, 3) := by decide +kernel
theorem dX5_unitsUsed_24 : decode cX5_unitsUsed 24 = .ok (.iload 4, 2) := by decide +kernel
theorem dX5_unitsUsed_26 : decode cX5_unitsUsed 26 = .ok (.ifCond .le 81, 3) := by decide +kernel
theorem dX5_unitsUsed_29 : decode cX5_unitsUsed 29 = .ok (.aload_n 0, 1) := by decide +kernel
theorem dX5_unitsUsed_30 : decode cX5_unitsUsed 30 = .ok (.getfield 35, 3) := by decide +kernel
theorem dX5_unitsUsed_33 : decode cX5_unitsUsed 33 = .ok (.getfield 63, 3) := by decide +kernel
theorem dX5_unitsUsed_36 : decode cX5_unitsUsed 36 = .ok (.iload 6, 2) := by decide +kernel
theorem dX5_unitsUsed_38 : decode cX5_unitsUsed 38 = .ok (.iaload, 1) := by decide +kernel
theorem dX5_unitsUsed_39 : decode cX5_unitsUsed 39 = .ok (.istore 7, 2) := by decide +kernel
theorem dX5_unitsUsed_41 : decode cX5_unitsUsed 41 = .ok (.aload_n 0, 1) := by decide +kernel
theorem dX5_unitsUsed_42 : decode cX5_unitsUsed 42 = .ok (.iload 7, 2) := by decide +kernel
theorem dX5_unitsUsed_44 : decode cX5_unitsUsed 44 = .ok (.iload_n 2, 1) := by decide +kernel
theorem dX5_unitsUsed_45 : decode cX5_unitsUsed 45 = .ok (.iload_n 3, 1) := by decide +kernel
theorem dX5_unitsUsed_46 : decode cX5_unitsUsed 46 = .ok (.invokevirtual 66, 3) := by decide +kernel
theorem dX5_unitsUsed_49 : decode cX5_unitsUsed 49 = .ok (.ifCond .eq 52, 3) := by decide +kernel
theorem dX5_unitsUsed_52 : decode cX5_unitsUsed 52 = .ok (.iload 4, 2) := by decide +kernel
theorem dX5_unitsUsed_54 : decode cX5_unitsUsed 54 = .ok (.aload_n 0, 1) := by decide +kernel
theorem dX5_unitsUsed_55 : decode cX5_unitsUsed 55 = .ok (.getfield 35, 3) := by decide +kernel
theorem dX5_unitsUsed_58 : decode cX5_unitsUsed 58 = .ok (.getfield 70, 3) := by decide +kernel
theorem dX5_unitsUsed_61 : decode cX5_unitsUsed 61 = .ok (.iload 7, 2) := by decide +kernel
theorem dX5_unitsUsed_63 : decode cX5_unitsUsed 63 = .ok (.iaload, 1) := by decide +kernel
theorem dX5_unitsUsed_64 : decode cX5_unitsUsed 64 = .ok (.invokestatic 76, 3) := by decide +kernel
theorem dX5_unitsUsed_67 : decode cX5_unitsUsed 67 = .ok (.istore 8, 2) := by decide +kernel
theorem dX5_unitsUsed_69 : decode cX5_unitsUsed 69 = .ok (.iload 4, 2) := by decide +kernel
theorem dX5_unitsUsed_71 : decode cX5_unitsUsed 71 = .ok (.iload 8, 2) := by decide +kernel
theorem dX5_unitsUsed_73 : decode cX5_unitsUsed 73 = .ok (.isub, 1) := by decide +kernel
theorem dX5_unitsUsed_74 : decode cX5_unitsUsed 74 = .ok (.istore 4, 2) := by decide +kernel
theorem dX5_unitsUsed_76 : decode cX5_unitsUsed 76 = .ok (.iload 5, 2) := by decide +kernel
theorem dX5_unitsUsed_78 : decode cX5_unitsUsed 78 = .ok (.aload_n 0, 1) := by decide +kernel
theorem dX5_unitsUsed_79 : decode cX5_unitsUsed 79 = .ok (.getfield 35, 3) := by decide +kernel
theorem dX5_unitsUsed_82 : decode cX5_unitsUsed 82 = .ok (.getfield 86, 3) := by decide +kernel
theorem dX5_unitsUsed_85 : decode cX5_unitsUsed 85 = .ok (.iload 7, 2) := by decide +kernel
theorem dX5_unitsUsed_87 : decode cX5_unitsUsed 87 = .ok (.iaload, 1) := by decide +kernel
theorem dX5_unitsUsed_88 : decode cX5_unitsUsed 88 = .ok (.iload_n 1, 1) := by decide +kernel
theorem dX5_unitsUsed_89 : decode cX5_unitsUsed 89 = .ok (.if_icmp .ne 8, 3) := by decide +kernel
theorem dX5_unitsUsed_92 : decode cX5_unitsUsed 92 = .ok (.iload 8, 2) := by decide +kernel
theorem dX5_unitsUsed_94 : decode cX5_unitsUsed 94 = .ok (.goto 4, 3) := by decide +kernel
theorem dX5_unitsUsed_97 : decode cX5_unitsUsed 97 = .ok (.iconst 0, 1) := by decide +kernel
theorem dX5_unitsUsed_98 : decode cX5_unitsUsed 98 = .ok (.iadd, 1) := by decide +kernel
theorem dX5_unitsUsed_99 : decode cX5_unitsUsed 99 = .ok (.istore 5, 2) := by decide +kernel
theorem dX5_unitsUsed_101 : decode cX5_unitsUsed 101 = .ok (.iinc 6 1, 3) := by decide +kernel
theorem dX5_unitsUsed_104 : decode cX5_unitsUsed 104 = .ok (.goto (-92), 3) := by decide +kernel
theorem dX5_unitsUsed_107 : decode cX5_unitsUsed 107 = .ok (.iload 5, 2) := by decide +kernel
theorem dX5_unitsUsed_109 : decode cX5_unitsUsed 109 = .ok (.ireturn, 1) := by decide +kernel
set_option maxRecDepth 20000 in
theorem ggX5_balanceOf_X5_gapOf : GoodIn wsX5_balanceOf wsX5_gapOf := goodIn_r _ [7, 1, 8, 9, 10, 11, 12, 13, 44, 45, 46, 47, 48, 49, 50, 51] (by decide +kernel) (by decide +kernel)
set_option maxRecDepth 20000 in
theorem gX5_balanceOf_X5_gapOf : GoodIn wsX5_balanceOf (wsV RX5 89 RX5 yX5_gapOf wsX5_gapOf) := goodIn_app (goodIn_of _ (by decide +kernel)) ggX5_balanceOf_X5_gapOf
set_option maxRecDepth 20000 in
theorem ggX5_balanceOf_X5_priceOfGap : GoodIn wsX5_balanceOf wsX5_priceOfGap := goodIn_r _ [17, 18, 19, 20, 21, 22, 23, 24, 25, 26, 2, 27, 28, 29, 30, 31, 32, 33, 34, 35, 6, 36, 37, 38, 12, 9, 13, 44, 45, 46, 47, 48, 49, 50, 51, 52, 53, 54, 55, 56, 57, 58, 59, 60] (by decide +kernel) (by decide +kernel)
set_option maxRecDepth 20000 in
theorem gX5_balanceOf_X5_priceOfGap : GoodIn wsX5_balanceOf (wsV RX5 92 RX5 yX5_priceOfGap wsX5_priceOfGap) := goodIn_app (goodIn_of _ (by decide +kernel)) ggX5_balanceOf_X5_priceOfGap
set_option maxRecDepth 20000 in
theorem ggX5_balanceOf_X9_placeOf : GoodIn wsX5_balanceOf wsX9_placeOf := goodIn_r _ [10, 11, 12, 9, 13] (by decide +kernel) (by decide +kernel)
set_option maxRecDepth 20000 in
theorem gX5_balanceOf_X9_placeOf_n52 : GoodIn wsX5_balanceOf (wsX9_placeOf) := ggX5_balanceOf_X9_placeOf
set_option maxRecDepth 20000 in
theorem ggX5_balanceOf_X9_spotOf : GoodIn wsX5_balanceOf wsX9_spotOf := goodIn_r _ [13] (by decide +kernel) (by decide +kernel)
set_option maxRecDepth 20000 in
theorem gX5_balanceOf_X9_spotOf_n43 : GoodIn wsX5_balanceOf (wsX9_spotOf) := ggX5_balanceOf_X9_spotOf
set_option maxRecDepth 20000 in
theorem ggX5_balanceOf_X5_unitsUsed : GoodIn wsX5_balanceOf wsX5_unitsUsed := goodIn_r _ [42, 18, 19, 20, 21, 22, 23, 24, 25, 30, 31, 32, 43, 33, 34, 35, 6, 36, 37, 38, 44, 45, 46, 47, 48, 49, 50, 51, 52, 53, 54, 55, 56, 57, 58, 59, 60] (by decide +kernel) (by decide +kernel)
set_option maxRecDepth 20000 in
theorem gX5_balanceOf_X5_unitsUsed : GoodIn wsX5_balanceOf (wsV RX5 95 RX5 yX5_unitsUsed wsX5_unitsUsed) := goodIn_app (goodIn_of _ (by decide +kernel)) ggX5_balanceOf_X5_unitsUsed
theorem dX5_balanceOf_0 : decode cX5_balanceOf 0 = .ok (.aload_n 0, 1) := by decide +kernel
theorem dX5_balanceOf_1 : decode cX5_balanceOf 1 = .ok (.iload_n 2, 1) := by decide +kernel
theorem dX5_balanceOf_2 : decode cX5_balanceOf 2 = .ok (.invokevirtual 89, 3) := by decide +kernel
theorem dX5_balanceOf_5 : decode cX5_balanceOf 5 = .ok (.istore_n 3, 1) := by decide +kernel
theorem dX5_balanceOf_6 : decode cX5_balanceOf 6 = .ok (.iload_n 3, 1) := by decide +kernel
theorem dX5_balanceOf_7 : decode cX5_balanceOf 7 = .ok (.ifCond .ne 7, 3) := by decide +kernel
theorem dX5_balanceOf_10 : decode cX5_balanceOf 10 = .ok (.iconst 0, 1) := by decide +kernel
theorem dX5_balanceOf_11 : decode cX5_balanceOf 11 = .ok (.goto 9, 3) := by decide +kernel
theorem dX5_balanceOf_14 : decode cX5_balanceOf 14 = .ok (.aload_n 0, 1) := by decide +kernel
theorem dX5_balanceOf_15 : decode cX5_balanceOf 15 = .ok (.iload_n 2, 1) := by decide +kernel
theorem dX5_balanceOf_16 : decode cX5_balanceOf 16 = .ok (.iload_n 3, 1) := by decide +kernel
theorem dX5_balanceOf_17 : decode cX5_balanceOf 17 = .ok (.invokevirtual 92, 3) := by decide +kernel
theorem dX5_balanceOf_20 : decode cX5_balanceOf 20 = .ok (.istore 4, 2) := by decide +kernel
theorem dX5_balanceOf_22 : decode cX5_balanceOf 22 = .ok (.iconst 0, 1) := by decide +kernel
theorem dX5_balanceOf_23 : decode cX5_balanceOf 23 = .ok (.istore 5, 2) := by decide +kernel
theorem dX5_balanceOf_25 : decode cX5_balanceOf 25 = .ok (.iconst 0, 1) := by decide +kernel
theorem dX5_balanceOf_26 : decode cX5_balanceOf 26 = .ok (.istore 6, 2) := by decide +kernel
theorem dX5_balanceOf_28 : decode cX5_balanceOf 28 = .ok (.iload 6, 2) := by decide +kernel
theorem dX5_balanceOf_30 : decode cX5_balanceOf 30 = .ok (.iconst 3, 1) := by decide +kernel
theorem dX5_balanceOf_31 : decode cX5_balanceOf 31 = .ok (.if_icmp .ge 77, 3) := by decide +kernel
theorem dX5_balanceOf_34 : decode cX5_balanceOf 34 = .ok (.aload_n 0, 1) := by decide +kernel
theorem dX5_balanceOf_35 : decode cX5_balanceOf 35 = .ok (.getfield 21, 3) := by decide +kernel
theorem dX5_balanceOf_38 : decode cX5_balanceOf 38 = .ok (.iload_n 1, 1) := by decide +kernel
theorem dX5_balanceOf_39 : decode cX5_balanceOf 39 = .ok (.iload 6, 2) := by decide +kernel
theorem dX5_balanceOf_41 : decode cX5_balanceOf 41 = .ok (.iload_n 2, 1) := by decide +kernel
theorem dX5_balanceOf_42 : decode cX5_balanceOf 42 = .ok (.invokestatic 52, 3) := by decide +kernel
theorem dX5_balanceOf_45 : decode cX5_balanceOf 45 = .ok (.iaload, 1) := by decide +kernel
theorem dX5_balanceOf_46 : decode cX5_balanceOf 46 = .ok (.istore 7, 2) := by decide +kernel
theorem dX5_balanceOf_48 : decode cX5_balanceOf 48 = .ok (.iload_n 3, 1) := by decide +kernel
theorem dX5_balanceOf_49 : decode cX5_balanceOf 49 = .ok (.ifCond .ge 8, 3) := by decide +kernel
theorem dX5_balanceOf_52 : decode cX5_balanceOf 52 = .ok (.iload 7, 2) := by decide +kernel
theorem dX5_balanceOf_54 : decode cX5_balanceOf 54 = .ok (.ifCond .lt 12, 3) := by decide +kernel
theorem dX5_balanceOf_57 : decode cX5_balanceOf 57 = .ok (.iload_n 3, 1) := by decide +kernel
theorem dX5_balanceOf_58 : decode cX5_balanceOf 58 = .ok (.ifCond .le 12, 3) := by decide +kernel
theorem dX5_balanceOf_61 : decode cX5_balanceOf 61 = .ok (.iload 7, 2) := by decide +kernel
theorem dX5_balanceOf_63 : decode cX5_balanceOf 63 = .ok (.ifCond .le 7, 3) := by decide +kernel
theorem dX5_balanceOf_66 : decode cX5_balanceOf 66 = .ok (.iconst 1, 1) := by decide +kernel
theorem dX5_balanceOf_67 : decode cX5_balanceOf 67 = .ok (.goto 4, 3) := by decide +kernel
theorem dX5_balanceOf_70 : decode cX5_balanceOf 70 = .ok (.iconst 0, 1) := by decide +kernel
theorem dX5_balanceOf_71 : decode cX5_balanceOf 71 = .ok (.istore 8, 2) := by decide +kernel
theorem dX5_balanceOf_73 : decode cX5_balanceOf 73 = .ok (.iload 5, 2) := by decide +kernel
theorem dX5_balanceOf_75 : decode cX5_balanceOf 75 = .ok (.iload 7, 2) := by decide +kernel
theorem dX5_balanceOf_77 : decode cX5_balanceOf 77 = .ok (.iload 8, 2) := by decide +kernel
theorem dX5_balanceOf_79 : decode cX5_balanceOf 79 = .ok (.ifCond .eq 8, 3) := by decide +kernel
theorem dX5_balanceOf_82 : decode cX5_balanceOf 82 = .ok (.iload 4, 2) := by decide +kernel
theorem dX5_balanceOf_84 : decode cX5_balanceOf 84 = .ok (.goto 14, 3) := by decide +kernel
theorem dX5_balanceOf_87 : decode cX5_balanceOf 87 = .ok (.aload_n 0, 1) := by decide +kernel
theorem dX5_balanceOf_88 : decode cX5_balanceOf 88 = .ok (.getfield 9, 3) := by decide +kernel
theorem dX5_balanceOf_91 : decode cX5_balanceOf 91 = .ok (.iload 6, 2) := by decide +kernel
theorem dX5_balanceOf_93 : decode cX5_balanceOf 93 = .ok (.iload_n 2, 1) := by decide +kernel
theorem dX5_balanceOf_94 : decode cX5_balanceOf 94 = .ok (.invokestatic 43, 3) := by decide +kernel
theorem dX5_balanceOf_97 : decode cX5_balanceOf 97 = .ok (.iaload, 1) := by decide +kernel
theorem dX5_balanceOf_98 : decode cX5_balanceOf 98 = .ok (.imul, 1) := by decide +kernel
theorem dX5_balanceOf_99 : decode cX5_balanceOf 99 = .ok (.iadd, 1) := by decide +kernel
theorem dX5_balanceOf_100 : decode cX5_balanceOf 100 = .ok (.istore 5, 2) := by decide +kernel
theorem dX5_balanceOf_102 : decode cX5_balanceOf 102 = .ok (.iinc 6 1, 3) := by decide +kernel
theorem dX5_balanceOf_105 : decode cX5_balanceOf 105 = .ok (.goto (-77), 3) := by decide +kernel
theorem dX5_balanceOf_108 : decode cX5_balanceOf 108 = .ok (.aload_n 0, 1) := by decide +kernel
theorem dX5_balanceOf_109 : decode cX5_balanceOf 109 = .ok (.iload_n 1, 1) := by decide +kernel
theorem dX5_balanceOf_110 : decode cX5_balanceOf 110 = .ok (.iload_n 2, 1) := by decide +kernel
theorem dX5_balanceOf_111 : decode cX5_balanceOf 111 = .ok (.iload_n 3, 1) := by decide +kernel
theorem dX5_balanceOf_112 : decode cX5_balanceOf 112 = .ok (.invokevirtual 95, 3) := by decide +kernel
theorem dX5_balanceOf_115 : decode cX5_balanceOf 115 = .ok (.istore 6, 2) := by decide +kernel
theorem dX5_balanceOf_117 : decode cX5_balanceOf 117 = .ok (.iload 5, 2) := by decide +kernel
theorem dX5_balanceOf_119 : decode cX5_balanceOf 119 = .ok (.iload_n 3, 1) := by decide +kernel
theorem dX5_balanceOf_120 : decode cX5_balanceOf 120 = .ok (.ifCond .ge 8, 3) := by decide +kernel
theorem dX5_balanceOf_123 : decode cX5_balanceOf 123 = .ok (.iload 6, 2) := by decide +kernel
theorem dX5_balanceOf_125 : decode cX5_balanceOf 125 = .ok (.goto 6, 3) := by decide +kernel
theorem dX5_balanceOf_128 : decode cX5_balanceOf 128 = .ok (.iload 6, 2) := by decide +kernel
theorem dX5_balanceOf_130 : decode cX5_balanceOf 130 = .ok (.ineg, 1) := by decide +kernel
theorem dX5_balanceOf_131 : decode cX5_balanceOf 131 = .ok (.iload 4, 2) := by decide +kernel
theorem dX5_balanceOf_133 : decode cX5_balanceOf 133 = .ok (.imul, 1) := by decide +kernel
theorem dX5_balanceOf_134 : decode cX5_balanceOf 134 = .ok (.iadd, 1) := by decide +kernel
theorem dX5_balanceOf_135 : decode cX5_balanceOf 135 = .ok (.ireturn, 1) := by decide +kernel
set_option maxRecDepth 20000 in
theorem ggX5_billOf_X5_balanceOf : GoodIn wsX5_billOf wsX5_balanceOf := goodIn_r _ [6, 7, 8, 9, 10, 11, 5, 12, 13, 14, 15, 16, 17, 18, 19, 20, 21, 22, 23, 24, 25, 26, 27, 28, 29, 30, 31, 32, 33, 34, 35, 36, 37, 38, 39, 40, 41, 42, 43, 44, 45, 46, 47, 48, 49, 50, 51, 52, 53, 54, 55, 56, 57, 58, 59, 60, 61, 62, 63, 64, 65] (by decide +kernel) (by decide +kernel)
set_option maxRecDepth 20000 in
theorem gX5_billOf_X5_balanceOf : GoodIn wsX5_billOf (wsV RX5 98 RX5 yX5_balanceOf wsX5_balanceOf) := goodIn_app (goodIn_of _ (by decide +kernel)) ggX5_billOf_X5_balanceOf
theorem dX5_billOf_0 : decode cX5_billOf 0 = .ok (.aload_n 0, 1) := by decide +kernel
theorem dX5_billOf_1 : decode cX5_billOf 1 = .ok (.getfield 24, 3) := by decide +kernel
theorem dX5_billOf_4 : decode cX5_billOf 4 = .ok (.iload_n 1, 1) := by decide +kernel
theorem dX5_billOf_5 : decode cX5_billOf 5 = .ok (.iaload, 1) := by decide +kernel
theorem dX5_billOf_6 : decode cX5_billOf 6 = .ok (.istore_n 2, 1) := by decide +kernel
theorem dX5_billOf_7 : decode cX5_billOf 7 = .ok (.iconst 0, 1) := by decide +kernel
theorem dX5_billOf_8 : decode cX5_billOf 8 = .ok (.istore_n 3, 1) := by decide +kernel
theorem dX5_billOf_9 : decode cX5_billOf 9 = .ok (.iload_n 3, 1) := by decide +kernel
theorem dX5_billOf_10 : decode cX5_billOf 10 = .ok (.iconst 4, 1) := by decide +kernel
theorem dX5_billOf_11 : decode cX5_billOf 11 = .ok (.if_icmp .ge 18, 3) := by decide +kernel
theorem dX5_billOf_14 : decode cX5_billOf 14 = .ok (.iload_n 2, 1) := by decide +kernel
theorem dX5_billOf_15 : decode cX5_billOf 15 = .ok (.aload_n 0, 1) := by decide +kernel
theorem dX5_billOf_16 : decode cX5_billOf 16 = .ok (.iload_n 1, 1) := by decide +kernel
theorem dX5_billOf_17 : decode cX5_billOf 17 = .ok (.iload_n 3, 1) := by decide +kernel
theorem dX5_billOf_18 : decode cX5_billOf 18 = .ok (.invokevirtual 98, 3) := by decide +kernel
theorem dX5_billOf_21 : decode cX5_billOf 21 = .ok (.iadd, 1) := by decide +kernel
theorem dX5_billOf_22 : decode cX5_billOf 22 = .ok (.istore_n 2, 1) := by decide +kernel
theorem dX5_billOf_23 : decode cX5_billOf 23 = .ok (.iinc 3 1, 3) := by decide +kernel
theorem dX5_billOf_26 : decode cX5_billOf 26 = .ok (.goto (-17), 3) := by decide +kernel
theorem dX5_billOf_29 : decode cX5_billOf 29 = .ok (.iload_n 2, 1) := by decide +kernel
theorem dX5_billOf_30 : decode cX5_billOf 30 = .ok (.ireturn, 1) := by decide +kernel
theorem dX6_init_0 : decode cX6_init 0 = .ok (.aload_n 0, 1) := by decide +kernel
theorem dX6_init_1 : decode cX6_init 1 = .ok (.invokespecial 3, 3) := by decide +kernel
theorem dX6_init_4 : decode cX6_init 4 = .ok (.aload_n 0, 1) := by decide +kernel
theorem dX6_init_5 : decode cX6_init 5 = .ok (.iconst 3, 1) := by decide +kernel
theorem dX6_init_6 : decode cX6_init 6 = .ok (.newarray .int, 2) := by decide +kernel
theorem dX6_init_8 : decode cX6_init 8 = .ok (.dup, 1) := by decide +kernel
theorem dX6_init_9 : decode cX6_init 9 = .ok (.iconst 0, 1) := by decide +kernel
theorem dX6_init_10 : decode cX6_init 10 = .ok (.iconst 5, 1) := by decide +kernel
theorem dX6_init_11 : decode cX6_init 11 = .ok (.iastore, 1) := by decide +kernel
theorem dX6_init_12 : decode cX6_init 12 = .ok (.dup, 1) := by decide +kernel
theorem dX6_init_13 : decode cX6_init 13 = .ok (.iconst 1, 1) := by decide +kernel
theorem dX6_init_14 : decode cX6_init 14 = .ok (.iconst 5, 1) := by decide +kernel
theorem dX6_init_15 : decode cX6_init 15 = .ok (.iastore, 1) := by decide +kernel
theorem dX6_init_16 : decode cX6_init 16 = .ok (.dup, 1) := by decide +kernel
theorem dX6_init_17 : decode cX6_init 17 = .ok (.iconst 2, 1) := by decide +kernel
theorem dX6_init_18 : decode cX6_init 18 = .ok (.iconst 5, 1) := by decide +kernel
theorem dX6_init_19 : decode cX6_init 19 = .ok (.iastore, 1) := by decide +kernel
theorem dX6_init_20 : decode cX6_init 20 = .ok (.putfield 9, 3) := by decide +kernel
theorem dX6_init_23 : decode cX6_init 23 = .ok (.return_, 1) := by decide +kernel
theorem dX6_allows_0 : decode cX6_allows 0 = .ok (.iload_n 1, 1) := by decide +kernel
theorem dX6_allows_1 : decode cX6_allows 1 = .ok (.iload_n 2, 1) := by decide +kernel
theorem dX6_allows_2 : decode cX6_allows 2 = .ok (.isub, 1) := by decide +kernel
theorem dX6_allows_3 : decode cX6_allows 3 = .ok (.invokestatic 15, 3) := by decide +kernel
theorem dX6_allows_6 : decode cX6_allows 6 = .ok (.iconst 3, 1) := by decide +kernel
theorem dX6_allows_7 : decode cX6_allows 7 = .ok (.aload_n 0, 1) := by decide +kernel
theorem dX6_allows_8 : decode cX6_allows 8 = .ok (.getfield 9, 3) := by decide +kernel
theorem dX6_allows_11 : decode cX6_allows 11 = .ok (.iconst 0, 1) := by decide +kernel
theorem dX6_allows_12 : decode cX6_allows 12 = .ok (.iaload, 1) := by decide +kernel
theorem dX6_allows_13 : decode cX6_allows 13 = .ok (.imul, 1) := by decide +kernel
theorem dX6_allows_14 : decode cX6_allows 14 = .ok (.if_icmp .gt 41, 3) := by decide +kernel
theorem dX6_allows_17 : decode cX6_allows 17 = .ok (.iload_n 2, 1) := by decide +kernel
theorem dX6_allows_18 : decode cX6_allows 18 = .ok (.iload_n 3, 1) := by decide +kernel
theorem dX6_allows_19 : decode cX6_allows 19 = .ok (.isub, 1) := by decide +kernel
theorem dX6_allows_20 : decode cX6_allows 20 = .ok (.invokestatic 15, 3) := by decide +kernel
theorem dX6_allows_23 : decode cX6_allows 23 = .ok (.iconst 3, 1) := by decide +kernel
theorem dX6_allows_24 : decode cX6_allows 24 = .ok (.aload_n 0, 1) := by decide +kernel
theorem dX6_allows_25 : decode cX6_allows 25 = .ok (.getfield 9, 3) := by decide +kernel
theorem dX6_allows_28 : decode cX6_allows 28 = .ok (.iconst 1, 1) := by decide +kernel
theorem dX6_allows_29 : decode cX6_allows 29 = .ok (.iaload, 1) := by decide +kernel
theorem dX6_allows_30 : decode cX6_allows 30 = .ok (.imul, 1) := by decide +kernel
theorem dX6_allows_31 : decode cX6_allows 31 = .ok (.if_icmp .gt 24, 3) := by decide +kernel
theorem dX6_allows_34 : decode cX6_allows 34 = .ok (.iload_n 1, 1) := by decide +kernel
theorem dX6_allows_35 : decode cX6_allows 35 = .ok (.iload_n 3, 1) := by decide +kernel
theorem dX6_allows_36 : decode cX6_allows 36 = .ok (.isub, 1) := by decide +kernel
theorem dX6_allows_37 : decode cX6_allows 37 = .ok (.invokestatic 15, 3) := by decide +kernel
theorem dX6_allows_40 : decode cX6_allows 40 = .ok (.iconst 3, 1) := by decide +kernel
theorem dX6_allows_41 : decode cX6_allows 41 = .ok (.aload_n 0, 1) := by decide +kernel
theorem dX6_allows_42 : decode cX6_allows 42 = .ok (.getfield 9, 3) := by decide +kernel
theorem dX6_allows_45 : decode cX6_allows 45 = .ok (.iconst 2, 1) := by decide +kernel
theorem dX6_allows_46 : decode cX6_allows 46 = .ok (.iaload, 1) := by decide +kernel
theorem dX6_allows_47 : decode cX6_allows 47 = .ok (.imul, 1) := by decide +kernel
theorem dX6_allows_48 : decode cX6_allows 48 = .ok (.if_icmp .gt 7, 3) := by decide +kernel
theorem dX6_allows_51 : decode cX6_allows 51 = .ok (.iconst 1, 1) := by decide +kernel
theorem dX6_allows_52 : decode cX6_allows 52 = .ok (.goto 4, 3) := by decide +kernel
theorem dX6_allows_55 : decode cX6_allows 55 = .ok (.iconst 0, 1) := by decide +kernel
theorem dX6_allows_56 : decode cX6_allows 56 = .ok (.ireturn, 1) := by decide +kernel
set_option maxRecDepth 20000 in
theorem ggX7_init_X4_init : GoodIn wsX7_init wsX4_init := goodIn_r _ [16, 17, 2, 3, 6, 18, 19, 20, 21, 22, 29, 30, 31, 32, 33] (by decide +kernel) (by decide +kernel)
set_option maxRecDepth 20000 in
theorem gX7_init_X4_init_n35 : GoodIn wsX7_init (wsX4_init) := ggX7_init_X4_init
theorem dX7_init_0 : decode cX7_init 0 = .ok (.aload_n 0, 1) := by decide +kernel
theorem dX7_init_1 : decode cX7_init 1 = .ok (.invokespecial 3, 3) := by decide +kernel
theorem dX7_init_4 : decode cX7_init 4 = .ok (.aload_n 0, 1) := by decide +kernel
theorem dX7_init_5 : decode cX7_init 5 = .ok (.iconst 3, 1) := by decide +kernel
theorem dX7_init_6 : decode cX7_init 6 = .ok (.anewarray 9, 3) := by decide +kernel
theorem dX7_init_9 : decode cX7_init 9 = .ok (.putfield 11, 3) := by decide +kernel
theorem dX7_init_12 : decode cX7_init 12 = .ok (.aload_n 0, 1) := by decide +kernel
theorem dX7_init_13 : decode cX7_init 13 = .ok (.iconst 3, 1) := by decide +kernel
theorem dX7_init_14 : decode cX7_init 14 = .ok (.newarray .int, 2) := by decide +kernel
theorem dX7_init_16 : decode cX7_init 16 = .ok (.putfield 17, 3) := by decide +kernel
theorem dX7_init_19 : decode cX7_init 19 = .ok (.aload_n 0, 1) := by decide +kernel
theorem dX7_init_20 : decode cX7_init 20 = .ok (.iconst 3, 1) := by decide +kernel
theorem dX7_init_21 : decode cX7_init 21 = .ok (.newarray .int, 2) := by decide +kernel
theorem dX7_init_23 : decode cX7_init 23 = .ok (.putfield 21, 3) := by decide +kernel
theorem dX7_init_26 : decode cX7_init 26 = .ok (.aload_n 0, 1) := by decide +kernel
theorem dX7_init_27 : decode cX7_init 27 = .ok (.iconst 3, 1) := by decide +kernel
theorem dX7_init_28 : decode cX7_init 28 = .ok (.newarray .int, 2) := by decide +kernel
theorem dX7_init_30 : decode cX7_init 30 = .ok (.putfield 24, 3) := by decide +kernel
theorem dX7_init_33 : decode cX7_init 33 = .ok (.aload_n 0, 1) := by decide +kernel
theorem dX7_init_34 : decode cX7_init 34 = .ok (.ldc 27, 2) := by decide +kernel
theorem dX7_init_36 : decode cX7_init 36 = .ok (.putfield 28, 3) := by decide +kernel
theorem dX7_init_39 : decode cX7_init 39 = .ok (.aload_n 0, 1) := by decide +kernel
theorem dX7_init_40 : decode cX7_init 40 = .ok (.iconst 0, 1) := by decide +kernel
theorem dX7_init_41 : decode cX7_init 41 = .ok (.putfield 32, 3) := by decide +kernel
theorem dX7_init_44 : decode cX7_init 44 = .ok (.iconst 0, 1) := by decide +kernel
theorem dX7_init_45 : decode cX7_init 45 = .ok (.istore_n 1, 1) := by decide +kernel
theorem dX7_init_46 : decode cX7_init 46 = .ok (.iload_n 1, 1) := by decide +kernel
theorem dX7_init_47 : decode cX7_init 47 = .ok (.iconst 3, 1) := by decide +kernel
theorem dX7_init_48 : decode cX7_init 48 = .ok (.if_icmp .ge 22, 3) := by decide +kernel
theorem dX7_init_51 : decode cX7_init 51 = .ok (.aload_n 0, 1) := by decide +kernel
theorem dX7_init_52 : decode cX7_init 52 = .ok (.getfield 11, 3) := by decide +kernel
theorem dX7_init_55 : decode cX7_init 55 = .ok (.iload_n 1, 1) := by decide +kernel
theorem dX7_init_56 : decode cX7_init 56 = .ok (.new 9, 3) := by decide +kernel
theorem dX7_init_59 : decode cX7_init 59 = .ok (.dup, 1) := by decide +kernel
theorem dX7_init_60 : decode cX7_init 60 = .ok (.invokespecial 35, 3) := by decide +kernel
theorem dX7_init_63 : decode cX7_init 63 = .ok (.aastore, 1) := by decide +kernel
theorem dX7_init_64 : decode cX7_init 64 = .ok (.iinc 1 1, 3) := by decide +kernel
theorem dX7_init_67 : decode cX7_init 67 = .ok (.goto (-21), 3) := by decide +kernel
theorem dX7_init_70 : decode cX7_init 70 = .ok (.return_, 1) := by decide +kernel
set_option maxRecDepth 20000 in
theorem ggX7_draw_X4_draw : GoodIn wsX7_draw wsX4_draw := goodIn_r _ [6, 7, 8, 9, 10, 11, 12, 13, 14, 15, 16, 17, 18, 19, 20, 21, 22, 23, 24, 5, 25, 32, 33, 34, 35, 36, 37, 38, 39, 40, 41, 42, 43, 44, 45] (by decide +kernel) (by decide +kernel)
set_option maxRecDepth 20000 in
theorem gX7_draw_X4_draw : GoodIn wsX7_draw (wsV RX7 36 RX4 yX4_draw wsX4_draw) := goodIn_app (goodIn_of _ (by decide +kernel)) ggX7_draw_X4_draw
theorem dX7_draw_0 : decode cX7_draw 0 = .ok (.iconst 0, 1) := by decide +kernel
theorem dX7_draw_1 : decode cX7_draw 1 = .ok (.istore_n 3, 1) := by decide +kernel
theorem dX7_draw_2 : decode cX7_draw 2 = .ok (.iload_n 3, 1) := by decide +kernel
theorem dX7_draw_3 : decode cX7_draw 3 = .ok (.iconst 3, 1) := by decide +kernel
theorem dX7_draw_4 : decode cX7_draw 4 = .ok (.if_icmp .ge 21, 3) := by decide +kernel
theorem dX7_draw_7 : decode cX7_draw 7 = .ok (.aload_n 0, 1) := by decide +kernel
theorem dX7_draw_8 : decode cX7_draw 8 = .ok (.getfield 11, 3) := by decide +kernel
theorem dX7_draw_11 : decode cX7_draw 11 = .ok (.iload_n 3, 1) := by decide +kernel
theorem dX7_draw_12 : decode cX7_draw 12 = .ok (.aaload, 1) := by decide +kernel
theorem dX7_draw_13 : decode cX7_draw 13 = .ok (.aload_n 1, 1) := by decide +kernel
theorem dX7_draw_14 : decode cX7_draw 14 = .ok (.iload_n 3, 1) := by decide +kernel
theorem dX7_draw_15 : decode cX7_draw 15 = .ok (.iload_n 2, 1) := by decide +kernel
theorem dX7_draw_16 : decode cX7_draw 16 = .ok (.invokevirtual 36, 3) := by decide +kernel
theorem dX7_draw_19 : decode cX7_draw 19 = .ok (.iinc 3 1, 3) := by decide +kernel
theorem dX7_draw_22 : decode cX7_draw 22 = .ok (.goto (-20), 3) := by decide +kernel
theorem dX7_draw_25 : decode cX7_draw 25 = .ok (.return_, 1) := by decide +kernel
set_option maxRecDepth 20000 in
theorem ggX7_weighBids_X4_weigh : GoodIn wsX7_weighBids wsX4_weigh := goodIn_r _ [6, 7, 8, 9, 10, 11, 12, 13, 14, 15, 16, 17, 18, 19, 20, 21, 22, 5, 23, 24, 25, 26, 27, 34, 35, 36, 37, 38] (by decide +kernel) (by decide +kernel)
set_option maxRecDepth 20000 in
theorem gX7_weighBids_X4_weigh : GoodIn wsX7_weighBids (wsV RX7 40 RX4 yX4_weigh wsX4_weigh) := goodIn_app (goodIn_of _ (by decide +kernel)) ggX7_weighBids_X4_weigh
theorem dX7_weighBids_0 : decode cX7_weighBids 0 = .ok (.iconst 0, 1) := by decide +kernel
theorem dX7_weighBids_1 : decode cX7_weighBids 1 = .ok (.istore_n 1, 1) := by decide +kernel
theorem dX7_weighBids_2 : decode cX7_weighBids 2 = .ok (.iload_n 1, 1) := by decide +kernel
theorem dX7_weighBids_3 : decode cX7_weighBids 3 = .ok (.iconst 3, 1) := by decide +kernel
theorem dX7_weighBids_4 : decode cX7_weighBids 4 = .ok (.if_icmp .ge 18, 3) := by decide +kernel
theorem dX7_weighBids_7 : decode cX7_weighBids 7 = .ok (.aload_n 0, 1) := by decide +kernel
theorem dX7_weighBids_8 : decode cX7_weighBids 8 = .ok (.getfield 11, 3) := by decide +kernel
theorem dX7_weighBids_11 : decode cX7_weighBids 11 = .ok (.iload_n 1, 1) := by decide +kernel
theorem dX7_weighBids_12 : decode cX7_weighBids 12 = .ok (.aaload, 1) := by decide +kernel
theorem dX7_weighBids_13 : decode cX7_weighBids 13 = .ok (.invokevirtual 40, 3) := by decide +kernel
theorem dX7_weighBids_16 : decode cX7_weighBids 16 = .ok (.iinc 1 1, 3) := by decide +kernel
theorem dX7_weighBids_19 : decode cX7_weighBids 19 = .ok (.goto (-17), 3) := by decide +kernel
theorem dX7_weighBids_22 : decode cX7_weighBids 22 = .ok (.return_, 1) := by decide +kernel
set_option maxRecDepth 20000 in
theorem ggX7_search_X2_unitsOf : GoodIn wsX7_search wsX2_unitsOf := goodIn_r _ [10, 11, 12, 13, 14, 15, 16, 17, 70, 71, 72, 73, 74, 75, 76, 77, 78, 79] (by decide +kernel) (by decide +kernel)
set_option maxRecDepth 20000 in
theorem gX7_search_X2_unitsOf : GoodIn wsX7_search (wsV RX7 43 RX2 yX2_unitsOf wsX2_unitsOf) := goodIn_app (goodIn_of _ (by decide +kernel)) ggX7_search_X2_unitsOf
set_option maxRecDepth 20000 in
theorem ggX7_search_X7_mostNet : GoodIn wsX7_search wsX7_mostNet := goodIn_r _ [22, 3, 23, 24, 25, 26, 27, 28, 64, 65, 66, 67, 68, 69, 80, 81, 82, 83, 84] (by decide +kernel) (by decide +kernel)
set_option maxRecDepth 20000 in
theorem gX7_search_X7_mostNet : GoodIn wsX7_search (wsV RX7 49 RX7 yX7_mostNet wsX7_mostNet) := goodIn_app (goodIn_of _ (by decide +kernel)) ggX7_search_X7_mostNet
set_option maxRecDepth 20000 in
theorem ggX7_search_X7_leastNet : GoodIn wsX7_search wsX7_leastNet := goodIn_r _ [32, 3, 23, 33, 34, 35, 27, 36, 64, 65, 66, 67, 68, 69, 80, 81, 82, 83, 84] (by decide +kernel) (by decide +kernel)
set_option maxRecDepth 20000 in
theorem gX7_search_X7_leastNet : GoodIn wsX7_search (wsV RX7 53 RX7 yX7_leastNet wsX7_leastNet) := goodIn_app (goodIn_of _ (by decide +kernel)) ggX7_search_X7_leastNet
set_option maxRecDepth 20000 in
theorem ggX7_search_X6_allows : GoodIn wsX7_search wsX6_allows := goodIn_r _ [41, 42, 43, 27, 44, 45, 85] (by decide +kernel) (by decide +kernel)
set_option maxRecDepth 20000 in
theorem gX7_search_X6_allows : GoodIn wsX7_search (wsV RX7 56 RX6 yX6_allows wsX6_allows) := goodIn_app (goodIn_of _ (by decide +kernel)) ggX7_search_X6_allows
set_option maxRecDepth 20000 in
theorem ggX7_search_X7_consider : GoodIn wsX7_search wsX7_consider := goodIn_r _ [49, 3, 23, 5, 34, 35, 27, 36, 50, 43, 44, 1, 2, 51, 4, 52, 53, 54, 55, 56, 57, 58, 59, 60, 61, 62, 21, 63, 64, 65, 66, 67, 68, 69, 80, 81, 82, 83, 84] (by decide +kernel) (by decide +kernel)
set_option maxRecDepth 20000 in
theorem gX7_search_X7_consider : GoodIn wsX7_search (wsV RX7 62 RX7 yX7_consider wsX7_consider) := goodIn_app (goodIn_of _ (by decide +kernel)) ggX7_search_X7_consider
theorem dX7_search_0 : decode cX7_search 0 = .ok (.aload_n 0, 1) := by decide +kernel
theorem dX7_search_1 : decode cX7_search 1 = .ok (.ldc 27, 2) := by decide +kernel
theorem dX7_search_3 : decode cX7_search 3 = .ok (.putfield 28, 3) := by decide +kernel
theorem dX7_search_6 : decode cX7_search 6 = .ok (.iconst 0, 1) := by decide +kernel
theorem dX7_search_7 : decode cX7_search 7 = .ok (.istore 4, 2) := by decide +kernel
theorem dX7_search_9 : decode cX7_search 9 = .ok (.iload 4, 2) := by decide +kernel
theorem dX7_search_11 : decode cX7_search 11 = .ok (.iconst 3, 1) := by decide +kernel
theorem dX7_search_12 : decode cX7_search 12 = .ok (.if_icmp .ge 40, 3) := by decide +kernel
theorem dX7_search_15 : decode cX7_search 15 = .ok (.aload_n 0, 1) := by decide +kernel
theorem dX7_search_16 : decode cX7_search 16 = .ok (.getfield 17, 3) := by decide +kernel
theorem dX7_search_19 : decode cX7_search 19 = .ok (.iload 4, 2) := by decide +kernel
theorem dX7_search_21 : decode cX7_search 21 = .ok (.aload_n 2, 1) := by decide +kernel
theorem dX7_search_22 : decode cX7_search 22 = .ok (.iload_n 3, 1) := by decide +kernel
theorem dX7_search_23 : decode cX7_search 23 = .ok (.iload 4, 2) := by decide +kernel
theorem dX7_search_25 : decode cX7_search 25 = .ok (.invokevirtual 43, 3) := by decide +kernel
theorem dX7_search_28 : decode cX7_search 28 = .ok (.iastore, 1) := by decide +kernel
theorem dX7_search_29 : decode cX7_search 29 = .ok (.aload_n 0, 1) := by decide +kernel
theorem dX7_search_30 : decode cX7_search 30 = .ok (.getfield 21, 3) := by decide +kernel
theorem dX7_search_33 : decode cX7_search 33 = .ok (.iload 4, 2) := by decide +kernel
theorem dX7_search_35 : decode cX7_search 35 = .ok (.iconst 0, 1) := by decide +kernel
theorem dX7_search_36 : decode cX7_search 36 = .ok (.iastore, 1) := by decide +kernel
theorem dX7_search_37 : decode cX7_search 37 = .ok (.aload_n 0, 1) := by decide +kernel
theorem dX7_search_38 : decode cX7_search 38 = .ok (.getfield 24, 3) := by decide +kernel
theorem dX7_search_41 : decode cX7_search 41 = .ok (.iload 4, 2) := by decide +kernel
theorem dX7_search_43 : decode cX7_search 43 = .ok (.ldc 27, 2) := by decide +kernel
theorem dX7_search_45 : decode cX7_search 45 = .ok (.iastore, 1) := by decide +kernel
theorem dX7_search_46 : decode cX7_search 46 = .ok (.iinc 4 1, 3) := by decide +kernel
theorem dX7_search_49 : decode cX7_search 49 = .ok (.goto (-40), 3) := by decide +kernel
theorem dX7_search_52 : decode cX7_search 52 = .ok (.aload_n 0, 1) := by decide +kernel
theorem dX7_search_53 : decode cX7_search 53 = .ok (.iconst 0, 1) := by decide +kernel
theorem dX7_search_54 : decode cX7_search 54 = .ok (.invokevirtual 49, 3) := by decide +kernel
theorem dX7_search_57 : decode cX7_search 57 = .ok (.istore 4, 2) := by decide +kernel
theorem dX7_search_59 : decode cX7_search 59 = .ok (.aload_n 0, 1) := by decide +kernel
theorem dX7_search_60 : decode cX7_search 60 = .ok (.iconst 1, 1) := by decide +kernel
theorem dX7_search_61 : decode cX7_search 61 = .ok (.invokevirtual 49, 3) := by decide +kernel
theorem dX7_search_64 : decode cX7_search 64 = .ok (.istore 5, 2) := by decide +kernel
theorem dX7_search_66 : decode cX7_search 66 = .ok (.aload_n 0, 1) := by decide +kernel
theorem dX7_search_67 : decode cX7_search 67 = .ok (.iconst 0, 1) := by decide +kernel
theorem dX7_search_68 : decode cX7_search 68 = .ok (.invokevirtual 53, 3) := by decide +kernel
theorem dX7_search_71 : decode cX7_search 71 = .ok (.istore 6, 2) := by decide +kernel
theorem dX7_search_73 : decode cX7_search 73 = .ok (.iload 6, 2) := by decide +kernel
theorem dX7_search_75 : decode cX7_search 75 = .ok (.iload 4, 2) := by decide +kernel
theorem dX7_search_77 : decode cX7_search 77 = .ok (.if_icmp .gt 60, 3) := by decide +kernel
theorem dX7_search_80 : decode cX7_search 80 = .ok (.aload_n 0, 1) := by decide +kernel
theorem dX7_search_81 : decode cX7_search 81 = .ok (.iconst 1, 1) := by decide +kernel
theorem dX7_search_82 : decode cX7_search 82 = .ok (.invokevirtual 53, 3) := by decide +kernel
theorem dX7_search_85 : decode cX7_search 85 = .ok (.istore 7, 2) := by decide +kernel
theorem dX7_search_87 : decode cX7_search 87 = .ok (.iload 7, 2) := by decide +kernel
theorem dX7_search_89 : decode cX7_search 89 = .ok (.iload 5, 2) := by decide +kernel
theorem dX7_search_91 : decode cX7_search 91 = .ok (.if_icmp .gt 40, 3) := by decide +kernel
theorem dX7_search_94 : decode cX7_search 94 = .ok (.aload_n 1, 1) := by decide +kernel
theorem dX7_search_95 : decode cX7_search 95 = .ok (.iload 6, 2) := by decide +kernel
theorem dX7_search_97 : decode cX7_search 97 = .ok (.iload 7, 2) := by decide +kernel
theorem dX7_search_99 : decode cX7_search 99 = .ok (.iload 6, 2) := by decide +kernel
theorem dX7_search_101 : decode cX7_search 101 = .ok (.ineg, 1) := by decide +kernel
theorem dX7_search_102 : decode cX7_search 102 = .ok (.iload 7, 2) := by decide +kernel
theorem dX7_search_104 : decode cX7_search 104 = .ok (.isub, 1) := by decide +kernel
theorem dX7_search_105 : decode cX7_search 105 = .ok (.invokevirtual 56, 3) := by decide +kernel
theorem dX7_search_108 : decode cX7_search 108 = .ok (.ifCond .eq 17, 3) := by decide +kernel
theorem dX7_search_111 : decode cX7_search 111 = .ok (.aload_n 0, 1) := by decide +kernel
theorem dX7_search_112 : decode cX7_search 112 = .ok (.iload 6, 2) := by decide +kernel
theorem dX7_search_114 : decode cX7_search 114 = .ok (.iload 7, 2) := by decide +kernel
theorem dX7_search_116 : decode cX7_search 116 = .ok (.iload 6, 2) := by decide +kernel
theorem dX7_search_118 : decode cX7_search 118 = .ok (.ineg, 1) := by decide +kernel
theorem dX7_search_119 : decode cX7_search 119 = .ok (.iload 7, 2) := by decide +kernel
theorem dX7_search_121 : decode cX7_search 121 = .ok (.isub, 1) := by decide +kernel
theorem dX7_search_122 : decode cX7_search 122 = .ok (.invokevirtual 62, 3) := by decide +kernel
theorem dX7_search_125 : decode cX7_search 125 = .ok (.iinc 7 1, 3) := by decide +kernel
theorem dX7_search_128 : decode cX7_search 128 = .ok (.goto (-41), 3) := by decide +kernel
theorem dX7_search_131 : decode cX7_search 131 = .ok (.iinc 6 1, 3) := by decide +kernel
theorem dX7_search_134 : decode cX7_search 134 = .ok (.goto (-61), 3) := by decide +kernel
theorem dX7_search_137 : decode cX7_search 137 = .ok (.return_, 1) := by decide +kernel
theorem dX7_leastNet_0 : decode cX7_leastNet 0 = .ok (.bipush (-20), 2) := by decide +kernel
theorem dX7_leastNet_2 : decode cX7_leastNet 2 = .ok (.aload_n 0, 1) := by decide +kernel
theorem dX7_leastNet_3 : decode cX7_leastNet 3 = .ok (.getfield 17, 3) := by decide +kernel
theorem dX7_leastNet_6 : decode cX7_leastNet 6 = .ok (.iload_n 1, 1) := by decide +kernel
theorem dX7_leastNet_7 : decode cX7_leastNet 7 = .ok (.iaload, 1) := by decide +kernel
theorem dX7_leastNet_8 : decode cX7_leastNet 8 = .ok (.aload_n 0, 1) := by decide +kernel
theorem dX7_leastNet_9 : decode cX7_leastNet 9 = .ok (.getfield 11, 3) := by decide +kernel
theorem dX7_leastNet_12 : decode cX7_leastNet 12 = .ok (.iload_n 1, 1) := by decide +kernel
theorem dX7_leastNet_13 : decode cX7_leastNet 13 = .ok (.aaload, 1) := by decide +kernel
theorem dX7_leastNet_14 : decode cX7_leastNet 14 = .ok (.getfield 66, 3) := by decide +kernel
theorem dX7_leastNet_17 : decode cX7_leastNet 17 = .ok (.isub, 1) := by decide +kernel
theorem dX7_leastNet_18 : decode cX7_leastNet 18 = .ok (.invokestatic 69, 3) := by decide +kernel
theorem dX7_leastNet_21 : decode cX7_leastNet 21 = .ok (.ireturn, 1) := by decide +kernel
theorem dX7_mostNet_0 : decode cX7_mostNet 0 = .ok (.bipush 20, 2) := by decide +kernel
theorem dX7_mostNet_2 : decode cX7_mostNet 2 = .ok (.aload_n 0, 1) := by decide +kernel
theorem dX7_mostNet_3 : decode cX7_mostNet 3 = .ok (.getfield 17, 3) := by decide +kernel
theorem dX7_mostNet_6 : decode cX7_mostNet 6 = .ok (.iload_n 1, 1) := by decide +kernel
theorem dX7_mostNet_7 : decode cX7_mostNet 7 = .ok (.iaload, 1) := by decide +kernel
theorem dX7_mostNet_8 : decode cX7_mostNet 8 = .ok (.aload_n 0, 1) := by decide +kernel
theorem dX7_mostNet_9 : decode cX7_mostNet 9 = .ok (.getfield 11, 3) := by decide +kernel
theorem dX7_mostNet_12 : decode cX7_mostNet 12 = .ok (.iload_n 1, 1) := by decide +kernel
theorem dX7_mostNet_13 : decode cX7_mostNet 13 = .ok (.aaload, 1) := by decide +kernel
theorem dX7_mostNet_14 : decode cX7_mostNet 14 = .ok (.getfield 74, 3) := by decide +kernel
theorem dX7_mostNet_17 : decode cX7_mostNet 17 = .ok (.iadd, 1) := by decide +kernel
theorem dX7_mostNet_18 : decode cX7_mostNet 18 = .ok (.iconst 1, 1) := by decide +kernel
theorem dX7_mostNet_19 : decode cX7_mostNet 19 = .ok (.iadd, 1) := by decide +kernel
theorem dX7_mostNet_20 : decode cX7_mostNet 20 = .ok (.invokestatic 77, 3) := by decide +kernel
theorem dX7_mostNet_23 : decode cX7_mostNet 23 = .ok (.ireturn, 1) := by decide +kernel
set_option maxRecDepth 20000 in
theorem ggX7_consider_X4_worthOf : GoodIn wsX7_consider wsX4_worthOf := goodIn_r _ [19, 20, 21, 22, 23, 34, 35, 36, 37, 38] (by decide +kernel) (by decide +kernel)
set_option maxRecDepth 20000 in
theorem gX7_consider_X4_worthOf : GoodIn wsX7_consider (wsV RX7 80 RX4 yX4_worthOf wsX4_worthOf) := goodIn_app (goodIn_of _ (by decide +kernel)) ggX7_consider_X4_worthOf
set_option maxRecDepth 20000 in
theorem ggX7_consider_X7_together : GoodIn wsX7_consider wsX7_together := goodIn_r _ [27, 11] (by decide +kernel) (by decide +kernel)
set_option maxRecDepth 20000 in
theorem gX7_consider_X7_together : GoodIn wsX7_consider (va_wsS RX7 83 yX7_together wsX7_together) := goodIn_app (goodIn_of _ (by decide +kernel)) ggX7_consider_X7_together
theorem dX7_consider_0 : decode cX7_consider 0 = .ok (.iload_n 1, 1) := by decide +kernel
theorem dX7_consider_1 : decode cX7_consider 1 = .ok (.aload_n 0, 1) := by decide +kernel
theorem dX7_consider_2 : decode cX7_consider 2 = .ok (.getfield 17, 3) := by decide +kernel
theorem dX7_consider_5 : decode cX7_consider 5 = .ok (.iconst 0, 1) := by decide +kernel
theorem dX7_consider_6 : decode cX7_consider 6 = .ok (.iaload, 1) := by decide +kernel
theorem dX7_consider_7 : decode cX7_consider 7 = .ok (.isub, 1) := by decide +kernel
theorem dX7_consider_8 : decode cX7_consider 8 = .ok (.istore 4, 2) := by decide +kernel
theorem dX7_consider_10 : decode cX7_consider 10 = .ok (.iload_n 2, 1) := by decide +kernel
theorem dX7_consider_11 : decode cX7_consider 11 = .ok (.aload_n 0, 1) := by decide +kernel
theorem dX7_consider_12 : decode cX7_consider 12 = .ok (.getfield 17, 3) := by decide +kernel
theorem dX7_consider_15 : decode cX7_consider 15 = .ok (.iconst 1, 1) := by decide +kernel
theorem dX7_consider_16 : decode cX7_consider 16 = .ok (.iaload, 1) := by decide +kernel
theorem dX7_consider_17 : decode cX7_consider 17 = .ok (.isub, 1) := by decide +kernel
theorem dX7_consider_18 : decode cX7_consider 18 = .ok (.istore 5, 2) := by decide +kernel
theorem dX7_consider_20 : decode cX7_consider 20 = .ok (.iload_n 3, 1) := by decide +kernel
theorem dX7_consider_21 : decode cX7_consider 21 = .ok (.aload_n 0, 1) := by decide +kernel
theorem dX7_consider_22 : decode cX7_consider 22 = .ok (.getfield 17, 3) := by decide +kernel
theorem dX7_consider_25 : decode cX7_consider 25 = .ok (.iconst 2, 1) := by decide +kernel
theorem dX7_consider_26 : decode cX7_consider 26 = .ok (.iaload, 1) := by decide +kernel
theorem dX7_consider_27 : decode cX7_consider 27 = .ok (.isub, 1) := by decide +kernel
theorem dX7_consider_28 : decode cX7_consider 28 = .ok (.istore 6, 2) := by decide +kernel
theorem dX7_consider_30 : decode cX7_consider 30 = .ok (.aload_n 0, 1) := by decide +kernel
theorem dX7_consider_31 : decode cX7_consider 31 = .ok (.getfield 11, 3) := by decide +kernel
theorem dX7_consider_34 : decode cX7_consider 34 = .ok (.iconst 0, 1) := by decide +kernel
theorem dX7_consider_35 : decode cX7_consider 35 = .ok (.aaload, 1) := by decide +kernel
theorem dX7_consider_36 : decode cX7_consider 36 = .ok (.iload 4, 2) := by decide +kernel
theorem dX7_consider_38 : decode cX7_consider 38 = .ok (.invokevirtual 80, 3) := by decide +kernel
theorem dX7_consider_41 : decode cX7_consider 41 = .ok (.istore 7, 2) := by decide +kernel
theorem dX7_consider_43 : decode cX7_consider 43 = .ok (.aload_n 0, 1) := by decide +kernel
theorem dX7_consider_44 : decode cX7_consider 44 = .ok (.getfield 11, 3) := by decide +kernel
theorem dX7_consider_47 : decode cX7_consider 47 = .ok (.iconst 1, 1) := by decide +kernel
theorem dX7_consider_48 : decode cX7_consider 48 = .ok (.aaload, 1) := by decide +kernel
theorem dX7_consider_49 : decode cX7_consider 49 = .ok (.iload 5, 2) := by decide +kernel
theorem dX7_consider_51 : decode cX7_consider 51 = .ok (.invokevirtual 80, 3) := by decide +kernel
theorem dX7_consider_54 : decode cX7_consider 54 = .ok (.istore 8, 2) := by decide +kernel
theorem dX7_consider_56 : decode cX7_consider 56 = .ok (.aload_n 0, 1) := by decide +kernel
theorem dX7_consider_57 : decode cX7_consider 57 = .ok (.getfield 11, 3) := by decide +kernel
theorem dX7_consider_60 : decode cX7_consider 60 = .ok (.iconst 2, 1) := by decide +kernel
theorem dX7_consider_61 : decode cX7_consider 61 = .ok (.aaload, 1) := by decide +kernel
theorem dX7_consider_62 : decode cX7_consider 62 = .ok (.iload 6, 2) := by decide +kernel
theorem dX7_consider_64 : decode cX7_consider 64 = .ok (.invokevirtual 80, 3) := by decide +kernel
theorem dX7_consider_67 : decode cX7_consider 67 = .ok (.istore 9, 2) := by decide +kernel
theorem dX7_consider_69 : decode cX7_consider 69 = .ok (.aload_n 0, 1) := by decide +kernel
theorem dX7_consider_70 : decode cX7_consider 70 = .ok (.getfield 24, 3) := by decide +kernel
theorem dX7_consider_73 : decode cX7_consider 73 = .ok (.iconst 0, 1) := by decide +kernel
theorem dX7_consider_74 : decode cX7_consider 74 = .ok (.aload_n 0, 1) := by decide +kernel
theorem dX7_consider_75 : decode cX7_consider 75 = .ok (.getfield 24, 3) := by decide +kernel
theorem dX7_consider_78 : decode cX7_consider 78 = .ok (.iconst 0, 1) := by decide +kernel
theorem dX7_consider_79 : decode cX7_consider 79 = .ok (.iaload, 1) := by decide +kernel
theorem dX7_consider_80 : decode cX7_consider 80 = .ok (.aload_n 0, 1) := by decide +kernel
theorem dX7_consider_81 : decode cX7_consider 81 = .ok (.getfield 11, 3) := by decide +kernel
theorem dX7_consider_84 : decode cX7_consider 84 = .ok (.iconst 0, 1) := by decide +kernel
theorem dX7_consider_85 : decode cX7_consider 85 = .ok (.aaload, 1) := by decide +kernel
theorem dX7_consider_86 : decode cX7_consider 86 = .ok (.iload 4, 2) := by decide +kernel
theorem dX7_consider_88 : decode cX7_consider 88 = .ok (.iconst 1, 1) := by decide +kernel
theorem dX7_consider_89 : decode cX7_consider 89 = .ok (.isub, 1) := by decide +kernel
theorem dX7_consider_90 : decode cX7_consider 90 = .ok (.invokevirtual 80, 3) := by decide +kernel
theorem dX7_consider_93 : decode cX7_consider 93 = .ok (.iload 8, 2) := by decide +kernel
theorem dX7_consider_95 : decode cX7_consider 95 = .ok (.iload 9, 2) := by decide +kernel
theorem dX7_consider_97 : decode cX7_consider 97 = .ok (.invokestatic 83, 3) := by decide +kernel
theorem dX7_consider_100 : decode cX7_consider 100 = .ok (.invokestatic 69, 3) := by decide +kernel
theorem dX7_consider_103 : decode cX7_consider 103 = .ok (.iastore, 1) := by decide +kernel
theorem dX7_consider_104 : decode cX7_consider 104 = .ok (.aload_n 0, 1) := by decide +kernel
theorem dX7_consider_105 : decode cX7_consider 105 = .ok (.getfield 24, 3) := by decide +kernel
theorem dX7_consider_108 : decode cX7_consider 108 = .ok (.iconst 1, 1) := by decide +kernel
theorem dX7_consider_109 : decode cX7_consider 109 = .ok (.aload_n 0, 1) := by decide +kernel
theorem dX7_consider_110 : decode cX7_consider 110 = .ok (.getfield 24, 3) := by decide +kernel
theorem dX7_consider_113 : decode cX7_consider 113 = .ok (.iconst 1, 1) := by decide +kernel
theorem dX7_consider_114 : decode cX7_consider 114 = .ok (.iaload, 1) := by decide +kernel
theorem dX7_consider_115 : decode cX7_consider 115 = .ok (.iload 7, 2) := by decide +kernel
theorem dX7_consider_117 : decode cX7_consider 117 = .ok (.aload_n 0, 1) := by decide +kernel
theorem dX7_consider_118 : decode cX7_consider 118 = .ok (.getfield 11, 3) := by decide +kernel
theorem dX7_consider_121 : decode cX7_consider 121 = .ok (.iconst 1, 1) := by decide +kernel
theorem dX7_consider_122 : decode cX7_consider 122 = .ok (.aaload, 1) := by decide +kernel
theorem dX7_consider_123 : decode cX7_consider 123 = .ok (.iload 5, 2) := by decide +kernel
theorem dX7_consider_125 : decode cX7_consider 125 = .ok (.iconst 1, 1) := by decide +kernel
theorem dX7_consider_126 : decode cX7_consider 126 = .ok (.isub, 1) := by decide +kernel
theorem dX7_consider_127 : decode cX7_consider 127 = .ok (.invokevirtual 80, 3) := by decide +kernel
theorem dX7_consider_130 : decode cX7_consider 130 = .ok (.iload 9, 2) := by decide +kernel
theorem dX7_consider_132 : decode cX7_consider 132 = .ok (.invokestatic 83, 3) := by decide +kernel
theorem dX7_consider_135 : decode cX7_consider 135 = .ok (.invokestatic 69, 3) := by decide +kernel
theorem dX7_consider_138 : decode cX7_consider 138 = .ok (.iastore, 1) := by decide +kernel
theorem dX7_consider_139 : decode cX7_consider 139 = .ok (.aload_n 0, 1) := by decide +kernel
theorem dX7_consider_140 : decode cX7_consider 140 = .ok (.getfield 24, 3) := by decide +kernel
theorem dX7_consider_143 : decode cX7_consider 143 = .ok (.iconst 2, 1) := by decide +kernel
theorem dX7_consider_144 : decode cX7_consider 144 = .ok (.aload_n 0, 1) := by decide +kernel
theorem dX7_consider_145 : decode cX7_consider 145 = .ok (.getfield 24, 3) := by decide +kernel
theorem dX7_consider_148 : decode cX7_consider 148 = .ok (.iconst 2, 1) := by decide +kernel
theorem dX7_consider_149 : decode cX7_consider 149 = .ok (.iaload, 1) := by decide +kernel
theorem dX7_consider_150 : decode cX7_consider 150 = .ok (.iload 7, 2) := by decide +kernel
theorem dX7_consider_152 : decode cX7_consider 152 = .ok (.iload 8, 2) := by decide +kernel
theorem dX7_consider_154 : decode cX7_consider 154 = .ok (.aload_n 0, 1) := by decide +kernel
theorem dX7_consider_155 : decode cX7_consider 155 = .ok (.getfield 11, 3) := by decide +kernel
theorem dX7_consider_158 : decode cX7_consider 158 = .ok (.iconst 2, 1) := by decide +kernel
theorem dX7_consider_159 : decode cX7_consider 159 = .ok (.aaload, 1) := by decide +kernel
theorem dX7_consider_160 : decode cX7_consider 160 = .ok (.iload 6, 2) := by decide +kernel
