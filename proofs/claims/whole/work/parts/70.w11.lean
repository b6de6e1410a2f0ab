theorem twsX9_aid_r1 : GoodIn lw_tbl wsX9_aid_r1 := tb_117
set_option maxRecDepth 20000 in
theorem tb_118 : GoodIn lw_tbl [Cond.static yX9_checkState, Cond.code yX9_checkState cX9_checkState 1 none, Cond.classLink RX9 226 "java/lang/IllegalStateException", Cond.initialized "java/lang/IllegalStateException", Cond.methodLink RX9 101 yX8_add, Cond.instanceMethod yX8_add, Cond.selects RX8 yX8_add yX8_add, Cond.code yX8_add cX8_add 8 (some .int), Cond.fieldLink RX8 15 "GridMarket$Orders" "firm" "[I", Cond.fieldLink RX8 19 "GridMarket$Orders" "zone" "[I", Cond.fieldLink RX8 22 "GridMarket$Orders" "hour" "[I", Cond.fieldLink RX8 25 "GridMarket$Orders" "isBuy" "[Z", Cond.fieldLink RX8 29 "GridMarket$Orders" "price" "[I", Cond.fieldLink RX8 32 "GridMarket$Orders" "units" "[I", Cond.fieldLink RX8 35 "GridMarket$Orders" "rest" "[I", Cond.methodLink RX8 41 yX8_hasRoom, Cond.methodLink RX8 45 yX8_rank, Cond.instanceMethod yX8_rank, Cond.selects RX8 yX8_rank yX8_rank, Cond.code yX8_rank cX8_rank 3 none, Cond.methodLink RX8 49 yX8_costOf, Cond.instanceMethod yX8_costOf, Cond.selects RX8 yX8_costOf yX8_costOf, Cond.code yX8_costOf cX8_costOf 2 (some .int)] := goodIn_r _ [526, 527, 528, 76, 561, 562, 563, 564, 111, 115, 118, 121, 125, 130, 134, 565, 566, 568, 1, 569, 570, 572, 2, 573] (by decide +kernel) (by decide +kernel)
theorem twsX9_aid_r2 : GoodIn lw_tbl wsX9_aid_r2 := tb_118
theorem twsX9_aid : GoodIn lw_tbl wsX9_aid := (goodIn_cons tb_116 (goodIn_app (goodIn_app (goodIn_app (goodIn_app (goodIn_app (goodIn_app (goodIn_app (goodIn_app twsX9_aid_r1 twsX9_aid_r2) tbX9) tbX5) tbX0) tbX8) tx_0) tx_1) tx_2))
theorem twsW_aid : GoodIn lw_tbl wsW_aid := (goodIn_cons tb_114 (goodIn_app tb_115 twsX9_aid))
set_option maxRecDepth 20000 in
theorem tb_119 : GoodIn lw_tbl [.methodLink RL 153 yL_aid, .static yL_aid, .initialized RL] := goodIn_r _ [861, 862, 59] (by decide +kernel) (by decide +kernel)
theorem tg_L_aid : GoodIn lw_tbl (va_wsS RL 153 yL_aid wsW_aid) := goodIn_app tb_119 twsW_aid
set_option maxRecDepth 20000 in
theorem tb_120 : GoodIn lw_tbl [.code yX10_aid cX10_aid 7 (some .int)] := goodIn_r _ [1415] (by decide +kernel) (by decide +kernel)
set_option maxRecDepth 20000 in
theorem tb_121 : GoodIn lw_tbl [.fieldLink RX10 19 "GridMarketModel" "failed" "[I", .fieldLink RX10 109 "GridMarketModel" "aids" "[I", .fieldLink RX10 183 "GridMarketModel" "day" "I", .fieldLink RX10 175 "GridMarketModel" "thrown" "I", .fieldLink RX10 112 "GridMarketModel" "aidFirms" "[I", .fieldLink RX10 115 "GridMarketModel" "aidHours" "[I", .fieldLink RX10 118 "GridMarketModel" "aidMore" "[I", .fieldLink RX10 121 "GridMarketModel" "aidPrices" "[I", .fieldLink RX10 124 "GridMarketModel" "aidUnits" "[I", .methodLink RX10 186 yX10_isFirm, .static yX10_isFirm, .initialized RX10, .code yX10_isFirm cX10_isFirm 1 (some .boolean), .methodLink RX10 179 yX10_in, .static yX10_in, .code yX10_in cX10_in 3 (some .boolean), .methodLink RX10 198 yX10_isHour, .static yX10_isHour, .code yX10_isHour cX10_isHour 1 (some .boolean)] := goodIn_r _ [1067, 1103, 1062, 1129, 1104, 1105, 1106, 1107, 1108, 1275, 1276, 70, 1277, 1278, 1279, 1280, 1294, 1295, 1296] (by decide +kernel) (by decide +kernel)
theorem twsX10_aid : GoodIn lw_tbl wsX10_aid := (goodIn_cons tb_120 (goodIn_app tb_121 tbX10))
set_option maxRecDepth 20000 in
theorem tb_122 : GoodIn lw_tbl [.methodLink RL 156 yX10_aid, .instanceMethod yX10_aid, .selects RX10 yX10_aid yX10_aid, .initialized RX10] := goodIn_r _ [1412, 1413, 1414, 70] (by decide +kernel) (by decide +kernel)
theorem tg_X10_aid : GoodIn lw_tbl (wsV RL 156 RX10 yX10_aid wsX10_aid) := goodIn_app tb_122 twsX10_aid
set_option maxRecDepth 20000 in
theorem tb_123 : GoodIn lw_tbl [.codeWith yL_close cL_close 3 (some .int) [(0, 8, 11, 17)]] := goodIn_r _ [870] (by decide +kernel) (by decide +kernel)
set_option maxRecDepth 20000 in
theorem tb_124 : GoodIn lw_tbl [.methodLink RL 52 yX9_close, .instanceMethod yX9_close, .selects RX9 yX9_close yX9_close, .initialized RX9, .classLink RL 17 (g_xn 3)] := goodIn_r _ [871, 872, 873, 60, 433] (by decide +kernel) (by decide +kernel)
set_option maxRecDepth 20000 in
theorem tb_125 : GoodIn lw_tbl [.code yX9_close cX9_close 1 (some .int)] := goodIn_r _ [874] (by decide +kernel) (by decide +kernel)
set_option maxRecDepth 20000 in
theorem tb_126 : GoodIn lw_tbl [.fieldLink RX9 63 "GridMarket" "state" "I", .fieldLink RX9 59 "GridMarket" "today" "I", .fieldLink RX9 25 "GridMarket" "bids" "LGridMarket$Orders;", .fieldLink RX9 150 "GridMarket$Orders" "count" "I", .fieldLink RX9 30 "GridMarket" "blocks" "LGridMarket$Blocks;", .fieldLink RX9 105 "GridMarket$Blocks" "count" "I", .fieldLink RX9 34 "GridMarket" "asks" "LGridMarket$Asks;", .fieldLink RX9 124 "GridMarket$Asks" "rows" "LGridMarket$Orders;", .fieldLink RX9 43 "GridMarket" "offers" "LGridMarket$Orders;", .methodLink RX9 85 yX9_checkState, .static yX9_checkState, .initialized RX9, .code yX9_checkState cX9_checkState 1 none, .classLink RX9 226 "java/lang/IllegalStateException", .initialized "java/lang/IllegalStateException"] := goodIn_r _ [394, 393, 387, 146, 388, 190, 389, 309, 390, 525, 526, 60, 527, 528, 76] (by decide +kernel) (by decide +kernel)
theorem twsX9_close : GoodIn lw_tbl wsX9_close := (goodIn_cons tb_125 (goodIn_app (goodIn_app (goodIn_app (goodIn_app (goodIn_app tb_126 tbX9) tbX8) tbX2) tbX1) tx_2))
theorem twsW_close : GoodIn lw_tbl wsW_close := (goodIn_cons tb_123 (goodIn_app tb_124 twsX9_close))
set_option maxRecDepth 20000 in
theorem tb_127 : GoodIn lw_tbl [.methodLink RL 157 yL_close, .static yL_close, .initialized RL] := goodIn_r _ [868, 869, 59] (by decide +kernel) (by decide +kernel)
theorem tg_L_close : GoodIn lw_tbl (va_wsS RL 157 yL_close wsW_close) := goodIn_app tb_127 twsW_close
set_option maxRecDepth 20000 in
theorem tb_128 : GoodIn lw_tbl [.code yX10_close cX10_close 1 (some .int)] := goodIn_r _ [1419] (by decide +kernel) (by decide +kernel)
set_option maxRecDepth 20000 in
theorem tb_129 : GoodIn lw_tbl [.fieldLink RX10 192 "GridMarketModel" "cleared" "I", .fieldLink RX10 183 "GridMarketModel" "day" "I", .fieldLink RX10 175 "GridMarketModel" "thrown" "I", .fieldLink RX10 201 "GridMarketModel" "bids" "I", .fieldLink RX10 204 "GridMarketModel" "blocks" "I", .fieldLink RX10 207 "GridMarketModel" "asks" "I", .fieldLink RX10 298 "GridMarketModel" "offers" "I"] := goodIn_r _ [1063, 1062, 1129, 1069, 1078, 1088, 1095] (by decide +kernel) (by decide +kernel)
theorem twsX10_close : GoodIn lw_tbl wsX10_close := (goodIn_cons tb_128 (goodIn_app tb_129 tbX10))
set_option maxRecDepth 20000 in
theorem tb_130 : GoodIn lw_tbl [.methodLink RL 159 yX10_close, .instanceMethod yX10_close, .selects RX10 yX10_close yX10_close, .initialized RX10] := goodIn_r _ [1416, 1417, 1418, 70] (by decide +kernel) (by decide +kernel)
theorem tg_X10_close : GoodIn lw_tbl (wsV RL 159 RX10 yX10_close wsX10_close) := goodIn_app tb_130 twsX10_close
set_option maxRecDepth 20000 in
theorem tb_131 : GoodIn lw_tbl [.codeWith yL_read cL_read 8 (some .int) [(0, 16, 19, 13), (0, 16, 23, 15)]] := goodIn_r _ [877] (by decide +kernel) (by decide +kernel)
set_option maxRecDepth 20000 in
theorem tb_132 : GoodIn lw_tbl [.methodLink RL 55 yX9_read, .instanceMethod yX9_read, .selects RX9 yX9_read yX9_read, .initialized RX9, .classLink RL 13 (g_xn 1), .classLink RL 15 (g_xn 2)] := goodIn_r _ [878, 879, 880, 60, 431, 432] (by decide +kernel) (by decide +kernel)
set_option maxRecDepth 20000 in
theorem tb_133 : GoodIn lw_tbl [.code yX9_read cX9_read 8 (some .int)] := goodIn_r _ [881] (by decide +kernel) (by decide +kernel)
set_option maxRecDepth 20000 in
theorem tb_134 : GoodIn lw_tbl [.fieldLink RX9 59 "GridMarket" "today" "I", .fieldLink RX9 48 "GridMarket" "days" "[LGridMarket$Day;", .fieldLink RX9 161 "GridMarket$Day" "gaps" "[I", .fieldLink RX9 164 "GridMarket$Day" "plans" "[I", .methodLink RX9 67 yX9_checkIndex, .static yX9_checkIndex, .initialized RX9, .code yX9_checkIndex cX9_checkIndex 2 none, .classLink RX9 222 "java/lang/IndexOutOfBoundsException", .initialized "java/lang/IndexOutOfBoundsException", .methodLink RX9 72 yX9_checkRange, .static yX9_checkRange, .code yX9_checkRange cX9_checkRange 3 none, .classLink RX9 117 "java/lang/IllegalArgumentException", .initialized "java/lang/IllegalArgumentException", .methodLink RX9 157 yX9_placeOf, .static yX9_placeOf, .code yX9_placeOf cX9_placeOf 3 (some .int), .methodLink RX9 186 yX9_spotOf, .static yX9_spotOf, .code yX9_spotOf cX9_spotOf 2 (some .int)] := goodIn_r _ [393, 391, 359, 357, 438, 439, 60, 440, 441, 74, 506, 507, 508, 509, 75, 882, 883, 884, 791, 760, 761] (by decide +kernel) (by decide +kernel)
theorem twsX9_read : GoodIn lw_tbl wsX9_read := (goodIn_cons tb_133 (goodIn_app (goodIn_app (goodIn_app (goodIn_app tb_134 tbX9) tbX5) tx_0) tx_1))
theorem twsW_read : GoodIn lw_tbl wsW_read := (goodIn_cons tb_131 (goodIn_app tb_132 twsX9_read))
set_option maxRecDepth 20000 in
theorem tb_135 : GoodIn lw_tbl [.methodLink RL 160 yL_read, .static yL_read, .initialized RL] := goodIn_r _ [875, 876, 59] (by decide +kernel) (by decide +kernel)
theorem tg_L_read : GoodIn lw_tbl (va_wsS RL 160 yL_read wsW_read) := goodIn_app tb_135 twsW_read
set_option maxRecDepth 20000 in
theorem tb_136 : GoodIn lw_tbl [.code yX10_read cX10_read 6 (some .int)] := goodIn_r _ [1423] (by decide +kernel) (by decide +kernel)
set_option maxRecDepth 20000 in
theorem tb_137 : GoodIn lw_tbl [Cond.fieldLink RX10 175 "GridMarketModel" "thrown" "I", Cond.fieldLink RX10 136 "GridMarketModel" "readings" "[I", Cond.fieldLink RX10 139 "GridMarketModel" "areRead" "[I", Cond.methodLink RX10 310 yX10_isClosed, Cond.instanceMethod yX10_isClosed, Cond.selects RX10 yX10_isClosed yX10_isClosed, Cond.initialized RX10, Cond.code yX10_isClosed cX10_isClosed 2 (some .boolean), Cond.fieldLink RX10 183 "GridMarketModel" "day" "I", Cond.methodLink RX10 179 yX10_in, Cond.static yX10_in, Cond.code yX10_in cX10_in 3 (some .boolean), Cond.methodLink RX10 186 yX10_isFirm, Cond.static yX10_isFirm, Cond.code yX10_isFirm cX10_isFirm 1 (some .boolean), Cond.methodLink RX10 195 yX10_isZone, Cond.static yX10_isZone, Cond.code yX10_isZone cX10_isZone 1 (some .boolean), Cond.methodLink RX10 198 yX10_isHour, Cond.static yX10_isHour, Cond.code yX10_isHour cX10_isHour 1 (some .boolean), Cond.methodLink RX10 307 yX10_placeOf, Cond.static yX10_placeOf, Cond.code yX10_placeOf cX10_placeOf 4 (some .int)] := goodIn_r _ [1129, 1112, 1113, 1424, 1426, 49, 70, 1427, 1062, 1278, 1279, 1280, 1275, 1276, 1277, 1291, 1292, 1293, 1294, 1295, 1296, 1428, 1429, 1430] (by decide +kernel) (by decide +kernel)
theorem twsX10_read_r1 : GoodIn lw_tbl wsX10_read_r1 := tb_137
set_option maxRecDepth 20000 in
theorem tb_138 : GoodIn lw_tbl [Cond.methodLink RX10 313 yX10_gapOf, Cond.instanceMethod yX10_gapOf, Cond.selects RX10 yX10_gapOf yX10_gapOf, Cond.code yX10_gapOf cX10_gapOf 6 (some .int), Cond.fieldLink RX10 133 "GridMarketModel" "plans" "[I"] := goodIn_r _ [1431, 1433, 50, 1434, 1111] (by decide +kernel) (by decide +kernel)
theorem twsX10_read_r2 : GoodIn lw_tbl wsX10_read_r2 := tb_138
theorem twsX10_read : GoodIn lw_tbl wsX10_read := (goodIn_cons tb_136 (goodIn_app (goodIn_app twsX10_read_r1 twsX10_read_r2) tbX10))
set_option maxRecDepth 20000 in
theorem tb_139 : GoodIn lw_tbl [.methodLink RL 162 yX10_read, .instanceMethod yX10_read, .selects RX10 yX10_read yX10_read, .initialized RX10] := goodIn_r _ [1420, 1421, 1422, 70] (by decide +kernel) (by decide +kernel)
theorem tg_X10_read : GoodIn lw_tbl (wsV RL 162 RX10 yX10_read wsX10_read) := goodIn_app tb_139 twsX10_read
set_option maxRecDepth 20000 in
theorem tb_140 : GoodIn lw_tbl [.codeWith yL_run cL_run 4 (some .int) [(0, 9, 12, 13), (0, 9, 15, 17)]] := goodIn_r _ [887] (by decide +kernel) (by decide +kernel)
set_option maxRecDepth 20000 in
theorem tb_141 : GoodIn lw_tbl [.methodLink RL 58 yX9_run, .instanceMethod yX9_run, .selects RX9 yX9_run yX9_run, .initialized RX9, .classLink RL 13 (g_xn 1), .classLink RL 17 (g_xn 3)] := goodIn_r _ [888, 889, 890, 60, 431, 433] (by decide +kernel) (by decide +kernel)
set_option maxRecDepth 20000 in
theorem tb_142 : GoodIn lw_tbl [.code yX9_run cX9_run 5 (some .int)] := goodIn_r _ [891] (by decide +kernel) (by decide +kernel)
set_option maxRecDepth 20000 in
theorem tb_143 : GoodIn lw_tbl [Cond.fieldLink RX9 59 "GridMarket" "today" "I", Cond.fieldLink RX9 48 "GridMarket" "days" "[LGridMarket$Day;", Cond.fieldLink RX9 167 "GridMarket$Day" "runs" "I", Cond.fieldLink RX9 55 "GridMarket" "accounts" "LGridMarket$Accounts;", Cond.fieldLink RX9 76 "GridMarket$Accounts" "isOut" "[Z", Cond.fieldLink RX9 174 "GridMarket$Day" "paid" "[I", Cond.methodLink RX9 67 yX9_checkIndex, Cond.static yX9_checkIndex, Cond.initialized RX9, Cond.code yX9_checkIndex cX9_checkIndex 2 none, Cond.classLink RX9 222 "java/lang/IndexOutOfBoundsException", Cond.initialized "java/lang/IndexOutOfBoundsException", Cond.methodLink RX9 85 yX9_checkState, Cond.static yX9_checkState, Cond.code yX9_checkState cX9_checkState 1 none, Cond.classLink RX9 226 "java/lang/IllegalStateException", Cond.initialized "java/lang/IllegalStateException", Cond.methodLink RX9 170 yX5_billOf, Cond.instanceMethod yX5_billOf, Cond.selects RX5 yX5_billOf yX5_billOf, Cond.initialized RX5, Cond.code yX5_billOf cX5_billOf 4 (some .int), Cond.fieldLink RX5 24 "GridMarket$Day" "cash" "[I", Cond.methodLink RX5 98 yX5_balanceOf] := goodIn_r _ [393, 391, 367, 392, 331, 363, 438, 439, 60, 440, 441, 74, 525, 526, 527, 528, 76, 892, 893, 894, 69, 895, 360, 896] (by decide +kernel) (by decide +kernel)
theorem twsX9_run_r1 : GoodIn lw_tbl wsX9_run_r1 := tb_143
set_option maxRecDepth 20000 in
theorem tb_144 : GoodIn lw_tbl [Cond.instanceMethod yX5_balanceOf, Cond.selects RX5 yX5_balanceOf yX5_balanceOf, Cond.code yX5_balanceOf cX5_balanceOf 9 (some .int), Cond.fieldLink RX5 21 "GridMarket$Day" "gaps" "[I", Cond.fieldLink RX5 9 "GridMarket$Day" "prices" "[I", Cond.methodLink RX5 89 yX5_gapOf, Cond.instanceMethod yX5_gapOf, Cond.selects RX5 yX5_gapOf yX5_gapOf, Cond.code yX5_gapOf cX5_gapOf 5 (some .int), Cond.static yX9_placeOf, Cond.code yX9_placeOf cX9_placeOf 3 (some .int), Cond.methodLink RX9 186 yX9_spotOf, Cond.static yX9_spotOf, Cond.code yX9_spotOf cX9_spotOf 2 (some .int), Cond.methodLink RX5 92 yX5_priceOfGap, Cond.instanceMethod yX5_priceOfGap, Cond.selects RX5 yX5_priceOfGap yX5_priceOfGap, Cond.code yX5_priceOfGap cX5_priceOfGap 7 (some .int), Cond.methodLink RX5 56 Lib.Math.abs.name, Cond.static Lib.Math.abs.name, Cond.initialized "java/lang/Math", Cond.code Lib.Math.abs.name Lib.Math.abs.code 1 (some .int), Cond.fieldLink RX5 35 "GridMarket$Day" "aids" "LGridMarket$Orders;", Cond.fieldLink RX5 60 "GridMarket$Orders" "count" "I"] := goodIn_r _ [898, 23, 899, 358, 350, 900, 901, 902, 903, 883, 884, 791, 760, 761, 905, 906, 907, 908, 909, 714, 77, 715, 364, 145] (by decide +kernel) (by decide +kernel)
theorem twsX9_run_r2 : GoodIn lw_tbl wsX9_run_r2 := tb_144
set_option maxRecDepth 20000 in
theorem tb_145 : GoodIn lw_tbl [Cond.fieldLink RX5 63 "GridMarket$Orders" "merit" "[I", Cond.fieldLink RX5 70 "GridMarket$Orders" "units" "[I", Cond.fieldLink RX5 73 "GridMarket$Orders" "price" "[I", Cond.methodLink RX5 47 Lib.Math.max.name, Cond.static Lib.Math.max.name, Cond.code Lib.Math.max.name Lib.Math.max.code 2 (some .int), Cond.methodLink RX5 76 Lib.Math.min.name, Cond.static Lib.Math.min.name, Cond.code Lib.Math.min.name Lib.Math.min.code 2 (some .int), Cond.methodLink RX5 66 yX5_helps, Cond.instanceMethod yX5_helps, Cond.selects RX5 yX5_helps yX5_helps, Cond.code yX5_helps cX5_helps 4 (some .boolean), Cond.fieldLink RX5 79 "GridMarket$Orders" "hour" "[I", Cond.fieldLink RX5 82 "GridMarket$Orders" "isBuy" "[Z", Cond.methodLink RX5 95 yX5_unitsUsed, Cond.instanceMethod yX5_unitsUsed, Cond.selects RX5 yX5_unitsUsed yX5_unitsUsed, Cond.code yX5_unitsUsed cX5_unitsUsed 9 (some .int), Cond.fieldLink RX5 86 "GridMarket$Orders" "firm" "[I", Cond.methodLink RX9 177 yX0_payFromHouse, Cond.instanceMethod yX0_payFromHouse, Cond.selects RX0 yX0_payFromHouse yX0_payFromHouse, Cond.initialized RX0] := goodIn_r _ [140, 133, 128, 822, 660, 661, 914, 657, 658, 910, 912, 24, 913, 119, 123, 915, 917, 25, 918, 113, 919, 920, 921, 68] (by decide +kernel) (by decide +kernel)
theorem twsX9_run_r3 : GoodIn lw_tbl wsX9_run_r3 := tb_145
set_option maxRecDepth 20000 in
theorem tb_146 : GoodIn lw_tbl [Cond.code yX0_payFromHouse cX0_payFromHouse 3 none, Cond.fieldLink RX0 9 "GridMarket$Accounts" "money" "[I", Cond.fieldLink RX0 22 "GridMarket$Accounts" "houseMoney" "I", Cond.methodLink RX9 180 yX0_failAll, Cond.instanceMethod yX0_failAll, Cond.selects RX0 yX0_failAll yX0_failAll, Cond.code yX0_failAll cX0_failAll 3 (some .int), Cond.methodLink RX0 26 yX0_nextToFail, Cond.instanceMethod yX0_nextToFail, Cond.selects RX0 yX0_nextToFail yX0_nextToFail, Cond.code yX0_nextToFail cX0_nextToFail 2 (some .int), Cond.fieldLink RX0 18 "GridMarket$Accounts" "isOut" "[Z", Cond.methodLink RX0 30 yX0_fail, Cond.instanceMethod yX0_fail, Cond.selects RX0 yX0_fail yX0_fail, Cond.code yX0_fail cX0_fail 8 none, Cond.fieldLink RX0 15 "GridMarket$Accounts" "deposits" "[I"] := goodIn_r _ [922, 326, 332, 923, 924, 925, 926, 927, 929, 26, 930, 330, 931, 933, 27, 934, 328] (by decide +kernel) (by decide +kernel)
theorem twsX9_run_r4 : GoodIn lw_tbl wsX9_run_r4 := tb_146
theorem twsX9_run : GoodIn lw_tbl wsX9_run := (goodIn_cons tb_142 (goodIn_app (goodIn_app (goodIn_app (goodIn_app (goodIn_app (goodIn_app (goodIn_app twsX9_run_r1 (goodIn_app twsX9_run_r2 (goodIn_app twsX9_run_r3 twsX9_run_r4))) tbX9) tbX5) tbX0) tbX8) tx_0) tx_2))
theorem twsW_run : GoodIn lw_tbl wsW_run := (goodIn_cons tb_140 (goodIn_app tb_141 twsX9_run))
set_option maxRecDepth 20000 in
theorem tb_147 : GoodIn lw_tbl [.methodLink RL 163 yL_run, .static yL_run, .initialized RL] := goodIn_r _ [885, 886, 59] (by decide +kernel) (by decide +kernel)
theorem tg_L_run : GoodIn lw_tbl (va_wsS RL 163 yL_run wsW_run) := goodIn_app tb_147 twsW_run
set_option maxRecDepth 20000 in
theorem tb_148 : GoodIn lw_tbl [.code yX10_run cX10_run 4 (some .int)] := goodIn_r _ [1438] (by decide +kernel) (by decide +kernel)
set_option maxRecDepth 20000 in
theorem tb_149 : GoodIn lw_tbl [Cond.fieldLink RX10 148 "GridMarketModel" "runs" "[I", Cond.fieldLink RX10 175 "GridMarketModel" "thrown" "I", Cond.fieldLink RX10 19 "GridMarketModel" "failed" "[I", Cond.fieldLink RX10 145 "GridMarketModel" "gave" "[I", Cond.fieldLink RX10 13 "GridMarketModel" "accounts" "[I", Cond.fieldLink RX10 331 "GridMarketModel" "house" "I", Cond.methodLink RX10 310 yX10_isClosed, Cond.instanceMethod yX10_isClosed, Cond.selects RX10 yX10_isClosed yX10_isClosed, Cond.initialized RX10, Cond.code yX10_isClosed cX10_isClosed 2 (some .boolean), Cond.fieldLink RX10 183 "GridMarketModel" "day" "I", Cond.methodLink RX10 179 yX10_in, Cond.static yX10_in, Cond.code yX10_in cX10_in 3 (some .boolean), Cond.methodLink RX10 334 yX10_billOf, Cond.instanceMethod yX10_billOf, Cond.selects RX10 yX10_billOf yX10_billOf, Cond.code yX10_billOf cX10_billOf 5 (some .int), Cond.fieldLink RX10 142 "GridMarketModel" "brings" "[I", Cond.methodLink RX10 328 yX10_balances, Cond.instanceMethod yX10_balances, Cond.selects RX10 yX10_balances yX10_balances, Cond.code yX10_balances cX10_balances 10 (some .int)] := goodIn_r _ [1116, 1129, 1067, 1115, 1065, 1068, 1424, 1426, 49, 70, 1427, 1062, 1278, 1279, 1280, 1439, 1441, 51, 1442, 1114, 1443, 1445, 52, 1446] (by decide +kernel) (by decide +kernel)
theorem twsX10_run_r1 : GoodIn lw_tbl wsX10_run_r1 := tb_149
set_option maxRecDepth 20000 in
theorem tb_150 : GoodIn lw_tbl [Cond.fieldLink RX10 130 "GridMarketModel" "prices" "[I", Cond.fieldLink RX10 109 "GridMarketModel" "aids" "[I", Cond.fieldLink RX10 112 "GridMarketModel" "aidFirms" "[I", Cond.fieldLink RX10 127 "GridMarketModel" "aidUsed" "[I", Cond.methodLink RX10 325 yX10_helps, Cond.instanceMethod yX10_helps, Cond.selects RX10 yX10_helps yX10_helps, Cond.code yX10_helps cX10_helps 11 (some .int), Cond.fieldLink RX10 115 "GridMarketModel" "aidHours" "[I", Cond.fieldLink RX10 118 "GridMarketModel" "aidMore" "[I", Cond.fieldLink RX10 121 "GridMarketModel" "aidPrices" "[I", Cond.fieldLink RX10 124 "GridMarketModel" "aidUnits" "[I", Cond.methodLink RX10 316 yX10_gapIn, Cond.instanceMethod yX10_gapIn, Cond.selects RX10 yX10_gapIn yX10_gapIn, Cond.code yX10_gapIn cX10_gapIn 6 (some .int), Cond.methodLink RX10 313 yX10_gapOf, Cond.instanceMethod yX10_gapOf, Cond.selects RX10 yX10_gapOf yX10_gapOf, Cond.code yX10_gapOf cX10_gapOf 6 (some .int), Cond.fieldLink RX10 139 "GridMarketModel" "areRead" "[I", Cond.fieldLink RX10 136 "GridMarketModel" "readings" "[I", Cond.fieldLink RX10 133 "GridMarketModel" "plans" "[I", Cond.methodLink RX10 307 yX10_placeOf] := goodIn_r _ [1110, 1103, 1104, 1109, 1447, 1449, 53, 1450, 1105, 1106, 1107, 1108, 1451, 1453, 54, 1454, 1431, 1433, 50, 1434, 1113, 1112, 1111, 1428] (by decide +kernel) (by decide +kernel)
theorem twsX10_run_r2 : GoodIn lw_tbl wsX10_run_r2 := tb_150
set_option maxRecDepth 20000 in
theorem tb_151 : GoodIn lw_tbl [Cond.static yX10_placeOf, Cond.code yX10_placeOf cX10_placeOf 4 (some .int), Cond.methodLink RX10 224 yX10_away, Cond.static yX10_away, Cond.code yX10_away cX10_away 1 (some .int), Cond.methodLink RX10 319 yX10_lesser, Cond.static yX10_lesser, Cond.code yX10_lesser cX10_lesser 2 (some .int), Cond.methodLink RX10 322 yX10_greater, Cond.static yX10_greater, Cond.code yX10_greater cX10_greater 2 (some .int), Cond.methodLink RX10 337 yX10_lowestBelow, Cond.instanceMethod yX10_lowestBelow, Cond.selects RX10 yX10_lowestBelow yX10_lowestBelow, Cond.code yX10_lowestBelow cX10_lowestBelow 2 (some .int), Cond.methodLink RX10 341 yX10_fails, Cond.instanceMethod yX10_fails, Cond.selects RX10 yX10_fails yX10_fails, Cond.code yX10_fails cX10_fails 10 none, Cond.fieldLink RX10 16 "GridMarketModel" "deposits" "[I"] := goodIn_r _ [1429, 1430, 1358, 1359, 1360, 1455, 1456, 1457, 1458, 1459, 1460, 1461, 1463, 55, 1464, 1465, 1467, 56, 1468, 1066] (by decide +kernel) (by decide +kernel)
theorem twsX10_run_r3 : GoodIn lw_tbl wsX10_run_r3 := tb_151
theorem twsX10_run : GoodIn lw_tbl wsX10_run := (goodIn_cons tb_148 (goodIn_app (goodIn_app twsX10_run_r1 (goodIn_app twsX10_run_r2 twsX10_run_r3)) tbX10))
set_option maxRecDepth 20000 in
theorem tb_152 : GoodIn lw_tbl [.methodLink RL 165 yX10_run, .instanceMethod yX10_run, .selects RX10 yX10_run yX10_run, .initialized RX10] := goodIn_r _ [1435, 1436, 1437, 70] (by decide +kernel) (by decide +kernel)
theorem tg_X10_run : GoodIn lw_tbl (wsV RL 165 RX10 yX10_run wsX10_run) := goodIn_app tb_152 twsX10_run
set_option maxRecDepth 20000 in
theorem tb_153 : GoodIn lw_tbl [.code yX9_day cX9_day 1 (some .int)] := goodIn_r _ [419] (by decide +kernel) (by decide +kernel)
set_option maxRecDepth 20000 in
theorem tb_154 : GoodIn lw_tbl [.fieldLink RX9 59 "GridMarket" "today" "I"] := goodIn_r _ [393] (by decide +kernel) (by decide +kernel)
theorem twsX9_day : GoodIn lw_tbl wsX9_day := (goodIn_cons tb_153 (goodIn_app tb_154 tbX9))
set_option maxRecDepth 20000 in
theorem tb_155 : GoodIn lw_tbl [.methodLink RL 166 yX9_day, .instanceMethod yX9_day, .selects RX9 yX9_day yX9_day, .initialized RX9] := goodIn_r _ [416, 417, 418, 60] (by decide +kernel) (by decide +kernel)
theorem tg_X9_day : GoodIn lw_tbl (wsV RL 166 RX9 yX9_day wsX9_day) := goodIn_app tb_155 twsX9_day
set_option maxRecDepth 20000 in
theorem tb_156 : GoodIn lw_tbl [.code yX10_day cX10_day 1 (some .int)] := goodIn_r _ [1472] (by decide +kernel) (by decide +kernel)
set_option maxRecDepth 20000 in
theorem tb_157 : GoodIn lw_tbl [.fieldLink RX10 175 "GridMarketModel" "thrown" "I", .fieldLink RX10 183 "GridMarketModel" "day" "I"] := goodIn_r _ [1129, 1062] (by decide +kernel) (by decide +kernel)
theorem twsX10_day : GoodIn lw_tbl wsX10_day := (goodIn_cons tb_156 (goodIn_app tb_157 tbX10))
set_option maxRecDepth 20000 in
theorem tb_158 : GoodIn lw_tbl [.methodLink RL 169 yX10_day, .instanceMethod yX10_day, .selects RX10 yX10_day yX10_day, .initialized RX10] := goodIn_r _ [1469, 1470, 1471, 70] (by decide +kernel) (by decide +kernel)
theorem tg_X10_day : GoodIn lw_tbl (wsV RL 169 RX10 yX10_day wsX10_day) := goodIn_app tb_158 twsX10_day
set_option maxRecDepth 20000 in
theorem tb_159 : GoodIn lw_tbl [.code yX9_phase cX9_phase 1 (some .int)] := goodIn_r _ [423] (by decide +kernel) (by decide +kernel)
set_option maxRecDepth 20000 in
theorem tb_160 : GoodIn lw_tbl [.fieldLink RX9 63 "GridMarket" "state" "I"] := goodIn_r _ [394] (by decide +kernel) (by decide +kernel)
theorem twsX9_phase : GoodIn lw_tbl wsX9_phase := (goodIn_cons tb_159 (goodIn_app tb_160 tbX9))
set_option maxRecDepth 20000 in
theorem tb_161 : GoodIn lw_tbl [.methodLink RL 170 yX9_phase, .instanceMethod yX9_phase, .selects RX9 yX9_phase yX9_phase, .initialized RX9] := goodIn_r _ [420, 421, 422, 60] (by decide +kernel) (by decide +kernel)
theorem tg_X9_phase : GoodIn lw_tbl (wsV RL 170 RX9 yX9_phase wsX9_phase) := goodIn_app tb_161 twsX9_phase
set_option maxRecDepth 20000 in
theorem tb_162 : GoodIn lw_tbl [.code yX10_phase cX10_phase 1 (some .int)] := goodIn_r _ [1476] (by decide +kernel) (by decide +kernel)
set_option maxRecDepth 20000 in
theorem tb_163 : GoodIn lw_tbl [.fieldLink RX10 175 "GridMarketModel" "thrown" "I", .fieldLink RX10 192 "GridMarketModel" "cleared" "I"] := goodIn_r _ [1129, 1063] (by decide +kernel) (by decide +kernel)
theorem twsX10_phase : GoodIn lw_tbl wsX10_phase := (goodIn_cons tb_162 (goodIn_app tb_163 tbX10))
set_option maxRecDepth 20000 in
theorem tb_164 : GoodIn lw_tbl [.methodLink RL 173 yX10_phase, .instanceMethod yX10_phase, .selects RX10 yX10_phase yX10_phase, .initialized RX10] := goodIn_r _ [1473, 1474, 1475, 70] (by decide +kernel) (by decide +kernel)
theorem tg_X10_phase : GoodIn lw_tbl (wsV RL 173 RX10 yX10_phase wsX10_phase) := goodIn_app tb_164 twsX10_phase
set_option maxRecDepth 20000 in
theorem tb_165 : GoodIn lw_tbl [.codeWith yL_price cL_price 5 (some .int) [(0, 10, 13, 13), (0, 10, 17, 17)]] := goodIn_r _ [937] (by decide +kernel) (by decide +kernel)
set_option maxRecDepth 20000 in
theorem tb_166 : GoodIn lw_tbl [.methodLink RL 61 yX9_price, .instanceMethod yX9_price, .selects RX9 yX9_price yX9_price, .initialized RX9, .classLink RL 13 (g_xn 1), .classLink RL 17 (g_xn 3)] := goodIn_r _ [938, 939, 940, 60, 431, 433] (by decide +kernel) (by decide +kernel)
set_option maxRecDepth 20000 in
theorem tb_167 : GoodIn lw_tbl [.code yX9_price cX9_price 3 (some .int)] := goodIn_r _ [941] (by decide +kernel) (by decide +kernel)
set_option maxRecDepth 20000 in
theorem tb_168 : GoodIn lw_tbl [.fieldLink RX9 63 "GridMarket" "state" "I", .fieldLink RX9 48 "GridMarket" "days" "[LGridMarket$Day;", .fieldLink RX9 59 "GridMarket" "today" "I", .fieldLink RX9 183 "GridMarket$Day" "prices" "[I", .methodLink RX9 67 yX9_checkIndex, .static yX9_checkIndex, .initialized RX9, .code yX9_checkIndex cX9_checkIndex 2 none, .classLink RX9 222 "java/lang/IndexOutOfBoundsException", .initialized "java/lang/IndexOutOfBoundsException", .methodLink RX9 85 yX9_checkState, .static yX9_checkState, .code yX9_checkState cX9_checkState 1 none, .classLink RX9 226 "java/lang/IllegalStateException", .initialized "java/lang/IllegalStateException", .methodLink RX9 186 yX9_spotOf, .static yX9_spotOf, .code yX9_spotOf cX9_spotOf 2 (some .int)] := goodIn_r _ [394, 391, 393, 352, 438, 439, 60, 440, 441, 74, 525, 526, 527, 528, 76, 791, 760, 761] (by decide +kernel) (by decide +kernel)
theorem twsX9_price : GoodIn lw_tbl wsX9_price := (goodIn_cons tb_167 (goodIn_app (goodIn_app (goodIn_app (goodIn_app tb_168 tbX9) tbX5) tx_0) tx_2))
theorem twsW_price : GoodIn lw_tbl wsW_price := (goodIn_cons tb_165 (goodIn_app tb_166 twsX9_price))
set_option maxRecDepth 20000 in
theorem tb_169 : GoodIn lw_tbl [.methodLink RL 174 yL_price, .static yL_price, .initialized RL] := goodIn_r _ [935, 936, 59] (by decide +kernel) (by decide +kernel)
theorem tg_L_price : GoodIn lw_tbl (va_wsS RL 174 yL_price wsW_price) := goodIn_app tb_169 twsW_price
set_option maxRecDepth 20000 in
theorem tb_170 : GoodIn lw_tbl [.code yX10_price cX10_price 3 (some .int)] := goodIn_r _ [1480] (by decide +kernel) (by decide +kernel)
set_option maxRecDepth 20000 in
theorem tb_171 : GoodIn lw_tbl [.fieldLink RX10 130 "GridMarketModel" "prices" "[I", .fieldLink RX10 183 "GridMarketModel" "day" "I", .methodLink RX10 195 yX10_isZone, .static yX10_isZone, .initialized RX10, .code yX10_isZone cX10_isZone 1 (some .boolean), .methodLink RX10 179 yX10_in, .static yX10_in, .code yX10_in cX10_in 3 (some .boolean), .methodLink RX10 198 yX10_isHour, .static yX10_isHour, .code yX10_isHour cX10_isHour 1 (some .boolean), .methodLink RX10 344 yX10_isThere, .instanceMethod yX10_isThere, .selects RX10 yX10_isThere yX10_isThere, .code yX10_isThere cX10_isThere 2 (some .boolean), .fieldLink RX10 192 "GridMarketModel" "cleared" "I", .fieldLink RX10 175 "GridMarketModel" "thrown" "I"] := goodIn_r _ [1110, 1062, 1291, 1292, 70, 1293, 1278, 1279, 1280, 1294, 1295, 1296, 1481, 1483, 57, 1484, 1063, 1129] (by decide +kernel) (by decide +kernel)
theorem twsX10_price : GoodIn lw_tbl wsX10_price := (goodIn_cons tb_170 (goodIn_app tb_171 tbX10))
set_option maxRecDepth 20000 in
theorem tb_172 : GoodIn lw_tbl [.methodLink RL 176 yX10_price, .instanceMethod yX10_price, .selects RX10 yX10_price yX10_price, .initialized RX10] := goodIn_r _ [1477, 1478, 1479, 70] (by decide +kernel) (by decide +kernel)
theorem tg_X10_price : GoodIn lw_tbl (wsV RL 176 RX10 yX10_price wsX10_price) := goodIn_app tb_172 twsX10_price
set_option maxRecDepth 20000 in
theorem tb_173 : GoodIn lw_tbl [.codeWith yL_net cL_net 5 (some .int) [(0, 10, 13, 13), (0, 10, 17, 17)]] := goodIn_r _ [944] (by decide +kernel) (by decide +kernel)
set_option maxRecDepth 20000 in
theorem tb_174 : GoodIn lw_tbl [.methodLink RL 64 yX9_net, .instanceMethod yX9_net, .selects RX9 yX9_net yX9_net, .initialized RX9, .classLink RL 13 (g_xn 1), .classLink RL 17 (g_xn 3)] := goodIn_r _ [945, 946, 947, 60, 431, 433] (by decide +kernel) (by decide +kernel)
set_option maxRecDepth 20000 in
theorem tb_175 : GoodIn lw_tbl [.code yX9_net cX9_net 3 (some .int)] := goodIn_r _ [948] (by decide +kernel) (by decide +kernel)
set_option maxRecDepth 20000 in
theorem tb_176 : GoodIn lw_tbl [.fieldLink RX9 63 "GridMarket" "state" "I", .fieldLink RX9 48 "GridMarket" "days" "[LGridMarket$Day;", .fieldLink RX9 59 "GridMarket" "today" "I", .fieldLink RX9 190 "GridMarket$Day" "nets" "[I", .methodLink RX9 67 yX9_checkIndex, .static yX9_checkIndex, .initialized RX9, .code yX9_checkIndex cX9_checkIndex 2 none, .classLink RX9 222 "java/lang/IndexOutOfBoundsException", .initialized "java/lang/IndexOutOfBoundsException", .methodLink RX9 85 yX9_checkState, .static yX9_checkState, .code yX9_checkState cX9_checkState 1 none, .classLink RX9 226 "java/lang/IllegalStateException", .initialized "java/lang/IllegalStateException", .methodLink RX9 186 yX9_spotOf, .static yX9_spotOf, .code yX9_spotOf cX9_spotOf 2 (some .int)] := goodIn_r _ [394, 391, 393, 355, 438, 439, 60, 440, 441, 74, 525, 526, 527, 528, 76, 791, 760, 761] (by decide +kernel) (by decide +kernel)
theorem twsX9_net : GoodIn lw_tbl wsX9_net := (goodIn_cons tb_175 (goodIn_app (goodIn_app (goodIn_app (goodIn_app tb_176 tbX9) tbX5) tx_0) tx_2))
theorem twsW_net : GoodIn lw_tbl wsW_net := (goodIn_cons tb_173 (goodIn_app tb_174 twsX9_net))
set_option maxRecDepth 20000 in
theorem tb_177 : GoodIn lw_tbl [.methodLink RL 177 yL_net, .static yL_net, .initialized RL] := goodIn_r _ [942, 943, 59] (by decide +kernel) (by decide +kernel)
theorem tg_L_net : GoodIn lw_tbl (va_wsS RL 177 yL_net wsW_net) := goodIn_app tb_177 twsW_net
set_option maxRecDepth 20000 in
theorem tb_178 : GoodIn lw_tbl [.code yX10_net cX10_net 3 (some .int)] := goodIn_r _ [1488] (by decide +kernel) (by decide +kernel)
set_option maxRecDepth 20000 in
theorem tb_179 : GoodIn lw_tbl [.fieldLink RX10 151 "GridMarketModel" "nets" "[I", .methodLink RX10 195 yX10_isZone, .static yX10_isZone, .initialized RX10, .code yX10_isZone cX10_isZone 1 (some .boolean), .methodLink RX10 179 yX10_in, .static yX10_in, .code yX10_in cX10_in 3 (some .boolean), .methodLink RX10 198 yX10_isHour, .static yX10_isHour, .code yX10_isHour cX10_isHour 1 (some .boolean), .methodLink RX10 344 yX10_isThere, .instanceMethod yX10_isThere, .selects RX10 yX10_isThere yX10_isThere, .code yX10_isThere cX10_isThere 2 (some .boolean), .fieldLink RX10 192 "GridMarketModel" "cleared" "I", .fieldLink RX10 175 "GridMarketModel" "thrown" "I"] := goodIn_r _ [1117, 1291, 1292, 70, 1293, 1278, 1279, 1280, 1294, 1295, 1296, 1481, 1483, 57, 1484, 1063, 1129] (by decide +kernel) (by decide +kernel)
theorem twsX10_net : GoodIn lw_tbl wsX10_net := (goodIn_cons tb_178 (goodIn_app tb_179 tbX10))
set_option maxRecDepth 20000 in
theorem tb_180 : GoodIn lw_tbl [.methodLink RL 179 yX10_net, .instanceMethod yX10_net, .selects RX10 yX10_net yX10_net, .initialized RX10] := goodIn_r _ [1485, 1486, 1487, 70] (by decide +kernel) (by decide +kernel)
theorem tg_X10_net : GoodIn lw_tbl (wsV RL 179 RX10 yX10_net wsX10_net) := goodIn_app tb_180 twsX10_net
set_option maxRecDepth 20000 in
theorem tb_181 : GoodIn lw_tbl [.codeWith yL_flow cL_flow 5 (some .int) [(0, 10, 13, 13), (0, 10, 17, 17)]] := goodIn_r _ [951] (by decide +kernel) (by decide +kernel)
set_option maxRecDepth 20000 in
theorem tb_182 : GoodIn lw_tbl [.methodLink RL 67 yX9_flow, .instanceMethod yX9_flow, .selects RX9 yX9_flow yX9_flow, .initialized RX9, .classLink RL 13 (g_xn 1), .classLink RL 17 (g_xn 3)] := goodIn_r _ [952, 953, 954, 60, 431, 433] (by decide +kernel) (by decide +kernel)
set_option maxRecDepth 20000 in
theorem tb_183 : GoodIn lw_tbl [.code yX9_flow cX9_flow 4 (some .int)] := goodIn_r _ [955] (by decide +kernel) (by decide +kernel)
set_option maxRecDepth 20000 in
theorem tb_184 : GoodIn lw_tbl [.fieldLink RX9 63 "GridMarket" "state" "I", .fieldLink RX9 48 "GridMarket" "days" "[LGridMarket$Day;", .fieldLink RX9 59 "GridMarket" "today" "I", .fieldLink RX9 190 "GridMarket$Day" "nets" "[I", .methodLink RX9 67 yX9_checkIndex, .static yX9_checkIndex, .initialized RX9, .code yX9_checkIndex cX9_checkIndex 2 none, .classLink RX9 222 "java/lang/IndexOutOfBoundsException", .initialized "java/lang/IndexOutOfBoundsException", .methodLink RX9 85 yX9_checkState, .static yX9_checkState, .code yX9_checkState cX9_checkState 1 none, .classLink RX9 226 "java/lang/IllegalStateException", .initialized "java/lang/IllegalStateException", .methodLink RX9 193 yX9_lineBegin, .static yX9_lineBegin, .code yX9_lineBegin cX9_lineBegin 1 (some .int), .methodLink RX9 186 yX9_spotOf, .static yX9_spotOf, .code yX9_spotOf cX9_spotOf 2 (some .int), .methodLink RX9 196 yX9_lineEnd, .static yX9_lineEnd, .code yX9_lineEnd cX9_lineEnd 1 (some .int)] := goodIn_r _ [394, 391, 393, 355, 438, 439, 60, 440, 441, 74, 525, 526, 527, 528, 76, 956, 957, 958, 791, 760, 761, 959, 960, 961] (by decide +kernel) (by decide +kernel)
theorem twsX9_flow : GoodIn lw_tbl wsX9_flow := (goodIn_cons tb_183 (goodIn_app (goodIn_app (goodIn_app (goodIn_app tb_184 tbX9) tbX5) tx_0) tx_2))
theorem twsW_flow : GoodIn lw_tbl wsW_flow := (goodIn_cons tb_181 (goodIn_app tb_182 twsX9_flow))
set_option maxRecDepth 20000 in
theorem tb_185 : GoodIn lw_tbl [.methodLink RL 180 yL_flow, .static yL_flow, .initialized RL] := goodIn_r _ [949, 950, 59] (by decide +kernel) (by decide +kernel)
theorem tg_L_flow : GoodIn lw_tbl (va_wsS RL 180 yL_flow wsW_flow) := goodIn_app tb_185 twsW_flow
set_option maxRecDepth 20000 in
theorem tb_186 : GoodIn lw_tbl [.code yX10_flow cX10_flow 3 (some .int)] := goodIn_r _ [1492] (by decide +kernel) (by decide +kernel)
set_option maxRecDepth 20000 in
theorem tb_187 : GoodIn lw_tbl [.fieldLink RX10 151 "GridMarketModel" "nets" "[I", .methodLink RX10 179 yX10_in, .static yX10_in, .initialized RX10, .code yX10_in cX10_in 3 (some .boolean), .methodLink RX10 198 yX10_isHour, .static yX10_isHour, .code yX10_isHour cX10_isHour 1 (some .boolean), .methodLink RX10 344 yX10_isThere, .instanceMethod yX10_isThere, .selects RX10 yX10_isThere yX10_isThere, .code yX10_isThere cX10_isThere 2 (some .boolean), .fieldLink RX10 192 "GridMarketModel" "cleared" "I", .fieldLink RX10 175 "GridMarketModel" "thrown" "I"] := goodIn_r _ [1117, 1278, 1279, 70, 1280, 1294, 1295, 1296, 1481, 1483, 57, 1484, 1063, 1129] (by decide +kernel) (by decide +kernel)
theorem twsX10_flow : GoodIn lw_tbl wsX10_flow := (goodIn_cons tb_186 (goodIn_app tb_187 tbX10))
set_option maxRecDepth 20000 in
theorem tb_188 : GoodIn lw_tbl [.methodLink RL 182 yX10_flow, .instanceMethod yX10_flow, .selects RX10 yX10_flow yX10_flow, .initialized RX10] := goodIn_r _ [1489, 1490, 1491, 70] (by decide +kernel) (by decide +kernel)
theorem tg_X10_flow : GoodIn lw_tbl (wsV RL 182 RX10 yX10_flow wsX10_flow) := goodIn_app tb_188 twsX10_flow
set_option maxRecDepth 20000 in
theorem tb_189 : GoodIn lw_tbl [.codeWith yL_taken cL_taken 4 (some .int) [(0, 9, 12, 13), (0, 9, 15, 17)]] := goodIn_r _ [964] (by decide +kernel) (by decide +kernel)
set_option maxRecDepth 20000 in
theorem tb_190 : GoodIn lw_tbl [.methodLink RL 70 yX9_taken, .instanceMethod yX9_taken, .selects RX9 yX9_taken yX9_taken, .initialized RX9, .classLink RL 13 (g_xn 1), .classLink RL 17 (g_xn 3)] := goodIn_r _ [965, 966, 967, 60, 431, 433] (by decide +kernel) (by decide +kernel)
set_option maxRecDepth 20000 in
theorem tb_191 : GoodIn lw_tbl [.code yX9_taken cX9_taken 2 (some .int)] := goodIn_r _ [968] (by decide +kernel) (by decide +kernel)
set_option maxRecDepth 20000 in
theorem tb_192 : GoodIn lw_tbl [.fieldLink RX9 25 "GridMarket" "bids" "LGridMarket$Orders;", .fieldLink RX9 150 "GridMarket$Orders" "count" "I", .fieldLink RX9 63 "GridMarket" "state" "I", .methodLink RX9 67 yX9_checkIndex, .static yX9_checkIndex, .initialized RX9, .code yX9_checkIndex cX9_checkIndex 2 none, .classLink RX9 222 "java/lang/IndexOutOfBoundsException", .initialized "java/lang/IndexOutOfBoundsException", .methodLink RX9 85 yX9_checkState, .static yX9_checkState, .code yX9_checkState cX9_checkState 1 none, .classLink RX9 226 "java/lang/IllegalStateException", .initialized "java/lang/IllegalStateException", .methodLink RX9 199 yX8_used, .instanceMethod yX8_used, .selects RX8 yX8_used yX8_used, .initialized RX8, .code yX8_used cX8_used 2 (some .int), .fieldLink RX8 32 "GridMarket$Orders" "units" "[I", .fieldLink RX8 35 "GridMarket$Orders" "rest" "[I"] := goodIn_r _ [387, 146, 394, 438, 439, 60, 440, 441, 74, 525, 526, 527, 528, 76, 787, 788, 789, 63, 790, 130, 134] (by decide +kernel) (by decide +kernel)
theorem twsX9_taken : GoodIn lw_tbl wsX9_taken := (goodIn_cons tb_191 (goodIn_app (goodIn_app (goodIn_app (goodIn_app tb_192 tbX9) tbX8) tx_0) tx_2))
theorem twsW_taken : GoodIn lw_tbl wsW_taken := (goodIn_cons tb_189 (goodIn_app tb_190 twsX9_taken))
set_option maxRecDepth 20000 in
theorem tb_193 : GoodIn lw_tbl [.methodLink RL 183 yL_taken, .static yL_taken, .initialized RL] := goodIn_r _ [962, 963, 59] (by decide +kernel) (by decide +kernel)
theorem tg_L_taken : GoodIn lw_tbl (va_wsS RL 183 yL_taken wsW_taken) := goodIn_app tb_193 twsW_taken
set_option maxRecDepth 20000 in
theorem tb_194 : GoodIn lw_tbl [.code yX10_taken cX10_taken 2 (some .int)] := goodIn_r _ [1496] (by decide +kernel) (by decide +kernel)
set_option maxRecDepth 20000 in
theorem tb_195 : GoodIn lw_tbl [.fieldLink RX10 201 "GridMarketModel" "bids" "I", .fieldLink RX10 40 "GridMarketModel" "bidTaken" "[I", .methodLink RX10 179 yX10_in, .static yX10_in, .initialized RX10, .code yX10_in cX10_in 3 (some .boolean), .methodLink RX10 344 yX10_isThere, .instanceMethod yX10_isThere, .selects RX10 yX10_isThere yX10_isThere, .code yX10_isThere cX10_isThere 2 (some .boolean), .fieldLink RX10 192 "GridMarketModel" "cleared" "I", .fieldLink RX10 175 "GridMarketModel" "thrown" "I"] := goodIn_r _ [1069, 1076, 1278, 1279, 70, 1280, 1481, 1483, 57, 1484, 1063, 1129] (by decide +kernel) (by decide +kernel)
theorem twsX10_taken : GoodIn lw_tbl wsX10_taken := (goodIn_cons tb_194 (goodIn_app tb_195 tbX10))
set_option maxRecDepth 20000 in
theorem tb_196 : GoodIn lw_tbl [.methodLink RL 185 yX10_taken, .instanceMethod yX10_taken, .selects RX10 yX10_taken yX10_taken, .initialized RX10] := goodIn_r _ [1493, 1494, 1495, 70] (by decide +kernel) (by decide +kernel)
theorem tg_X10_taken : GoodIn lw_tbl (wsV RL 185 RX10 yX10_taken wsX10_taken) := goodIn_app tb_196 twsX10_taken
set_option maxRecDepth 20000 in
theorem tb_197 : GoodIn lw_tbl [.codeWith yL_isTaken cL_isTaken 4 (some .int) [(0, 16, 19, 13), (0, 16, 22, 17)]] := goodIn_r _ [971] (by decide +kernel) (by decide +kernel)
set_option maxRecDepth 20000 in
theorem tb_198 : GoodIn lw_tbl [.methodLink RL 73 yX9_isTaken, .instanceMethod yX9_isTaken, .selects RX9 yX9_isTaken yX9_isTaken, .initialized RX9, .classLink RL 13 (g_xn 1), .classLink RL 17 (g_xn 3)] := goodIn_r _ [972, 973, 974, 60, 431, 433] (by decide +kernel) (by decide +kernel)
set_option maxRecDepth 20000 in
theorem tb_199 : GoodIn lw_tbl [.code yX9_isTaken cX9_isTaken 2 (some .boolean)] := goodIn_r _ [975] (by decide +kernel) (by decide +kernel)
set_option maxRecDepth 20000 in
theorem tb_200 : GoodIn lw_tbl [.fieldLink RX9 30 "GridMarket" "blocks" "LGridMarket$Blocks;", .fieldLink RX9 105 "GridMarket$Blocks" "count" "I", .fieldLink RX9 63 "GridMarket" "state" "I", .fieldLink RX9 202 "GridMarket$Blocks" "chosen" "I", .methodLink RX9 67 yX9_checkIndex, .static yX9_checkIndex, .initialized RX9, .code yX9_checkIndex cX9_checkIndex 2 none, .classLink RX9 222 "java/lang/IndexOutOfBoundsException", .initialized "java/lang/IndexOutOfBoundsException", .methodLink RX9 85 yX9_checkState, .static yX9_checkState, .code yX9_checkState cX9_checkState 1 none, .classLink RX9 226 "java/lang/IllegalStateException", .initialized "java/lang/IllegalStateException", .methodLink RX9 205 yX9_isMember, .static yX9_isMember, .code yX9_isMember cX9_isMember 2 (some .boolean)] := goodIn_r _ [388, 190, 394, 193, 438, 439, 60, 440, 441, 74, 525, 526, 527, 528, 76, 800, 685, 686] (by decide +kernel) (by decide +kernel)
theorem twsX9_isTaken : GoodIn lw_tbl wsX9_isTaken := (goodIn_cons tb_199 (goodIn_app (goodIn_app (goodIn_app (goodIn_app tb_200 tbX9) tbX2) tx_0) tx_2))
theorem twsW_isTaken : GoodIn lw_tbl wsW_isTaken := (goodIn_cons tb_197 (goodIn_app tb_198 twsX9_isTaken))
set_option maxRecDepth 20000 in
theorem tb_201 : GoodIn lw_tbl [.methodLink RL 186 yL_isTaken, .static yL_isTaken, .initialized RL] := goodIn_r _ [969, 970, 59] (by decide +kernel) (by decide +kernel)
theorem tg_L_isTaken : GoodIn lw_tbl (va_wsS RL 186 yL_isTaken wsW_isTaken) := goodIn_app tb_201 twsW_isTaken
set_option maxRecDepth 20000 in
theorem tb_202 : GoodIn lw_tbl [.code yX10_isTaken cX10_isTaken 2 (some .boolean)] := goodIn_r _ [1500] (by decide +kernel) (by decide +kernel)
set_option maxRecDepth 20000 in
theorem tb_203 : GoodIn lw_tbl [.fieldLink RX10 204 "GridMarketModel" "blocks" "I", .fieldLink RX10 275 "GridMarketModel" "taken" "I", .methodLink RX10 179 yX10_in, .static yX10_in, .initialized RX10, .code yX10_in cX10_in 3 (some .boolean), .methodLink RX10 344 yX10_isThere, .instanceMethod yX10_isThere, .selects RX10 yX10_isThere yX10_isThere, .code yX10_isThere cX10_isThere 2 (some .boolean), .fieldLink RX10 192 "GridMarketModel" "cleared" "I", .fieldLink RX10 175 "GridMarketModel" "thrown" "I"] := goodIn_r _ [1078, 1087, 1278, 1279, 70, 1280, 1481, 1483, 57, 1484, 1063, 1129] (by decide +kernel) (by decide +kernel)
theorem twsX10_isTaken : GoodIn lw_tbl wsX10_isTaken := (goodIn_cons tb_202 (goodIn_app tb_203 tbX10))
set_option maxRecDepth 20000 in
theorem tb_204 : GoodIn lw_tbl [.methodLink RL 188 yX10_isTaken, .instanceMethod yX10_isTaken, .selects RX10 yX10_isTaken yX10_isTaken, .initialized RX10] := goodIn_r _ [1497, 1498, 1499, 70] (by decide +kernel) (by decide +kernel)
theorem tg_X10_isTaken : GoodIn lw_tbl (wsV RL 188 RX10 yX10_isTaken wsX10_isTaken) := goodIn_app tb_204 twsX10_isTaken
set_option maxRecDepth 20000 in
theorem tb_205 : GoodIn lw_tbl [.codeWith yL_gain cL_gain 4 (some .int) [(0, 9, 12, 13), (0, 9, 15, 17)]] := goodIn_r _ [978] (by decide +kernel) (by decide +kernel)
set_option maxRecDepth 20000 in
theorem tb_206 : GoodIn lw_tbl [.methodLink RL 77 yX9_gain, .instanceMethod yX9_gain, .selects RX9 yX9_gain yX9_gain, .initialized RX9, .classLink RL 13 (g_xn 1), .classLink RL 17 (g_xn 3)] := goodIn_r _ [979, 980, 981, 60, 431, 433] (by decide +kernel) (by decide +kernel)
set_option maxRecDepth 20000 in
theorem tb_207 : GoodIn lw_tbl [.code yX9_gain cX9_gain 2 (some .int)] := goodIn_r _ [982] (by decide +kernel) (by decide +kernel)
set_option maxRecDepth 20000 in
theorem tb_208 : GoodIn lw_tbl [Cond.fieldLink RX9 30 "GridMarket" "blocks" "LGridMarket$Blocks;", Cond.fieldLink RX9 105 "GridMarket$Blocks" "count" "I", Cond.fieldLink RX9 63 "GridMarket" "state" "I", Cond.fieldLink RX9 48 "GridMarket" "days" "[LGridMarket$Day;", Cond.fieldLink RX9 59 "GridMarket" "today" "I", Cond.fieldLink RX9 183 "GridMarket$Day" "prices" "[I", Cond.methodLink RX9 67 yX9_checkIndex, Cond.static yX9_checkIndex, Cond.initialized RX9, Cond.code yX9_checkIndex cX9_checkIndex 2 none, Cond.classLink RX9 222 "java/lang/IndexOutOfBoundsException", Cond.initialized "java/lang/IndexOutOfBoundsException", Cond.methodLink RX9 85 yX9_checkState, Cond.static yX9_checkState, Cond.code yX9_checkState cX9_checkState 1 none, Cond.classLink RX9 226 "java/lang/IllegalStateException", Cond.initialized "java/lang/IllegalStateException", Cond.methodLink RX9 209 yX2_gainBy, Cond.instanceMethod yX2_gainBy, Cond.selects RX2 yX2_gainBy yX2_gainBy, Cond.initialized RX2, Cond.code yX2_gainBy cX2_gainBy 5 (some .int), Cond.fieldLink RX2 18 "GridMarket$Blocks" "hours" "[I", Cond.fieldLink RX2 15 "GridMarket$Blocks" "zone" "[I"] := goodIn_r _ [388, 190, 394, 391, 393, 352, 438, 439, 60, 440, 441, 74, 525, 526, 527, 528, 76, 983, 767, 768, 64, 769, 177, 175] (by decide +kernel) (by decide +kernel)
theorem twsX9_gain_r1 : GoodIn lw_tbl wsX9_gain_r1 := tb_208
set_option maxRecDepth 20000 in
theorem tb_209 : GoodIn lw_tbl [Cond.fieldLink RX2 25 "GridMarket$Blocks" "price" "[I", Cond.fieldLink RX2 21 "GridMarket$Blocks" "isBuy" "[Z", Cond.static yX9_isMember, Cond.code yX9_isMember cX9_isMember 2 (some .boolean), Cond.static yX9_spotOf, Cond.code yX9_spotOf cX9_spotOf 2 (some .int)] := goodIn_r _ [181, 179, 685, 686, 760, 761] (by decide +kernel) (by decide +kernel)
theorem twsX9_gain_r2 : GoodIn lw_tbl wsX9_gain_r2 := tb_209
theorem twsX9_gain : GoodIn lw_tbl wsX9_gain := (goodIn_cons tb_207 (goodIn_app (goodIn_app (goodIn_app (goodIn_app (goodIn_app (goodIn_app twsX9_gain_r1 twsX9_gain_r2) tbX9) tbX2) tbX5) tx_0) tx_2))
theorem twsW_gain : GoodIn lw_tbl wsW_gain := (goodIn_cons tb_205 (goodIn_app tb_206 twsX9_gain))
set_option maxRecDepth 20000 in
theorem tb_210 : GoodIn lw_tbl [.methodLink RL 189 yL_gain, .static yL_gain, .initialized RL] := goodIn_r _ [976, 977, 59] (by decide +kernel) (by decide +kernel)
theorem tg_L_gain : GoodIn lw_tbl (va_wsS RL 189 yL_gain wsW_gain) := goodIn_app tb_210 twsW_gain
set_option maxRecDepth 20000 in
theorem tb_211 : GoodIn lw_tbl [.code yX10_gain cX10_gain 2 (some .int)] := goodIn_r _ [1504] (by decide +kernel) (by decide +kernel)
set_option maxRecDepth 20000 in
theorem tb_212 : GoodIn lw_tbl [Cond.fieldLink RX10 204 "GridMarketModel" "blocks" "I", Cond.fieldLink RX10 130 "GridMarketModel" "prices" "[I", Cond.fieldLink RX10 183 "GridMarketModel" "day" "I", Cond.methodLink RX10 179 yX10_in, Cond.static yX10_in, Cond.initialized RX10, Cond.code yX10_in cX10_in 3 (some .boolean), Cond.methodLink RX10 344 yX10_isThere, Cond.instanceMethod yX10_isThere, Cond.selects RX10 yX10_isThere yX10_isThere, Cond.code yX10_isThere cX10_isThere 2 (some .boolean), Cond.fieldLink RX10 192 "GridMarketModel" "cleared" "I", Cond.fieldLink RX10 175 "GridMarketModel" "thrown" "I", Cond.methodLink RX10 261 yX10_gainOf, Cond.instanceMethod yX10_gainOf, Cond.selects RX10 yX10_gainOf yX10_gainOf, Cond.code yX10_gainOf cX10_gainOf 5 (some .int), Cond.fieldLink RX10 58 "GridMarketModel" "blockPrices" "[I", Cond.fieldLink RX10 55 "GridMarketModel" "blockBuys" "[I", Cond.methodLink RX10 244 yX10_pricesOf, Cond.instanceMethod yX10_pricesOf, Cond.selects RX10 yX10_pricesOf yX10_pricesOf, Cond.code yX10_pricesOf cX10_pricesOf 6 (some .int), Cond.fieldLink RX10 52 "GridMarketModel" "blockHours" "[I"] := goodIn_r _ [1078, 1110, 1062, 1278, 1279, 70, 1280, 1481, 1483, 57, 1484, 1063, 1129, 1368, 1370, 40, 1371, 1083, 1082, 1372, 1374, 41, 1375, 1081] (by decide +kernel) (by decide +kernel)
theorem twsX10_gain_r1 : GoodIn lw_tbl wsX10_gain_r1 := tb_212
set_option maxRecDepth 20000 in
theorem tb_213 : GoodIn lw_tbl [Cond.fieldLink RX10 49 "GridMarketModel" "blockZones" "[I", Cond.methodLink RX10 248 yX10_hoursOf, Cond.instanceMethod yX10_hoursOf, Cond.selects RX10 yX10_hoursOf yX10_hoursOf, Cond.code yX10_hoursOf cX10_hoursOf 4 (some .int)] := goodIn_r _ [1080, 1346, 1348, 36, 1349] (by decide +kernel) (by decide +kernel)
theorem twsX10_gain_r2 : GoodIn lw_tbl wsX10_gain_r2 := tb_213
theorem twsX10_gain : GoodIn lw_tbl wsX10_gain := (goodIn_cons tb_211 (goodIn_app (goodIn_app twsX10_gain_r1 twsX10_gain_r2) tbX10))
set_option maxRecDepth 20000 in
theorem tb_214 : GoodIn lw_tbl [.methodLink RL 191 yX10_gain, .instanceMethod yX10_gain, .selects RX10 yX10_gain yX10_gain, .initialized RX10] := goodIn_r _ [1501, 1502, 1503, 70] (by decide +kernel) (by decide +kernel)
theorem tg_X10_gain : GoodIn lw_tbl (wsV RL 191 RX10 yX10_gain wsX10_gain) := goodIn_app tb_214 twsX10_gain
set_option maxRecDepth 20000 in
theorem tb_215 : GoodIn lw_tbl [.codeWith yL_worthAnew cL_worthAnew 3 (some .int) [(0, 8, 11, 17)]] := goodIn_r _ [986] (by decide +kernel) (by decide +kernel)
set_option maxRecDepth 20000 in
theorem tb_216 : GoodIn lw_tbl [.methodLink RL 80 yX9_worthAnew, .instanceMethod yX9_worthAnew, .selects RX9 yX9_worthAnew yX9_worthAnew, .initialized RX9, .classLink RL 17 (g_xn 3)] := goodIn_r _ [987, 988, 989, 60, 433] (by decide +kernel) (by decide +kernel)
set_option maxRecDepth 20000 in
theorem tb_217 : GoodIn lw_tbl [.code yX9_worthAnew cX9_worthAnew 1 (some .int)] := goodIn_r _ [990] (by decide +kernel) (by decide +kernel)
set_option maxRecDepth 20000 in
theorem tb_218 : GoodIn lw_tbl [Cond.fieldLink RX9 63 "GridMarket" "state" "I", Cond.methodLink RX9 85 yX9_checkState, Cond.static yX9_checkState, Cond.initialized RX9, Cond.code yX9_checkState cX9_checkState 1 none, Cond.classLink RX9 226 "java/lang/IllegalStateException", Cond.initialized "java/lang/IllegalStateException", Cond.methodLink RX9 143 yX9_worthTaken, Cond.instanceMethod yX9_worthTaken, Cond.selects RX9 yX9_worthTaken yX9_worthTaken, Cond.code yX9_worthTaken cX9_worthTaken 4 (some .int), Cond.fieldLink RX9 30 "GridMarket" "blocks" "LGridMarket$Blocks;", Cond.fieldLink RX9 202 "GridMarket$Blocks" "chosen" "I", Cond.fieldLink RX9 25 "GridMarket" "bids" "LGridMarket$Orders;", Cond.fieldLink RX9 150 "GridMarket$Orders" "count" "I", Cond.fieldLink RX9 229 "GridMarket$Orders" "isBuy" "[Z", Cond.fieldLink RX9 264 "GridMarket$Orders" "price" "[I", Cond.methodLink RX9 261 yX2_worthOf, Cond.instanceMethod yX2_worthOf, Cond.selects RX2 yX2_worthOf yX2_worthOf, Cond.initialized RX2, Cond.code yX2_worthOf cX2_worthOf 5 (some .int), Cond.fieldLink RX2 37 "GridMarket$Blocks" "count" "I", Cond.fieldLink RX2 25 "GridMarket$Blocks" "price" "[I"] := goodIn_r _ [394, 525, 526, 60, 527, 528, 76, 824, 826, 19, 827, 388, 193, 387, 146, 124, 129, 828, 745, 746, 64, 747, 188, 181] (by decide +kernel) (by decide +kernel)
theorem twsX9_worthAnew_r1 : GoodIn lw_tbl wsX9_worthAnew_r1 := tb_218
set_option maxRecDepth 20000 in
theorem tb_219 : GoodIn lw_tbl [Cond.fieldLink RX2 28 "GridMarket$Blocks" "units" "[I", Cond.fieldLink RX2 18 "GridMarket$Blocks" "hours" "[I", Cond.fieldLink RX2 21 "GridMarket$Blocks" "isBuy" "[Z", Cond.static yX9_isMember, Cond.code yX9_isMember cX9_isMember 2 (some .boolean), Cond.methodLink RX2 48 yJ6_bitCount_0f7a4, Cond.static yJ6_bitCount_0f7a4, Cond.initialized RJ6, Cond.code yJ6_bitCount_0f7a4 cJ6_bitCount_0f7a4 1 (some .int), Cond.constant RJ6 265 (1431655765), Cond.constant RJ6 266 (858993459), Cond.constant RJ6 267 (252645135), Cond.methodLink RX9 199 yX8_used, Cond.instanceMethod yX8_used, Cond.selects RX8 yX8_used yX8_used, Cond.initialized RX8, Cond.code yX8_used cX8_used 2 (some .int), Cond.fieldLink RX8 32 "GridMarket$Orders" "units" "[I", Cond.fieldLink RX8 35 "GridMarket$Orders" "rest" "[I"] := goodIn_r _ [182, 177, 179, 685, 686, 748, 749, 78, 750, 751, 752, 753, 787, 788, 789, 63, 790, 130, 134] (by decide +kernel) (by decide +kernel)
theorem twsX9_worthAnew_r2 : GoodIn lw_tbl wsX9_worthAnew_r2 := tb_219
theorem twsX9_worthAnew : GoodIn lw_tbl wsX9_worthAnew := (goodIn_cons tb_217 (goodIn_app (goodIn_app (goodIn_app (goodIn_app (goodIn_app twsX9_worthAnew_r1 twsX9_worthAnew_r2) tbX9) tbX2) tbX8) tx_2))
theorem twsW_worthAnew : GoodIn lw_tbl wsW_worthAnew := (goodIn_cons tb_215 (goodIn_app tb_216 twsX9_worthAnew))
set_option maxRecDepth 20000 in
theorem tb_220 : GoodIn lw_tbl [.methodLink RL 192 yL_worthAnew, .static yL_worthAnew, .initialized RL] := goodIn_r _ [984, 985, 59] (by decide +kernel) (by decide +kernel)
theorem tg_L_worthAnew : GoodIn lw_tbl (va_wsS RL 192 yL_worthAnew wsW_worthAnew) := goodIn_app tb_220 twsW_worthAnew
set_option maxRecDepth 20000 in
theorem tb_221 : GoodIn lw_tbl [.code yX10_worthAnew cX10_worthAnew 3 (some .int)] := goodIn_r _ [1508] (by decide +kernel) (by decide +kernel)
set_option maxRecDepth 20000 in
theorem tb_222 : GoodIn lw_tbl [.fieldLink RX10 192 "GridMarketModel" "cleared" "I", .fieldLink RX10 175 "GridMarketModel" "thrown" "I", .fieldLink RX10 275 "GridMarketModel" "taken" "I", .fieldLink RX10 201 "GridMarketModel" "bids" "I", .fieldLink RX10 31 "GridMarketModel" "bidBuys" "[I", .fieldLink RX10 40 "GridMarketModel" "bidTaken" "[I", .fieldLink RX10 34 "GridMarketModel" "bidPrices" "[I", .methodLink RX10 255 yX10_worthOfBlocks, .instanceMethod yX10_worthOfBlocks, .selects RX10 yX10_worthOfBlocks yX10_worthOfBlocks, .initialized RX10, .code yX10_worthOfBlocks cX10_worthOfBlocks 5 (some .int), .fieldLink RX10 204 "GridMarketModel" "blocks" "I", .fieldLink RX10 58 "GridMarketModel" "blockPrices" "[I", .fieldLink RX10 61 "GridMarketModel" "blockUnits" "[I", .fieldLink RX10 55 "GridMarketModel" "blockBuys" "[I", .methodLink RX10 248 yX10_hoursOf, .instanceMethod yX10_hoursOf, .selects RX10 yX10_hoursOf yX10_hoursOf, .code yX10_hoursOf cX10_hoursOf 4 (some .int), .fieldLink RX10 52 "GridMarketModel" "blockHours" "[I"] := goodIn_r _ [1063, 1129, 1087, 1069, 1073, 1076, 1074, 1342, 1344, 35, 70, 1345, 1078, 1083, 1084, 1082, 1346, 1348, 36, 1349, 1081] (by decide +kernel) (by decide +kernel)
theorem twsX10_worthAnew : GoodIn lw_tbl wsX10_worthAnew := (goodIn_cons tb_221 (goodIn_app tb_222 tbX10))
set_option maxRecDepth 20000 in
theorem tb_223 : GoodIn lw_tbl [.methodLink RL 194 yX10_worthAnew, .instanceMethod yX10_worthAnew, .selects RX10 yX10_worthAnew yX10_worthAnew, .initialized RX10] := goodIn_r _ [1505, 1506, 1507, 70] (by decide +kernel) (by decide +kernel)
theorem tg_X10_worthAnew : GoodIn lw_tbl (wsV RL 194 RX10 yX10_worthAnew wsX10_worthAnew) := goodIn_app tb_223 twsX10_worthAnew
set_option maxRecDepth 20000 in
theorem tb_224 : GoodIn lw_tbl [.codeWith yL_given cL_given 4 (some .int) [(0, 9, 12, 13), (0, 9, 15, 17)]] := goodIn_r _ [993] (by decide +kernel) (by decide +kernel)
set_option maxRecDepth 20000 in
theorem tb_225 : GoodIn lw_tbl [.methodLink RL 83 yX9_given, .instanceMethod yX9_given, .selects RX9 yX9_given yX9_given, .initialized RX9, .classLink RL 13 (g_xn 1), .classLink RL 17 (g_xn 3)] := goodIn_r _ [994, 995, 996, 60, 431, 433] (by decide +kernel) (by decide +kernel)
set_option maxRecDepth 20000 in
theorem tb_226 : GoodIn lw_tbl [.code yX9_given cX9_given 2 (some .int)] := goodIn_r _ [997] (by decide +kernel) (by decide +kernel)
set_option maxRecDepth 20000 in
theorem tb_227 : GoodIn lw_tbl [.fieldLink RX9 34 "GridMarket" "asks" "LGridMarket$Asks;", .fieldLink RX9 124 "GridMarket$Asks" "rows" "LGridMarket$Orders;", .fieldLink RX9 150 "GridMarket$Orders" "count" "I", .fieldLink RX9 63 "GridMarket" "state" "I", .methodLink RX9 67 yX9_checkIndex, .static yX9_checkIndex, .initialized RX9, .code yX9_checkIndex cX9_checkIndex 2 none, .classLink RX9 222 "java/lang/IndexOutOfBoundsException", .initialized "java/lang/IndexOutOfBoundsException", .methodLink RX9 85 yX9_checkState, .static yX9_checkState, .code yX9_checkState cX9_checkState 1 none, .classLink RX9 226 "java/lang/IllegalStateException", .initialized "java/lang/IllegalStateException", .methodLink RX9 199 yX8_used, .instanceMethod yX8_used, .selects RX8 yX8_used yX8_used, .initialized RX8, .code yX8_used cX8_used 2 (some .int), .fieldLink RX8 32 "GridMarket$Orders" "units" "[I", .fieldLink RX8 35 "GridMarket$Orders" "rest" "[I"] := goodIn_r _ [389, 309, 146, 394, 438, 439, 60, 440, 441, 74, 525, 526, 527, 528, 76, 787, 788, 789, 63, 790, 130, 134] (by decide +kernel) (by decide +kernel)
theorem twsX9_given : GoodIn lw_tbl wsX9_given := (goodIn_cons tb_226 (goodIn_app (goodIn_app (goodIn_app (goodIn_app (goodIn_app tb_227 tbX9) tbX1) tbX8) tx_0) tx_2))
theorem twsW_given : GoodIn lw_tbl wsW_given := (goodIn_cons tb_224 (goodIn_app tb_225 twsX9_given))
set_option maxRecDepth 20000 in
theorem tb_228 : GoodIn lw_tbl [.methodLink RL 195 yL_given, .static yL_given, .initialized RL] := goodIn_r _ [991, 992, 59] (by decide +kernel) (by decide +kernel)
theorem tg_L_given : GoodIn lw_tbl (va_wsS RL 195 yL_given wsW_given) := goodIn_app tb_228 twsW_given
set_option maxRecDepth 20000 in
theorem tb_229 : GoodIn lw_tbl [.code yX10_given cX10_given 2 (some .int)] := goodIn_r _ [1512] (by decide +kernel) (by decide +kernel)
set_option maxRecDepth 20000 in
theorem tb_230 : GoodIn lw_tbl [.fieldLink RX10 207 "GridMarketModel" "asks" "I", .fieldLink RX10 85 "GridMarketModel" "askGiven" "[I", .methodLink RX10 179 yX10_in, .static yX10_in, .initialized RX10, .code yX10_in cX10_in 3 (some .boolean), .methodLink RX10 344 yX10_isThere, .instanceMethod yX10_isThere, .selects RX10 yX10_isThere yX10_isThere, .code yX10_isThere cX10_isThere 2 (some .boolean), .fieldLink RX10 192 "GridMarketModel" "cleared" "I", .fieldLink RX10 175 "GridMarketModel" "thrown" "I"] := goodIn_r _ [1088, 1094, 1278, 1279, 70, 1280, 1481, 1483, 57, 1484, 1063, 1129] (by decide +kernel) (by decide +kernel)
theorem twsX10_given : GoodIn lw_tbl wsX10_given := (goodIn_cons tb_229 (goodIn_app tb_230 tbX10))
set_option maxRecDepth 20000 in
theorem tb_231 : GoodIn lw_tbl [.methodLink RL 197 yX10_given, .instanceMethod yX10_given, .selects RX10 yX10_given yX10_given, .initialized RX10] := goodIn_r _ [1509, 1510, 1511, 70] (by decide +kernel) (by decide +kernel)
theorem tg_X10_given : GoodIn lw_tbl (wsV RL 197 RX10 yX10_given wsX10_given) := goodIn_app tb_231 twsX10_given
set_option maxRecDepth 20000 in
theorem tb_232 : GoodIn lw_tbl [.codeWith yL_left cL_left 4 (some .int) [(0, 9, 12, 13)]] := goodIn_r _ [1000] (by decide +kernel) (by decide +kernel)
set_option maxRecDepth 20000 in
theorem tb_233 : GoodIn lw_tbl [.methodLink RL 86 yX9_left, .instanceMethod yX9_left, .selects RX9 yX9_left yX9_left, .initialized RX9, .classLink RL 13 (g_xn 1)] := goodIn_r _ [1001, 1002, 1003, 60, 431] (by decide +kernel) (by decide +kernel)
set_option maxRecDepth 20000 in
theorem tb_234 : GoodIn lw_tbl [.code yX9_left cX9_left 2 (some .int)] := goodIn_r _ [1004] (by decide +kernel) (by decide +kernel)
set_option maxRecDepth 20000 in
theorem tb_235 : GoodIn lw_tbl [.fieldLink RX9 43 "GridMarket" "offers" "LGridMarket$Orders;", .fieldLink RX9 150 "GridMarket$Orders" "count" "I", .fieldLink RX9 151 "GridMarket$Orders" "rest" "[I", .methodLink RX9 67 yX9_checkIndex, .static yX9_checkIndex, .initialized RX9, .code yX9_checkIndex cX9_checkIndex 2 none, .classLink RX9 222 "java/lang/IndexOutOfBoundsException", .initialized "java/lang/IndexOutOfBoundsException"] := goodIn_r _ [390, 146, 136, 438, 439, 60, 440, 441, 74] (by decide +kernel) (by decide +kernel)
theorem twsX9_left : GoodIn lw_tbl wsX9_left := (goodIn_cons tb_234 (goodIn_app (goodIn_app (goodIn_app tb_235 tbX9) tbX8) tx_0))
theorem twsW_left : GoodIn lw_tbl wsW_left := (goodIn_cons tb_232 (goodIn_app tb_233 twsX9_left))
set_option maxRecDepth 20000 in
theorem tb_236 : GoodIn lw_tbl [.methodLink RL 198 yL_left, .static yL_left, .initialized RL] := goodIn_r _ [998, 999, 59] (by decide +kernel) (by decide +kernel)
theorem tg_L_left : GoodIn lw_tbl (va_wsS RL 198 yL_left wsW_left) := goodIn_app tb_236 twsW_left
set_option maxRecDepth 20000 in
theorem tb_237 : GoodIn lw_tbl [.code yX10_left cX10_left 2 (some .int)] := goodIn_r _ [1516] (by decide +kernel) (by decide +kernel)
set_option maxRecDepth 20000 in
theorem tb_238 : GoodIn lw_tbl [.fieldLink RX10 298 "GridMarketModel" "offers" "I", .fieldLink RX10 175 "GridMarketModel" "thrown" "I", .fieldLink RX10 103 "GridMarketModel" "offerLeft" "[I", .methodLink RX10 179 yX10_in, .static yX10_in, .initialized RX10, .code yX10_in cX10_in 3 (some .boolean)] := goodIn_r _ [1095, 1129, 1101, 1278, 1279, 70, 1280] (by decide +kernel) (by decide +kernel)
theorem twsX10_left : GoodIn lw_tbl wsX10_left := (goodIn_cons tb_237 (goodIn_app tb_238 tbX10))
set_option maxRecDepth 20000 in
theorem tb_239 : GoodIn lw_tbl [.methodLink RL 200 yX10_left, .instanceMethod yX10_left, .selects RX10 yX10_left yX10_left, .initialized RX10] := goodIn_r _ [1513, 1514, 1515, 70] (by decide +kernel) (by decide +kernel)
theorem tg_X10_left : GoodIn lw_tbl (wsV RL 200 RX10 yX10_left wsX10_left) := goodIn_app tb_239 twsX10_left
set_option maxRecDepth 20000 in
theorem tb_240 : GoodIn lw_tbl [.codeWith yL_plan cL_plan 7 (some .int) [(0, 14, 17, 13)]] := goodIn_r _ [1007] (by decide +kernel) (by decide +kernel)
set_option maxRecDepth 20000 in
theorem tb_241 : GoodIn lw_tbl [.methodLink RL 89 yX9_plan, .instanceMethod yX9_plan, .selects RX9 yX9_plan yX9_plan, .initialized RX9, .classLink RL 13 (g_xn 1)] := goodIn_r _ [1008, 1009, 1010, 60, 431] (by decide +kernel) (by decide +kernel)
set_option maxRecDepth 20000 in
theorem tb_242 : GoodIn lw_tbl [.code yX9_plan cX9_plan 5 (some .int)] := goodIn_r _ [1011] (by decide +kernel) (by decide +kernel)
set_option maxRecDepth 20000 in
theorem tb_243 : GoodIn lw_tbl [.fieldLink RX9 59 "GridMarket" "today" "I", .fieldLink RX9 48 "GridMarket" "days" "[LGridMarket$Day;", .fieldLink RX9 164 "GridMarket$Day" "plans" "[I", .methodLink RX9 67 yX9_checkIndex, .static yX9_checkIndex, .initialized RX9, .code yX9_checkIndex cX9_checkIndex 2 none, .classLink RX9 222 "java/lang/IndexOutOfBoundsException", .initialized "java/lang/IndexOutOfBoundsException", .methodLink RX9 157 yX9_placeOf, .static yX9_placeOf, .code yX9_placeOf cX9_placeOf 3 (some .int), .methodLink RX9 186 yX9_spotOf, .static yX9_spotOf, .code yX9_spotOf cX9_spotOf 2 (some .int)] := goodIn_r _ [393, 391, 357, 438, 439, 60, 440, 441, 74, 882, 883, 884, 791, 760, 761] (by decide +kernel) (by decide +kernel)
theorem twsX9_plan : GoodIn lw_tbl wsX9_plan := (goodIn_cons tb_242 (goodIn_app (goodIn_app (goodIn_app tb_243 tbX9) tbX5) tx_0))
theorem twsW_plan : GoodIn lw_tbl wsW_plan := (goodIn_cons tb_240 (goodIn_app tb_241 twsX9_plan))
set_option maxRecDepth 20000 in
theorem tb_244 : GoodIn lw_tbl [.methodLink RL 201 yL_plan, .static yL_plan, .initialized RL] := goodIn_r _ [1005, 1006, 59] (by decide +kernel) (by decide +kernel)
theorem tg_L_plan : GoodIn lw_tbl (va_wsS RL 201 yL_plan wsW_plan) := goodIn_app tb_244 twsW_plan
set_option maxRecDepth 20000 in
theorem tb_245 : GoodIn lw_tbl [.code yX10_plan cX10_plan 5 (some .int)] := goodIn_r _ [1520] (by decide +kernel) (by decide +kernel)
set_option maxRecDepth 20000 in
theorem tb_246 : GoodIn lw_tbl [.fieldLink RX10 183 "GridMarketModel" "day" "I", .fieldLink RX10 175 "GridMarketModel" "thrown" "I", .fieldLink RX10 133 "GridMarketModel" "plans" "[I", .methodLink RX10 179 yX10_in, .static yX10_in, .initialized RX10, .code yX10_in cX10_in 3 (some .boolean), .methodLink RX10 186 yX10_isFirm, .static yX10_isFirm, .code yX10_isFirm cX10_isFirm 1 (some .boolean), .methodLink RX10 195 yX10_isZone, .static yX10_isZone, .code yX10_isZone cX10_isZone 1 (some .boolean), .methodLink RX10 198 yX10_isHour, .static yX10_isHour, .code yX10_isHour cX10_isHour 1 (some .boolean), .methodLink RX10 307 yX10_placeOf, .static yX10_placeOf, .code yX10_placeOf cX10_placeOf 4 (some .int)] := goodIn_r _ [1062, 1129, 1111, 1278, 1279, 70, 1280, 1275, 1276, 1277, 1291, 1292, 1293, 1294, 1295, 1296, 1428, 1429, 1430] (by decide +kernel) (by decide +kernel)
theorem twsX10_plan : GoodIn lw_tbl wsX10_plan := (goodIn_cons tb_245 (goodIn_app tb_246 tbX10))
set_option maxRecDepth 20000 in
theorem tb_247 : GoodIn lw_tbl [.methodLink RL 204 yX10_plan, .instanceMethod yX10_plan, .selects RX10 yX10_plan yX10_plan, .initialized RX10] := goodIn_r _ [1517, 1518, 1519, 70] (by decide +kernel) (by decide +kernel)
theorem tg_X10_plan : GoodIn lw_tbl (wsV RL 204 RX10 yX10_plan wsX10_plan) := goodIn_app tb_247 twsX10_plan
set_option maxRecDepth 20000 in
theorem tb_248 : GoodIn lw_tbl [.codeWith yL_gap cL_gap 5 (some .int) [(0, 10, 13, 13)]] := goodIn_r _ [1014] (by decide +kernel) (by decide +kernel)
set_option maxRecDepth 20000 in
theorem tb_249 : GoodIn lw_tbl [.methodLink RL 93 yX9_gap, .instanceMethod yX9_gap, .selects RX9 yX9_gap yX9_gap, .initialized RX9, .classLink RL 13 (g_xn 1)] := goodIn_r _ [1015, 1016, 1017, 60, 431] (by decide +kernel) (by decide +kernel)
set_option maxRecDepth 20000 in
theorem tb_250 : GoodIn lw_tbl [.code yX9_gap cX9_gap 3 (some .int)] := goodIn_r _ [1018] (by decide +kernel) (by decide +kernel)
set_option maxRecDepth 20000 in
theorem tb_251 : GoodIn lw_tbl [.fieldLink RX9 59 "GridMarket" "today" "I", .fieldLink RX9 48 "GridMarket" "days" "[LGridMarket$Day;", .methodLink RX9 67 yX9_checkIndex, .static yX9_checkIndex, .initialized RX9, .code yX9_checkIndex cX9_checkIndex 2 none, .classLink RX9 222 "java/lang/IndexOutOfBoundsException", .initialized "java/lang/IndexOutOfBoundsException", .methodLink RX9 213 yX5_gapOf, .instanceMethod yX5_gapOf, .selects RX5 yX5_gapOf yX5_gapOf, .initialized RX5, .code yX5_gapOf cX5_gapOf 5 (some .int), .fieldLink RX5 21 "GridMarket$Day" "gaps" "[I", .static yX9_placeOf, .code yX9_placeOf cX9_placeOf 3 (some .int), .methodLink RX9 186 yX9_spotOf, .static yX9_spotOf, .code yX9_spotOf cX9_spotOf 2 (some .int)] := goodIn_r _ [393, 391, 438, 439, 60, 440, 441, 74, 1019, 901, 902, 69, 903, 358, 883, 884, 791, 760, 761] (by decide +kernel) (by decide +kernel)
theorem twsX9_gap : GoodIn lw_tbl wsX9_gap := (goodIn_cons tb_250 (goodIn_app (goodIn_app (goodIn_app tb_251 tbX9) tbX5) tx_0))
theorem twsW_gap : GoodIn lw_tbl wsW_gap := (goodIn_cons tb_248 (goodIn_app tb_249 twsX9_gap))
set_option maxRecDepth 20000 in
theorem tb_252 : GoodIn lw_tbl [.methodLink RL 205 yL_gap, .static yL_gap, .initialized RL] := goodIn_r _ [1012, 1013, 59] (by decide +kernel) (by decide +kernel)
theorem tg_L_gap : GoodIn lw_tbl (va_wsS RL 205 yL_gap wsW_gap) := goodIn_app tb_252 twsW_gap
set_option maxRecDepth 20000 in
theorem tb_253 : GoodIn lw_tbl [.code yX10_gap cX10_gap 3 (some .int)] := goodIn_r _ [1524] (by decide +kernel) (by decide +kernel)
set_option maxRecDepth 20000 in
theorem tb_254 : GoodIn lw_tbl [Cond.fieldLink RX10 175 "GridMarketModel" "thrown" "I", Cond.methodLink RX10 310 yX10_isClosed, Cond.instanceMethod yX10_isClosed, Cond.selects RX10 yX10_isClosed yX10_isClosed, Cond.initialized RX10, Cond.code yX10_isClosed cX10_isClosed 2 (some .boolean), Cond.fieldLink RX10 183 "GridMarketModel" "day" "I", Cond.methodLink RX10 179 yX10_in, Cond.static yX10_in, Cond.code yX10_in cX10_in 3 (some .boolean), Cond.methodLink RX10 198 yX10_isHour, Cond.static yX10_isHour, Cond.code yX10_isHour cX10_isHour 1 (some .boolean), Cond.methodLink RX10 316 yX10_gapIn, Cond.instanceMethod yX10_gapIn, Cond.selects RX10 yX10_gapIn yX10_gapIn, Cond.code yX10_gapIn cX10_gapIn 6 (some .int), Cond.methodLink RX10 313 yX10_gapOf, Cond.instanceMethod yX10_gapOf, Cond.selects RX10 yX10_gapOf yX10_gapOf, Cond.code yX10_gapOf cX10_gapOf 6 (some .int), Cond.fieldLink RX10 139 "GridMarketModel" "areRead" "[I", Cond.fieldLink RX10 136 "GridMarketModel" "readings" "[I", Cond.fieldLink RX10 133 "GridMarketModel" "plans" "[I"] := goodIn_r _ [1129, 1424, 1426, 49, 70, 1427, 1062, 1278, 1279, 1280, 1294, 1295, 1296, 1451, 1453, 54, 1454, 1431, 1433, 50, 1434, 1113, 1112, 1111] (by decide +kernel) (by decide +kernel)
theorem twsX10_gap_r1 : GoodIn lw_tbl wsX10_gap_r1 := tb_254
set_option maxRecDepth 20000 in
theorem tb_255 : GoodIn lw_tbl [Cond.methodLink RX10 307 yX10_placeOf, Cond.static yX10_placeOf, Cond.code yX10_placeOf cX10_placeOf 4 (some .int)] := goodIn_r _ [1428, 1429, 1430] (by decide +kernel) (by decide +kernel)
theorem twsX10_gap_r2 : GoodIn lw_tbl wsX10_gap_r2 := tb_255
theorem twsX10_gap : GoodIn lw_tbl wsX10_gap := (goodIn_cons tb_253 (goodIn_app (goodIn_app twsX10_gap_r1 twsX10_gap_r2) tbX10))
set_option maxRecDepth 20000 in
theorem tb_256 : GoodIn lw_tbl [.methodLink RL 207 yX10_gap, .instanceMethod yX10_gap, .selects RX10 yX10_gap yX10_gap, .initialized RX10] := goodIn_r _ [1521, 1522, 1523, 70] (by decide +kernel) (by decide +kernel)
theorem tg_X10_gap : GoodIn lw_tbl (wsV RL 207 RX10 yX10_gap wsX10_gap) := goodIn_app tb_256 twsX10_gap
set_option maxRecDepth 20000 in
theorem tb_257 : GoodIn lw_tbl [.codeWith yL_gapPrice cL_gapPrice 5 (some .int) [(0, 10, 13, 13)]] := goodIn_r _ [1022] (by decide +kernel) (by decide +kernel)
set_option maxRecDepth 20000 in
theorem tb_258 : GoodIn lw_tbl [.methodLink RL 96 yX9_gapPrice, .instanceMethod yX9_gapPrice, .selects RX9 yX9_gapPrice yX9_gapPrice, .initialized RX9, .classLink RL 13 (g_xn 1)] := goodIn_r _ [1023, 1024, 1025, 60, 431] (by decide +kernel) (by decide +kernel)
set_option maxRecDepth 20000 in
theorem tb_259 : GoodIn lw_tbl [.code yX9_gapPrice cX9_gapPrice 5 (some .int)] := goodIn_r _ [1026] (by decide +kernel) (by decide +kernel)
set_option maxRecDepth 20000 in
theorem tb_260 : GoodIn lw_tbl [Cond.fieldLink RX9 59 "GridMarket" "today" "I", Cond.fieldLink RX9 48 "GridMarket" "days" "[LGridMarket$Day;", Cond.methodLink RX9 67 yX9_checkIndex, Cond.static yX9_checkIndex, Cond.initialized RX9, Cond.code yX9_checkIndex cX9_checkIndex 2 none, Cond.classLink RX9 222 "java/lang/IndexOutOfBoundsException", Cond.initialized "java/lang/IndexOutOfBoundsException", Cond.methodLink RX9 213 yX5_gapOf, Cond.instanceMethod yX5_gapOf, Cond.selects RX5 yX5_gapOf yX5_gapOf, Cond.initialized RX5, Cond.code yX5_gapOf cX5_gapOf 5 (some .int), Cond.fieldLink RX5 21 "GridMarket$Day" "gaps" "[I", Cond.static yX9_placeOf, Cond.code yX9_placeOf cX9_placeOf 3 (some .int), Cond.methodLink RX9 186 yX9_spotOf, Cond.static yX9_spotOf, Cond.code yX9_spotOf cX9_spotOf 2 (some .int), Cond.methodLink RX9 216 yX5_priceOfGap, Cond.instanceMethod yX5_priceOfGap, Cond.selects RX5 yX5_priceOfGap yX5_priceOfGap, Cond.code yX5_priceOfGap cX5_priceOfGap 7 (some .int), Cond.methodLink RX5 56 Lib.Math.abs.name] := goodIn_r _ [393, 391, 438, 439, 60, 440, 441, 74, 1019, 901, 902, 69, 903, 358, 883, 884, 791, 760, 761, 1027, 906, 907, 908, 909] (by decide +kernel) (by decide +kernel)
theorem twsX9_gapPrice_r1 : GoodIn lw_tbl wsX9_gapPrice_r1 := tb_260
set_option maxRecDepth 20000 in
theorem tb_261 : GoodIn lw_tbl [Cond.static Lib.Math.abs.name, Cond.initialized "java/lang/Math", Cond.code Lib.Math.abs.name Lib.Math.abs.code 1 (some .int), Cond.fieldLink RX5 35 "GridMarket$Day" "aids" "LGridMarket$Orders;", Cond.fieldLink RX5 60 "GridMarket$Orders" "count" "I", Cond.fieldLink RX5 63 "GridMarket$Orders" "merit" "[I", Cond.fieldLink RX5 70 "GridMarket$Orders" "units" "[I", Cond.fieldLink RX5 73 "GridMarket$Orders" "price" "[I", Cond.fieldLink RX5 9 "GridMarket$Day" "prices" "[I", Cond.methodLink RX5 47 Lib.Math.max.name, Cond.static Lib.Math.max.name, Cond.code Lib.Math.max.name Lib.Math.max.code 2 (some .int), Cond.methodLink RX5 76 Lib.Math.min.name, Cond.static Lib.Math.min.name, Cond.code Lib.Math.min.name Lib.Math.min.code 2 (some .int), Cond.methodLink RX5 66 yX5_helps, Cond.instanceMethod yX5_helps, Cond.selects RX5 yX5_helps yX5_helps, Cond.code yX5_helps cX5_helps 4 (some .boolean), Cond.fieldLink RX5 79 "GridMarket$Orders" "hour" "[I", Cond.fieldLink RX5 82 "GridMarket$Orders" "isBuy" "[Z"] := goodIn_r _ [714, 77, 715, 364, 145, 140, 133, 128, 350, 822, 660, 661, 914, 657, 658, 910, 912, 24, 913, 119, 123] (by decide +kernel) (by decide +kernel)
theorem twsX9_gapPrice_r2 : GoodIn lw_tbl wsX9_gapPrice_r2 := tb_261
theorem twsX9_gapPrice : GoodIn lw_tbl wsX9_gapPrice := (goodIn_cons tb_259 (goodIn_app (goodIn_app (goodIn_app (goodIn_app (goodIn_app twsX9_gapPrice_r1 twsX9_gapPrice_r2) tbX9) tbX5) tbX8) tx_0))
theorem twsW_gapPrice : GoodIn lw_tbl wsW_gapPrice := (goodIn_cons tb_257 (goodIn_app tb_258 twsX9_gapPrice))
set_option maxRecDepth 20000 in
theorem tb_262 : GoodIn lw_tbl [.methodLink RL 208 yL_gapPrice, .static yL_gapPrice, .initialized RL] := goodIn_r _ [1020, 1021, 59] (by decide +kernel) (by decide +kernel)
theorem tg_L_gapPrice : GoodIn lw_tbl (va_wsS RL 208 yL_gapPrice wsW_gapPrice) := goodIn_app tb_262 twsW_gapPrice
set_option maxRecDepth 20000 in
theorem tb_263 : GoodIn lw_tbl [.code yX10_gapPrice cX10_gapPrice 3 (some .int)] := goodIn_r _ [1528] (by decide +kernel) (by decide +kernel)
set_option maxRecDepth 20000 in
theorem tb_264 : GoodIn lw_tbl [Cond.fieldLink RX10 175 "GridMarketModel" "thrown" "I", Cond.methodLink RX10 310 yX10_isClosed, Cond.instanceMethod yX10_isClosed, Cond.selects RX10 yX10_isClosed yX10_isClosed, Cond.initialized RX10, Cond.code yX10_isClosed cX10_isClosed 2 (some .boolean), Cond.fieldLink RX10 183 "GridMarketModel" "day" "I", Cond.methodLink RX10 179 yX10_in, Cond.static yX10_in, Cond.code yX10_in cX10_in 3 (some .boolean), Cond.methodLink RX10 198 yX10_isHour, Cond.static yX10_isHour, Cond.code yX10_isHour cX10_isHour 1 (some .boolean), Cond.methodLink RX10 325 yX10_helps, Cond.instanceMethod yX10_helps, Cond.selects RX10 yX10_helps yX10_helps, Cond.code yX10_helps cX10_helps 11 (some .int), Cond.fieldLink RX10 127 "GridMarketModel" "aidUsed" "[I", Cond.fieldLink RX10 109 "GridMarketModel" "aids" "[I", Cond.fieldLink RX10 115 "GridMarketModel" "aidHours" "[I", Cond.fieldLink RX10 118 "GridMarketModel" "aidMore" "[I", Cond.fieldLink RX10 121 "GridMarketModel" "aidPrices" "[I", Cond.fieldLink RX10 124 "GridMarketModel" "aidUnits" "[I", Cond.fieldLink RX10 130 "GridMarketModel" "prices" "[I"] := goodIn_r _ [1129, 1424, 1426, 49, 70, 1427, 1062, 1278, 1279, 1280, 1294, 1295, 1296, 1447, 1449, 53, 1450, 1109, 1103, 1105, 1106, 1107, 1108, 1110] (by decide +kernel) (by decide +kernel)
theorem twsX10_gapPrice_r1 : GoodIn lw_tbl wsX10_gapPrice_r1 := tb_264
set_option maxRecDepth 20000 in
theorem tb_265 : GoodIn lw_tbl [Cond.methodLink RX10 316 yX10_gapIn, Cond.instanceMethod yX10_gapIn, Cond.selects RX10 yX10_gapIn yX10_gapIn, Cond.code yX10_gapIn cX10_gapIn 6 (some .int), Cond.methodLink RX10 313 yX10_gapOf, Cond.instanceMethod yX10_gapOf, Cond.selects RX10 yX10_gapOf yX10_gapOf, Cond.code yX10_gapOf cX10_gapOf 6 (some .int), Cond.fieldLink RX10 139 "GridMarketModel" "areRead" "[I", Cond.fieldLink RX10 136 "GridMarketModel" "readings" "[I", Cond.fieldLink RX10 133 "GridMarketModel" "plans" "[I", Cond.methodLink RX10 307 yX10_placeOf, Cond.static yX10_placeOf, Cond.code yX10_placeOf cX10_placeOf 4 (some .int), Cond.methodLink RX10 224 yX10_away, Cond.static yX10_away, Cond.code yX10_away cX10_away 1 (some .int), Cond.methodLink RX10 319 yX10_lesser, Cond.static yX10_lesser, Cond.code yX10_lesser cX10_lesser 2 (some .int), Cond.methodLink RX10 322 yX10_greater, Cond.static yX10_greater, Cond.code yX10_greater cX10_greater 2 (some .int)] := goodIn_r _ [1451, 1453, 54, 1454, 1431, 1433, 50, 1434, 1113, 1112, 1111, 1428, 1429, 1430, 1358, 1359, 1360, 1455, 1456, 1457, 1458, 1459, 1460] (by decide +kernel) (by decide +kernel)
theorem twsX10_gapPrice_r2 : GoodIn lw_tbl wsX10_gapPrice_r2 := tb_265
theorem twsX10_gapPrice : GoodIn lw_tbl wsX10_gapPrice := (goodIn_cons tb_263 (goodIn_app (goodIn_app twsX10_gapPrice_r1 twsX10_gapPrice_r2) tbX10))
set_option maxRecDepth 20000 in
theorem tb_266 : GoodIn lw_tbl [.methodLink RL 210 yX10_gapPrice, .instanceMethod yX10_gapPrice, .selects RX10 yX10_gapPrice yX10_gapPrice, .initialized RX10] := goodIn_r _ [1525, 1526, 1527, 70] (by decide +kernel) (by decide +kernel)
theorem tg_X10_gapPrice : GoodIn lw_tbl (wsV RL 210 RX10 yX10_gapPrice wsX10_gapPrice) := goodIn_app tb_266 twsX10_gapPrice
set_option maxRecDepth 20000 in
theorem tb_267 : GoodIn lw_tbl [.codeWith yL_bill cL_bill 5 (some .int) [(0, 10, 13, 13)]] := goodIn_r _ [1030] (by decide +kernel) (by decide +kernel)
set_option maxRecDepth 20000 in
theorem tb_268 : GoodIn lw_tbl [.methodLink RL 99 yX9_bill, .instanceMethod yX9_bill, .selects RX9 yX9_bill yX9_bill, .initialized RX9, .classLink RL 13 (g_xn 1)] := goodIn_r _ [1031, 1032, 1033, 60, 431] (by decide +kernel) (by decide +kernel)
set_option maxRecDepth 20000 in
theorem tb_269 : GoodIn lw_tbl [.code yX9_bill cX9_bill 3 (some .int)] := goodIn_r _ [1034] (by decide +kernel) (by decide +kernel)
set_option maxRecDepth 20000 in
theorem tb_270 : GoodIn lw_tbl [Cond.fieldLink RX9 59 "GridMarket" "today" "I", Cond.fieldLink RX9 48 "GridMarket" "days" "[LGridMarket$Day;", Cond.methodLink RX9 67 yX9_checkIndex, Cond.static yX9_checkIndex, Cond.initialized RX9, Cond.code yX9_checkIndex cX9_checkIndex 2 none, Cond.classLink RX9 222 "java/lang/IndexOutOfBoundsException", Cond.initialized "java/lang/IndexOutOfBoundsException", Cond.methodLink RX9 170 yX5_billOf, Cond.instanceMethod yX5_billOf, Cond.selects RX5 yX5_billOf yX5_billOf, Cond.initialized RX5, Cond.code yX5_billOf cX5_billOf 4 (some .int), Cond.fieldLink RX5 24 "GridMarket$Day" "cash" "[I", Cond.methodLink RX5 98 yX5_balanceOf, Cond.instanceMethod yX5_balanceOf, Cond.selects RX5 yX5_balanceOf yX5_balanceOf, Cond.code yX5_balanceOf cX5_balanceOf 9 (some .int), Cond.fieldLink RX5 21 "GridMarket$Day" "gaps" "[I", Cond.fieldLink RX5 9 "GridMarket$Day" "prices" "[I", Cond.methodLink RX5 89 yX5_gapOf, Cond.instanceMethod yX5_gapOf, Cond.selects RX5 yX5_gapOf yX5_gapOf, Cond.code yX5_gapOf cX5_gapOf 5 (some .int)] := goodIn_r _ [393, 391, 438, 439, 60, 440, 441, 74, 892, 893, 894, 69, 895, 360, 896, 898, 23, 899, 358, 350, 900, 901, 902, 903] (by decide +kernel) (by decide +kernel)
theorem twsX9_bill_r1 : GoodIn lw_tbl wsX9_bill_r1 := tb_270
set_option maxRecDepth 20000 in
theorem tb_271 : GoodIn lw_tbl [Cond.static yX9_placeOf, Cond.code yX9_placeOf cX9_placeOf 3 (some .int), Cond.methodLink RX9 186 yX9_spotOf, Cond.static yX9_spotOf, Cond.code yX9_spotOf cX9_spotOf 2 (some .int), Cond.methodLink RX5 92 yX5_priceOfGap, Cond.instanceMethod yX5_priceOfGap, Cond.selects RX5 yX5_priceOfGap yX5_priceOfGap, Cond.code yX5_priceOfGap cX5_priceOfGap 7 (some .int), Cond.methodLink RX5 56 Lib.Math.abs.name, Cond.static Lib.Math.abs.name, Cond.initialized "java/lang/Math", Cond.code Lib.Math.abs.name Lib.Math.abs.code 1 (some .int), Cond.fieldLink RX5 35 "GridMarket$Day" "aids" "LGridMarket$Orders;", Cond.fieldLink RX5 60 "GridMarket$Orders" "count" "I", Cond.fieldLink RX5 63 "GridMarket$Orders" "merit" "[I", Cond.fieldLink RX5 70 "GridMarket$Orders" "units" "[I", Cond.fieldLink RX5 73 "GridMarket$Orders" "price" "[I", Cond.methodLink RX5 47 Lib.Math.max.name, Cond.static Lib.Math.max.name, Cond.code Lib.Math.max.name Lib.Math.max.code 2 (some .int), Cond.methodLink RX5 76 Lib.Math.min.name, Cond.static Lib.Math.min.name, Cond.code Lib.Math.min.name Lib.Math.min.code 2 (some .int)] := goodIn_r _ [883, 884, 791, 760, 761, 905, 906, 907, 908, 909, 714, 77, 715, 364, 145, 140, 133, 128, 822, 660, 661, 914, 657, 658] (by decide +kernel) (by decide +kernel)
theorem twsX9_bill_r2 : GoodIn lw_tbl wsX9_bill_r2 := tb_271
set_option maxRecDepth 20000 in
theorem tb_272 : GoodIn lw_tbl [Cond.methodLink RX5 66 yX5_helps, Cond.instanceMethod yX5_helps, Cond.selects RX5 yX5_helps yX5_helps, Cond.code yX5_helps cX5_helps 4 (some .boolean), Cond.fieldLink RX5 79 "GridMarket$Orders" "hour" "[I", Cond.fieldLink RX5 82 "GridMarket$Orders" "isBuy" "[Z", Cond.methodLink RX5 95 yX5_unitsUsed, Cond.instanceMethod yX5_unitsUsed, Cond.selects RX5 yX5_unitsUsed yX5_unitsUsed, Cond.code yX5_unitsUsed cX5_unitsUsed 9 (some .int), Cond.fieldLink RX5 86 "GridMarket$Orders" "firm" "[I"] := goodIn_r _ [910, 912, 24, 913, 119, 123, 915, 917, 25, 918, 113] (by decide +kernel) (by decide +kernel)
theorem twsX9_bill_r3 : GoodIn lw_tbl wsX9_bill_r3 := tb_272
theorem twsX9_bill : GoodIn lw_tbl wsX9_bill := (goodIn_cons tb_269 (goodIn_app (goodIn_app (goodIn_app (goodIn_app (goodIn_app twsX9_bill_r1 (goodIn_app twsX9_bill_r2 twsX9_bill_r3)) tbX9) tbX5) tbX8) tx_0))
theorem twsW_bill : GoodIn lw_tbl wsW_bill := (goodIn_cons tb_267 (goodIn_app tb_268 twsX9_bill))
set_option maxRecDepth 20000 in
theorem tb_273 : GoodIn lw_tbl [.methodLink RL 211 yL_bill, .static yL_bill, .initialized RL] := goodIn_r _ [1028, 1029, 59] (by decide +kernel) (by decide +kernel)
theorem tg_L_bill : GoodIn lw_tbl (va_wsS RL 211 yL_bill wsW_bill) := goodIn_app tb_273 twsW_bill
set_option maxRecDepth 20000 in
theorem tb_274 : GoodIn lw_tbl [.code yX10_bill cX10_bill 3 (some .int)] := goodIn_r _ [1532] (by decide +kernel) (by decide +kernel)
set_option maxRecDepth 20000 in
theorem tb_275 : GoodIn lw_tbl [Cond.methodLink RX10 348 yX10_isBill, Cond.instanceMethod yX10_isBill, Cond.selects RX10 yX10_isBill yX10_isBill, Cond.initialized RX10, Cond.code yX10_isBill cX10_isBill 3 (some .boolean), Cond.fieldLink RX10 175 "GridMarketModel" "thrown" "I", Cond.methodLink RX10 310 yX10_isClosed, Cond.instanceMethod yX10_isClosed, Cond.selects RX10 yX10_isClosed yX10_isClosed, Cond.code yX10_isClosed cX10_isClosed 2 (some .boolean), Cond.fieldLink RX10 183 "GridMarketModel" "day" "I", Cond.methodLink RX10 179 yX10_in, Cond.static yX10_in, Cond.code yX10_in cX10_in 3 (some .boolean), Cond.methodLink RX10 186 yX10_isFirm, Cond.static yX10_isFirm, Cond.code yX10_isFirm cX10_isFirm 1 (some .boolean), Cond.methodLink RX10 334 yX10_billOf, Cond.instanceMethod yX10_billOf, Cond.selects RX10 yX10_billOf yX10_billOf, Cond.code yX10_billOf cX10_billOf 5 (some .int), Cond.fieldLink RX10 142 "GridMarketModel" "brings" "[I", Cond.methodLink RX10 328 yX10_balances, Cond.instanceMethod yX10_balances] := goodIn_r _ [1533, 1535, 58, 70, 1536, 1129, 1424, 1426, 49, 1427, 1062, 1278, 1279, 1280, 1275, 1276, 1277, 1439, 1441, 51, 1442, 1114, 1443, 1445] (by decide +kernel) (by decide +kernel)
theorem twsX10_bill_r1 : GoodIn lw_tbl wsX10_bill_r1 := tb_275
set_option maxRecDepth 20000 in
theorem tb_276 : GoodIn lw_tbl [Cond.selects RX10 yX10_balances yX10_balances, Cond.code yX10_balances cX10_balances 10 (some .int), Cond.fieldLink RX10 130 "GridMarketModel" "prices" "[I", Cond.fieldLink RX10 109 "GridMarketModel" "aids" "[I", Cond.fieldLink RX10 112 "GridMarketModel" "aidFirms" "[I", Cond.fieldLink RX10 127 "GridMarketModel" "aidUsed" "[I", Cond.methodLink RX10 325 yX10_helps, Cond.instanceMethod yX10_helps, Cond.selects RX10 yX10_helps yX10_helps, Cond.code yX10_helps cX10_helps 11 (some .int), Cond.fieldLink RX10 115 "GridMarketModel" "aidHours" "[I", Cond.fieldLink RX10 118 "GridMarketModel" "aidMore" "[I", Cond.fieldLink RX10 121 "GridMarketModel" "aidPrices" "[I", Cond.fieldLink RX10 124 "GridMarketModel" "aidUnits" "[I", Cond.methodLink RX10 316 yX10_gapIn, Cond.instanceMethod yX10_gapIn, Cond.selects RX10 yX10_gapIn yX10_gapIn, Cond.code yX10_gapIn cX10_gapIn 6 (some .int), Cond.methodLink RX10 313 yX10_gapOf, Cond.instanceMethod yX10_gapOf, Cond.selects RX10 yX10_gapOf yX10_gapOf, Cond.code yX10_gapOf cX10_gapOf 6 (some .int), Cond.fieldLink RX10 139 "GridMarketModel" "areRead" "[I", Cond.fieldLink RX10 136 "GridMarketModel" "readings" "[I"] := goodIn_r _ [52, 1446, 1110, 1103, 1104, 1109, 1447, 1449, 53, 1450, 1105, 1106, 1107, 1108, 1451, 1453, 54, 1454, 1431, 1433, 50, 1434, 1113, 1112] (by decide +kernel) (by decide +kernel)
theorem twsX10_bill_r2 : GoodIn lw_tbl wsX10_bill_r2 := tb_276
set_option maxRecDepth 20000 in
theorem tb_277 : GoodIn lw_tbl [Cond.fieldLink RX10 133 "GridMarketModel" "plans" "[I", Cond.methodLink RX10 307 yX10_placeOf, Cond.static yX10_placeOf, Cond.code yX10_placeOf cX10_placeOf 4 (some .int), Cond.methodLink RX10 224 yX10_away, Cond.static yX10_away, Cond.code yX10_away cX10_away 1 (some .int), Cond.methodLink RX10 319 yX10_lesser, Cond.static yX10_lesser, Cond.code yX10_lesser cX10_lesser 2 (some .int), Cond.methodLink RX10 322 yX10_greater, Cond.static yX10_greater, Cond.code yX10_greater cX10_greater 2 (some .int)] := goodIn_r _ [1111, 1428, 1429, 1430, 1358, 1359, 1360, 1455, 1456, 1457, 1458, 1459, 1460] (by decide +kernel) (by decide +kernel)
theorem twsX10_bill_r3 : GoodIn lw_tbl wsX10_bill_r3 := tb_277
theorem twsX10_bill : GoodIn lw_tbl wsX10_bill := (goodIn_cons tb_274 (goodIn_app (goodIn_app twsX10_bill_r1 (goodIn_app twsX10_bill_r2 twsX10_bill_r3)) tbX10))
set_option maxRecDepth 20000 in
theorem tb_278 : GoodIn lw_tbl [.methodLink RL 213 yX10_bill, .instanceMethod yX10_bill, .selects RX10 yX10_bill yX10_bill, .initialized RX10] := goodIn_r _ [1529, 1530, 1531, 70] (by decide +kernel) (by decide +kernel)
theorem tg_X10_bill : GoodIn lw_tbl (wsV RL 213 RX10 yX10_bill wsX10_bill) := goodIn_app tb_278 twsX10_bill
set_option maxRecDepth 20000 in
theorem tb_279 : GoodIn lw_tbl [.codeWith yL_settled cL_settled 5 (some .int) [(0, 10, 13, 13)]] := goodIn_r _ [1037] (by decide +kernel) (by decide +kernel)
set_option maxRecDepth 20000 in
theorem tb_280 : GoodIn lw_tbl [.methodLink RL 102 yX9_settled, .instanceMethod yX9_settled, .selects RX9 yX9_settled yX9_settled, .initialized RX9, .classLink RL 13 (g_xn 1)] := goodIn_r _ [1038, 1039, 1040, 60, 431] (by decide +kernel) (by decide +kernel)
set_option maxRecDepth 20000 in
theorem tb_281 : GoodIn lw_tbl [.code yX9_settled cX9_settled 3 (some .int)] := goodIn_r _ [1041] (by decide +kernel) (by decide +kernel)
set_option maxRecDepth 20000 in
theorem tb_282 : GoodIn lw_tbl [.fieldLink RX9 59 "GridMarket" "today" "I", .fieldLink RX9 48 "GridMarket" "days" "[LGridMarket$Day;", .fieldLink RX9 174 "GridMarket$Day" "paid" "[I", .methodLink RX9 67 yX9_checkIndex, .static yX9_checkIndex, .initialized RX9, .code yX9_checkIndex cX9_checkIndex 2 none, .classLink RX9 222 "java/lang/IndexOutOfBoundsException", .initialized "java/lang/IndexOutOfBoundsException"] := goodIn_r _ [393, 391, 363, 438, 439, 60, 440, 441, 74] (by decide +kernel) (by decide +kernel)
theorem twsX9_settled : GoodIn lw_tbl wsX9_settled := (goodIn_cons tb_281 (goodIn_app (goodIn_app (goodIn_app tb_282 tbX9) tbX5) tx_0))
theorem twsW_settled : GoodIn lw_tbl wsW_settled := (goodIn_cons tb_279 (goodIn_app tb_280 twsX9_settled))
set_option maxRecDepth 20000 in
theorem tb_283 : GoodIn lw_tbl [.methodLink RL 214 yL_settled, .static yL_settled, .initialized RL] := goodIn_r _ [1035, 1036, 59] (by decide +kernel) (by decide +kernel)
theorem tg_L_settled : GoodIn lw_tbl (va_wsS RL 214 yL_settled wsW_settled) := goodIn_app tb_283 twsW_settled
set_option maxRecDepth 20000 in
theorem tb_284 : GoodIn lw_tbl [.code yX10_settled cX10_settled 3 (some .int)] := goodIn_r _ [1540] (by decide +kernel) (by decide +kernel)
set_option maxRecDepth 20000 in
theorem tb_285 : GoodIn lw_tbl [.fieldLink RX10 145 "GridMarketModel" "gave" "[I", .methodLink RX10 348 yX10_isBill, .instanceMethod yX10_isBill, .selects RX10 yX10_isBill yX10_isBill, .initialized RX10, .code yX10_isBill cX10_isBill 3 (some .boolean), .fieldLink RX10 175 "GridMarketModel" "thrown" "I", .methodLink RX10 310 yX10_isClosed, .instanceMethod yX10_isClosed, .selects RX10 yX10_isClosed yX10_isClosed, .code yX10_isClosed cX10_isClosed 2 (some .boolean), .fieldLink RX10 183 "GridMarketModel" "day" "I", .methodLink RX10 179 yX10_in, .static yX10_in, .code yX10_in cX10_in 3 (some .boolean), .methodLink RX10 186 yX10_isFirm, .static yX10_isFirm, .code yX10_isFirm cX10_isFirm 1 (some .boolean)] := goodIn_r _ [1115, 1533, 1535, 58, 70, 1536, 1129, 1424, 1426, 49, 1427, 1062, 1278, 1279, 1280, 1275, 1276, 1277] (by decide +kernel) (by decide +kernel)
theorem twsX10_settled : GoodIn lw_tbl wsX10_settled := (goodIn_cons tb_284 (goodIn_app tb_285 tbX10))
set_option maxRecDepth 20000 in
theorem tb_286 : GoodIn lw_tbl [.methodLink RL 216 yX10_settled, .instanceMethod yX10_settled, .selects RX10 yX10_settled yX10_settled, .initialized RX10] := goodIn_r _ [1537, 1538, 1539, 70] (by decide +kernel) (by decide +kernel)
theorem tg_X10_settled : GoodIn lw_tbl (wsV RL 216 RX10 yX10_settled wsX10_settled) := goodIn_app tb_286 twsX10_settled
set_option maxRecDepth 20000 in
theorem tb_287 : GoodIn lw_tbl [.codeWith yL_account cL_account 4 (some .int) [(0, 9, 12, 13)]] := goodIn_r _ [1044] (by decide +kernel) (by decide +kernel)
set_option maxRecDepth 20000 in
theorem tb_288 : GoodIn lw_tbl [.methodLink RL 105 yX9_account, .instanceMethod yX9_account, .selects RX9 yX9_account yX9_account, .initialized RX9, .classLink RL 13 (g_xn 1)] := goodIn_r _ [1045, 1046, 1047, 60, 431] (by decide +kernel) (by decide +kernel)
set_option maxRecDepth 20000 in
theorem tb_289 : GoodIn lw_tbl [.code yX9_account cX9_account 2 (some .int)] := goodIn_r _ [1048] (by decide +kernel) (by decide +kernel)
set_option maxRecDepth 20000 in
theorem tb_290 : GoodIn lw_tbl [.fieldLink RX9 55 "GridMarket" "accounts" "LGridMarket$Accounts;", .fieldLink RX9 89 "GridMarket$Accounts" "money" "[I", .methodLink RX9 67 yX9_checkIndex, .static yX9_checkIndex, .initialized RX9, .code yX9_checkIndex cX9_checkIndex 2 none, .classLink RX9 222 "java/lang/IndexOutOfBoundsException", .initialized "java/lang/IndexOutOfBoundsException"] := goodIn_r _ [392, 327, 438, 439, 60, 440, 441, 74] (by decide +kernel) (by decide +kernel)
theorem twsX9_account : GoodIn lw_tbl wsX9_account := (goodIn_cons tb_289 (goodIn_app (goodIn_app (goodIn_app tb_290 tbX9) tbX0) tx_0))
theorem twsW_account : GoodIn lw_tbl wsW_account := (goodIn_cons tb_287 (goodIn_app tb_288 twsX9_account))
set_option maxRecDepth 20000 in
theorem tb_291 : GoodIn lw_tbl [.methodLink RL 217 yL_account, .static yL_account, .initialized RL] := goodIn_r _ [1042, 1043, 59] (by decide +kernel) (by decide +kernel)
theorem tg_L_account : GoodIn lw_tbl (va_wsS RL 217 yL_account wsW_account) := goodIn_app tb_291 twsW_account
set_option maxRecDepth 20000 in
theorem tb_292 : GoodIn lw_tbl [.code yX10_account cX10_account 2 (some .int)] := goodIn_r _ [1544] (by decide +kernel) (by decide +kernel)
set_option maxRecDepth 20000 in
theorem tb_293 : GoodIn lw_tbl [.fieldLink RX10 175 "GridMarketModel" "thrown" "I", .fieldLink RX10 13 "GridMarketModel" "accounts" "[I", .methodLink RX10 186 yX10_isFirm, .static yX10_isFirm, .initialized RX10, .code yX10_isFirm cX10_isFirm 1 (some .boolean), .methodLink RX10 179 yX10_in, .static yX10_in, .code yX10_in cX10_in 3 (some .boolean)] := goodIn_r _ [1129, 1065, 1275, 1276, 70, 1277, 1278, 1279, 1280] (by decide +kernel) (by decide +kernel)
theorem twsX10_account : GoodIn lw_tbl wsX10_account := (goodIn_cons tb_292 (goodIn_app tb_293 tbX10))
set_option maxRecDepth 20000 in
theorem tb_294 : GoodIn lw_tbl [.methodLink RL 219 yX10_account, .instanceMethod yX10_account, .selects RX10 yX10_account yX10_account, .initialized RX10] := goodIn_r _ [1541, 1542, 1543, 70] (by decide +kernel) (by decide +kernel)
theorem tg_X10_account : GoodIn lw_tbl (wsV RL 219 RX10 yX10_account wsX10_account) := goodIn_app tb_294 twsX10_account
set_option maxRecDepth 20000 in
theorem tb_295 : GoodIn lw_tbl [.codeWith yL_hasFailed cL_hasFailed 4 (some .int) [(0, 16, 19, 13)]] := goodIn_r _ [1051] (by decide +kernel) (by decide +kernel)
set_option maxRecDepth 20000 in
theorem tb_296 : GoodIn lw_tbl [.methodLink RL 108 yX9_hasFailed, .instanceMethod yX9_hasFailed, .selects RX9 yX9_hasFailed yX9_hasFailed, .initialized RX9, .classLink RL 13 (g_xn 1)] := goodIn_r _ [1052, 1053, 1054, 60, 431] (by decide +kernel) (by decide +kernel)
set_option maxRecDepth 20000 in
theorem tb_297 : GoodIn lw_tbl [.code yX9_hasFailed cX9_hasFailed 2 (some .boolean)] := goodIn_r _ [1055] (by decide +kernel) (by decide +kernel)
set_option maxRecDepth 20000 in
theorem tb_298 : GoodIn lw_tbl [.fieldLink RX9 55 "GridMarket" "accounts" "LGridMarket$Accounts;", .fieldLink RX9 76 "GridMarket$Accounts" "isOut" "[Z", .methodLink RX9 67 yX9_checkIndex, .static yX9_checkIndex, .initialized RX9, .code yX9_checkIndex cX9_checkIndex 2 none, .classLink RX9 222 "java/lang/IndexOutOfBoundsException", .initialized "java/lang/IndexOutOfBoundsException"] := goodIn_r _ [392, 331, 438, 439, 60, 440, 441, 74] (by decide +kernel) (by decide +kernel)
theorem twsX9_hasFailed : GoodIn lw_tbl wsX9_hasFailed := (goodIn_cons tb_297 (goodIn_app (goodIn_app (goodIn_app tb_298 tbX9) tbX0) tx_0))
theorem twsW_hasFailed : GoodIn lw_tbl wsW_hasFailed := (goodIn_cons tb_295 (goodIn_app tb_296 twsX9_hasFailed))
set_option maxRecDepth 20000 in
theorem tb_299 : GoodIn lw_tbl [.methodLink RL 220 yL_hasFailed, .static yL_hasFailed, .initialized RL] := goodIn_r _ [1049, 1050, 59] (by decide +kernel) (by decide +kernel)
theorem tg_L_hasFailed : GoodIn lw_tbl (va_wsS RL 220 yL_hasFailed wsW_hasFailed) := goodIn_app tb_299 twsW_hasFailed
set_option maxRecDepth 20000 in
theorem tb_300 : GoodIn lw_tbl [.code yX10_hasFailed cX10_hasFailed 2 (some .boolean)] := goodIn_r _ [1548] (by decide +kernel) (by decide +kernel)
set_option maxRecDepth 20000 in
theorem tb_301 : GoodIn lw_tbl [.fieldLink RX10 175 "GridMarketModel" "thrown" "I", .fieldLink RX10 19 "GridMarketModel" "failed" "[I", .methodLink RX10 186 yX10_isFirm, .static yX10_isFirm, .initialized RX10, .code yX10_isFirm cX10_isFirm 1 (some .boolean), .methodLink RX10 179 yX10_in, .static yX10_in, .code yX10_in cX10_in 3 (some .boolean)] := goodIn_r _ [1129, 1067, 1275, 1276, 70, 1277, 1278, 1279, 1280] (by decide +kernel) (by decide +kernel)
theorem twsX10_hasFailed : GoodIn lw_tbl wsX10_hasFailed := (goodIn_cons tb_300 (goodIn_app tb_301 tbX10))
set_option maxRecDepth 20000 in
theorem tb_302 : GoodIn lw_tbl [.methodLink RL 222 yX10_hasFailed, .instanceMethod yX10_hasFailed, .selects RX10 yX10_hasFailed yX10_hasFailed, .initialized RX10] := goodIn_r _ [1545, 1546, 1547, 70] (by decide +kernel) (by decide +kernel)
theorem tg_X10_hasFailed : GoodIn lw_tbl (wsV RL 222 RX10 yX10_hasFailed wsX10_hasFailed) := goodIn_app tb_302 twsX10_hasFailed
set_option maxRecDepth 20000 in
theorem tb_303 : GoodIn lw_tbl [.code yX9_house cX9_house 1 (some .int)] := goodIn_r _ [427] (by decide +kernel) (by decide +kernel)
set_option maxRecDepth 20000 in
theorem tb_304 : GoodIn lw_tbl [.fieldLink RX9 55 "GridMarket" "accounts" "LGridMarket$Accounts;", .fieldLink RX9 219 "GridMarket$Accounts" "houseMoney" "I"] := goodIn_r _ [392, 333] (by decide +kernel) (by decide +kernel)
theorem twsX9_house : GoodIn lw_tbl wsX9_house := (goodIn_cons tb_303 (goodIn_app (goodIn_app tb_304 tbX9) tbX0))
set_option maxRecDepth 20000 in
theorem tb_305 : GoodIn lw_tbl [.methodLink RL 223 yX9_house, .instanceMethod yX9_house, .selects RX9 yX9_house yX9_house, .initialized RX9] := goodIn_r _ [424, 425, 426, 60] (by decide +kernel) (by decide +kernel)
theorem tg_X9_house : GoodIn lw_tbl (wsV RL 223 RX9 yX9_house wsX9_house) := goodIn_app tb_305 twsX9_house
set_option maxRecDepth 20000 in
theorem tb_306 : GoodIn lw_tbl [.code yX10_house cX10_house 1 (some .int)] := goodIn_r _ [1552] (by decide +kernel) (by decide +kernel)
set_option maxRecDepth 20000 in
theorem tb_307 : GoodIn lw_tbl [.fieldLink RX10 175 "GridMarketModel" "thrown" "I", .fieldLink RX10 331 "GridMarketModel" "house" "I"] := goodIn_r _ [1129, 1068] (by decide +kernel) (by decide +kernel)
theorem twsX10_house : GoodIn lw_tbl wsX10_house := (goodIn_cons tb_306 (goodIn_app tb_307 tbX10))
set_option maxRecDepth 20000 in
theorem tb_308 : GoodIn lw_tbl [.methodLink RL 226 yX10_house, .instanceMethod yX10_house, .selects RX10 yX10_house yX10_house, .initialized RX10] := goodIn_r _ [1549, 1550, 1551, 70] (by decide +kernel) (by decide +kernel)
theorem tg_X10_house : GoodIn lw_tbl (wsV RL 226 RX10 yX10_house wsX10_house) := goodIn_app tb_308 twsX10_house
