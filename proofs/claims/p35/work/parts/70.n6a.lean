theorem dL_low_0 : decode cL_low 0 = .ok (.iload_n 0, 1) := by decide +kernel
theorem dL_low_1 : decode cL_low 1 = .ok (.ldc 7, 2) := by decide +kernel
theorem dL_low_3 : decode cL_low 3 = .ok (.iand, 1) := by decide +kernel
theorem dL_low_4 : decode cL_low 4 = .ok (.iload_n 1, 1) := by decide +kernel
theorem dL_low_5 : decode cL_low 5 = .ok (.irem, 1) := by decide +kernel
theorem dL_low_6 : decode cL_low 6 = .ok (.ireturn, 1) := by decide +kernel
theorem dL_cell_0 : decode cL_cell 0 = .ok (.iload_n 1, 1) := by decide +kernel
theorem dL_cell_1 : decode cL_cell 1 = .ok (.aload_n 0, 1) := by decide +kernel
theorem dL_cell_2 : decode cL_cell 2 = .ok (.arraylength, 1) := by decide +kernel
theorem dL_cell_3 : decode cL_cell 3 = .ok (.if_icmp .ge 9, 3) := by decide +kernel
theorem dL_cell_6 : decode cL_cell 6 = .ok (.aload_n 0, 1) := by decide +kernel
theorem dL_cell_7 : decode cL_cell 7 = .ok (.iload_n 1, 1) := by decide +kernel
theorem dL_cell_8 : decode cL_cell 8 = .ok (.iaload, 1) := by decide +kernel
theorem dL_cell_9 : decode cL_cell 9 = .ok (.goto 11, 3) := by decide +kernel
theorem dL_cell_12 : decode cL_cell 12 = .ok (.ldc 8, 2) := by decide +kernel
theorem dL_cell_14 : decode cL_cell 14 = .ok (.iload_n 1, 1) := by decide +kernel
theorem dL_cell_15 : decode cL_cell 15 = .ok (.imul, 1) := by decide +kernel
theorem dL_cell_16 : decode cL_cell 16 = .ok (.sipush 977, 3) := by decide +kernel
theorem dL_cell_19 : decode cL_cell 19 = .ok (.iadd, 1) := by decide +kernel
theorem dL_cell_20 : decode cL_cell 20 = .ok (.ireturn, 1) := by decide +kernel
set_option maxRecDepth 20000 in
theorem ggL_bid_X9_bid : GoodIn wsL_bid wsX9_bid := goodIn_ca (goodIn_ca (goodIn_ca (goodIn_r _ [6, 7, 8, 9, 10, 11, 12, 5, 13, 14, 15, 16, 17, 18, 19, 20, 21, 22, 23, 24, 25, 26, 27, 28, 29, 30, 31, 32, 33, 34, 35, 36, 37, 38, 39, 40, 41, 42, 43, 44, 45, 46, 47, 48, 49, 50, 51, 52, 53, 54, 55, 56, 57, 58, 59, 60, 61, 62, 63, 64, 65, 66, 67, 68, 69, 70, 71, 72, 73, 74, 75] (by decide +kernel) (by decide +kernel)) (goodIn_sub (fun _ h => List.mem_cons_of_mem _ (List.mem_append_left _ (List.mem_append_left _ (List.mem_append_right _ h)))) (by decide +kernel))) (goodIn_sub (fun _ h => List.mem_cons_of_mem _ (List.mem_append_left _ (List.mem_append_right _ h))) (by decide +kernel))) (goodIn_sub (fun _ h => List.mem_cons_of_mem _ (List.mem_append_right _ h)) (by decide +kernel))
set_option maxRecDepth 20000 in
theorem gL_bid_X9_bid : GoodIn wsL_bid (wsV RL 9 RX9 yX9_bid wsX9_bid) := goodIn_app (goodIn_of _ (by decide +kernel)) ggL_bid_X9_bid
theorem dL_bid_0 : decode cL_bid 0 = .ok (.aload_n 0, 1) := by decide +kernel
theorem dL_bid_1 : decode cL_bid 1 = .ok (.iload_n 1, 1) := by decide +kernel
theorem dL_bid_2 : decode cL_bid 2 = .ok (.iload_n 2, 1) := by decide +kernel
theorem dL_bid_3 : decode cL_bid 3 = .ok (.iload_n 3, 1) := by decide +kernel
theorem dL_bid_4 : decode cL_bid 4 = .ok (.iload 4, 2) := by decide +kernel
theorem dL_bid_6 : decode cL_bid 6 = .ok (.iload 5, 2) := by decide +kernel
theorem dL_bid_8 : decode cL_bid 8 = .ok (.iload 6, 2) := by decide +kernel
theorem dL_bid_10 : decode cL_bid 10 = .ok (.invokevirtual 9, 3) := by decide +kernel
theorem dL_bid_13 : decode cL_bid 13 = .ok (.ireturn, 1) := by decide +kernel
theorem dL_bid_14 : decode cL_bid 14 = .ok (.astore 7, 2) := by decide +kernel
theorem dL_bid_16 : decode cL_bid 16 = .ok (.bipush (-9), 2) := by decide +kernel
theorem dL_bid_18 : decode cL_bid 18 = .ok (.ireturn, 1) := by decide +kernel
set_option maxRecDepth 20000 in
theorem ggL_block_X9_block : GoodIn wsL_block wsX9_block := goodIn_ca (goodIn_ca (goodIn_ca (goodIn_r _ [6, 7, 8, 9, 10, 11, 12, 13, 5, 14, 15, 16, 17, 18, 19, 20, 21, 22, 23, 24, 25, 26, 27, 28, 29, 30, 31, 32, 33, 34, 35, 36, 37, 38, 39, 40, 41, 42, 43, 44, 45, 46, 47, 48, 49, 50, 51, 52, 53, 54, 55, 56, 57, 58, 59, 60, 61, 62, 63, 64] (by decide +kernel) (by decide +kernel)) (goodIn_sub (fun _ h => List.mem_cons_of_mem _ (List.mem_append_left _ (List.mem_append_left _ (List.mem_append_right _ h)))) (by decide +kernel))) (goodIn_sub (fun _ h => List.mem_cons_of_mem _ (List.mem_append_left _ (List.mem_append_right _ h))) (by decide +kernel))) (goodIn_sub (fun _ h => List.mem_cons_of_mem _ (List.mem_append_right _ h)) (by decide +kernel))
set_option maxRecDepth 20000 in
theorem gL_block_X9_block : GoodIn wsL_block (wsV RL 17 RX9 yX9_block wsX9_block) := goodIn_app (goodIn_of _ (by decide +kernel)) ggL_block_X9_block
theorem dL_block_0 : decode cL_block 0 = .ok (.aload_n 0, 1) := by decide +kernel
theorem dL_block_1 : decode cL_block 1 = .ok (.iload_n 1, 1) := by decide +kernel
theorem dL_block_2 : decode cL_block 2 = .ok (.iload_n 2, 1) := by decide +kernel
theorem dL_block_3 : decode cL_block 3 = .ok (.iload_n 3, 1) := by decide +kernel
theorem dL_block_4 : decode cL_block 4 = .ok (.iload 4, 2) := by decide +kernel
theorem dL_block_6 : decode cL_block 6 = .ok (.iload 5, 2) := by decide +kernel
theorem dL_block_8 : decode cL_block 8 = .ok (.iload 6, 2) := by decide +kernel
theorem dL_block_10 : decode cL_block 10 = .ok (.invokevirtual 17, 3) := by decide +kernel
theorem dL_block_13 : decode cL_block 13 = .ok (.ireturn, 1) := by decide +kernel
theorem dL_block_14 : decode cL_block 14 = .ok (.astore 7, 2) := by decide +kernel
theorem dL_block_16 : decode cL_block 16 = .ok (.bipush (-9), 2) := by decide +kernel
theorem dL_block_18 : decode cL_block 18 = .ok (.ireturn, 1) := by decide +kernel
set_option maxRecDepth 20000 in
theorem ggL_ask_X9_ask : GoodIn wsL_ask wsX9_ask := goodIn_ca (goodIn_ca (goodIn_ca (goodIn_ca (goodIn_r _ [6, 7, 8, 9, 10, 11, 12, 13, 14, 15, 5, 16, 17, 18, 19, 20, 21, 22, 23, 24, 25, 26, 27, 28, 29, 30, 31, 32, 33, 34, 35, 36, 37, 38, 39, 40, 41, 42, 43, 44, 45, 46, 47, 48, 49, 50, 51, 52, 53, 54, 55, 56, 57, 58, 59, 60, 61, 62, 63, 64, 65, 66, 67, 68, 69, 70, 71, 72, 73, 74, 75, 76, 77, 78, 79, 80, 81, 82, 83, 84, 85] (by decide +kernel) (by decide +kernel)) (goodIn_sub (fun _ h => List.mem_cons_of_mem _ (List.mem_append_left _ (List.mem_append_left _ (List.mem_append_left _ (List.mem_append_right _ h))))) (by decide +kernel))) (goodIn_sub (fun _ h => List.mem_cons_of_mem _ (List.mem_append_left _ (List.mem_append_left _ (List.mem_append_right _ h)))) (by decide +kernel))) (goodIn_sub (fun _ h => List.mem_cons_of_mem _ (List.mem_append_left _ (List.mem_append_right _ h))) (by decide +kernel))) (goodIn_sub (fun _ h => List.mem_cons_of_mem _ (List.mem_append_right _ h)) (by decide +kernel))
set_option maxRecDepth 20000 in
theorem gL_ask_X9_ask : GoodIn wsL_ask (wsV RL 20 RX9 yX9_ask wsX9_ask) := goodIn_app (goodIn_of _ (by decide +kernel)) ggL_ask_X9_ask
theorem dL_ask_0 : decode cL_ask 0 = .ok (.aload_n 0, 1) := by decide +kernel
theorem dL_ask_1 : decode cL_ask 1 = .ok (.iload_n 1, 1) := by decide +kernel
theorem dL_ask_2 : decode cL_ask 2 = .ok (.iload_n 2, 1) := by decide +kernel
theorem dL_ask_3 : decode cL_ask 3 = .ok (.iload_n 3, 1) := by decide +kernel
theorem dL_ask_4 : decode cL_ask 4 = .ok (.iload 4, 2) := by decide +kernel
theorem dL_ask_6 : decode cL_ask 6 = .ok (.iload 5, 2) := by decide +kernel
theorem dL_ask_8 : decode cL_ask 8 = .ok (.invokevirtual 20, 3) := by decide +kernel
theorem dL_ask_11 : decode cL_ask 11 = .ok (.ireturn, 1) := by decide +kernel
theorem dL_ask_12 : decode cL_ask 12 = .ok (.astore 6, 2) := by decide +kernel
theorem dL_ask_14 : decode cL_ask 14 = .ok (.bipush (-9), 2) := by decide +kernel
theorem dL_ask_16 : decode cL_ask 16 = .ok (.ireturn, 1) := by decide +kernel
set_option maxRecDepth 20000 in
theorem ggL_offer_X9_offer : GoodIn wsL_offer wsX9_offer := goodIn_ca (goodIn_ca (goodIn_ca (goodIn_r _ [6, 7, 8, 9, 10, 11, 12, 5, 13, 14, 15, 16, 17, 18, 19, 20, 21, 22, 23, 24, 25, 26, 27, 28, 29, 30, 31, 32, 33, 34, 35, 36, 37, 38, 39, 40, 41, 42, 43, 44, 45, 46, 47, 48, 49, 50, 51, 52, 53, 54, 55, 56, 57, 58, 59, 60, 61, 62, 63, 64, 65, 66, 67, 68, 69, 70, 71, 72, 73, 74, 75, 76, 77, 78, 79, 80, 81, 82, 83, 84, 85, 86, 87, 88, 89, 90, 91, 92, 93, 94, 95, 96, 97, 98, 99, 100, 101, 102, 103, 104, 105, 106, 107, 108, 109, 110, 111, 112, 113, 114, 115, 116, 117, 118, 119, 120, 121, 122, 123, 124, 125, 126, 127, 128, 129, 130, 131, 132, 133, 134, 135] (by decide +kernel) (by decide +kernel)) (goodIn_sub (fun _ h => List.mem_cons_of_mem _ (List.mem_append_left _ (List.mem_append_left _ (List.mem_append_right _ h)))) (by decide +kernel))) (goodIn_sub (fun _ h => List.mem_cons_of_mem _ (List.mem_append_left _ (List.mem_append_right _ h))) (by decide +kernel))) (goodIn_sub (fun _ h => List.mem_cons_of_mem _ (List.mem_append_right _ h)) (by decide +kernel))
set_option maxRecDepth 20000 in
theorem gL_offer_X9_offer : GoodIn wsL_offer (wsV RL 24 RX9 yX9_offer wsX9_offer) := goodIn_app (goodIn_of _ (by decide +kernel)) ggL_offer_X9_offer
theorem dL_offer_0 : decode cL_offer 0 = .ok (.aload_n 0, 1) := by decide +kernel
theorem dL_offer_1 : decode cL_offer 1 = .ok (.iload_n 1, 1) := by decide +kernel
theorem dL_offer_2 : decode cL_offer 2 = .ok (.iload_n 2, 1) := by decide +kernel
theorem dL_offer_3 : decode cL_offer 3 = .ok (.iload_n 3, 1) := by decide +kernel
theorem dL_offer_4 : decode cL_offer 4 = .ok (.iload 4, 2) := by decide +kernel
theorem dL_offer_6 : decode cL_offer 6 = .ok (.iload 5, 2) := by decide +kernel
theorem dL_offer_8 : decode cL_offer 8 = .ok (.iload 6, 2) := by decide +kernel
theorem dL_offer_10 : decode cL_offer 10 = .ok (.invokevirtual 24, 3) := by decide +kernel
theorem dL_offer_13 : decode cL_offer 13 = .ok (.ireturn, 1) := by decide +kernel
theorem dL_offer_14 : decode cL_offer 14 = .ok (.astore 7, 2) := by decide +kernel
theorem dL_offer_16 : decode cL_offer 16 = .ok (.bipush (-9), 2) := by decide +kernel
theorem dL_offer_18 : decode cL_offer 18 = .ok (.ireturn, 1) := by decide +kernel
set_option maxRecDepth 20000 in
theorem ggL_aid_X9_aid : GoodIn wsL_aid wsX9_aid := goodIn_ca (goodIn_ca (goodIn_ca (goodIn_r _ [6, 7, 8, 9, 10, 11, 12, 13, 5, 14, 15, 16, 17, 18, 19, 20, 21, 22, 23, 24, 25, 26, 27, 28, 29, 30, 31, 32, 33, 34, 35, 36, 37, 38, 39, 40, 41, 42, 43, 44, 45, 46, 47, 48, 49, 50, 51, 52, 53, 54, 55, 56, 57, 58, 59, 60, 61, 62, 63, 64, 65, 66, 67, 68, 69, 70, 71, 72, 73, 74, 75, 76, 77, 78, 79, 80, 81, 82, 83, 84] (by decide +kernel) (by decide +kernel)) (goodIn_sub (fun _ h => List.mem_cons_of_mem _ (List.mem_append_left _ (List.mem_append_left _ (List.mem_append_right _ h)))) (by decide +kernel))) (goodIn_sub (fun _ h => List.mem_cons_of_mem _ (List.mem_append_left _ (List.mem_append_right _ h))) (by decide +kernel))) (goodIn_sub (fun _ h => List.mem_cons_of_mem _ (List.mem_append_right _ h)) (by decide +kernel))
set_option maxRecDepth 20000 in
theorem gL_aid_X9_aid : GoodIn wsL_aid (wsV RL 27 RX9 yX9_aid wsX9_aid) := goodIn_app (goodIn_of _ (by decide +kernel)) ggL_aid_X9_aid
theorem dL_aid_0 : decode cL_aid 0 = .ok (.aload_n 0, 1) := by decide +kernel
theorem dL_aid_1 : decode cL_aid 1 = .ok (.iload_n 1, 1) := by decide +kernel
theorem dL_aid_2 : decode cL_aid 2 = .ok (.iload_n 2, 1) := by decide +kernel
theorem dL_aid_3 : decode cL_aid 3 = .ok (.iload_n 3, 1) := by decide +kernel
theorem dL_aid_4 : decode cL_aid 4 = .ok (.iload 4, 2) := by decide +kernel
theorem dL_aid_6 : decode cL_aid 6 = .ok (.iload 5, 2) := by decide +kernel
theorem dL_aid_8 : decode cL_aid 8 = .ok (.invokevirtual 27, 3) := by decide +kernel
theorem dL_aid_11 : decode cL_aid 11 = .ok (.ireturn, 1) := by decide +kernel
theorem dL_aid_12 : decode cL_aid 12 = .ok (.astore 6, 2) := by decide +kernel
theorem dL_aid_14 : decode cL_aid 14 = .ok (.bipush (-9), 2) := by decide +kernel
theorem dL_aid_16 : decode cL_aid 16 = .ok (.ireturn, 1) := by decide +kernel
set_option maxRecDepth 20000 in
theorem ggL_deposit_X9_deposit : GoodIn wsL_deposit wsX9_deposit := goodIn_ca (goodIn_ca (goodIn_ca (goodIn_r _ [6, 7, 8, 9, 10, 11, 12, 13, 14, 5, 15, 16, 17, 18, 19, 20, 21, 22, 23, 24, 25, 26, 27, 28, 29, 30, 31, 32, 33, 34, 35, 36, 37, 38, 39, 40, 41] (by decide +kernel) (by decide +kernel)) (goodIn_sub (fun _ h => List.mem_cons_of_mem _ (List.mem_append_left _ (List.mem_append_left _ (List.mem_append_right _ h)))) (by decide +kernel))) (goodIn_sub (fun _ h => List.mem_cons_of_mem _ (List.mem_append_left _ (List.mem_append_right _ h))) (by decide +kernel))) (goodIn_sub (fun _ h => List.mem_cons_of_mem _ (List.mem_append_right _ h)) (by decide +kernel))
set_option maxRecDepth 20000 in
theorem gL_deposit_X9_deposit : GoodIn wsL_deposit (wsV RL 31 RX9 yX9_deposit wsX9_deposit) := goodIn_app (goodIn_of _ (by decide +kernel)) ggL_deposit_X9_deposit
theorem dL_deposit_0 : decode cL_deposit 0 = .ok (.aload_n 0, 1) := by decide +kernel
theorem dL_deposit_1 : decode cL_deposit 1 = .ok (.iload_n 1, 1) := by decide +kernel
theorem dL_deposit_2 : decode cL_deposit 2 = .ok (.iload_n 2, 1) := by decide +kernel
theorem dL_deposit_3 : decode cL_deposit 3 = .ok (.invokevirtual 31, 3) := by decide +kernel
theorem dL_deposit_6 : decode cL_deposit 6 = .ok (.ireturn, 1) := by decide +kernel
theorem dL_deposit_7 : decode cL_deposit 7 = .ok (.astore_n 3, 1) := by decide +kernel
theorem dL_deposit_8 : decode cL_deposit 8 = .ok (.bipush (-9), 2) := by decide +kernel
theorem dL_deposit_10 : decode cL_deposit 10 = .ok (.ireturn, 1) := by decide +kernel
set_option maxRecDepth 20000 in
theorem ggL_run_X9_run : GoodIn wsL_run wsX9_run := goodIn_ca (goodIn_ca (goodIn_r _ [6, 7, 8, 9, 10, 11, 12, 13, 14, 5, 15, 16, 17, 18, 19, 20, 21, 22, 23, 24, 25, 26, 27, 28, 29, 30, 31, 32, 33, 34, 35, 36, 37, 38, 39, 40, 41, 42, 43, 44, 45, 46, 47, 48, 49, 50, 51, 52, 53, 54, 55, 56, 57, 58, 59, 60, 61, 62, 63, 64, 65, 66, 67, 68, 69, 70, 71, 72, 73, 74, 75, 76, 77, 78, 79, 80, 81, 82, 83, 84, 85, 86, 87, 88, 89, 90, 91, 92, 93, 94, 95, 96, 97, 98, 99, 100, 101, 102, 103, 104, 105, 106, 107, 108, 109, 110, 111, 112, 113, 114, 115, 116, 117, 118, 119, 120, 121, 122, 123, 124, 125] (by decide +kernel) (by decide +kernel)) (goodIn_sub (fun _ h => List.mem_cons_of_mem _ (List.mem_append_left _ (List.mem_append_right _ h))) (by decide +kernel))) (goodIn_sub (fun _ h => List.mem_cons_of_mem _ (List.mem_append_right _ h)) (by decide +kernel))
set_option maxRecDepth 20000 in
theorem gL_run_X9_run : GoodIn wsL_run (wsV RL 35 RX9 yX9_run wsX9_run) := goodIn_app (goodIn_of _ (by decide +kernel)) ggL_run_X9_run
theorem dL_run_0 : decode cL_run 0 = .ok (.aload_n 0, 1) := by decide +kernel
theorem dL_run_1 : decode cL_run 1 = .ok (.iload_n 1, 1) := by decide +kernel
theorem dL_run_2 : decode cL_run 2 = .ok (.invokevirtual 35, 3) := by decide +kernel
theorem dL_run_5 : decode cL_run 5 = .ok (.ireturn, 1) := by decide +kernel
theorem dL_run_6 : decode cL_run 6 = .ok (.astore_n 2, 1) := by decide +kernel
theorem dL_run_7 : decode cL_run 7 = .ok (.bipush (-9), 2) := by decide +kernel
theorem dL_run_9 : decode cL_run 9 = .ok (.ireturn, 1) := by decide +kernel
theorem dL_away_0 : decode cL_away 0 = .ok (.iload_n 0, 1) := by decide +kernel
theorem dL_away_1 : decode cL_away 1 = .ok (.ifCond .ge 8, 3) := by decide +kernel
theorem dL_away_4 : decode cL_away 4 = .ok (.iload_n 0, 1) := by decide +kernel
theorem dL_away_5 : decode cL_away 5 = .ok (.ineg, 1) := by decide +kernel
theorem dL_away_6 : decode cL_away 6 = .ok (.goto 4, 3) := by decide +kernel
theorem dL_away_9 : decode cL_away 9 = .ok (.iload_n 0, 1) := by decide +kernel
theorem dL_away_10 : decode cL_away 10 = .ok (.ireturn, 1) := by decide +kernel
set_option maxRecDepth 20000 in
theorem ggL_cleared_X9_net : GoodIn wsL_cleared wsX9_net := goodIn_ca (goodIn_ca (goodIn_r _ [5, 6, 7, 8, 9, 10, 11, 4, 12, 13, 14, 15, 16, 17, 18, 19, 20, 21, 22, 77, 78, 79, 80, 81, 82, 83, 84, 85, 86, 87, 88, 89, 90, 91, 92, 93, 94] (by decide +kernel) (by decide +kernel)) (goodIn_sub (fun _ h => List.mem_cons_of_mem _ (List.mem_append_left _ (List.mem_append_right _ h))) (by decide +kernel))) (goodIn_sub (fun _ h => List.mem_cons_of_mem _ (List.mem_append_right _ h)) (by decide +kernel))
set_option maxRecDepth 20000 in
theorem gL_cleared_X9_net : GoodIn wsL_cleared (wsV RL 39 RX9 yX9_net wsX9_net) := goodIn_app (goodIn_of _ (by decide +kernel)) ggL_cleared_X9_net
set_option maxRecDepth 20000 in
theorem ggL_cleared_X9_flow : GoodIn wsL_cleared wsX9_flow := goodIn_ca (goodIn_ca (goodIn_r _ [26, 6, 7, 8, 9, 10, 11, 4, 12, 13, 14, 15, 16, 17, 18, 19, 27, 28, 29, 20, 21, 22, 30, 31, 32, 77, 78, 79, 80, 81, 82, 83, 84, 85, 86, 87, 88, 89, 90, 91, 92, 93, 94] (by decide +kernel) (by decide +kernel)) (goodIn_sub (fun _ h => List.mem_cons_of_mem _ (List.mem_append_left _ (List.mem_append_right _ h))) (by decide +kernel))) (goodIn_sub (fun _ h => List.mem_cons_of_mem _ (List.mem_append_right _ h)) (by decide +kernel))
set_option maxRecDepth 20000 in
theorem gL_cleared_X9_flow : GoodIn wsL_cleared (wsV RL 42 RX9 yX9_flow wsX9_flow) := goodIn_app (goodIn_of _ (by decide +kernel)) ggL_cleared_X9_flow
set_option maxRecDepth 20000 in
theorem ggL_cleared_L_away : GoodIn wsL_cleared wsL_away := goodIn_r _ [36] (by decide +kernel) (by decide +kernel)
set_option maxRecDepth 20000 in
theorem gL_cleared_L_away : GoodIn wsL_cleared (va_wsS RL 45 yL_away wsL_away) := goodIn_app (goodIn_of _ (by decide +kernel)) ggL_cleared_L_away
set_option maxRecDepth 20000 in
theorem ggL_cleared_X9_price : GoodIn wsL_cleared wsX9_price := goodIn_ca (goodIn_ca (goodIn_r _ [40, 6, 7, 8, 41, 10, 11, 4, 12, 13, 14, 15, 16, 17, 18, 19, 20, 21, 22, 77, 78, 79, 80, 81, 82, 83, 84, 85, 86, 87, 88, 89, 90, 91, 92, 93, 94] (by decide +kernel) (by decide +kernel)) (goodIn_sub (fun _ h => List.mem_cons_of_mem _ (List.mem_append_left _ (List.mem_append_right _ h))) (by decide +kernel))) (goodIn_sub (fun _ h => List.mem_cons_of_mem _ (List.mem_append_right _ h)) (by decide +kernel))
set_option maxRecDepth 20000 in
theorem gL_cleared_X9_price : GoodIn wsL_cleared (wsV RL 50 RX9 yX9_price wsX9_price) := goodIn_app (goodIn_of _ (by decide +kernel)) ggL_cleared_X9_price
set_option maxRecDepth 20000 in
theorem ggL_cleared_X9_day : GoodIn wsL_cleared wsX9_day := goodIn_r _ [45, 8, 77, 78, 79, 80, 81, 82, 83, 84, 85, 86] (by decide +kernel) (by decide +kernel)
set_option maxRecDepth 20000 in
theorem gL_cleared_X9_day : GoodIn wsL_cleared (wsV RL 53 RX9 yX9_day wsX9_day) := goodIn_app (goodIn_of _ (by decide +kernel)) ggL_cleared_X9_day
set_option maxRecDepth 20000 in
theorem ggL_cleared_X9_plan : GoodIn wsL_cleared wsX9_plan := goodIn_ca (goodIn_r _ [49, 8, 7, 50, 10, 11, 4, 12, 13, 14, 51, 52, 53, 20, 21, 22, 77, 78, 79, 80, 81, 82, 83, 84, 85, 86, 87, 88, 89, 90, 91, 92, 93, 94] (by decide +kernel) (by decide +kernel)) (goodIn_sub (fun _ h => List.mem_cons_of_mem _ (List.mem_append_left _ (List.mem_append_right _ h))) (by decide +kernel))
set_option maxRecDepth 20000 in
theorem gL_cleared_X9_plan : GoodIn wsL_cleared (wsV RL 57 RX9 yX9_plan wsX9_plan) := goodIn_app (goodIn_of _ (by decide +kernel)) ggL_cleared_X9_plan
set_option maxRecDepth 20000 in
theorem ggL_cleared_X9_isTaken : GoodIn wsL_cleared wsX9_isTaken := goodIn_ca (goodIn_ca (goodIn_r _ [57, 58, 59, 6, 60, 10, 11, 4, 12, 13, 14, 15, 16, 17, 18, 19, 61, 62, 63, 77, 78, 79, 80, 81, 82, 83, 84, 85, 86, 95, 96, 97, 98, 99, 100, 101, 102, 103, 104] (by decide +kernel) (by decide +kernel)) (goodIn_sub (fun _ h => List.mem_cons_of_mem _ (List.mem_append_left _ (List.mem_append_right _ h))) (by decide +kernel))) (goodIn_sub (fun _ h => List.mem_cons_of_mem _ (List.mem_append_right _ h)) (by decide +kernel))
set_option maxRecDepth 20000 in
theorem gL_cleared_X9_isTaken : GoodIn wsL_cleared (wsV RL 61 RX9 yX9_isTaken wsX9_isTaken) := goodIn_app (goodIn_of _ (by decide +kernel)) ggL_cleared_X9_isTaken
set_option maxRecDepth 20000 in
theorem ggL_cleared_X9_gain : GoodIn wsL_cleared wsX9_gain := goodIn_ca (goodIn_ca (goodIn_r _ [67, 58, 59, 6, 7, 8, 41, 10, 11, 4, 12, 13, 14, 15, 16, 17, 18, 19, 68, 69, 70, 71, 72, 73, 74, 75, 76, 62, 63, 21, 22, 77, 78, 79, 80, 81, 82, 83, 84, 85, 86, 95, 96, 97, 98, 99, 100, 101, 102, 103, 104, 87, 88, 89, 90, 91, 92, 93, 94] (by decide +kernel) (by decide +kernel)) (goodIn_sub (fun _ h => List.mem_cons_of_mem _ (List.mem_append_left _ (List.mem_append_right _ h))) (by decide +kernel))) (goodIn_sub (fun _ h => List.mem_cons_of_mem _ (List.mem_append_right _ h)) (by decide +kernel))
set_option maxRecDepth 20000 in
theorem gL_cleared_X9_gain : GoodIn wsL_cleared (wsV RL 65 RX9 yX9_gain wsX9_gain) := goodIn_app (goodIn_of _ (by decide +kernel)) ggL_cleared_X9_gain
theorem dL_cleared_0 : decode cL_cleared 0 = .ok (.iconst 1, 1) := by decide +kernel
theorem dL_cleared_1 : decode cL_cleared 1 = .ok (.istore_n 3, 1) := by decide +kernel
theorem dL_cleared_2 : decode cL_cleared 2 = .ok (.iconst 0, 1) := by decide +kernel
theorem dL_cleared_3 : decode cL_cleared 3 = .ok (.istore 4, 2) := by decide +kernel
theorem dL_cleared_5 : decode cL_cleared 5 = .ok (.iload 4, 2) := by decide +kernel
theorem dL_cleared_7 : decode cL_cleared 7 = .ok (.iconst 4, 1) := by decide +kernel
theorem dL_cleared_8 : decode cL_cleared 8 = .ok (.if_icmp .ge 194, 3) := by decide +kernel
theorem dL_cleared_11 : decode cL_cleared 11 = .ok (.iload_n 3, 1) := by decide +kernel
theorem dL_cleared_12 : decode cL_cleared 12 = .ok (.ifCond .eq 190, 3) := by decide +kernel
theorem dL_cleared_15 : decode cL_cleared 15 = .ok (.aload_n 0, 1) := by decide +kernel
theorem dL_cleared_16 : decode cL_cleared 16 = .ok (.iconst 0, 1) := by decide +kernel
theorem dL_cleared_17 : decode cL_cleared 17 = .ok (.iload 4, 2) := by decide +kernel
theorem dL_cleared_19 : decode cL_cleared 19 = .ok (.invokevirtual 39, 3) := by decide +kernel
theorem dL_cleared_22 : decode cL_cleared 22 = .ok (.aload_n 0, 1) := by decide +kernel
theorem dL_cleared_23 : decode cL_cleared 23 = .ok (.iconst 1, 1) := by decide +kernel
theorem dL_cleared_24 : decode cL_cleared 24 = .ok (.iload 4, 2) := by decide +kernel
theorem dL_cleared_26 : decode cL_cleared 26 = .ok (.invokevirtual 39, 3) := by decide +kernel
theorem dL_cleared_29 : decode cL_cleared 29 = .ok (.iadd, 1) := by decide +kernel
theorem dL_cleared_30 : decode cL_cleared 30 = .ok (.aload_n 0, 1) := by decide +kernel
theorem dL_cleared_31 : decode cL_cleared 31 = .ok (.iconst 2, 1) := by decide +kernel
theorem dL_cleared_32 : decode cL_cleared 32 = .ok (.iload 4, 2) := by decide +kernel
theorem dL_cleared_34 : decode cL_cleared 34 = .ok (.invokevirtual 39, 3) := by decide +kernel
theorem dL_cleared_37 : decode cL_cleared 37 = .ok (.iadd, 1) := by decide +kernel
theorem dL_cleared_38 : decode cL_cleared 38 = .ok (.ifCond .ne 7, 3) := by decide +kernel
theorem dL_cleared_41 : decode cL_cleared 41 = .ok (.iconst 1, 1) := by decide +kernel
theorem dL_cleared_42 : decode cL_cleared 42 = .ok (.goto 4, 3) := by decide +kernel
theorem dL_cleared_45 : decode cL_cleared 45 = .ok (.iconst 0, 1) := by decide +kernel
theorem dL_cleared_46 : decode cL_cleared 46 = .ok (.istore_n 3, 1) := by decide +kernel
theorem dL_cleared_47 : decode cL_cleared 47 = .ok (.iconst 0, 1) := by decide +kernel
theorem dL_cleared_48 : decode cL_cleared 48 = .ok (.istore 5, 2) := by decide +kernel
theorem dL_cleared_50 : decode cL_cleared 50 = .ok (.iload 5, 2) := by decide +kernel
theorem dL_cleared_52 : decode cL_cleared 52 = .ok (.iconst 3, 1) := by decide +kernel
theorem dL_cleared_53 : decode cL_cleared 53 = .ok (.if_icmp .ge 108, 3) := by decide +kernel
theorem dL_cleared_56 : decode cL_cleared 56 = .ok (.iload_n 3, 1) := by decide +kernel
theorem dL_cleared_57 : decode cL_cleared 57 = .ok (.ifCond .eq 104, 3) := by decide +kernel
theorem dL_cleared_60 : decode cL_cleared 60 = .ok (.aload_n 0, 1) := by decide +kernel
theorem dL_cleared_61 : decode cL_cleared 61 = .ok (.iload 5, 2) := by decide +kernel
theorem dL_cleared_63 : decode cL_cleared 63 = .ok (.iload 4, 2) := by decide +kernel
theorem dL_cleared_65 : decode cL_cleared 65 = .ok (.invokevirtual 42, 3) := by decide +kernel
theorem dL_cleared_68 : decode cL_cleared 68 = .ok (.invokestatic 45, 3) := by decide +kernel
theorem dL_cleared_71 : decode cL_cleared 71 = .ok (.iconst 3, 1) := by decide +kernel
theorem dL_cleared_72 : decode cL_cleared 72 = .ok (.iload_n 1, 1) := by decide +kernel
theorem dL_cleared_73 : decode cL_cleared 73 = .ok (.imul, 1) := by decide +kernel
theorem dL_cleared_74 : decode cL_cleared 74 = .ok (.if_icmp .gt 18, 3) := by decide +kernel
theorem dL_cleared_77 : decode cL_cleared 77 = .ok (.aload_n 0, 1) := by decide +kernel
theorem dL_cleared_78 : decode cL_cleared 78 = .ok (.iload 5, 2) := by decide +kernel
theorem dL_cleared_80 : decode cL_cleared 80 = .ok (.iload 4, 2) := by decide +kernel
theorem dL_cleared_82 : decode cL_cleared 82 = .ok (.invokevirtual 50, 3) := by decide +kernel
theorem dL_cleared_85 : decode cL_cleared 85 = .ok (.ifCond .lt 7, 3) := by decide +kernel
theorem dL_cleared_88 : decode cL_cleared 88 = .ok (.iconst 1, 1) := by decide +kernel
theorem dL_cleared_89 : decode cL_cleared 89 = .ok (.goto 4, 3) := by decide +kernel
theorem dL_cleared_92 : decode cL_cleared 92 = .ok (.iconst 0, 1) := by decide +kernel
theorem dL_cleared_93 : decode cL_cleared 93 = .ok (.istore_n 3, 1) := by decide +kernel
theorem dL_cleared_94 : decode cL_cleared 94 = .ok (.iconst 0, 1) := by decide +kernel
theorem dL_cleared_95 : decode cL_cleared 95 = .ok (.istore 6, 2) := by decide +kernel
theorem dL_cleared_97 : decode cL_cleared 97 = .ok (.iconst 0, 1) := by decide +kernel
theorem dL_cleared_98 : decode cL_cleared 98 = .ok (.istore 7, 2) := by decide +kernel
theorem dL_cleared_100 : decode cL_cleared 100 = .ok (.iload 7, 2) := by decide +kernel
theorem dL_cleared_102 : decode cL_cleared 102 = .ok (.bipush 6, 2) := by decide +kernel
theorem dL_cleared_104 : decode cL_cleared 104 = .ok (.if_icmp .ge 28, 3) := by decide +kernel
theorem dL_cleared_107 : decode cL_cleared 107 = .ok (.iload 6, 2) := by decide +kernel
theorem dL_cleared_109 : decode cL_cleared 109 = .ok (.aload_n 0, 1) := by decide +kernel
theorem dL_cleared_110 : decode cL_cleared 110 = .ok (.aload_n 0, 1) := by decide +kernel
theorem dL_cleared_111 : decode cL_cleared 111 = .ok (.invokevirtual 53, 3) := by decide +kernel
theorem dL_cleared_114 : decode cL_cleared 114 = .ok (.iload 7, 2) := by decide +kernel
theorem dL_cleared_116 : decode cL_cleared 116 = .ok (.iload 5, 2) := by decide +kernel
theorem dL_cleared_118 : decode cL_cleared 118 = .ok (.iload 4, 2) := by decide +kernel
theorem dL_cleared_120 : decode cL_cleared 120 = .ok (.invokevirtual 57, 3) := by decide +kernel
theorem dL_cleared_123 : decode cL_cleared 123 = .ok (.iadd, 1) := by decide +kernel
theorem dL_cleared_124 : decode cL_cleared 124 = .ok (.istore 6, 2) := by decide +kernel
theorem dL_cleared_126 : decode cL_cleared 126 = .ok (.iinc 7 1, 3) := by decide +kernel
theorem dL_cleared_129 : decode cL_cleared 129 = .ok (.goto (-29), 3) := by decide +kernel
theorem dL_cleared_132 : decode cL_cleared 132 = .ok (.iload_n 3, 1) := by decide +kernel
theorem dL_cleared_133 : decode cL_cleared 133 = .ok (.ifCond .eq 20, 3) := by decide +kernel
theorem dL_cleared_136 : decode cL_cleared 136 = .ok (.iload 6, 2) := by decide +kernel
theorem dL_cleared_138 : decode cL_cleared 138 = .ok (.aload_n 0, 1) := by decide +kernel
theorem dL_cleared_139 : decode cL_cleared 139 = .ok (.iload 5, 2) := by decide +kernel
theorem dL_cleared_141 : decode cL_cleared 141 = .ok (.iload 4, 2) := by decide +kernel
theorem dL_cleared_143 : decode cL_cleared 143 = .ok (.invokevirtual 39, 3) := by decide +kernel
theorem dL_cleared_146 : decode cL_cleared 146 = .ok (.if_icmp .ne 7, 3) := by decide +kernel
theorem dL_cleared_149 : decode cL_cleared 149 = .ok (.iconst 1, 1) := by decide +kernel
theorem dL_cleared_150 : decode cL_cleared 150 = .ok (.goto 4, 3) := by decide +kernel
theorem dL_cleared_153 : decode cL_cleared 153 = .ok (.iconst 0, 1) := by decide +kernel
theorem dL_cleared_154 : decode cL_cleared 154 = .ok (.istore_n 3, 1) := by decide +kernel
theorem dL_cleared_155 : decode cL_cleared 155 = .ok (.iinc 5 1, 3) := by decide +kernel
theorem dL_cleared_158 : decode cL_cleared 158 = .ok (.goto (-108), 3) := by decide +kernel
theorem dL_cleared_161 : decode cL_cleared 161 = .ok (.iload_n 3, 1) := by decide +kernel
theorem dL_cleared_162 : decode cL_cleared 162 = .ok (.ifCond .eq 32, 3) := by decide +kernel
theorem dL_cleared_165 : decode cL_cleared 165 = .ok (.aload_n 0, 1) := by decide +kernel
theorem dL_cleared_166 : decode cL_cleared 166 = .ok (.iconst 0, 1) := by decide +kernel
theorem dL_cleared_167 : decode cL_cleared 167 = .ok (.iload 4, 2) := by decide +kernel
theorem dL_cleared_169 : decode cL_cleared 169 = .ok (.invokevirtual 42, 3) := by decide +kernel
theorem dL_cleared_172 : decode cL_cleared 172 = .ok (.aload_n 0, 1) := by decide +kernel
theorem dL_cleared_173 : decode cL_cleared 173 = .ok (.iconst 1, 1) := by decide +kernel
theorem dL_cleared_174 : decode cL_cleared 174 = .ok (.iload 4, 2) := by decide +kernel
theorem dL_cleared_176 : decode cL_cleared 176 = .ok (.invokevirtual 42, 3) := by decide +kernel
theorem dL_cleared_179 : decode cL_cleared 179 = .ok (.iadd, 1) := by decide +kernel
theorem dL_cleared_180 : decode cL_cleared 180 = .ok (.aload_n 0, 1) := by decide +kernel
theorem dL_cleared_181 : decode cL_cleared 181 = .ok (.iconst 2, 1) := by decide +kernel
theorem dL_cleared_182 : decode cL_cleared 182 = .ok (.iload 4, 2) := by decide +kernel
theorem dL_cleared_184 : decode cL_cleared 184 = .ok (.invokevirtual 42, 3) := by decide +kernel
theorem dL_cleared_187 : decode cL_cleared 187 = .ok (.if_icmp .ne 7, 3) := by decide +kernel
theorem dL_cleared_190 : decode cL_cleared 190 = .ok (.iconst 1, 1) := by decide +kernel
theorem dL_cleared_191 : decode cL_cleared 191 = .ok (.goto 4, 3) := by decide +kernel
theorem dL_cleared_194 : decode cL_cleared 194 = .ok (.iconst 0, 1) := by decide +kernel
theorem dL_cleared_195 : decode cL_cleared 195 = .ok (.istore_n 3, 1) := by decide +kernel
theorem dL_cleared_196 : decode cL_cleared 196 = .ok (.iinc 4 1, 3) := by decide +kernel
theorem dL_cleared_199 : decode cL_cleared 199 = .ok (.goto (-194), 3) := by decide +kernel
theorem dL_cleared_202 : decode cL_cleared 202 = .ok (.iconst 0, 1) := by decide +kernel
theorem dL_cleared_203 : decode cL_cleared 203 = .ok (.istore 4, 2) := by decide +kernel
theorem dL_cleared_205 : decode cL_cleared 205 = .ok (.iload 4, 2) := by decide +kernel
theorem dL_cleared_207 : decode cL_cleared 207 = .ok (.iload_n 2, 1) := by decide +kernel
theorem dL_cleared_208 : decode cL_cleared 208 = .ok (.if_icmp .ge 37, 3) := by decide +kernel
theorem dL_cleared_211 : decode cL_cleared 211 = .ok (.iload_n 3, 1) := by decide +kernel
theorem dL_cleared_212 : decode cL_cleared 212 = .ok (.ifCond .eq 33, 3) := by decide +kernel
theorem dL_cleared_215 : decode cL_cleared 215 = .ok (.aload_n 0, 1) := by decide +kernel
theorem dL_cleared_216 : decode cL_cleared 216 = .ok (.iload 4, 2) := by decide +kernel
theorem dL_cleared_218 : decode cL_cleared 218 = .ok (.invokevirtual 61, 3) := by decide +kernel
theorem dL_cleared_221 : decode cL_cleared 221 = .ok (.ifCond .eq 12, 3) := by decide +kernel
theorem dL_cleared_224 : decode cL_cleared 224 = .ok (.aload_n 0, 1) := by decide +kernel
theorem dL_cleared_225 : decode cL_cleared 225 = .ok (.iload 4, 2) := by decide +kernel
theorem dL_cleared_227 : decode cL_cleared 227 = .ok (.invokevirtual 65, 3) := by decide +kernel
theorem dL_cleared_230 : decode cL_cleared 230 = .ok (.ifCond .lt 7, 3) := by decide +kernel
theorem dL_cleared_233 : decode cL_cleared 233 = .ok (.iconst 1, 1) := by decide +kernel
theorem dL_cleared_234 : decode cL_cleared 234 = .ok (.goto 4, 3) := by decide +kernel
theorem dL_cleared_237 : decode cL_cleared 237 = .ok (.iconst 0, 1) := by decide +kernel
theorem dL_cleared_238 : decode cL_cleared 238 = .ok (.istore_n 3, 1) := by decide +kernel
theorem dL_cleared_239 : decode cL_cleared 239 = .ok (.iinc 4 1, 3) := by decide +kernel
theorem dL_cleared_242 : decode cL_cleared 242 = .ok (.goto (-37), 3) := by decide +kernel
theorem dL_cleared_245 : decode cL_cleared 245 = .ok (.iload_n 3, 1) := by decide +kernel
theorem dL_cleared_246 : decode cL_cleared 246 = .ok (.ireturn, 1) := by decide +kernel
set_option maxRecDepth 20000 in
theorem ggL_money_X9_house : GoodIn wsL_money wsX9_house := goodIn_r _ [5, 6, 7, 18, 19, 20, 21, 22, 23, 24, 25, 26, 27, 28, 29, 30, 31] (by decide +kernel) (by decide +kernel)
set_option maxRecDepth 20000 in
theorem gL_money_X9_house : GoodIn wsL_money (wsV RL 68 RX9 yX9_house wsX9_house) := goodIn_app (goodIn_of _ (by decide +kernel)) ggL_money_X9_house
set_option maxRecDepth 20000 in
theorem ggL_money_X9_account : GoodIn wsL_money wsX9_account := goodIn_ca (goodIn_r _ [11, 6, 12, 13, 14, 4, 15, 16, 17, 18, 19, 20, 21, 22, 23, 24, 25, 26, 27, 28, 29, 30, 31] (by decide +kernel) (by decide +kernel)) (goodIn_sub (fun _ h => List.mem_cons_of_mem _ (List.mem_append_right _ h)) (by decide +kernel))
set_option maxRecDepth 20000 in
theorem gL_money_X9_account : GoodIn wsL_money (wsV RL 71 RX9 yX9_account wsX9_account) := goodIn_app (goodIn_of _ (by decide +kernel)) ggL_money_X9_account
theorem dL_money_0 : decode cL_money 0 = .ok (.aload_n 0, 1) := by decide +kernel
theorem dL_money_1 : decode cL_money 1 = .ok (.invokevirtual 68, 3) := by decide +kernel
theorem dL_money_4 : decode cL_money 4 = .ok (.istore_n 2, 1) := by decide +kernel
theorem dL_money_5 : decode cL_money 5 = .ok (.iconst 0, 1) := by decide +kernel
theorem dL_money_6 : decode cL_money 6 = .ok (.istore_n 3, 1) := by decide +kernel
theorem dL_money_7 : decode cL_money 7 = .ok (.iload_n 3, 1) := by decide +kernel
theorem dL_money_8 : decode cL_money 8 = .ok (.bipush 6, 2) := by decide +kernel
theorem dL_money_10 : decode cL_money 10 = .ok (.if_icmp .ge 17, 3) := by decide +kernel
theorem dL_money_13 : decode cL_money 13 = .ok (.iload_n 2, 1) := by decide +kernel
theorem dL_money_14 : decode cL_money 14 = .ok (.aload_n 0, 1) := by decide +kernel
theorem dL_money_15 : decode cL_money 15 = .ok (.iload_n 3, 1) := by decide +kernel
theorem dL_money_16 : decode cL_money 16 = .ok (.invokevirtual 71, 3) := by decide +kernel
theorem dL_money_19 : decode cL_money 19 = .ok (.iadd, 1) := by decide +kernel
theorem dL_money_20 : decode cL_money 20 = .ok (.istore_n 2, 1) := by decide +kernel
theorem dL_money_21 : decode cL_money 21 = .ok (.iinc 3 1, 3) := by decide +kernel
theorem dL_money_24 : decode cL_money 24 = .ok (.goto (-17), 3) := by decide +kernel
theorem dL_money_27 : decode cL_money 27 = .ok (.iload_n 2, 1) := by decide +kernel
theorem dL_money_28 : decode cL_money 28 = .ok (.iload_n 1, 1) := by decide +kernel
theorem dL_money_29 : decode cL_money 29 = .ok (.if_icmp .ne 7, 3) := by decide +kernel
theorem dL_money_32 : decode cL_money 32 = .ok (.iconst 1, 1) := by decide +kernel
theorem dL_money_33 : decode cL_money 33 = .ok (.goto 4, 3) := by decide +kernel
theorem dL_money_36 : decode cL_money 36 = .ok (.iconst 0, 1) := by decide +kernel
theorem dL_money_37 : decode cL_money 37 = .ok (.ireturn, 1) := by decide +kernel
