theorem dL_bid_7 : decode cL_bid 7 = .ok (.iload 4, 2) := by decide +kernel
theorem dL_bid_9 : decode cL_bid 9 = .ok (.iload 5, 2) := by decide +kernel
theorem dL_bid_11 : decode cL_bid 11 = .ok (.iload 6, 2) := by decide +kernel
theorem dL_bid_13 : decode cL_bid 13 = .ok (.invokevirtual 22, 3) := by decide +kernel
theorem dL_bid_16 : decode cL_bid 16 = .ok (.i2l, 1) := by decide +kernel
theorem dL_bid_17 : decode cL_bid 17 = .ok (.lastore, 1) := by decide +kernel
theorem dL_bid_18 : decode cL_bid 18 = .ok (.goto 15, 3) := by decide +kernel
theorem dL_bid_21 : decode cL_bid 21 = .ok (.astore 8, 2) := by decide +kernel
theorem dL_bid_23 : decode cL_bid 23 = .ok (.iconst 1, 1) := by decide +kernel
theorem dL_bid_24 : decode cL_bid 24 = .ok (.ireturn, 1) := by decide +kernel
theorem dL_bid_25 : decode cL_bid 25 = .ok (.astore 8, 2) := by decide +kernel
theorem dL_bid_27 : decode cL_bid 27 = .ok (.iconst 2, 1) := by decide +kernel
theorem dL_bid_28 : decode cL_bid 28 = .ok (.ireturn, 1) := by decide +kernel
theorem dL_bid_29 : decode cL_bid 29 = .ok (.astore 8, 2) := by decide +kernel
theorem dL_bid_31 : decode cL_bid 31 = .ok (.iconst 3, 1) := by decide +kernel
theorem dL_bid_32 : decode cL_bid 32 = .ok (.ireturn, 1) := by decide +kernel
theorem dL_bid_33 : decode cL_bid 33 = .ok (.iconst 0, 1) := by decide +kernel
theorem dL_bid_34 : decode cL_bid 34 = .ok (.ireturn, 1) := by decide +kernel
theorem dL_block_0 : decode cL_block 0 = .ok (.aload 7, 2) := by decide +kernel
theorem dL_block_2 : decode cL_block 2 = .ok (.iconst 0, 1) := by decide +kernel
theorem dL_block_3 : decode cL_block 3 = .ok (.aload_n 0, 1) := by decide +kernel
theorem dL_block_4 : decode cL_block 4 = .ok (.iload_n 1, 1) := by decide +kernel
theorem dL_block_5 : decode cL_block 5 = .ok (.iload_n 2, 1) := by decide +kernel
theorem dL_block_6 : decode cL_block 6 = .ok (.iload_n 3, 1) := by decide +kernel
theorem dL_block_7 : decode cL_block 7 = .ok (.iload 4, 2) := by decide +kernel
theorem dL_block_9 : decode cL_block 9 = .ok (.iload 5, 2) := by decide +kernel
theorem dL_block_11 : decode cL_block 11 = .ok (.iload 6, 2) := by decide +kernel
theorem dL_block_13 : decode cL_block 13 = .ok (.invokevirtual 26, 3) := by decide +kernel
theorem dL_block_16 : decode cL_block 16 = .ok (.i2l, 1) := by decide +kernel
theorem dL_block_17 : decode cL_block 17 = .ok (.lastore, 1) := by decide +kernel
theorem dL_block_18 : decode cL_block 18 = .ok (.goto 15, 3) := by decide +kernel
theorem dL_block_21 : decode cL_block 21 = .ok (.astore 8, 2) := by decide +kernel
theorem dL_block_23 : decode cL_block 23 = .ok (.iconst 1, 1) := by decide +kernel
theorem dL_block_24 : decode cL_block 24 = .ok (.ireturn, 1) := by decide +kernel
theorem dL_block_25 : decode cL_block 25 = .ok (.astore 8, 2) := by decide +kernel
theorem dL_block_27 : decode cL_block 27 = .ok (.iconst 2, 1) := by decide +kernel
theorem dL_block_28 : decode cL_block 28 = .ok (.ireturn, 1) := by decide +kernel
theorem dL_block_29 : decode cL_block 29 = .ok (.astore 8, 2) := by decide +kernel
theorem dL_block_31 : decode cL_block 31 = .ok (.iconst 3, 1) := by decide +kernel
theorem dL_block_32 : decode cL_block 32 = .ok (.ireturn, 1) := by decide +kernel
theorem dL_block_33 : decode cL_block 33 = .ok (.iconst 0, 1) := by decide +kernel
theorem dL_block_34 : decode cL_block 34 = .ok (.ireturn, 1) := by decide +kernel
theorem dL_link_0 : decode cL_link 0 = .ok (.aload_n 0, 1) := by decide +kernel
theorem dL_link_1 : decode cL_link 1 = .ok (.iload_n 1, 1) := by decide +kernel
theorem dL_link_2 : decode cL_link 2 = .ok (.iload_n 2, 1) := by decide +kernel
theorem dL_link_3 : decode cL_link 3 = .ok (.iload_n 3, 1) := by decide +kernel
theorem dL_link_4 : decode cL_link 4 = .ok (.invokevirtual 29, 3) := by decide +kernel
theorem dL_link_7 : decode cL_link 7 = .ok (.goto 15, 3) := by decide +kernel
theorem dL_link_10 : decode cL_link 10 = .ok (.astore 4, 2) := by decide +kernel
theorem dL_link_12 : decode cL_link 12 = .ok (.iconst 1, 1) := by decide +kernel
theorem dL_link_13 : decode cL_link 13 = .ok (.ireturn, 1) := by decide +kernel
theorem dL_link_14 : decode cL_link 14 = .ok (.astore 4, 2) := by decide +kernel
theorem dL_link_16 : decode cL_link 16 = .ok (.iconst 2, 1) := by decide +kernel
theorem dL_link_17 : decode cL_link 17 = .ok (.ireturn, 1) := by decide +kernel
theorem dL_link_18 : decode cL_link 18 = .ok (.astore 4, 2) := by decide +kernel
theorem dL_link_20 : decode cL_link 20 = .ok (.iconst 3, 1) := by decide +kernel
theorem dL_link_21 : decode cL_link 21 = .ok (.ireturn, 1) := by decide +kernel
theorem dL_link_22 : decode cL_link 22 = .ok (.iconst 0, 1) := by decide +kernel
theorem dL_link_23 : decode cL_link 23 = .ok (.ireturn, 1) := by decide +kernel
theorem dL_ask_0 : decode cL_ask 0 = .ok (.aload 6, 2) := by decide +kernel
theorem dL_ask_2 : decode cL_ask 2 = .ok (.iconst 0, 1) := by decide +kernel
theorem dL_ask_3 : decode cL_ask 3 = .ok (.aload_n 0, 1) := by decide +kernel
theorem dL_ask_4 : decode cL_ask 4 = .ok (.iload_n 1, 1) := by decide +kernel
theorem dL_ask_5 : decode cL_ask 5 = .ok (.iload_n 2, 1) := by decide +kernel
theorem dL_ask_6 : decode cL_ask 6 = .ok (.iload_n 3, 1) := by decide +kernel
theorem dL_ask_7 : decode cL_ask 7 = .ok (.iload 4, 2) := by decide +kernel
theorem dL_ask_9 : decode cL_ask 9 = .ok (.iload 5, 2) := by decide +kernel
theorem dL_ask_11 : decode cL_ask 11 = .ok (.invokevirtual 33, 3) := by decide +kernel
theorem dL_ask_14 : decode cL_ask 14 = .ok (.i2l, 1) := by decide +kernel
theorem dL_ask_15 : decode cL_ask 15 = .ok (.lastore, 1) := by decide +kernel
theorem dL_ask_16 : decode cL_ask 16 = .ok (.goto 15, 3) := by decide +kernel
theorem dL_ask_19 : decode cL_ask 19 = .ok (.astore 7, 2) := by decide +kernel
theorem dL_ask_21 : decode cL_ask 21 = .ok (.iconst 1, 1) := by decide +kernel
theorem dL_ask_22 : decode cL_ask 22 = .ok (.ireturn, 1) := by decide +kernel
theorem dL_ask_23 : decode cL_ask 23 = .ok (.astore 7, 2) := by decide +kernel
theorem dL_ask_25 : decode cL_ask 25 = .ok (.iconst 2, 1) := by decide +kernel
theorem dL_ask_26 : decode cL_ask 26 = .ok (.ireturn, 1) := by decide +kernel
theorem dL_ask_27 : decode cL_ask 27 = .ok (.astore 7, 2) := by decide +kernel
theorem dL_ask_29 : decode cL_ask 29 = .ok (.iconst 3, 1) := by decide +kernel
theorem dL_ask_30 : decode cL_ask 30 = .ok (.ireturn, 1) := by decide +kernel
theorem dL_ask_31 : decode cL_ask 31 = .ok (.iconst 0, 1) := by decide +kernel
theorem dL_ask_32 : decode cL_ask 32 = .ok (.ireturn, 1) := by decide +kernel
theorem dL_clear_0 : decode cL_clear 0 = .ok (.aload_n 1, 1) := by decide +kernel
theorem dL_clear_1 : decode cL_clear 1 = .ok (.iconst 0, 1) := by decide +kernel
theorem dL_clear_2 : decode cL_clear 2 = .ok (.aload_n 0, 1) := by decide +kernel
theorem dL_clear_3 : decode cL_clear 3 = .ok (.invokevirtual 37, 3) := by decide +kernel
theorem dL_clear_6 : decode cL_clear 6 = .ok (.i2l, 1) := by decide +kernel
theorem dL_clear_7 : decode cL_clear 7 = .ok (.lastore, 1) := by decide +kernel
theorem dL_clear_8 : decode cL_clear 8 = .ok (.goto 6, 3) := by decide +kernel
theorem dL_clear_11 : decode cL_clear 11 = .ok (.astore_n 2, 1) := by decide +kernel
theorem dL_clear_12 : decode cL_clear 12 = .ok (.iconst 1, 1) := by decide +kernel
theorem dL_clear_13 : decode cL_clear 13 = .ok (.ireturn, 1) := by decide +kernel
theorem dL_clear_14 : decode cL_clear 14 = .ok (.iconst 0, 1) := by decide +kernel
theorem dL_clear_15 : decode cL_clear 15 = .ok (.ireturn, 1) := by decide +kernel
theorem dL_offer_0 : decode cL_offer 0 = .ok (.aload 7, 2) := by decide +kernel
theorem dL_offer_2 : decode cL_offer 2 = .ok (.iconst 0, 1) := by decide +kernel
theorem dL_offer_3 : decode cL_offer 3 = .ok (.aload_n 0, 1) := by decide +kernel
theorem dL_offer_4 : decode cL_offer 4 = .ok (.iload_n 1, 1) := by decide +kernel
theorem dL_offer_5 : decode cL_offer 5 = .ok (.iload_n 2, 1) := by decide +kernel
theorem dL_offer_6 : decode cL_offer 6 = .ok (.iload_n 3, 1) := by decide +kernel
theorem dL_offer_7 : decode cL_offer 7 = .ok (.iload 4, 2) := by decide +kernel
theorem dL_offer_9 : decode cL_offer 9 = .ok (.iload 5, 2) := by decide +kernel
theorem dL_offer_11 : decode cL_offer 11 = .ok (.iload 6, 2) := by decide +kernel
theorem dL_offer_13 : decode cL_offer 13 = .ok (.invokevirtual 41, 3) := by decide +kernel
theorem dL_offer_16 : decode cL_offer 16 = .ok (.i2l, 1) := by decide +kernel
theorem dL_offer_17 : decode cL_offer 17 = .ok (.lastore, 1) := by decide +kernel
theorem dL_offer_18 : decode cL_offer 18 = .ok (.goto 15, 3) := by decide +kernel
theorem dL_offer_21 : decode cL_offer 21 = .ok (.astore 8, 2) := by decide +kernel
theorem dL_offer_23 : decode cL_offer 23 = .ok (.iconst 1, 1) := by decide +kernel
theorem dL_offer_24 : decode cL_offer 24 = .ok (.ireturn, 1) := by decide +kernel
theorem dL_offer_25 : decode cL_offer 25 = .ok (.astore 8, 2) := by decide +kernel
theorem dL_offer_27 : decode cL_offer 27 = .ok (.iconst 2, 1) := by decide +kernel
theorem dL_offer_28 : decode cL_offer 28 = .ok (.ireturn, 1) := by decide +kernel
theorem dL_offer_29 : decode cL_offer 29 = .ok (.astore 8, 2) := by decide +kernel
theorem dL_offer_31 : decode cL_offer 31 = .ok (.iconst 3, 1) := by decide +kernel
theorem dL_offer_32 : decode cL_offer 32 = .ok (.ireturn, 1) := by decide +kernel
theorem dL_offer_33 : decode cL_offer 33 = .ok (.iconst 0, 1) := by decide +kernel
theorem dL_offer_34 : decode cL_offer 34 = .ok (.ireturn, 1) := by decide +kernel
theorem dL_takeBack_0 : decode cL_takeBack 0 = .ok (.aload_n 2, 1) := by decide +kernel
theorem dL_takeBack_1 : decode cL_takeBack 1 = .ok (.iconst 0, 1) := by decide +kernel
theorem dL_takeBack_2 : decode cL_takeBack 2 = .ok (.aload_n 0, 1) := by decide +kernel
theorem dL_takeBack_3 : decode cL_takeBack 3 = .ok (.iload_n 1, 1) := by decide +kernel
theorem dL_takeBack_4 : decode cL_takeBack 4 = .ok (.invokevirtual 44, 3) := by decide +kernel
theorem dL_takeBack_7 : decode cL_takeBack 7 = .ok (.i2l, 1) := by decide +kernel
theorem dL_takeBack_8 : decode cL_takeBack 8 = .ok (.lastore, 1) := by decide +kernel
theorem dL_takeBack_9 : decode cL_takeBack 9 = .ok (.goto 9, 3) := by decide +kernel
theorem dL_takeBack_12 : decode cL_takeBack 12 = .ok (.astore_n 3, 1) := by decide +kernel
theorem dL_takeBack_13 : decode cL_takeBack 13 = .ok (.iconst 1, 1) := by decide +kernel
theorem dL_takeBack_14 : decode cL_takeBack 14 = .ok (.ireturn, 1) := by decide +kernel
theorem dL_takeBack_15 : decode cL_takeBack 15 = .ok (.astore_n 3, 1) := by decide +kernel
theorem dL_takeBack_16 : decode cL_takeBack 16 = .ok (.iconst 2, 1) := by decide +kernel
theorem dL_takeBack_17 : decode cL_takeBack 17 = .ok (.ireturn, 1) := by decide +kernel
theorem dL_takeBack_18 : decode cL_takeBack 18 = .ok (.iconst 0, 1) := by decide +kernel
theorem dL_takeBack_19 : decode cL_takeBack 19 = .ok (.ireturn, 1) := by decide +kernel
theorem dL_aid_0 : decode cL_aid 0 = .ok (.aload 6, 2) := by decide +kernel
theorem dL_aid_2 : decode cL_aid 2 = .ok (.iconst 0, 1) := by decide +kernel
theorem dL_aid_3 : decode cL_aid 3 = .ok (.aload_n 0, 1) := by decide +kernel
theorem dL_aid_4 : decode cL_aid 4 = .ok (.iload_n 1, 1) := by decide +kernel
theorem dL_aid_5 : decode cL_aid 5 = .ok (.iload_n 2, 1) := by decide +kernel
theorem dL_aid_6 : decode cL_aid 6 = .ok (.iload_n 3, 1) := by decide +kernel
theorem dL_aid_7 : decode cL_aid 7 = .ok (.iload 4, 2) := by decide +kernel
theorem dL_aid_9 : decode cL_aid 9 = .ok (.iload 5, 2) := by decide +kernel
theorem dL_aid_11 : decode cL_aid 11 = .ok (.invokevirtual 48, 3) := by decide +kernel
theorem dL_aid_14 : decode cL_aid 14 = .ok (.i2l, 1) := by decide +kernel
theorem dL_aid_15 : decode cL_aid 15 = .ok (.lastore, 1) := by decide +kernel
theorem dL_aid_16 : decode cL_aid 16 = .ok (.goto 15, 3) := by decide +kernel
theorem dL_aid_19 : decode cL_aid 19 = .ok (.astore 7, 2) := by decide +kernel
theorem dL_aid_21 : decode cL_aid 21 = .ok (.iconst 1, 1) := by decide +kernel
theorem dL_aid_22 : decode cL_aid 22 = .ok (.ireturn, 1) := by decide +kernel
theorem dL_aid_23 : decode cL_aid 23 = .ok (.astore 7, 2) := by decide +kernel
theorem dL_aid_25 : decode cL_aid 25 = .ok (.iconst 2, 1) := by decide +kernel
theorem dL_aid_26 : decode cL_aid 26 = .ok (.ireturn, 1) := by decide +kernel
theorem dL_aid_27 : decode cL_aid 27 = .ok (.astore 7, 2) := by decide +kernel
theorem dL_aid_29 : decode cL_aid 29 = .ok (.iconst 3, 1) := by decide +kernel
theorem dL_aid_30 : decode cL_aid 30 = .ok (.ireturn, 1) := by decide +kernel
theorem dL_aid_31 : decode cL_aid 31 = .ok (.iconst 0, 1) := by decide +kernel
theorem dL_aid_32 : decode cL_aid 32 = .ok (.ireturn, 1) := by decide +kernel
theorem dL_close_0 : decode cL_close 0 = .ok (.aload_n 1, 1) := by decide +kernel
theorem dL_close_1 : decode cL_close 1 = .ok (.iconst 0, 1) := by decide +kernel
theorem dL_close_2 : decode cL_close 2 = .ok (.aload_n 0, 1) := by decide +kernel
theorem dL_close_3 : decode cL_close 3 = .ok (.invokevirtual 52, 3) := by decide +kernel
theorem dL_close_6 : decode cL_close 6 = .ok (.i2l, 1) := by decide +kernel
theorem dL_close_7 : decode cL_close 7 = .ok (.lastore, 1) := by decide +kernel
theorem dL_close_8 : decode cL_close 8 = .ok (.goto 6, 3) := by decide +kernel
theorem dL_close_11 : decode cL_close 11 = .ok (.astore_n 2, 1) := by decide +kernel
theorem dL_close_12 : decode cL_close 12 = .ok (.iconst 1, 1) := by decide +kernel
theorem dL_close_13 : decode cL_close 13 = .ok (.ireturn, 1) := by decide +kernel
theorem dL_close_14 : decode cL_close 14 = .ok (.iconst 0, 1) := by decide +kernel
theorem dL_close_15 : decode cL_close 15 = .ok (.ireturn, 1) := by decide +kernel
theorem dL_read_0 : decode cL_read 0 = .ok (.aload 6, 2) := by decide +kernel
theorem dL_read_2 : decode cL_read 2 = .ok (.iconst 0, 1) := by decide +kernel
theorem dL_read_3 : decode cL_read 3 = .ok (.aload_n 0, 1) := by decide +kernel
theorem dL_read_4 : decode cL_read 4 = .ok (.iload_n 1, 1) := by decide +kernel
theorem dL_read_5 : decode cL_read 5 = .ok (.iload_n 2, 1) := by decide +kernel
theorem dL_read_6 : decode cL_read 6 = .ok (.iload_n 3, 1) := by decide +kernel
theorem dL_read_7 : decode cL_read 7 = .ok (.iload 4, 2) := by decide +kernel
theorem dL_read_9 : decode cL_read 9 = .ok (.iload 5, 2) := by decide +kernel
theorem dL_read_11 : decode cL_read 11 = .ok (.invokevirtual 55, 3) := by decide +kernel
theorem dL_read_14 : decode cL_read 14 = .ok (.i2l, 1) := by decide +kernel
theorem dL_read_15 : decode cL_read 15 = .ok (.lastore, 1) := by decide +kernel
theorem dL_read_16 : decode cL_read 16 = .ok (.goto 11, 3) := by decide +kernel
theorem dL_read_19 : decode cL_read 19 = .ok (.astore 7, 2) := by decide +kernel
theorem dL_read_21 : decode cL_read 21 = .ok (.iconst 1, 1) := by decide +kernel
theorem dL_read_22 : decode cL_read 22 = .ok (.ireturn, 1) := by decide +kernel
theorem dL_read_23 : decode cL_read 23 = .ok (.astore 7, 2) := by decide +kernel
theorem dL_read_25 : decode cL_read 25 = .ok (.iconst 2, 1) := by decide +kernel
theorem dL_read_26 : decode cL_read 26 = .ok (.ireturn, 1) := by decide +kernel
theorem dL_read_27 : decode cL_read 27 = .ok (.iconst 0, 1) := by decide +kernel
theorem dL_read_28 : decode cL_read 28 = .ok (.ireturn, 1) := by decide +kernel
theorem dL_run_0 : decode cL_run 0 = .ok (.aload_n 2, 1) := by decide +kernel
theorem dL_run_1 : decode cL_run 1 = .ok (.iconst 0, 1) := by decide +kernel
theorem dL_run_2 : decode cL_run 2 = .ok (.aload_n 0, 1) := by decide +kernel
theorem dL_run_3 : decode cL_run 3 = .ok (.iload_n 1, 1) := by decide +kernel
theorem dL_run_4 : decode cL_run 4 = .ok (.invokevirtual 58, 3) := by decide +kernel
theorem dL_run_7 : decode cL_run 7 = .ok (.i2l, 1) := by decide +kernel
theorem dL_run_8 : decode cL_run 8 = .ok (.lastore, 1) := by decide +kernel
theorem dL_run_9 : decode cL_run 9 = .ok (.goto 9, 3) := by decide +kernel
theorem dL_run_12 : decode cL_run 12 = .ok (.astore_n 3, 1) := by decide +kernel
theorem dL_run_13 : decode cL_run 13 = .ok (.iconst 1, 1) := by decide +kernel
theorem dL_run_14 : decode cL_run 14 = .ok (.ireturn, 1) := by decide +kernel
theorem dL_run_15 : decode cL_run 15 = .ok (.astore_n 3, 1) := by decide +kernel
theorem dL_run_16 : decode cL_run 16 = .ok (.iconst 2, 1) := by decide +kernel
theorem dL_run_17 : decode cL_run 17 = .ok (.ireturn, 1) := by decide +kernel
theorem dL_run_18 : decode cL_run 18 = .ok (.iconst 0, 1) := by decide +kernel
theorem dL_run_19 : decode cL_run 19 = .ok (.ireturn, 1) := by decide +kernel
theorem dL_price_0 : decode cL_price 0 = .ok (.aload_n 3, 1) := by decide +kernel
theorem dL_price_1 : decode cL_price 1 = .ok (.iconst 0, 1) := by decide +kernel
theorem dL_price_2 : decode cL_price 2 = .ok (.aload_n 0, 1) := by decide +kernel
theorem dL_price_3 : decode cL_price 3 = .ok (.iload_n 1, 1) := by decide +kernel
theorem dL_price_4 : decode cL_price 4 = .ok (.iload_n 2, 1) := by decide +kernel
theorem dL_price_5 : decode cL_price 5 = .ok (.invokevirtual 61, 3) := by decide +kernel
theorem dL_price_8 : decode cL_price 8 = .ok (.i2l, 1) := by decide +kernel
theorem dL_price_9 : decode cL_price 9 = .ok (.lastore, 1) := by decide +kernel
theorem dL_price_10 : decode cL_price 10 = .ok (.goto 11, 3) := by decide +kernel
theorem dL_price_13 : decode cL_price 13 = .ok (.astore 4, 2) := by decide +kernel
theorem dL_price_15 : decode cL_price 15 = .ok (.iconst 1, 1) := by decide +kernel
theorem dL_price_16 : decode cL_price 16 = .ok (.ireturn, 1) := by decide +kernel
theorem dL_price_17 : decode cL_price 17 = .ok (.astore 4, 2) := by decide +kernel
theorem dL_price_19 : decode cL_price 19 = .ok (.iconst 2, 1) := by decide +kernel
theorem dL_price_20 : decode cL_price 20 = .ok (.ireturn, 1) := by decide +kernel
theorem dL_price_21 : decode cL_price 21 = .ok (.iconst 0, 1) := by decide +kernel
theorem dL_price_22 : decode cL_price 22 = .ok (.ireturn, 1) := by decide +kernel
theorem dL_net_0 : decode cL_net 0 = .ok (.aload_n 3, 1) := by decide +kernel
theorem dL_net_1 : decode cL_net 1 = .ok (.iconst 0, 1) := by decide +kernel
theorem dL_net_2 : decode cL_net 2 = .ok (.aload_n 0, 1) := by decide +kernel
theorem dL_net_3 : decode cL_net 3 = .ok (.iload_n 1, 1) := by decide +kernel
theorem dL_net_4 : decode cL_net 4 = .ok (.iload_n 2, 1) := by decide +kernel
theorem dL_net_5 : decode cL_net 5 = .ok (.invokevirtual 64, 3) := by decide +kernel
theorem dL_net_8 : decode cL_net 8 = .ok (.i2l, 1) := by decide +kernel
theorem dL_net_9 : decode cL_net 9 = .ok (.lastore, 1) := by decide +kernel
theorem dL_net_10 : decode cL_net 10 = .ok (.goto 11, 3) := by decide +kernel
theorem dL_net_13 : decode cL_net 13 = .ok (.astore 4, 2) := by decide +kernel
theorem dL_net_15 : decode cL_net 15 = .ok (.iconst 1, 1) := by decide +kernel
theorem dL_net_16 : decode cL_net 16 = .ok (.ireturn, 1) := by decide +kernel
theorem dL_net_17 : decode cL_net 17 = .ok (.astore 4, 2) := by decide +kernel
theorem dL_net_19 : decode cL_net 19 = .ok (.iconst 2, 1) := by decide +kernel
theorem dL_net_20 : decode cL_net 20 = .ok (.ireturn, 1) := by decide +kernel
theorem dL_net_21 : decode cL_net 21 = .ok (.iconst 0, 1) := by decide +kernel
theorem dL_net_22 : decode cL_net 22 = .ok (.ireturn, 1) := by decide +kernel
theorem dL_flow_0 : decode cL_flow 0 = .ok (.aload_n 3, 1) := by decide +kernel
theorem dL_flow_1 : decode cL_flow 1 = .ok (.iconst 0, 1) := by decide +kernel
theorem dL_flow_2 : decode cL_flow 2 = .ok (.aload_n 0, 1) := by decide +kernel
theorem dL_flow_3 : decode cL_flow 3 = .ok (.iload_n 1, 1) := by decide +kernel
theorem dL_flow_4 : decode cL_flow 4 = .ok (.iload_n 2, 1) := by decide +kernel
theorem dL_flow_5 : decode cL_flow 5 = .ok (.invokevirtual 67, 3) := by decide +kernel
theorem dL_flow_8 : decode cL_flow 8 = .ok (.i2l, 1) := by decide +kernel
theorem dL_flow_9 : decode cL_flow 9 = .ok (.lastore, 1) := by decide +kernel
theorem dL_flow_10 : decode cL_flow 10 = .ok (.goto 11, 3) := by decide +kernel
theorem dL_flow_13 : decode cL_flow 13 = .ok (.astore 4, 2) := by decide +kernel
theorem dL_flow_15 : decode cL_flow 15 = .ok (.iconst 1, 1) := by decide +kernel
theorem dL_flow_16 : decode cL_flow 16 = .ok (.ireturn, 1) := by decide +kernel
theorem dL_flow_17 : decode cL_flow 17 = .ok (.astore 4, 2) := by decide +kernel
theorem dL_flow_19 : decode cL_flow 19 = .ok (.iconst 2, 1) := by decide +kernel
theorem dL_flow_20 : decode cL_flow 20 = .ok (.ireturn, 1) := by decide +kernel
theorem dL_flow_21 : decode cL_flow 21 = .ok (.iconst 0, 1) := by decide +kernel
theorem dL_flow_22 : decode cL_flow 22 = .ok (.ireturn, 1) := by decide +kernel
theorem dL_taken_0 : decode cL_taken 0 = .ok (.aload_n 2, 1) := by decide +kernel
theorem dL_taken_1 : decode cL_taken 1 = .ok (.iconst 0, 1) := by decide +kernel
theorem dL_taken_2 : decode cL_taken 2 = .ok (.aload_n 0, 1) := by decide +kernel
theorem dL_taken_3 : decode cL_taken 3 = .ok (.iload_n 1, 1) := by decide +kernel
theorem dL_taken_4 : decode cL_taken 4 = .ok (.invokevirtual 70, 3) := by decide +kernel
theorem dL_taken_7 : decode cL_taken 7 = .ok (.i2l, 1) := by decide +kernel
theorem dL_taken_8 : decode cL_taken 8 = .ok (.lastore, 1) := by decide +kernel
theorem dL_taken_9 : decode cL_taken 9 = .ok (.goto 9, 3) := by decide +kernel
theorem dL_taken_12 : decode cL_taken 12 = .ok (.astore_n 3, 1) := by decide +kernel
theorem dL_taken_13 : decode cL_taken 13 = .ok (.iconst 1, 1) := by decide +kernel
theorem dL_taken_14 : decode cL_taken 14 = .ok (.ireturn, 1) := by decide +kernel
theorem dL_taken_15 : decode cL_taken 15 = .ok (.astore_n 3, 1) := by decide +kernel
theorem dL_taken_16 : decode cL_taken 16 = .ok (.iconst 2, 1) := by decide +kernel
theorem dL_taken_17 : decode cL_taken 17 = .ok (.ireturn, 1) := by decide +kernel
theorem dL_taken_18 : decode cL_taken 18 = .ok (.iconst 0, 1) := by decide +kernel
theorem dL_taken_19 : decode cL_taken 19 = .ok (.ireturn, 1) := by decide +kernel
theorem dL_isTaken_0 : decode cL_isTaken 0 = .ok (.aload_n 2, 1) := by decide +kernel
theorem dL_isTaken_1 : decode cL_isTaken 1 = .ok (.iconst 0, 1) := by decide +kernel
theorem dL_isTaken_2 : decode cL_isTaken 2 = .ok (.aload_n 0, 1) := by decide +kernel
theorem dL_isTaken_3 : decode cL_isTaken 3 = .ok (.iload_n 1, 1) := by decide +kernel
theorem dL_isTaken_4 : decode cL_isTaken 4 = .ok (.invokevirtual 73, 3) := by decide +kernel
theorem dL_isTaken_7 : decode cL_isTaken 7 = .ok (.ifCond .eq 7, 3) := by decide +kernel
theorem dL_isTaken_10 : decode cL_isTaken 10 = .ok (.lconst 1, 1) := by decide +kernel
theorem dL_isTaken_11 : decode cL_isTaken 11 = .ok (.goto 4, 3) := by decide +kernel
theorem dL_isTaken_14 : decode cL_isTaken 14 = .ok (.lconst 0, 1) := by decide +kernel
theorem dL_isTaken_15 : decode cL_isTaken 15 = .ok (.lastore, 1) := by decide +kernel
theorem dL_isTaken_16 : decode cL_isTaken 16 = .ok (.goto 9, 3) := by decide +kernel
theorem dL_isTaken_19 : decode cL_isTaken 19 = .ok (.astore_n 3, 1) := by decide +kernel
theorem dL_isTaken_20 : decode cL_isTaken 20 = .ok (.iconst 1, 1) := by decide +kernel
theorem dL_isTaken_21 : decode cL_isTaken 21 = .ok (.ireturn, 1) := by decide +kernel
theorem dL_isTaken_22 : decode cL_isTaken 22 = .ok (.astore_n 3, 1) := by decide +kernel
theorem dL_isTaken_23 : decode cL_isTaken 23 = .ok (.iconst 2, 1) := by decide +kernel
theorem dL_isTaken_24 : decode cL_isTaken 24 = .ok (.ireturn, 1) := by decide +kernel
theorem dL_isTaken_25 : decode cL_isTaken 25 = .ok (.iconst 0, 1) := by decide +kernel
theorem dL_isTaken_26 : decode cL_isTaken 26 = .ok (.ireturn, 1) := by decide +kernel
theorem dL_gain_0 : decode cL_gain 0 = .ok (.aload_n 2, 1) := by decide +kernel
theorem dL_gain_1 : decode cL_gain 1 = .ok (.iconst 0, 1) := by decide +kernel
theorem dL_gain_2 : decode cL_gain 2 = .ok (.aload_n 0, 1) := by decide +kernel
theorem dL_gain_3 : decode cL_gain 3 = .ok (.iload_n 1, 1) := by decide +kernel
theorem dL_gain_4 : decode cL_gain 4 = .ok (.invokevirtual 77, 3) := by decide +kernel
theorem dL_gain_7 : decode cL_gain 7 = .ok (.i2l, 1) := by decide +kernel
theorem dL_gain_8 : decode cL_gain 8 = .ok (.lastore, 1) := by decide +kernel
theorem dL_gain_9 : decode cL_gain 9 = .ok (.goto 9, 3) := by decide +kernel
theorem dL_gain_12 : decode cL_gain 12 = .ok (.astore_n 3, 1) := by decide +kernel
theorem dL_gain_13 : decode cL_gain 13 = .ok (.iconst 1, 1) := by decide +kernel
theorem dL_gain_14 : decode cL_gain 14 = .ok (.ireturn, 1) := by decide +kernel
theorem dL_gain_15 : decode cL_gain 15 = .ok (.astore_n 3, 1) := by decide +kernel
theorem dL_gain_16 : decode cL_gain 16 = .ok (.iconst 2, 1) := by decide +kernel
theorem dL_gain_17 : decode cL_gain 17 = .ok (.ireturn, 1) := by decide +kernel
theorem dL_gain_18 : decode cL_gain 18 = .ok (.iconst 0, 1) := by decide +kernel
theorem dL_gain_19 : decode cL_gain 19 = .ok (.ireturn, 1) := by decide +kernel
theorem dL_worthAnew_0 : decode cL_worthAnew 0 = .ok (.aload_n 1, 1) := by decide +kernel
theorem dL_worthAnew_1 : decode cL_worthAnew 1 = .ok (.iconst 0, 1) := by decide +kernel
theorem dL_worthAnew_2 : decode cL_worthAnew 2 = .ok (.aload_n 0, 1) := by decide +kernel
theorem dL_worthAnew_3 : decode cL_worthAnew 3 = .ok (.invokevirtual 80, 3) := by decide +kernel
theorem dL_worthAnew_6 : decode cL_worthAnew 6 = .ok (.i2l, 1) := by decide +kernel
theorem dL_worthAnew_7 : decode cL_worthAnew 7 = .ok (.lastore, 1) := by decide +kernel
theorem dL_worthAnew_8 : decode cL_worthAnew 8 = .ok (.goto 6, 3) := by decide +kernel
theorem dL_worthAnew_11 : decode cL_worthAnew 11 = .ok (.astore_n 2, 1) := by decide +kernel
theorem dL_worthAnew_12 : decode cL_worthAnew 12 = .ok (.iconst 1, 1) := by decide +kernel
theorem dL_worthAnew_13 : decode cL_worthAnew 13 = .ok (.ireturn, 1) := by decide +kernel
theorem dL_worthAnew_14 : decode cL_worthAnew 14 = .ok (.iconst 0, 1) := by decide +kernel
theorem dL_worthAnew_15 : decode cL_worthAnew 15 = .ok (.ireturn, 1) := by decide +kernel
theorem dL_given_0 : decode cL_given 0 = .ok (.aload_n 2, 1) := by decide +kernel
theorem dL_given_1 : decode cL_given 1 = .ok (.iconst 0, 1) := by decide +kernel
theorem dL_given_2 : decode cL_given 2 = .ok (.aload_n 0, 1) := by decide +kernel
theorem dL_given_3 : decode cL_given 3 = .ok (.iload_n 1, 1) := by decide +kernel
theorem dL_given_4 : decode cL_given 4 = .ok (.invokevirtual 83, 3) := by decide +kernel
theorem dL_given_7 : decode cL_given 7 = .ok (.i2l, 1) := by decide +kernel
theorem dL_given_8 : decode cL_given 8 = .ok (.lastore, 1) := by decide +kernel
theorem dL_given_9 : decode cL_given 9 = .ok (.goto 9, 3) := by decide +kernel
theorem dL_given_12 : decode cL_given 12 = .ok (.astore_n 3, 1) := by decide +kernel
theorem dL_given_13 : decode cL_given 13 = .ok (.iconst 1, 1) := by decide +kernel
theorem dL_given_14 : decode cL_given 14 = .ok (.ireturn, 1) := by decide +kernel
theorem dL_given_15 : decode cL_given 15 = .ok (.astore_n 3, 1) := by decide +kernel
theorem dL_given_16 : decode cL_given 16 = .ok (.iconst 2, 1) := by decide +kernel
theorem dL_given_17 : decode cL_given 17 = .ok (.ireturn, 1) := by decide +kernel
theorem dL_given_18 : decode cL_given 18 = .ok (.iconst 0, 1) := by decide +kernel
theorem dL_given_19 : decode cL_given 19 = .ok (.ireturn, 1) := by decide +kernel
theorem dL_left_0 : decode cL_left 0 = .ok (.aload_n 2, 1) := by decide +kernel
theorem dL_left_1 : decode cL_left 1 = .ok (.iconst 0, 1) := by decide +kernel
theorem dL_left_2 : decode cL_left 2 = .ok (.aload_n 0, 1) := by decide +kernel
theorem dL_left_3 : decode cL_left 3 = .ok (.iload_n 1, 1) := by decide +kernel
theorem dL_left_4 : decode cL_left 4 = .ok (.invokevirtual 86, 3) := by decide +kernel
theorem dL_left_7 : decode cL_left 7 = .ok (.i2l, 1) := by decide +kernel
theorem dL_left_8 : decode cL_left 8 = .ok (.lastore, 1) := by decide +kernel
theorem dL_left_9 : decode cL_left 9 = .ok (.goto 6, 3) := by decide +kernel
theorem dL_left_12 : decode cL_left 12 = .ok (.astore_n 3, 1) := by decide +kernel
theorem dL_left_13 : decode cL_left 13 = .ok (.iconst 1, 1) := by decide +kernel
theorem dL_left_14 : decode cL_left 14 = .ok (.ireturn, 1) := by decide +kernel
theorem dL_left_15 : decode cL_left 15 = .ok (.iconst 0, 1) := by decide +kernel
theorem dL_left_16 : decode cL_left 16 = .ok (.ireturn, 1) := by decide +kernel
theorem dL_plan_0 : decode cL_plan 0 = .ok (.aload 5, 2) := by decide +kernel
theorem dL_plan_2 : decode cL_plan 2 = .ok (.iconst 0, 1) := by decide +kernel
theorem dL_plan_3 : decode cL_plan 3 = .ok (.aload_n 0, 1) := by decide +kernel
theorem dL_plan_4 : decode cL_plan 4 = .ok (.iload_n 1, 1) := by decide +kernel
theorem dL_plan_5 : decode cL_plan 5 = .ok (.iload_n 2, 1) := by decide +kernel
theorem dL_plan_6 : decode cL_plan 6 = .ok (.iload_n 3, 1) := by decide +kernel
theorem dL_plan_7 : decode cL_plan 7 = .ok (.iload 4, 2) := by decide +kernel
theorem dL_plan_9 : decode cL_plan 9 = .ok (.invokevirtual 89, 3) := by decide +kernel
theorem dL_plan_12 : decode cL_plan 12 = .ok (.i2l, 1) := by decide +kernel
theorem dL_plan_13 : decode cL_plan 13 = .ok (.lastore, 1) := by decide +kernel
theorem dL_plan_14 : decode cL_plan 14 = .ok (.goto 7, 3) := by decide +kernel
theorem dL_plan_17 : decode cL_plan 17 = .ok (.astore 6, 2) := by decide +kernel
theorem dL_plan_19 : decode cL_plan 19 = .ok (.iconst 1, 1) := by decide +kernel
theorem dL_plan_20 : decode cL_plan 20 = .ok (.ireturn, 1) := by decide +kernel
theorem dL_plan_21 : decode cL_plan 21 = .ok (.iconst 0, 1) := by decide +kernel
theorem dL_plan_22 : decode cL_plan 22 = .ok (.ireturn, 1) := by decide +kernel
theorem dL_gap_0 : decode cL_gap 0 = .ok (.aload_n 3, 1) := by decide +kernel
theorem dL_gap_1 : decode cL_gap 1 = .ok (.iconst 0, 1) := by decide +kernel
theorem dL_gap_2 : decode cL_gap 2 = .ok (.aload_n 0, 1) := by decide +kernel
theorem dL_gap_3 : decode cL_gap 3 = .ok (.iload_n 1, 1) := by decide +kernel
theorem dL_gap_4 : decode cL_gap 4 = .ok (.iload_n 2, 1) := by decide +kernel
theorem dL_gap_5 : decode cL_gap 5 = .ok (.invokevirtual 93, 3) := by decide +kernel
theorem dL_gap_8 : decode cL_gap 8 = .ok (.i2l, 1) := by decide +kernel
theorem dL_gap_9 : decode cL_gap 9 = .ok (.lastore, 1) := by decide +kernel
theorem dL_gap_10 : decode cL_gap 10 = .ok (.goto 7, 3) := by decide +kernel
theorem dL_gap_13 : decode cL_gap 13 = .ok (.astore 4, 2) := by decide +kernel
theorem dL_gap_15 : decode cL_gap 15 = .ok (.iconst 1, 1) := by decide +kernel
theorem dL_gap_16 : decode cL_gap 16 = .ok (.ireturn, 1) := by decide +kernel
theorem dL_gap_17 : decode cL_gap 17 = .ok (.iconst 0, 1) := by decide +kernel
theorem dL_gap_18 : decode cL_gap 18 = .ok (.ireturn, 1) := by decide +kernel
theorem dL_gapPrice_0 : decode cL_gapPrice 0 = .ok (.aload_n 3, 1) := by decide +kernel
theorem dL_gapPrice_1 : decode cL_gapPrice 1 = .ok (.iconst 0, 1) := by decide +kernel
theorem dL_gapPrice_2 : decode cL_gapPrice 2 = .ok (.aload_n 0, 1) := by decide +kernel
theorem dL_gapPrice_3 : decode cL_gapPrice 3 = .ok (.iload_n 1, 1) := by decide +kernel
theorem dL_gapPrice_4 : decode cL_gapPrice 4 = .ok (.iload_n 2, 1) := by decide +kernel
theorem dL_gapPrice_5 : decode cL_gapPrice 5 = .ok (.invokevirtual 96, 3) := by decide +kernel
theorem dL_gapPrice_8 : decode cL_gapPrice 8 = .ok (.i2l, 1) := by decide +kernel
theorem dL_gapPrice_9 : decode cL_gapPrice 9 = .ok (.lastore, 1) := by decide +kernel
theorem dL_gapPrice_10 : decode cL_gapPrice 10 = .ok (.goto 7, 3) := by decide +kernel
theorem dL_gapPrice_13 : decode cL_gapPrice 13 = .ok (.astore 4, 2) := by decide +kernel
theorem dL_gapPrice_15 : decode cL_gapPrice 15 = .ok (.iconst 1, 1) := by decide +kernel
theorem dL_gapPrice_16 : decode cL_gapPrice 16 = .ok (.ireturn, 1) := by decide +kernel
theorem dL_gapPrice_17 : decode cL_gapPrice 17 = .ok (.iconst 0, 1) := by decide +kernel
theorem dL_gapPrice_18 : decode cL_gapPrice 18 = .ok (.ireturn, 1) := by decide +kernel
theorem dL_bill_0 : decode cL_bill 0 = .ok (.aload_n 3, 1) := by decide +kernel
theorem dL_bill_1 : decode cL_bill 1 = .ok (.iconst 0, 1) := by decide +kernel
theorem dL_bill_2 : decode cL_bill 2 = .ok (.aload_n 0, 1) := by decide +kernel
theorem dL_bill_3 : decode cL_bill 3 = .ok (.iload_n 1, 1) := by decide +kernel
theorem dL_bill_4 : decode cL_bill 4 = .ok (.iload_n 2, 1) := by decide +kernel
theorem dL_bill_5 : decode cL_bill 5 = .ok (.invokevirtual 99, 3) := by decide +kernel
theorem dL_bill_8 : decode cL_bill 8 = .ok (.i2l, 1) := by decide +kernel
theorem dL_bill_9 : decode cL_bill 9 = .ok (.lastore, 1) := by decide +kernel
theorem dL_bill_10 : decode cL_bill 10 = .ok (.goto 7, 3) := by decide +kernel
theorem dL_bill_13 : decode cL_bill 13 = .ok (.astore 4, 2) := by decide +kernel
theorem dL_bill_15 : decode cL_bill 15 = .ok (.iconst 1, 1) := by decide +kernel
theorem dL_bill_16 : decode cL_bill 16 = .ok (.ireturn, 1) := by decide +kernel
theorem dL_bill_17 : decode cL_bill 17 = .ok (.iconst 0, 1) := by decide +kernel
theorem dL_bill_18 : decode cL_bill 18 = .ok (.ireturn, 1) := by decide +kernel
theorem dL_settled_0 : decode cL_settled 0 = .ok (.aload_n 3, 1) := by decide +kernel
theorem dL_settled_1 : decode cL_settled 1 = .ok (.iconst 0, 1) := by decide +kernel
theorem dL_settled_2 : decode cL_settled 2 = .ok (.aload_n 0, 1) := by decide +kernel
theorem dL_settled_3 : decode cL_settled 3 = .ok (.iload_n 1, 1) := by decide +kernel
theorem dL_settled_4 : decode cL_settled 4 = .ok (.iload_n 2, 1) := by decide +kernel
theorem dL_settled_5 : decode cL_settled 5 = .ok (.invokevirtual 102, 3) := by decide +kernel
theorem dL_settled_8 : decode cL_settled 8 = .ok (.i2l, 1) := by decide +kernel
theorem dL_settled_9 : decode cL_settled 9 = .ok (.lastore, 1) := by decide +kernel
theorem dL_settled_10 : decode cL_settled 10 = .ok (.goto 7, 3) := by decide +kernel
theorem dL_settled_13 : decode cL_settled 13 = .ok (.astore 4, 2) := by decide +kernel
theorem dL_settled_15 : decode cL_settled 15 = .ok (.iconst 1, 1) := by decide +kernel
theorem dL_settled_16 : decode cL_settled 16 = .ok (.ireturn, 1) := by decide +kernel
theorem dL_settled_17 : decode cL_settled 17 = .ok (.iconst 0, 1) := by decide +kernel
theorem dL_settled_18 : decode cL_settled 18 = .ok (.ireturn, 1) := by decide +kernel
theorem dL_account_0 : decode cL_account 0 = .ok (.aload_n 2, 1) := by decide +kernel
theorem dL_account_1 : decode cL_account 1 = .ok (.iconst 0, 1) := by decide +kernel
theorem dL_account_2 : decode cL_account 2 = .ok (.aload_n 0, 1) := by decide +kernel
theorem dL_account_3 : decode cL_account 3 = .ok (.iload_n 1, 1) := by decide +kernel
theorem dL_account_4 : decode cL_account 4 = .ok (.invokevirtual 105, 3) := by decide +kernel
theorem dL_account_7 : decode cL_account 7 = .ok (.i2l, 1) := by decide +kernel
theorem dL_account_8 : decode cL_account 8 = .ok (.lastore, 1) := by decide +kernel
theorem dL_account_9 : decode cL_account 9 = .ok (.goto 6, 3) := by decide +kernel
theorem dL_account_12 : decode cL_account 12 = .ok (.astore_n 3, 1) := by decide +kernel
theorem dL_account_13 : decode cL_account 13 = .ok (.iconst 1, 1) := by decide +kernel
theorem dL_account_14 : decode cL_account 14 = .ok (.ireturn, 1) := by decide +kernel
theorem dL_account_15 : decode cL_account 15 = .ok (.iconst 0, 1) := by decide +kernel
theorem dL_account_16 : decode cL_account 16 = .ok (.ireturn, 1) := by decide +kernel
theorem dL_hasFailed_0 : decode cL_hasFailed 0 = .ok (.aload_n 2, 1) := by decide +kernel
theorem dL_hasFailed_1 : decode cL_hasFailed 1 = .ok (.iconst 0, 1) := by decide +kernel
theorem dL_hasFailed_2 : decode cL_hasFailed 2 = .ok (.aload_n 0, 1) := by decide +kernel
theorem dL_hasFailed_3 : decode cL_hasFailed 3 = .ok (.iload_n 1, 1) := by decide +kernel
theorem dL_hasFailed_4 : decode cL_hasFailed 4 = .ok (.invokevirtual 108, 3) := by decide +kernel
theorem dL_hasFailed_7 : decode cL_hasFailed 7 = .ok (.ifCond .eq 7, 3) := by decide +kernel
theorem dL_hasFailed_10 : decode cL_hasFailed 10 = .ok (.lconst 1, 1) := by decide +kernel
theorem dL_hasFailed_11 : decode cL_hasFailed 11 = .ok (.goto 4, 3) := by decide +kernel
theorem dL_hasFailed_14 : decode cL_hasFailed 14 = .ok (.lconst 0, 1) := by decide +kernel
theorem dL_hasFailed_15 : decode cL_hasFailed 15 = .ok (.lastore, 1) := by decide +kernel
theorem dL_hasFailed_16 : decode cL_hasFailed 16 = .ok (.goto 6, 3) := by decide +kernel
theorem dL_hasFailed_19 : decode cL_hasFailed 19 = .ok (.astore_n 3, 1) := by decide +kernel
theorem dL_hasFailed_20 : decode cL_hasFailed 20 = .ok (.iconst 1, 1) := by decide +kernel
theorem dL_hasFailed_21 : decode cL_hasFailed 21 = .ok (.ireturn, 1) := by decide +kernel
theorem dL_hasFailed_22 : decode cL_hasFailed 22 = .ok (.iconst 0, 1) := by decide +kernel
theorem dL_hasFailed_23 : decode cL_hasFailed 23 = .ok (.ireturn, 1) := by decide +kernel
