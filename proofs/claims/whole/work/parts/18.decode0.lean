theorem dX0_init_0 : decode cX0_init 0 = .ok (.aload_n 0, 1) := by decide +kernel
theorem dX0_init_1 : decode cX0_init 1 = .ok (.invokespecial 3, 3) := by decide +kernel
theorem dX0_init_4 : decode cX0_init 4 = .ok (.aload_n 0, 1) := by decide +kernel
theorem dX0_init_5 : decode cX0_init 5 = .ok (.bipush 8, 2) := by decide +kernel
theorem dX0_init_7 : decode cX0_init 7 = .ok (.newarray .int, 2) := by decide +kernel
theorem dX0_init_9 : decode cX0_init 9 = .ok (.putfield 9, 3) := by decide +kernel
theorem dX0_init_12 : decode cX0_init 12 = .ok (.aload_n 0, 1) := by decide +kernel
theorem dX0_init_13 : decode cX0_init 13 = .ok (.bipush 8, 2) := by decide +kernel
theorem dX0_init_15 : decode cX0_init 15 = .ok (.newarray .int, 2) := by decide +kernel
theorem dX0_init_17 : decode cX0_init 17 = .ok (.putfield 15, 3) := by decide +kernel
theorem dX0_init_20 : decode cX0_init 20 = .ok (.aload_n 0, 1) := by decide +kernel
theorem dX0_init_21 : decode cX0_init 21 = .ok (.bipush 32, 2) := by decide +kernel
theorem dX0_init_23 : decode cX0_init 23 = .ok (.newarray .long, 2) := by decide +kernel
theorem dX0_init_25 : decode cX0_init 25 = .ok (.putfield 18, 3) := by decide +kernel
theorem dX0_init_28 : decode cX0_init 28 = .ok (.aload_n 0, 1) := by decide +kernel
theorem dX0_init_29 : decode cX0_init 29 = .ok (.bipush 8, 2) := by decide +kernel
theorem dX0_init_31 : decode cX0_init 31 = .ok (.invokevirtual 22, 3) := by decide +kernel
theorem dX0_init_34 : decode cX0_init 34 = .ok (.return_, 1) := by decide +kernel
theorem dX0_resize_0 : decode cX0_resize 0 = .ok (.aload_n 0, 1) := by decide +kernel
theorem dX0_resize_1 : decode cX0_resize 1 = .ok (.iload_n 1, 1) := by decide +kernel
theorem dX0_resize_2 : decode cX0_resize 2 = .ok (.putfield 26, 3) := by decide +kernel
theorem dX0_resize_5 : decode cX0_resize 5 = .ok (.aload_n 0, 1) := by decide +kernel
theorem dX0_resize_6 : decode cX0_resize 6 = .ok (.invokevirtual 30, 3) := by decide +kernel
theorem dX0_resize_9 : decode cX0_resize 9 = .ok (.return_, 1) := by decide +kernel
theorem dX0_clear_0 : decode cX0_clear 0 = .ok (.aload_n 0, 1) := by decide +kernel
theorem dX0_clear_1 : decode cX0_clear 1 = .ok (.getfield 9, 3) := by decide +kernel
theorem dX0_clear_4 : decode cX0_clear 4 = .ok (.bipush 8, 2) := by decide +kernel
theorem dX0_clear_6 : decode cX0_clear 6 = .ok (.invokestatic 33, 3) := by decide +kernel
theorem dX0_clear_9 : decode cX0_clear 9 = .ok (.aload_n 0, 1) := by decide +kernel
theorem dX0_clear_10 : decode cX0_clear 10 = .ok (.invokevirtual 39, 3) := by decide +kernel
theorem dX0_clear_13 : decode cX0_clear 13 = .ok (.return_, 1) := by decide +kernel
theorem dX0_openAll_0 : decode cX0_openAll 0 = .ok (.aload_n 0, 1) := by decide +kernel
theorem dX0_openAll_1 : decode cX0_openAll 1 = .ok (.getfield 15, 3) := by decide +kernel
theorem dX0_openAll_4 : decode cX0_openAll 4 = .ok (.bipush 8, 2) := by decide +kernel
theorem dX0_openAll_6 : decode cX0_openAll 6 = .ok (.invokestatic 33, 3) := by decide +kernel
theorem dX0_openAll_9 : decode cX0_openAll 9 = .ok (.return_, 1) := by decide +kernel
theorem dX0_openUpwards_0 : decode cX0_openUpwards 0 = .ok (.iload_n 1, 1) := by decide +kernel
theorem dX0_openUpwards_1 : decode cX0_openUpwards 1 = .ok (.istore_n 2, 1) := by decide +kernel
theorem dX0_openUpwards_2 : decode cX0_openUpwards 2 = .ok (.iconst 0, 1) := by decide +kernel
theorem dX0_openUpwards_3 : decode cX0_openUpwards 3 = .ok (.istore_n 3, 1) := by decide +kernel
theorem dX0_openUpwards_4 : decode cX0_openUpwards 4 = .ok (.iload_n 3, 1) := by decide +kernel
theorem dX0_openUpwards_5 : decode cX0_openUpwards 5 = .ok (.iconst 3, 1) := by decide +kernel
theorem dX0_openUpwards_6 : decode cX0_openUpwards 6 = .ok (.if_icmp .ge 33, 3) := by decide +kernel
theorem dX0_openUpwards_9 : decode cX0_openUpwards 9 = .ok (.aload_n 0, 1) := by decide +kernel
theorem dX0_openUpwards_10 : decode cX0_openUpwards 10 = .ok (.iload_n 2, 1) := by decide +kernel
theorem dX0_openUpwards_11 : decode cX0_openUpwards 11 = .ok (.invokevirtual 42, 3) := by decide +kernel
theorem dX0_openUpwards_14 : decode cX0_openUpwards 14 = .ok (.ifCond .eq 25, 3) := by decide +kernel
theorem dX0_openUpwards_17 : decode cX0_openUpwards 17 = .ok (.aload_n 0, 1) := by decide +kernel
theorem dX0_openUpwards_18 : decode cX0_openUpwards 18 = .ok (.iload_n 2, 1) := by decide +kernel
theorem dX0_openUpwards_19 : decode cX0_openUpwards 19 = .ok (.bipush 8, 2) := by decide +kernel
theorem dX0_openUpwards_21 : decode cX0_openUpwards 21 = .ok (.invokevirtual 46, 3) := by decide +kernel
theorem dX0_openUpwards_24 : decode cX0_openUpwards 24 = .ok (.aload_n 0, 1) := by decide +kernel
theorem dX0_openUpwards_25 : decode cX0_openUpwards 25 = .ok (.getfield 26, 3) := by decide +kernel
theorem dX0_openUpwards_28 : decode cX0_openUpwards 28 = .ok (.iload_n 2, 1) := by decide +kernel
theorem dX0_openUpwards_29 : decode cX0_openUpwards 29 = .ok (.iadd, 1) := by decide +kernel
theorem dX0_openUpwards_30 : decode cX0_openUpwards 30 = .ok (.iconst 1, 1) := by decide +kernel
theorem dX0_openUpwards_31 : decode cX0_openUpwards 31 = .ok (.ishr, 1) := by decide +kernel
theorem dX0_openUpwards_32 : decode cX0_openUpwards 32 = .ok (.istore_n 2, 1) := by decide +kernel
theorem dX0_openUpwards_33 : decode cX0_openUpwards 33 = .ok (.iinc 3 1, 3) := by decide +kernel
theorem dX0_openUpwards_36 : decode cX0_openUpwards 36 = .ok (.goto (-32), 3) := by decide +kernel
theorem dX0_openUpwards_39 : decode cX0_openUpwards 39 = .ok (.return_, 1) := by decide +kernel
theorem dX0_hasPlace_0 : decode cX0_hasPlace 0 = .ok (.iload_n 1, 1) := by decide +kernel
theorem dX0_hasPlace_1 : decode cX0_hasPlace 1 = .ok (.ifCond .lt 15, 3) := by decide +kernel
theorem dX0_hasPlace_4 : decode cX0_hasPlace 4 = .ok (.iload_n 1, 1) := by decide +kernel
theorem dX0_hasPlace_5 : decode cX0_hasPlace 5 = .ok (.aload_n 0, 1) := by decide +kernel
theorem dX0_hasPlace_6 : decode cX0_hasPlace 6 = .ok (.getfield 26, 3) := by decide +kernel
theorem dX0_hasPlace_9 : decode cX0_hasPlace 9 = .ok (.if_icmp .ge 7, 3) := by decide +kernel
theorem dX0_hasPlace_12 : decode cX0_hasPlace 12 = .ok (.iconst 1, 1) := by decide +kernel
theorem dX0_hasPlace_13 : decode cX0_hasPlace 13 = .ok (.goto 4, 3) := by decide +kernel
theorem dX0_hasPlace_16 : decode cX0_hasPlace 16 = .ok (.iconst 0, 1) := by decide +kernel
theorem dX0_hasPlace_17 : decode cX0_hasPlace 17 = .ok (.ireturn, 1) := by decide +kernel
theorem dX0_hasMatch_0 : decode cX0_hasMatch 0 = .ok (.iload_n 1, 1) := by decide +kernel
theorem dX0_hasMatch_1 : decode cX0_hasMatch 1 = .ok (.ifCond .lt 17, 3) := by decide +kernel
theorem dX0_hasMatch_4 : decode cX0_hasMatch 4 = .ok (.iload_n 1, 1) := by decide +kernel
theorem dX0_hasMatch_5 : decode cX0_hasMatch 5 = .ok (.aload_n 0, 1) := by decide +kernel
theorem dX0_hasMatch_6 : decode cX0_hasMatch 6 = .ok (.getfield 26, 3) := by decide +kernel
theorem dX0_hasMatch_9 : decode cX0_hasMatch 9 = .ok (.iconst 1, 1) := by decide +kernel
theorem dX0_hasMatch_10 : decode cX0_hasMatch 10 = .ok (.isub, 1) := by decide +kernel
theorem dX0_hasMatch_11 : decode cX0_hasMatch 11 = .ok (.if_icmp .ge 7, 3) := by decide +kernel
theorem dX0_hasMatch_14 : decode cX0_hasMatch 14 = .ok (.iconst 1, 1) := by decide +kernel
theorem dX0_hasMatch_15 : decode cX0_hasMatch 15 = .ok (.goto 4, 3) := by decide +kernel
theorem dX0_hasMatch_18 : decode cX0_hasMatch 18 = .ok (.iconst 0, 1) := by decide +kernel
theorem dX0_hasMatch_19 : decode cX0_hasMatch 19 = .ok (.ireturn, 1) := by decide +kernel
theorem dX0_lastRound_0 : decode cX0_lastRound 0 = .ok (.aload_n 0, 1) := by decide +kernel
theorem dX0_lastRound_1 : decode cX0_lastRound 1 = .ok (.getfield 26, 3) := by decide +kernel
theorem dX0_lastRound_4 : decode cX0_lastRound 4 = .ok (.bipush 8, 2) := by decide +kernel
theorem dX0_lastRound_6 : decode cX0_lastRound 6 = .ok (.if_icmp .ne 7, 3) := by decide +kernel
theorem dX0_lastRound_9 : decode cX0_lastRound 9 = .ok (.iconst 3, 1) := by decide +kernel
theorem dX0_lastRound_10 : decode cX0_lastRound 10 = .ok (.goto 16, 3) := by decide +kernel
theorem dX0_lastRound_13 : decode cX0_lastRound 13 = .ok (.aload_n 0, 1) := by decide +kernel
theorem dX0_lastRound_14 : decode cX0_lastRound 14 = .ok (.getfield 26, 3) := by decide +kernel
theorem dX0_lastRound_17 : decode cX0_lastRound 17 = .ok (.iconst 4, 1) := by decide +kernel
theorem dX0_lastRound_18 : decode cX0_lastRound 18 = .ok (.if_icmp .ne 7, 3) := by decide +kernel
theorem dX0_lastRound_21 : decode cX0_lastRound 21 = .ok (.iconst 2, 1) := by decide +kernel
theorem dX0_lastRound_22 : decode cX0_lastRound 22 = .ok (.goto 4, 3) := by decide +kernel
theorem dX0_lastRound_25 : decode cX0_lastRound 25 = .ok (.iconst 1, 1) := by decide +kernel
theorem dX0_lastRound_26 : decode cX0_lastRound 26 = .ok (.ireturn, 1) := by decide +kernel
theorem dX0_playerAt_0 : decode cX0_playerAt 0 = .ok (.iload_n 1, 1) := by decide +kernel
theorem dX0_playerAt_1 : decode cX0_playerAt 1 = .ok (.ifCond .lt 21, 3) := by decide +kernel
theorem dX0_playerAt_4 : decode cX0_playerAt 4 = .ok (.iload_n 1, 1) := by decide +kernel
theorem dX0_playerAt_5 : decode cX0_playerAt 5 = .ok (.aload_n 0, 1) := by decide +kernel
theorem dX0_playerAt_6 : decode cX0_playerAt 6 = .ok (.getfield 9, 3) := by decide +kernel
theorem dX0_playerAt_9 : decode cX0_playerAt 9 = .ok (.arraylength, 1) := by decide +kernel
theorem dX0_playerAt_10 : decode cX0_playerAt 10 = .ok (.if_icmp .ge 12, 3) := by decide +kernel
theorem dX0_playerAt_13 : decode cX0_playerAt 13 = .ok (.aload_n 0, 1) := by decide +kernel
theorem dX0_playerAt_14 : decode cX0_playerAt 14 = .ok (.getfield 9, 3) := by decide +kernel
theorem dX0_playerAt_17 : decode cX0_playerAt 17 = .ok (.iload_n 1, 1) := by decide +kernel
theorem dX0_playerAt_18 : decode cX0_playerAt 18 = .ok (.iaload, 1) := by decide +kernel
theorem dX0_playerAt_19 : decode cX0_playerAt 19 = .ok (.goto 5, 3) := by decide +kernel
theorem dX0_playerAt_22 : decode cX0_playerAt 22 = .ok (.bipush 8, 2) := by decide +kernel
theorem dX0_playerAt_24 : decode cX0_playerAt 24 = .ok (.ireturn, 1) := by decide +kernel
theorem dX0_setPlace_0 : decode cX0_setPlace 0 = .ok (.iload_n 1, 1) := by decide +kernel
theorem dX0_setPlace_1 : decode cX0_setPlace 1 = .ok (.ifCond .lt 19, 3) := by decide +kernel
theorem dX0_setPlace_4 : decode cX0_setPlace 4 = .ok (.iload_n 1, 1) := by decide +kernel
theorem dX0_setPlace_5 : decode cX0_setPlace 5 = .ok (.aload_n 0, 1) := by decide +kernel
theorem dX0_setPlace_6 : decode cX0_setPlace 6 = .ok (.getfield 9, 3) := by decide +kernel
theorem dX0_setPlace_9 : decode cX0_setPlace 9 = .ok (.arraylength, 1) := by decide +kernel
theorem dX0_setPlace_10 : decode cX0_setPlace 10 = .ok (.if_icmp .ge 10, 3) := by decide +kernel
theorem dX0_setPlace_13 : decode cX0_setPlace 13 = .ok (.aload_n 0, 1) := by decide +kernel
theorem dX0_setPlace_14 : decode cX0_setPlace 14 = .ok (.getfield 9, 3) := by decide +kernel
theorem dX0_setPlace_17 : decode cX0_setPlace 17 = .ok (.iload_n 1, 1) := by decide +kernel
theorem dX0_setPlace_18 : decode cX0_setPlace 18 = .ok (.iload_n 2, 1) := by decide +kernel
theorem dX0_setPlace_19 : decode cX0_setPlace 19 = .ok (.iastore, 1) := by decide +kernel
theorem dX0_setPlace_20 : decode cX0_setPlace 20 = .ok (.return_, 1) := by decide +kernel
theorem dX0_winnerOf_0 : decode cX0_winnerOf 0 = .ok (.iload_n 1, 1) := by decide +kernel
theorem dX0_winnerOf_1 : decode cX0_winnerOf 1 = .ok (.ifCond .lt 21, 3) := by decide +kernel
theorem dX0_winnerOf_4 : decode cX0_winnerOf 4 = .ok (.iload_n 1, 1) := by decide +kernel
theorem dX0_winnerOf_5 : decode cX0_winnerOf 5 = .ok (.aload_n 0, 1) := by decide +kernel
theorem dX0_winnerOf_6 : decode cX0_winnerOf 6 = .ok (.getfield 15, 3) := by decide +kernel
theorem dX0_winnerOf_9 : decode cX0_winnerOf 9 = .ok (.arraylength, 1) := by decide +kernel
theorem dX0_winnerOf_10 : decode cX0_winnerOf 10 = .ok (.if_icmp .ge 12, 3) := by decide +kernel
theorem dX0_winnerOf_13 : decode cX0_winnerOf 13 = .ok (.aload_n 0, 1) := by decide +kernel
theorem dX0_winnerOf_14 : decode cX0_winnerOf 14 = .ok (.getfield 15, 3) := by decide +kernel
theorem dX0_winnerOf_17 : decode cX0_winnerOf 17 = .ok (.iload_n 1, 1) := by decide +kernel
theorem dX0_winnerOf_18 : decode cX0_winnerOf 18 = .ok (.iaload, 1) := by decide +kernel
theorem dX0_winnerOf_19 : decode cX0_winnerOf 19 = .ok (.goto 5, 3) := by decide +kernel
theorem dX0_winnerOf_22 : decode cX0_winnerOf 22 = .ok (.bipush 8, 2) := by decide +kernel
theorem dX0_winnerOf_24 : decode cX0_winnerOf 24 = .ok (.ireturn, 1) := by decide +kernel
theorem dX0_setWinner_0 : decode cX0_setWinner 0 = .ok (.iload_n 1, 1) := by decide +kernel
theorem dX0_setWinner_1 : decode cX0_setWinner 1 = .ok (.ifCond .lt 19, 3) := by decide +kernel
theorem dX0_setWinner_4 : decode cX0_setWinner 4 = .ok (.iload_n 1, 1) := by decide +kernel
theorem dX0_setWinner_5 : decode cX0_setWinner 5 = .ok (.aload_n 0, 1) := by decide +kernel
theorem dX0_setWinner_6 : decode cX0_setWinner 6 = .ok (.getfield 15, 3) := by decide +kernel
theorem dX0_setWinner_9 : decode cX0_setWinner 9 = .ok (.arraylength, 1) := by decide +kernel
theorem dX0_setWinner_10 : decode cX0_setWinner 10 = .ok (.if_icmp .ge 10, 3) := by decide +kernel
theorem dX0_setWinner_13 : decode cX0_setWinner 13 = .ok (.aload_n 0, 1) := by decide +kernel
theorem dX0_setWinner_14 : decode cX0_setWinner 14 = .ok (.getfield 15, 3) := by decide +kernel
theorem dX0_setWinner_17 : decode cX0_setWinner 17 = .ok (.iload_n 1, 1) := by decide +kernel
theorem dX0_setWinner_18 : decode cX0_setWinner 18 = .ok (.iload_n 2, 1) := by decide +kernel
theorem dX0_setWinner_19 : decode cX0_setWinner 19 = .ok (.iastore, 1) := by decide +kernel
theorem dX0_setWinner_20 : decode cX0_setWinner 20 = .ok (.return_, 1) := by decide +kernel
theorem dX0_placeOf_0 : decode cX0_placeOf 0 = .ok (.iload_n 1, 1) := by decide +kernel
theorem dX0_placeOf_1 : decode cX0_placeOf 1 = .ok (.bipush 8, 2) := by decide +kernel
theorem dX0_placeOf_3 : decode cX0_placeOf 3 = .ok (.if_icmp .eq 30, 3) := by decide +kernel
theorem dX0_placeOf_6 : decode cX0_placeOf 6 = .ok (.iconst 0, 1) := by decide +kernel
theorem dX0_placeOf_7 : decode cX0_placeOf 7 = .ok (.istore_n 2, 1) := by decide +kernel
theorem dX0_placeOf_8 : decode cX0_placeOf 8 = .ok (.iload_n 2, 1) := by decide +kernel
theorem dX0_placeOf_9 : decode cX0_placeOf 9 = .ok (.aload_n 0, 1) := by decide +kernel
theorem dX0_placeOf_10 : decode cX0_placeOf 10 = .ok (.getfield 26, 3) := by decide +kernel
theorem dX0_placeOf_13 : decode cX0_placeOf 13 = .ok (.if_icmp .ge 20, 3) := by decide +kernel
theorem dX0_placeOf_16 : decode cX0_placeOf 16 = .ok (.aload_n 0, 1) := by decide +kernel
theorem dX0_placeOf_17 : decode cX0_placeOf 17 = .ok (.iload_n 2, 1) := by decide +kernel
theorem dX0_placeOf_18 : decode cX0_placeOf 18 = .ok (.invokevirtual 50, 3) := by decide +kernel
theorem dX0_placeOf_21 : decode cX0_placeOf 21 = .ok (.iload_n 1, 1) := by decide +kernel
theorem dX0_placeOf_22 : decode cX0_placeOf 22 = .ok (.if_icmp .ne 5, 3) := by decide +kernel
theorem dX0_placeOf_25 : decode cX0_placeOf 25 = .ok (.iload_n 2, 1) := by decide +kernel
theorem dX0_placeOf_26 : decode cX0_placeOf 26 = .ok (.ireturn, 1) := by decide +kernel
theorem dX0_placeOf_27 : decode cX0_placeOf 27 = .ok (.iinc 2 1, 3) := by decide +kernel
theorem dX0_placeOf_30 : decode cX0_placeOf 30 = .ok (.goto (-22), 3) := by decide +kernel
theorem dX0_placeOf_33 : decode cX0_placeOf 33 = .ok (.iconst (-1), 1) := by decide +kernel
theorem dX0_placeOf_34 : decode cX0_placeOf 34 = .ok (.ireturn, 1) := by decide +kernel
theorem dX0_playersIn_0 : decode cX0_playersIn 0 = .ok (.iconst 0, 1) := by decide +kernel
theorem dX0_playersIn_1 : decode cX0_playersIn 1 = .ok (.istore_n 3, 1) := by decide +kernel
theorem dX0_playersIn_2 : decode cX0_playersIn 2 = .ok (.iload_n 1, 1) := by decide +kernel
theorem dX0_playersIn_3 : decode cX0_playersIn 3 = .ok (.istore 4, 2) := by decide +kernel
theorem dX0_playersIn_5 : decode cX0_playersIn 5 = .ok (.iload 4, 2) := by decide +kernel
theorem dX0_playersIn_7 : decode cX0_playersIn 7 = .ok (.iload_n 2, 1) := by decide +kernel
theorem dX0_playersIn_8 : decode cX0_playersIn 8 = .ok (.if_icmp .ge 23, 3) := by decide +kernel
theorem dX0_playersIn_11 : decode cX0_playersIn 11 = .ok (.aload_n 0, 1) := by decide +kernel
theorem dX0_playersIn_12 : decode cX0_playersIn 12 = .ok (.iload 4, 2) := by decide +kernel
theorem dX0_playersIn_14 : decode cX0_playersIn 14 = .ok (.invokevirtual 50, 3) := by decide +kernel
theorem dX0_playersIn_17 : decode cX0_playersIn 17 = .ok (.bipush 8, 2) := by decide +kernel
theorem dX0_playersIn_19 : decode cX0_playersIn 19 = .ok (.if_icmp .eq 6, 3) := by decide +kernel
theorem dX0_playersIn_22 : decode cX0_playersIn 22 = .ok (.iinc 3 1, 3) := by decide +kernel
theorem dX0_playersIn_25 : decode cX0_playersIn 25 = .ok (.iinc 4 1, 3) := by decide +kernel
theorem dX0_playersIn_28 : decode cX0_playersIn 28 = .ok (.goto (-23), 3) := by decide +kernel
theorem dX0_playersIn_31 : decode cX0_playersIn 31 = .ok (.iload_n 3, 1) := by decide +kernel
theorem dX0_playersIn_32 : decode cX0_playersIn 32 = .ok (.ireturn, 1) := by decide +kernel
theorem dX0_decidedMatches_0 : decode cX0_decidedMatches 0 = .ok (.iconst 0, 1) := by decide +kernel
theorem dX0_decidedMatches_1 : decode cX0_decidedMatches 1 = .ok (.istore_n 1, 1) := by decide +kernel
theorem dX0_decidedMatches_2 : decode cX0_decidedMatches 2 = .ok (.iconst 0, 1) := by decide +kernel
theorem dX0_decidedMatches_3 : decode cX0_decidedMatches 3 = .ok (.istore_n 2, 1) := by decide +kernel
theorem dX0_decidedMatches_4 : decode cX0_decidedMatches 4 = .ok (.iload_n 2, 1) := by decide +kernel
theorem dX0_decidedMatches_5 : decode cX0_decidedMatches 5 = .ok (.aload_n 0, 1) := by decide +kernel
theorem dX0_decidedMatches_6 : decode cX0_decidedMatches 6 = .ok (.getfield 26, 3) := by decide +kernel
theorem dX0_decidedMatches_9 : decode cX0_decidedMatches 9 = .ok (.iconst 1, 1) := by decide +kernel
theorem dX0_decidedMatches_10 : decode cX0_decidedMatches 10 = .ok (.isub, 1) := by decide +kernel
theorem dX0_decidedMatches_11 : decode cX0_decidedMatches 11 = .ok (.if_icmp .ge 22, 3) := by decide +kernel
theorem dX0_decidedMatches_14 : decode cX0_decidedMatches 14 = .ok (.aload_n 0, 1) := by decide +kernel
theorem dX0_decidedMatches_15 : decode cX0_decidedMatches 15 = .ok (.iload_n 2, 1) := by decide +kernel
theorem dX0_decidedMatches_16 : decode cX0_decidedMatches 16 = .ok (.invokevirtual 54, 3) := by decide +kernel
theorem dX0_decidedMatches_19 : decode cX0_decidedMatches 19 = .ok (.bipush 8, 2) := by decide +kernel
theorem dX0_decidedMatches_21 : decode cX0_decidedMatches 21 = .ok (.if_icmp .eq 6, 3) := by decide +kernel
theorem dX0_decidedMatches_24 : decode cX0_decidedMatches 24 = .ok (.iinc 1 1, 3) := by decide +kernel
theorem dX0_decidedMatches_27 : decode cX0_decidedMatches 27 = .ok (.iinc 2 1, 3) := by decide +kernel
theorem dX0_decidedMatches_30 : decode cX0_decidedMatches 30 = .ok (.goto (-26), 3) := by decide +kernel
theorem dX0_decidedMatches_33 : decode cX0_decidedMatches 33 = .ok (.iload_n 1, 1) := by decide +kernel
theorem dX0_decidedMatches_34 : decode cX0_decidedMatches 34 = .ok (.ireturn, 1) := by decide +kernel
theorem dX0_roundOf_0 : decode cX0_roundOf 0 = .ok (.iconst 1, 1) := by decide +kernel
theorem dX0_roundOf_1 : decode cX0_roundOf 1 = .ok (.istore_n 2, 1) := by decide +kernel
theorem dX0_roundOf_2 : decode cX0_roundOf 2 = .ok (.iload_n 2, 1) := by decide +kernel
theorem dX0_roundOf_3 : decode cX0_roundOf 3 = .ok (.iconst 3, 1) := by decide +kernel
theorem dX0_roundOf_4 : decode cX0_roundOf 4 = .ok (.if_icmp .ge 20, 3) := by decide +kernel
theorem dX0_roundOf_7 : decode cX0_roundOf 7 = .ok (.iload_n 1, 1) := by decide +kernel
theorem dX0_roundOf_8 : decode cX0_roundOf 8 = .ok (.aload_n 0, 1) := by decide +kernel
theorem dX0_roundOf_9 : decode cX0_roundOf 9 = .ok (.iload_n 2, 1) := by decide +kernel
theorem dX0_roundOf_10 : decode cX0_roundOf 10 = .ok (.iconst 1, 1) := by decide +kernel
theorem dX0_roundOf_11 : decode cX0_roundOf 11 = .ok (.iadd, 1) := by decide +kernel
theorem dX0_roundOf_12 : decode cX0_roundOf 12 = .ok (.invokevirtual 57, 3) := by decide +kernel
theorem dX0_roundOf_15 : decode cX0_roundOf 15 = .ok (.if_icmp .lt 9, 3) := by decide +kernel
theorem dX0_roundOf_18 : decode cX0_roundOf 18 = .ok (.iinc 2 1, 3) := by decide +kernel
theorem dX0_roundOf_21 : decode cX0_roundOf 21 = .ok (.goto (-19), 3) := by decide +kernel
theorem dX0_roundOf_24 : decode cX0_roundOf 24 = .ok (.iload_n 2, 1) := by decide +kernel
theorem dX0_roundOf_25 : decode cX0_roundOf 25 = .ok (.ireturn, 1) := by decide +kernel
theorem dX0_kindOf_0 : decode cX0_kindOf 0 = .ok (.aload_n 0, 1) := by decide +kernel
theorem dX0_kindOf_1 : decode cX0_kindOf 1 = .ok (.iload_n 1, 1) := by decide +kernel
theorem dX0_kindOf_2 : decode cX0_kindOf 2 = .ok (.invokevirtual 60, 3) := by decide +kernel
theorem dX0_kindOf_5 : decode cX0_kindOf 5 = .ok (.istore_n 2, 1) := by decide +kernel
theorem dX0_kindOf_6 : decode cX0_kindOf 6 = .ok (.aload_n 0, 1) := by decide +kernel
theorem dX0_kindOf_7 : decode cX0_kindOf 7 = .ok (.iload_n 1, 1) := by decide +kernel
theorem dX0_kindOf_8 : decode cX0_kindOf 8 = .ok (.iload_n 2, 1) := by decide +kernel
theorem dX0_kindOf_9 : decode cX0_kindOf 9 = .ok (.invokevirtual 63, 3) := by decide +kernel
theorem dX0_kindOf_12 : decode cX0_kindOf 12 = .ok (.istore_n 3, 1) := by decide +kernel
theorem dX0_kindOf_13 : decode cX0_kindOf 13 = .ok (.iload_n 3, 1) := by decide +kernel
theorem dX0_kindOf_14 : decode cX0_kindOf 14 = .ok (.iconst 1, 1) := by decide +kernel
theorem dX0_kindOf_15 : decode cX0_kindOf 15 = .ok (.iload_n 2, 1) := by decide +kernel
theorem dX0_kindOf_16 : decode cX0_kindOf 16 = .ok (.iconst 1, 1) := by decide +kernel
theorem dX0_kindOf_17 : decode cX0_kindOf 17 = .ok (.isub, 1) := by decide +kernel
theorem dX0_kindOf_18 : decode cX0_kindOf 18 = .ok (.ishl, 1) := by decide +kernel
theorem dX0_kindOf_19 : decode cX0_kindOf 19 = .ok (.iadd, 1) := by decide +kernel
theorem dX0_kindOf_20 : decode cX0_kindOf 20 = .ok (.istore 4, 2) := by decide +kernel
theorem dX0_kindOf_22 : decode cX0_kindOf 22 = .ok (.aload_n 0, 1) := by decide +kernel
theorem dX0_kindOf_23 : decode cX0_kindOf 23 = .ok (.iload_n 3, 1) := by decide +kernel
theorem dX0_kindOf_24 : decode cX0_kindOf 24 = .ok (.iload 4, 2) := by decide +kernel
theorem dX0_kindOf_26 : decode cX0_kindOf 26 = .ok (.invokevirtual 67, 3) := by decide +kernel
theorem dX0_kindOf_29 : decode cX0_kindOf 29 = .ok (.istore 5, 2) := by decide +kernel
theorem dX0_kindOf_31 : decode cX0_kindOf 31 = .ok (.aload_n 0, 1) := by decide +kernel
theorem dX0_kindOf_32 : decode cX0_kindOf 32 = .ok (.iload 4, 2) := by decide +kernel
theorem dX0_kindOf_34 : decode cX0_kindOf 34 = .ok (.iload_n 3, 1) := by decide +kernel
theorem dX0_kindOf_35 : decode cX0_kindOf 35 = .ok (.iconst 1, 1) := by decide +kernel
theorem dX0_kindOf_36 : decode cX0_kindOf 36 = .ok (.iload_n 2, 1) := by decide +kernel
theorem dX0_kindOf_37 : decode cX0_kindOf 37 = .ok (.ishl, 1) := by decide +kernel
theorem dX0_kindOf_38 : decode cX0_kindOf 38 = .ok (.iadd, 1) := by decide +kernel
theorem dX0_kindOf_39 : decode cX0_kindOf 39 = .ok (.invokevirtual 67, 3) := by decide +kernel
theorem dX0_kindOf_42 : decode cX0_kindOf 42 = .ok (.istore 6, 2) := by decide +kernel
theorem dX0_kindOf_44 : decode cX0_kindOf 44 = .ok (.iload 5, 2) := by decide +kernel
theorem dX0_kindOf_46 : decode cX0_kindOf 46 = .ok (.ifCond .ne 10, 3) := by decide +kernel
theorem dX0_kindOf_49 : decode cX0_kindOf 49 = .ok (.iload 6, 2) := by decide +kernel
theorem dX0_kindOf_51 : decode cX0_kindOf 51 = .ok (.ifCond .ne 5, 3) := by decide +kernel
theorem dX0_kindOf_54 : decode cX0_kindOf 54 = .ok (.iconst 0, 1) := by decide +kernel
theorem dX0_kindOf_55 : decode cX0_kindOf 55 = .ok (.ireturn, 1) := by decide +kernel
theorem dX0_kindOf_56 : decode cX0_kindOf 56 = .ok (.iload 5, 2) := by decide +kernel
theorem dX0_kindOf_58 : decode cX0_kindOf 58 = .ok (.ifCond .eq 8, 3) := by decide +kernel
theorem dX0_kindOf_61 : decode cX0_kindOf 61 = .ok (.iload 6, 2) := by decide +kernel
theorem dX0_kindOf_63 : decode cX0_kindOf 63 = .ok (.ifCond .ne 5, 3) := by decide +kernel
theorem dX0_kindOf_66 : decode cX0_kindOf 66 = .ok (.iconst 1, 1) := by decide +kernel
theorem dX0_kindOf_67 : decode cX0_kindOf 67 = .ok (.ireturn, 1) := by decide +kernel
theorem dX0_kindOf_68 : decode cX0_kindOf 68 = .ok (.aload_n 0, 1) := by decide +kernel
theorem dX0_kindOf_69 : decode cX0_kindOf 69 = .ok (.iload_n 1, 1) := by decide +kernel
theorem dX0_kindOf_70 : decode cX0_kindOf 70 = .ok (.invokevirtual 54, 3) := by decide +kernel
theorem dX0_kindOf_73 : decode cX0_kindOf 73 = .ok (.bipush 8, 2) := by decide +kernel
theorem dX0_kindOf_75 : decode cX0_kindOf 75 = .ok (.if_icmp .ne 7, 3) := by decide +kernel
theorem dX0_kindOf_78 : decode cX0_kindOf 78 = .ok (.iconst 2, 1) := by decide +kernel
theorem dX0_kindOf_79 : decode cX0_kindOf 79 = .ok (.goto 4, 3) := by decide +kernel
theorem dX0_kindOf_82 : decode cX0_kindOf 82 = .ok (.iconst 3, 1) := by decide +kernel
theorem dX0_kindOf_83 : decode cX0_kindOf 83 = .ok (.ireturn, 1) := by decide +kernel
theorem dX0_mayBeDecided_0 : decode cX0_mayBeDecided 0 = .ok (.aload_n 0, 1) := by decide +kernel
theorem dX0_mayBeDecided_1 : decode cX0_mayBeDecided 1 = .ok (.iload_n 1, 1) := by decide +kernel
theorem dX0_mayBeDecided_2 : decode cX0_mayBeDecided 2 = .ok (.invokevirtual 70, 3) := by decide +kernel
theorem dX0_mayBeDecided_5 : decode cX0_mayBeDecided 5 = .ok (.iconst 2, 1) := by decide +kernel
theorem dX0_mayBeDecided_6 : decode cX0_mayBeDecided 6 = .ok (.if_icmp .ne 39, 3) := by decide +kernel
theorem dX0_mayBeDecided_9 : decode cX0_mayBeDecided 9 = .ok (.aload_n 0, 1) := by decide +kernel
theorem dX0_mayBeDecided_10 : decode cX0_mayBeDecided 10 = .ok (.iconst 2, 1) := by decide +kernel
theorem dX0_mayBeDecided_11 : decode cX0_mayBeDecided 11 = .ok (.iload_n 1, 1) := by decide +kernel
theorem dX0_mayBeDecided_12 : decode cX0_mayBeDecided 12 = .ok (.imul, 1) := by decide +kernel
theorem dX0_mayBeDecided_13 : decode cX0_mayBeDecided 13 = .ok (.aload_n 0, 1) := by decide +kernel
theorem dX0_mayBeDecided_14 : decode cX0_mayBeDecided 14 = .ok (.getfield 26, 3) := by decide +kernel
theorem dX0_mayBeDecided_17 : decode cX0_mayBeDecided 17 = .ok (.isub, 1) := by decide +kernel
theorem dX0_mayBeDecided_18 : decode cX0_mayBeDecided 18 = .ok (.invokevirtual 73, 3) := by decide +kernel
theorem dX0_mayBeDecided_21 : decode cX0_mayBeDecided 21 = .ok (.ifCond .eq 24, 3) := by decide +kernel
theorem dX0_mayBeDecided_24 : decode cX0_mayBeDecided 24 = .ok (.aload_n 0, 1) := by decide +kernel
theorem dX0_mayBeDecided_25 : decode cX0_mayBeDecided 25 = .ok (.iconst 2, 1) := by decide +kernel
theorem dX0_mayBeDecided_26 : decode cX0_mayBeDecided 26 = .ok (.iload_n 1, 1) := by decide +kernel
theorem dX0_mayBeDecided_27 : decode cX0_mayBeDecided 27 = .ok (.imul, 1) := by decide +kernel
theorem dX0_mayBeDecided_28 : decode cX0_mayBeDecided 28 = .ok (.iconst 1, 1) := by decide +kernel
theorem dX0_mayBeDecided_29 : decode cX0_mayBeDecided 29 = .ok (.iadd, 1) := by decide +kernel
theorem dX0_mayBeDecided_30 : decode cX0_mayBeDecided 30 = .ok (.aload_n 0, 1) := by decide +kernel
theorem dX0_mayBeDecided_31 : decode cX0_mayBeDecided 31 = .ok (.getfield 26, 3) := by decide +kernel
theorem dX0_mayBeDecided_34 : decode cX0_mayBeDecided 34 = .ok (.isub, 1) := by decide +kernel
theorem dX0_mayBeDecided_35 : decode cX0_mayBeDecided 35 = .ok (.invokevirtual 73, 3) := by decide +kernel
theorem dX0_mayBeDecided_38 : decode cX0_mayBeDecided 38 = .ok (.ifCond .eq 7, 3) := by decide +kernel
theorem dX0_mayBeDecided_41 : decode cX0_mayBeDecided 41 = .ok (.iconst 1, 1) := by decide +kernel
theorem dX0_mayBeDecided_42 : decode cX0_mayBeDecided 42 = .ok (.goto 4, 3) := by decide +kernel
theorem dX0_mayBeDecided_45 : decode cX0_mayBeDecided 45 = .ok (.iconst 0, 1) := by decide +kernel
theorem dX0_mayBeDecided_46 : decode cX0_mayBeDecided 46 = .ok (.ireturn, 1) := by decide +kernel
theorem dX0_canCome_0 : decode cX0_canCome 0 = .ok (.aload_n 0, 1) := by decide +kernel
theorem dX0_canCome_1 : decode cX0_canCome 1 = .ok (.iload_n 1, 1) := by decide +kernel
theorem dX0_canCome_2 : decode cX0_canCome 2 = .ok (.invokevirtual 60, 3) := by decide +kernel
theorem dX0_canCome_5 : decode cX0_canCome 5 = .ok (.istore_n 3, 1) := by decide +kernel
theorem dX0_canCome_6 : decode cX0_canCome 6 = .ok (.aload_n 0, 1) := by decide +kernel
theorem dX0_canCome_7 : decode cX0_canCome 7 = .ok (.iload_n 1, 1) := by decide +kernel
theorem dX0_canCome_8 : decode cX0_canCome 8 = .ok (.iload_n 3, 1) := by decide +kernel
theorem dX0_canCome_9 : decode cX0_canCome 9 = .ok (.invokevirtual 63, 3) := by decide +kernel
theorem dX0_canCome_12 : decode cX0_canCome 12 = .ok (.istore 4, 2) := by decide +kernel
theorem dX0_canCome_14 : decode cX0_canCome 14 = .ok (.iload_n 2, 1) := by decide +kernel
theorem dX0_canCome_15 : decode cX0_canCome 15 = .ok (.iload 4, 2) := by decide +kernel
theorem dX0_canCome_17 : decode cX0_canCome 17 = .ok (.if_icmp .lt 30, 3) := by decide +kernel
theorem dX0_canCome_20 : decode cX0_canCome 20 = .ok (.iload_n 2, 1) := by decide +kernel
theorem dX0_canCome_21 : decode cX0_canCome 21 = .ok (.iload 4, 2) := by decide +kernel
theorem dX0_canCome_23 : decode cX0_canCome 23 = .ok (.iconst 1, 1) := by decide +kernel
theorem dX0_canCome_24 : decode cX0_canCome 24 = .ok (.iload_n 3, 1) := by decide +kernel
theorem dX0_canCome_25 : decode cX0_canCome 25 = .ok (.ishl, 1) := by decide +kernel
theorem dX0_canCome_26 : decode cX0_canCome 26 = .ok (.iadd, 1) := by decide +kernel
theorem dX0_canCome_27 : decode cX0_canCome 27 = .ok (.if_icmp .ge 20, 3) := by decide +kernel
theorem dX0_canCome_30 : decode cX0_canCome 30 = .ok (.aload_n 0, 1) := by decide +kernel
theorem dX0_canCome_31 : decode cX0_canCome 31 = .ok (.iload_n 3, 1) := by decide +kernel
theorem dX0_canCome_32 : decode cX0_canCome 32 = .ok (.iconst 1, 1) := by decide +kernel
theorem dX0_canCome_33 : decode cX0_canCome 33 = .ok (.isub, 1) := by decide +kernel
theorem dX0_canCome_34 : decode cX0_canCome 34 = .ok (.iload_n 2, 1) := by decide +kernel
theorem dX0_canCome_35 : decode cX0_canCome 35 = .ok (.invokevirtual 76, 3) := by decide +kernel
theorem dX0_canCome_38 : decode cX0_canCome 38 = .ok (.lconst 0, 1) := by decide +kernel
theorem dX0_canCome_39 : decode cX0_canCome 39 = .ok (.lcmp, 1) := by decide +kernel
theorem dX0_canCome_40 : decode cX0_canCome 40 = .ok (.ifCond .le 7, 3) := by decide +kernel
theorem dX0_canCome_43 : decode cX0_canCome 43 = .ok (.iconst 1, 1) := by decide +kernel
theorem dX0_canCome_44 : decode cX0_canCome 44 = .ok (.goto 4, 3) := by decide +kernel
theorem dX0_canCome_47 : decode cX0_canCome 47 = .ok (.iconst 0, 1) := by decide +kernel
theorem dX0_canCome_48 : decode cX0_canCome 48 = .ok (.ireturn, 1) := by decide +kernel
theorem dX0_comers_0 : decode cX0_comers 0 = .ok (.iconst 0, 1) := by decide +kernel
theorem dX0_comers_1 : decode cX0_comers 1 = .ok (.istore_n 2, 1) := by decide +kernel
theorem dX0_comers_2 : decode cX0_comers 2 = .ok (.iconst 0, 1) := by decide +kernel
theorem dX0_comers_3 : decode cX0_comers 3 = .ok (.istore_n 3, 1) := by decide +kernel
theorem dX0_comers_4 : decode cX0_comers 4 = .ok (.iload_n 3, 1) := by decide +kernel
theorem dX0_comers_5 : decode cX0_comers 5 = .ok (.aload_n 0, 1) := by decide +kernel
theorem dX0_comers_6 : decode cX0_comers 6 = .ok (.getfield 26, 3) := by decide +kernel
theorem dX0_comers_9 : decode cX0_comers 9 = .ok (.if_icmp .ge 21, 3) := by decide +kernel
theorem dX0_comers_12 : decode cX0_comers 12 = .ok (.aload_n 0, 1) := by decide +kernel
theorem dX0_comers_13 : decode cX0_comers 13 = .ok (.iload_n 1, 1) := by decide +kernel
theorem dX0_comers_14 : decode cX0_comers 14 = .ok (.iload_n 3, 1) := by decide +kernel
theorem dX0_comers_15 : decode cX0_comers 15 = .ok (.invokevirtual 80, 3) := by decide +kernel
theorem dX0_comers_18 : decode cX0_comers 18 = .ok (.ifCond .eq 6, 3) := by decide +kernel
theorem dX0_comers_21 : decode cX0_comers 21 = .ok (.iinc 2 1, 3) := by decide +kernel
theorem dX0_comers_24 : decode cX0_comers 24 = .ok (.iinc 3 1, 3) := by decide +kernel
theorem dX0_comers_27 : decode cX0_comers 27 = .ok (.goto (-23), 3) := by decide +kernel
theorem dX0_comers_30 : decode cX0_comers 30 = .ok (.iload_n 2, 1) := by decide +kernel
theorem dX0_comers_31 : decode cX0_comers 31 = .ok (.ireturn, 1) := by decide +kernel
theorem dX0_possibleWinners_0 : decode cX0_possibleWinners 0 = .ok (.iconst 0, 1) := by decide +kernel
theorem dX0_possibleWinners_1 : decode cX0_possibleWinners 1 = .ok (.istore_n 1, 1) := by decide +kernel
theorem dX0_possibleWinners_2 : decode cX0_possibleWinners 2 = .ok (.iconst 0, 1) := by decide +kernel
theorem dX0_possibleWinners_3 : decode cX0_possibleWinners 3 = .ok (.istore_n 2, 1) := by decide +kernel
theorem dX0_possibleWinners_4 : decode cX0_possibleWinners 4 = .ok (.iload_n 2, 1) := by decide +kernel
theorem dX0_possibleWinners_5 : decode cX0_possibleWinners 5 = .ok (.aload_n 0, 1) := by decide +kernel
theorem dX0_possibleWinners_6 : decode cX0_possibleWinners 6 = .ok (.getfield 26, 3) := by decide +kernel
theorem dX0_possibleWinners_9 : decode cX0_possibleWinners 9 = .ok (.if_icmp .ge 26, 3) := by decide +kernel
theorem dX0_possibleWinners_12 : decode cX0_possibleWinners 12 = .ok (.aload_n 0, 1) := by decide +kernel
theorem dX0_possibleWinners_13 : decode cX0_possibleWinners 13 = .ok (.aload_n 0, 1) := by decide +kernel
theorem dX0_possibleWinners_14 : decode cX0_possibleWinners 14 = .ok (.invokevirtual 84, 3) := by decide +kernel
theorem dX0_possibleWinners_17 : decode cX0_possibleWinners 17 = .ok (.iload_n 2, 1) := by decide +kernel
theorem dX0_possibleWinners_18 : decode cX0_possibleWinners 18 = .ok (.invokevirtual 76, 3) := by decide +kernel
theorem dX0_possibleWinners_21 : decode cX0_possibleWinners 21 = .ok (.lconst 0, 1) := by decide +kernel
theorem dX0_possibleWinners_22 : decode cX0_possibleWinners 22 = .ok (.lcmp, 1) := by decide +kernel
theorem dX0_possibleWinners_23 : decode cX0_possibleWinners 23 = .ok (.ifCond .le 6, 3) := by decide +kernel
theorem dX0_possibleWinners_26 : decode cX0_possibleWinners 26 = .ok (.iinc 1 1, 3) := by decide +kernel
theorem dX0_possibleWinners_29 : decode cX0_possibleWinners 29 = .ok (.iinc 2 1, 3) := by decide +kernel
theorem dX0_possibleWinners_32 : decode cX0_possibleWinners 32 = .ok (.goto (-28), 3) := by decide +kernel
theorem dX0_possibleWinners_35 : decode cX0_possibleWinners 35 = .ok (.iload_n 1, 1) := by decide +kernel
theorem dX0_possibleWinners_36 : decode cX0_possibleWinners 36 = .ok (.ireturn, 1) := by decide +kernel
theorem dX0_oddsOf_0 : decode cX0_oddsOf 0 = .ok (.iload_n 1, 1) := by decide +kernel
theorem dX0_oddsOf_1 : decode cX0_oddsOf 1 = .ok (.bipush 8, 2) := by decide +kernel
theorem dX0_oddsOf_3 : decode cX0_oddsOf 3 = .ok (.imul, 1) := by decide +kernel
theorem dX0_oddsOf_4 : decode cX0_oddsOf 4 = .ok (.iload_n 2, 1) := by decide +kernel
theorem dX0_oddsOf_5 : decode cX0_oddsOf 5 = .ok (.iadd, 1) := by decide +kernel
theorem dX0_oddsOf_6 : decode cX0_oddsOf 6 = .ok (.istore_n 3, 1) := by decide +kernel
theorem dX0_oddsOf_7 : decode cX0_oddsOf 7 = .ok (.iload_n 2, 1) := by decide +kernel
theorem dX0_oddsOf_8 : decode cX0_oddsOf 8 = .ok (.ifCond .lt 31, 3) := by decide +kernel
theorem dX0_oddsOf_11 : decode cX0_oddsOf 11 = .ok (.iload_n 2, 1) := by decide +kernel
theorem dX0_oddsOf_12 : decode cX0_oddsOf 12 = .ok (.bipush 8, 2) := by decide +kernel
theorem dX0_oddsOf_14 : decode cX0_oddsOf 14 = .ok (.if_icmp .ge 25, 3) := by decide +kernel
theorem dX0_oddsOf_17 : decode cX0_oddsOf 17 = .ok (.iload_n 3, 1) := by decide +kernel
theorem dX0_oddsOf_18 : decode cX0_oddsOf 18 = .ok (.ifCond .lt 21, 3) := by decide +kernel
theorem dX0_oddsOf_21 : decode cX0_oddsOf 21 = .ok (.iload_n 3, 1) := by decide +kernel
theorem dX0_oddsOf_22 : decode cX0_oddsOf 22 = .ok (.aload_n 0, 1) := by decide +kernel
theorem dX0_oddsOf_23 : decode cX0_oddsOf 23 = .ok (.getfield 18, 3) := by decide +kernel
theorem dX0_oddsOf_26 : decode cX0_oddsOf 26 = .ok (.arraylength, 1) := by decide +kernel
theorem dX0_oddsOf_27 : decode cX0_oddsOf 27 = .ok (.if_icmp .ge 12, 3) := by decide +kernel
theorem dX0_oddsOf_30 : decode cX0_oddsOf 30 = .ok (.aload_n 0, 1) := by decide +kernel
theorem dX0_oddsOf_31 : decode cX0_oddsOf 31 = .ok (.getfield 18, 3) := by decide +kernel
theorem dX0_oddsOf_34 : decode cX0_oddsOf 34 = .ok (.iload_n 3, 1) := by decide +kernel
theorem dX0_oddsOf_35 : decode cX0_oddsOf 35 = .ok (.laload, 1) := by decide +kernel
theorem dX0_oddsOf_36 : decode cX0_oddsOf 36 = .ok (.goto 4, 3) := by decide +kernel
theorem dX0_oddsOf_39 : decode cX0_oddsOf 39 = .ok (.lconst 0, 1) := by decide +kernel
theorem dX0_oddsOf_40 : decode cX0_oddsOf 40 = .ok (.lreturn, 1) := by decide +kernel
theorem dX0_weigh_0 : decode cX0_weigh 0 = .ok (.iconst 0, 1) := by decide +kernel
theorem dX0_weigh_1 : decode cX0_weigh 1 = .ok (.istore_n 2, 1) := by decide +kernel
theorem dX0_weigh_2 : decode cX0_weigh 2 = .ok (.iload_n 2, 1) := by decide +kernel
theorem dX0_weigh_3 : decode cX0_weigh 3 = .ok (.aload_n 0, 1) := by decide +kernel
theorem dX0_weigh_4 : decode cX0_weigh 4 = .ok (.getfield 26, 3) := by decide +kernel
theorem dX0_weigh_7 : decode cX0_weigh 7 = .ok (.if_icmp .ge 30, 3) := by decide +kernel
theorem dX0_weigh_10 : decode cX0_weigh 10 = .ok (.aload_n 0, 1) := by decide +kernel
theorem dX0_weigh_11 : decode cX0_weigh 11 = .ok (.iconst 0, 1) := by decide +kernel
theorem dX0_weigh_12 : decode cX0_weigh 12 = .ok (.iload_n 2, 1) := by decide +kernel
theorem dX0_weigh_13 : decode cX0_weigh 13 = .ok (.aload_n 0, 1) := by decide +kernel
theorem dX0_weigh_14 : decode cX0_weigh 14 = .ok (.iload_n 2, 1) := by decide +kernel
theorem dX0_weigh_15 : decode cX0_weigh 15 = .ok (.invokevirtual 50, 3) := by decide +kernel
theorem dX0_weigh_18 : decode cX0_weigh 18 = .ok (.bipush 8, 2) := by decide +kernel
theorem dX0_weigh_20 : decode cX0_weigh 20 = .ok (.if_icmp .ne 7, 3) := by decide +kernel
theorem dX0_weigh_23 : decode cX0_weigh 23 = .ok (.lconst 0, 1) := by decide +kernel
theorem dX0_weigh_24 : decode cX0_weigh 24 = .ok (.goto 4, 3) := by decide +kernel
theorem dX0_weigh_27 : decode cX0_weigh 27 = .ok (.lconst 1, 1) := by decide +kernel
theorem dX0_weigh_28 : decode cX0_weigh 28 = .ok (.invokevirtual 88, 3) := by decide +kernel
theorem dX0_weigh_31 : decode cX0_weigh 31 = .ok (.iinc 2 1, 3) := by decide +kernel
theorem dX0_weigh_34 : decode cX0_weigh 34 = .ok (.goto (-32), 3) := by decide +kernel
theorem dX0_weigh_37 : decode cX0_weigh 37 = .ok (.iconst 0, 1) := by decide +kernel
theorem dX0_weigh_38 : decode cX0_weigh 38 = .ok (.istore_n 2, 1) := by decide +kernel
theorem dX0_weigh_39 : decode cX0_weigh 39 = .ok (.iconst 1, 1) := by decide +kernel
theorem dX0_weigh_40 : decode cX0_weigh 40 = .ok (.istore_n 3, 1) := by decide +kernel
theorem dX0_weigh_41 : decode cX0_weigh 41 = .ok (.iload_n 3, 1) := by decide +kernel
theorem dX0_weigh_42 : decode cX0_weigh 42 = .ok (.aload_n 0, 1) := by decide +kernel
theorem dX0_weigh_43 : decode cX0_weigh 43 = .ok (.invokevirtual 84, 3) := by decide +kernel
theorem dX0_weigh_46 : decode cX0_weigh 46 = .ok (.if_icmp .gt 48, 3) := by decide +kernel
theorem dX0_weigh_49 : decode cX0_weigh 49 = .ok (.iconst 1, 1) := by decide +kernel
theorem dX0_weigh_50 : decode cX0_weigh 50 = .ok (.iload_n 3, 1) := by decide +kernel
theorem dX0_weigh_51 : decode cX0_weigh 51 = .ok (.ishl, 1) := by decide +kernel
theorem dX0_weigh_52 : decode cX0_weigh 52 = .ok (.istore 4, 2) := by decide +kernel
theorem dX0_weigh_54 : decode cX0_weigh 54 = .ok (.iconst 0, 1) := by decide +kernel
theorem dX0_weigh_55 : decode cX0_weigh 55 = .ok (.istore 5, 2) := by decide +kernel
theorem dX0_weigh_57 : decode cX0_weigh 57 = .ok (.iload 5, 2) := by decide +kernel
theorem dX0_weigh_59 : decode cX0_weigh 59 = .ok (.aload_n 0, 1) := by decide +kernel
theorem dX0_weigh_60 : decode cX0_weigh 60 = .ok (.getfield 26, 3) := by decide +kernel
theorem dX0_weigh_63 : decode cX0_weigh 63 = .ok (.if_icmp .ge 25, 3) := by decide +kernel
theorem dX0_weigh_66 : decode cX0_weigh 66 = .ok (.aload_n 0, 1) := by decide +kernel
theorem dX0_weigh_67 : decode cX0_weigh 67 = .ok (.iload_n 2, 1) := by decide +kernel
theorem dX0_weigh_68 : decode cX0_weigh 68 = .ok (.iload_n 3, 1) := by decide +kernel
theorem dX0_weigh_69 : decode cX0_weigh 69 = .ok (.iload 5, 2) := by decide +kernel
theorem dX0_weigh_71 : decode cX0_weigh 71 = .ok (.aload_n 1, 1) := by decide +kernel
theorem dX0_weigh_72 : decode cX0_weigh 72 = .ok (.invokevirtual 92, 3) := by decide +kernel
theorem dX0_weigh_75 : decode cX0_weigh 75 = .ok (.iinc 2 1, 3) := by decide +kernel
theorem dX0_weigh_78 : decode cX0_weigh 78 = .ok (.iload 5, 2) := by decide +kernel
theorem dX0_weigh_80 : decode cX0_weigh 80 = .ok (.iload 4, 2) := by decide +kernel
theorem dX0_weigh_82 : decode cX0_weigh 82 = .ok (.iadd, 1) := by decide +kernel
theorem dX0_weigh_83 : decode cX0_weigh 83 = .ok (.istore 5, 2) := by decide +kernel
theorem dX0_weigh_85 : decode cX0_weigh 85 = .ok (.goto (-28), 3) := by decide +kernel
theorem dX0_weigh_88 : decode cX0_weigh 88 = .ok (.iinc 3 1, 3) := by decide +kernel
theorem dX0_weigh_91 : decode cX0_weigh 91 = .ok (.goto (-50), 3) := by decide +kernel
theorem dX0_weigh_94 : decode cX0_weigh 94 = .ok (.return_, 1) := by decide +kernel
theorem dX0_weighMatch_0 : decode cX0_weighMatch 0 = .ok (.aload_n 0, 1) := by decide +kernel
theorem dX0_weighMatch_1 : decode cX0_weighMatch 1 = .ok (.iload_n 1, 1) := by decide +kernel
theorem dX0_weighMatch_2 : decode cX0_weighMatch 2 = .ok (.invokevirtual 54, 3) := by decide +kernel
theorem dX0_weighMatch_5 : decode cX0_weighMatch 5 = .ok (.istore 5, 2) := by decide +kernel
theorem dX0_weighMatch_7 : decode cX0_weighMatch 7 = .ok (.iload_n 3, 1) := by decide +kernel
theorem dX0_weighMatch_8 : decode cX0_weighMatch 8 = .ok (.iconst 1, 1) := by decide +kernel
theorem dX0_weighMatch_9 : decode cX0_weighMatch 9 = .ok (.iload_n 2, 1) := by decide +kernel
theorem dX0_weighMatch_10 : decode cX0_weighMatch 10 = .ok (.iconst 1, 1) := by decide +kernel
theorem dX0_weighMatch_11 : decode cX0_weighMatch 11 = .ok (.isub, 1) := by decide +kernel
theorem dX0_weighMatch_12 : decode cX0_weighMatch 12 = .ok (.ishl, 1) := by decide +kernel
theorem dX0_weighMatch_13 : decode cX0_weighMatch 13 = .ok (.iadd, 1) := by decide +kernel
theorem dX0_weighMatch_14 : decode cX0_weighMatch 14 = .ok (.istore 6, 2) := by decide +kernel
theorem dX0_weighMatch_16 : decode cX0_weighMatch 16 = .ok (.iload_n 3, 1) := by decide +kernel
theorem dX0_weighMatch_17 : decode cX0_weighMatch 17 = .ok (.iconst 1, 1) := by decide +kernel
theorem dX0_weighMatch_18 : decode cX0_weighMatch 18 = .ok (.iload_n 2, 1) := by decide +kernel
theorem dX0_weighMatch_19 : decode cX0_weighMatch 19 = .ok (.ishl, 1) := by decide +kernel
theorem dX0_weighMatch_20 : decode cX0_weighMatch 20 = .ok (.iadd, 1) := by decide +kernel
theorem dX0_weighMatch_21 : decode cX0_weighMatch 21 = .ok (.istore 7, 2) := by decide +kernel
theorem dX0_weighMatch_23 : decode cX0_weighMatch 23 = .ok (.iload_n 3, 1) := by decide +kernel
theorem dX0_weighMatch_24 : decode cX0_weighMatch 24 = .ok (.istore 8, 2) := by decide +kernel
theorem dX0_weighMatch_26 : decode cX0_weighMatch 26 = .ok (.iload 8, 2) := by decide +kernel
theorem dX0_weighMatch_28 : decode cX0_weighMatch 28 = .ok (.iload 7, 2) := by decide +kernel
theorem dX0_weighMatch_30 : decode cX0_weighMatch 30 = .ok (.if_icmp .ge 94, 3) := by decide +kernel
theorem dX0_weighMatch_33 : decode cX0_weighMatch 33 = .ok (.iload 5, 2) := by decide +kernel
theorem dX0_weighMatch_35 : decode cX0_weighMatch 35 = .ok (.bipush 8, 2) := by decide +kernel
theorem dX0_weighMatch_37 : decode cX0_weighMatch 37 = .ok (.if_icmp .eq 32, 3) := by decide +kernel
theorem dX0_weighMatch_40 : decode cX0_weighMatch 40 = .ok (.aload_n 0, 1) := by decide +kernel
theorem dX0_weighMatch_41 : decode cX0_weighMatch 41 = .ok (.iload_n 2, 1) := by decide +kernel
theorem dX0_weighMatch_42 : decode cX0_weighMatch 42 = .ok (.iload 8, 2) := by decide +kernel
theorem dX0_weighMatch_44 : decode cX0_weighMatch 44 = .ok (.aload_n 0, 1) := by decide +kernel
theorem dX0_weighMatch_45 : decode cX0_weighMatch 45 = .ok (.iload 8, 2) := by decide +kernel
theorem dX0_weighMatch_47 : decode cX0_weighMatch 47 = .ok (.invokevirtual 50, 3) := by decide +kernel
theorem dX0_weighMatch_50 : decode cX0_weighMatch 50 = .ok (.iload 5, 2) := by decide +kernel
theorem dX0_weighMatch_52 : decode cX0_weighMatch 52 = .ok (.if_icmp .ne 10, 3) := by decide +kernel
theorem dX0_weighMatch_55 : decode cX0_weighMatch 55 = .ok (.iload_n 2, 1) := by decide +kernel
theorem dX0_weighMatch_56 : decode cX0_weighMatch 56 = .ok (.invokestatic 96, 3) := by decide +kernel
theorem dX0_weighMatch_59 : decode cX0_weighMatch 59 = .ok (.goto 4, 3) := by decide +kernel
theorem dX0_weighMatch_62 : decode cX0_weighMatch 62 = .ok (.lconst 0, 1) := by decide +kernel
theorem dX0_weighMatch_63 : decode cX0_weighMatch 63 = .ok (.invokevirtual 88, 3) := by decide +kernel
theorem dX0_weighMatch_66 : decode cX0_weighMatch 66 = .ok (.goto 52, 3) := by decide +kernel
theorem dX0_weighMatch_69 : decode cX0_weighMatch 69 = .ok (.iload 8, 2) := by decide +kernel
theorem dX0_weighMatch_71 : decode cX0_weighMatch 71 = .ok (.iload 6, 2) := by decide +kernel
theorem dX0_weighMatch_73 : decode cX0_weighMatch 73 = .ok (.if_icmp .ge 26, 3) := by decide +kernel
theorem dX0_weighMatch_76 : decode cX0_weighMatch 76 = .ok (.aload_n 0, 1) := by decide +kernel
theorem dX0_weighMatch_77 : decode cX0_weighMatch 77 = .ok (.iload_n 2, 1) := by decide +kernel
theorem dX0_weighMatch_78 : decode cX0_weighMatch 78 = .ok (.iload 8, 2) := by decide +kernel
theorem dX0_weighMatch_80 : decode cX0_weighMatch 80 = .ok (.aload_n 0, 1) := by decide +kernel
theorem dX0_weighMatch_81 : decode cX0_weighMatch 81 = .ok (.iload_n 2, 1) := by decide +kernel
theorem dX0_weighMatch_82 : decode cX0_weighMatch 82 = .ok (.iload 8, 2) := by decide +kernel
theorem dX0_weighMatch_84 : decode cX0_weighMatch 84 = .ok (.iload 6, 2) := by decide +kernel
theorem dX0_weighMatch_86 : decode cX0_weighMatch 86 = .ok (.iload 7, 2) := by decide +kernel
theorem dX0_weighMatch_88 : decode cX0_weighMatch 88 = .ok (.aload 4, 2) := by decide +kernel
theorem dX0_weighMatch_90 : decode cX0_weighMatch 90 = .ok (.invokevirtual 100, 3) := by decide +kernel
theorem dX0_weighMatch_93 : decode cX0_weighMatch 93 = .ok (.invokevirtual 88, 3) := by decide +kernel
theorem dX0_weighMatch_96 : decode cX0_weighMatch 96 = .ok (.goto 22, 3) := by decide +kernel
theorem dX0_weighMatch_99 : decode cX0_weighMatch 99 = .ok (.aload_n 0, 1) := by decide +kernel
theorem dX0_weighMatch_100 : decode cX0_weighMatch 100 = .ok (.iload_n 2, 1) := by decide +kernel
theorem dX0_weighMatch_101 : decode cX0_weighMatch 101 = .ok (.iload 8, 2) := by decide +kernel
theorem dX0_weighMatch_103 : decode cX0_weighMatch 103 = .ok (.aload_n 0, 1) := by decide +kernel
theorem dX0_weighMatch_104 : decode cX0_weighMatch 104 = .ok (.iload_n 2, 1) := by decide +kernel
theorem dX0_weighMatch_105 : decode cX0_weighMatch 105 = .ok (.iload 8, 2) := by decide +kernel
theorem dX0_weighMatch_107 : decode cX0_weighMatch 107 = .ok (.iload_n 3, 1) := by decide +kernel
theorem dX0_weighMatch_108 : decode cX0_weighMatch 108 = .ok (.iload 6, 2) := by decide +kernel
theorem dX0_weighMatch_110 : decode cX0_weighMatch 110 = .ok (.aload 4, 2) := by decide +kernel
theorem dX0_weighMatch_112 : decode cX0_weighMatch 112 = .ok (.invokevirtual 100, 3) := by decide +kernel
theorem dX0_weighMatch_115 : decode cX0_weighMatch 115 = .ok (.invokevirtual 88, 3) := by decide +kernel
theorem dX0_weighMatch_118 : decode cX0_weighMatch 118 = .ok (.iinc 8 1, 3) := by decide +kernel
theorem dX0_weighMatch_121 : decode cX0_weighMatch 121 = .ok (.goto (-95), 3) := by decide +kernel
theorem dX0_weighMatch_124 : decode cX0_weighMatch 124 = .ok (.return_, 1) := by decide +kernel
theorem dX0_oddsAgainst_0 : decode cX0_oddsAgainst 0 = .ok (.aload_n 0, 1) := by decide +kernel
theorem dX0_oddsAgainst_1 : decode cX0_oddsAgainst 1 = .ok (.iload_n 1, 1) := by decide +kernel
theorem dX0_oddsAgainst_2 : decode cX0_oddsAgainst 2 = .ok (.iconst 1, 1) := by decide +kernel
theorem dX0_oddsAgainst_3 : decode cX0_oddsAgainst 3 = .ok (.isub, 1) := by decide +kernel
theorem dX0_oddsAgainst_4 : decode cX0_oddsAgainst 4 = .ok (.iload_n 2, 1) := by decide +kernel
theorem dX0_oddsAgainst_5 : decode cX0_oddsAgainst 5 = .ok (.invokevirtual 76, 3) := by decide +kernel
theorem dX0_oddsAgainst_8 : decode cX0_oddsAgainst 8 = .ok (.lstore 6, 2) := by decide +kernel
theorem dX0_oddsAgainst_10 : decode cX0_oddsAgainst 10 = .ok (.lload 6, 2) := by decide +kernel
theorem dX0_oddsAgainst_12 : decode cX0_oddsAgainst 12 = .ok (.lconst 0, 1) := by decide +kernel
theorem dX0_oddsAgainst_13 : decode cX0_oddsAgainst 13 = .ok (.lcmp, 1) := by decide +kernel
theorem dX0_oddsAgainst_14 : decode cX0_oddsAgainst 14 = .ok (.ifCond .ne 5, 3) := by decide +kernel
theorem dX0_oddsAgainst_17 : decode cX0_oddsAgainst 17 = .ok (.lconst 0, 1) := by decide +kernel
theorem dX0_oddsAgainst_18 : decode cX0_oddsAgainst 18 = .ok (.lreturn, 1) := by decide +kernel
theorem dX0_oddsAgainst_19 : decode cX0_oddsAgainst 19 = .ok (.aload_n 0, 1) := by decide +kernel
theorem dX0_oddsAgainst_20 : decode cX0_oddsAgainst 20 = .ok (.iload_n 3, 1) := by decide +kernel
theorem dX0_oddsAgainst_21 : decode cX0_oddsAgainst 21 = .ok (.iload 4, 2) := by decide +kernel
theorem dX0_oddsAgainst_23 : decode cX0_oddsAgainst 23 = .ok (.invokevirtual 67, 3) := by decide +kernel
theorem dX0_oddsAgainst_26 : decode cX0_oddsAgainst 26 = .ok (.ifCond .ne 17, 3) := by decide +kernel
theorem dX0_oddsAgainst_29 : decode cX0_oddsAgainst 29 = .ok (.lload 6, 2) := by decide +kernel
theorem dX0_oddsAgainst_31 : decode cX0_oddsAgainst 31 = .ok (.iload_n 1, 1) := by decide +kernel
theorem dX0_oddsAgainst_32 : decode cX0_oddsAgainst 32 = .ok (.iconst 1, 1) := by decide +kernel
theorem dX0_oddsAgainst_33 : decode cX0_oddsAgainst 33 = .ok (.isub, 1) := by decide +kernel
theorem dX0_oddsAgainst_34 : decode cX0_oddsAgainst 34 = .ok (.invokestatic 96, 3) := by decide +kernel
theorem dX0_oddsAgainst_37 : decode cX0_oddsAgainst 37 = .ok (.lmul, 1) := by decide +kernel
theorem dX0_oddsAgainst_38 : decode cX0_oddsAgainst 38 = .ok (.ldc2_w 104, 3) := by decide +kernel
theorem dX0_oddsAgainst_41 : decode cX0_oddsAgainst 41 = .ok (.lmul, 1) := by decide +kernel
theorem dX0_oddsAgainst_42 : decode cX0_oddsAgainst 42 = .ok (.lreturn, 1) := by decide +kernel
theorem dX0_oddsAgainst_43 : decode cX0_oddsAgainst 43 = .ok (.lconst 0, 1) := by decide +kernel
theorem dX0_oddsAgainst_44 : decode cX0_oddsAgainst 44 = .ok (.lstore 8, 2) := by decide +kernel
theorem dX0_oddsAgainst_46 : decode cX0_oddsAgainst 46 = .ok (.iload_n 3, 1) := by decide +kernel
theorem dX0_oddsAgainst_47 : decode cX0_oddsAgainst 47 = .ok (.istore 10, 2) := by decide +kernel
theorem dX0_oddsAgainst_49 : decode cX0_oddsAgainst 49 = .ok (.iload 10, 2) := by decide +kernel
theorem dX0_oddsAgainst_51 : decode cX0_oddsAgainst 51 = .ok (.iload 4, 2) := by decide +kernel
theorem dX0_oddsAgainst_53 : decode cX0_oddsAgainst 53 = .ok (.if_icmp .ge 41, 3) := by decide +kernel
theorem dX0_oddsAgainst_56 : decode cX0_oddsAgainst 56 = .ok (.lload 8, 2) := by decide +kernel
theorem dX0_oddsAgainst_58 : decode cX0_oddsAgainst 58 = .ok (.aload_n 0, 1) := by decide +kernel
theorem dX0_oddsAgainst_59 : decode cX0_oddsAgainst 59 = .ok (.iload_n 1, 1) := by decide +kernel
theorem dX0_oddsAgainst_60 : decode cX0_oddsAgainst 60 = .ok (.iconst 1, 1) := by decide +kernel
theorem dX0_oddsAgainst_61 : decode cX0_oddsAgainst 61 = .ok (.isub, 1) := by decide +kernel
theorem dX0_oddsAgainst_62 : decode cX0_oddsAgainst 62 = .ok (.iload 10, 2) := by decide +kernel
theorem dX0_oddsAgainst_64 : decode cX0_oddsAgainst 64 = .ok (.invokevirtual 76, 3) := by decide +kernel
theorem dX0_oddsAgainst_67 : decode cX0_oddsAgainst 67 = .ok (.aload 5, 2) := by decide +kernel
theorem dX0_oddsAgainst_69 : decode cX0_oddsAgainst 69 = .ok (.aload_n 0, 1) := by decide +kernel
theorem dX0_oddsAgainst_70 : decode cX0_oddsAgainst 70 = .ok (.iload_n 2, 1) := by decide +kernel
theorem dX0_oddsAgainst_71 : decode cX0_oddsAgainst 71 = .ok (.invokevirtual 50, 3) := by decide +kernel
theorem dX0_oddsAgainst_74 : decode cX0_oddsAgainst 74 = .ok (.aload_n 0, 1) := by decide +kernel
theorem dX0_oddsAgainst_75 : decode cX0_oddsAgainst 75 = .ok (.iload 10, 2) := by decide +kernel
theorem dX0_oddsAgainst_77 : decode cX0_oddsAgainst 77 = .ok (.invokevirtual 50, 3) := by decide +kernel
theorem dX0_oddsAgainst_80 : decode cX0_oddsAgainst 80 = .ok (.invokevirtual 106, 3) := by decide +kernel
theorem dX0_oddsAgainst_83 : decode cX0_oddsAgainst 83 = .ok (.i2l, 1) := by decide +kernel
theorem dX0_oddsAgainst_84 : decode cX0_oddsAgainst 84 = .ok (.lmul, 1) := by decide +kernel
theorem dX0_oddsAgainst_85 : decode cX0_oddsAgainst 85 = .ok (.ladd, 1) := by decide +kernel
theorem dX0_oddsAgainst_86 : decode cX0_oddsAgainst 86 = .ok (.lstore 8, 2) := by decide +kernel
theorem dX0_oddsAgainst_88 : decode cX0_oddsAgainst 88 = .ok (.iinc 10 1, 3) := by decide +kernel
theorem dX0_oddsAgainst_91 : decode cX0_oddsAgainst 91 = .ok (.goto (-42), 3) := by decide +kernel
theorem dX0_oddsAgainst_94 : decode cX0_oddsAgainst 94 = .ok (.lload 6, 2) := by decide +kernel
theorem dX0_oddsAgainst_96 : decode cX0_oddsAgainst 96 = .ok (.lload 8, 2) := by decide +kernel
theorem dX0_oddsAgainst_98 : decode cX0_oddsAgainst 98 = .ok (.lmul, 1) := by decide +kernel
theorem dX0_oddsAgainst_99 : decode cX0_oddsAgainst 99 = .ok (.lreturn, 1) := by decide +kernel
theorem dX0_setOdds_0 : decode cX0_setOdds 0 = .ok (.iload_n 1, 1) := by decide +kernel
theorem dX0_setOdds_1 : decode cX0_setOdds 1 = .ok (.bipush 8, 2) := by decide +kernel
theorem dX0_setOdds_3 : decode cX0_setOdds 3 = .ok (.imul, 1) := by decide +kernel
theorem dX0_setOdds_4 : decode cX0_setOdds 4 = .ok (.iload_n 2, 1) := by decide +kernel
theorem dX0_setOdds_5 : decode cX0_setOdds 5 = .ok (.iadd, 1) := by decide +kernel
theorem dX0_setOdds_6 : decode cX0_setOdds 6 = .ok (.istore 5, 2) := by decide +kernel
theorem dX0_setOdds_8 : decode cX0_setOdds 8 = .ok (.iload_n 2, 1) := by decide +kernel
theorem dX0_setOdds_9 : decode cX0_setOdds 9 = .ok (.ifCond .lt 32, 3) := by decide +kernel
theorem dX0_setOdds_12 : decode cX0_setOdds 12 = .ok (.iload_n 2, 1) := by decide +kernel
theorem dX0_setOdds_13 : decode cX0_setOdds 13 = .ok (.bipush 8, 2) := by decide +kernel
theorem dX0_setOdds_15 : decode cX0_setOdds 15 = .ok (.if_icmp .ge 26, 3) := by decide +kernel
theorem dX0_setOdds_18 : decode cX0_setOdds 18 = .ok (.iload 5, 2) := by decide +kernel
theorem dX0_setOdds_20 : decode cX0_setOdds 20 = .ok (.ifCond .lt 21, 3) := by decide +kernel
theorem dX0_setOdds_23 : decode cX0_setOdds 23 = .ok (.iload 5, 2) := by decide +kernel
theorem dX0_setOdds_25 : decode cX0_setOdds 25 = .ok (.aload_n 0, 1) := by decide +kernel
theorem dX0_setOdds_26 : decode cX0_setOdds 26 = .ok (.getfield 18, 3) := by decide +kernel
theorem dX0_setOdds_29 : decode cX0_setOdds 29 = .ok (.arraylength, 1) := by decide +kernel
theorem dX0_setOdds_30 : decode cX0_setOdds 30 = .ok (.if_icmp .ge 11, 3) := by decide +kernel
theorem dX0_setOdds_33 : decode cX0_setOdds 33 = .ok (.aload_n 0, 1) := by decide +kernel
theorem dX0_setOdds_34 : decode cX0_setOdds 34 = .ok (.getfield 18, 3) := by decide +kernel
theorem dX0_setOdds_37 : decode cX0_setOdds 37 = .ok (.iload 5, 2) := by decide +kernel
theorem dX0_setOdds_39 : decode cX0_setOdds 39 = .ok (.lload_n 3, 1) := by decide +kernel
theorem dX0_setOdds_40 : decode cX0_setOdds 40 = .ok (.lastore, 1) := by decide +kernel
theorem dX0_setOdds_41 : decode cX0_setOdds 41 = .ok (.return_, 1) := by decide +kernel
theorem dX0_isSettled_0 : decode cX0_isSettled 0 = .ok (.iload_n 1, 1) := by decide +kernel
theorem dX0_isSettled_1 : decode cX0_isSettled 1 = .ok (.ifCond .ge 5, 3) := by decide +kernel
theorem dX0_isSettled_4 : decode cX0_isSettled 4 = .ok (.iconst 1, 1) := by decide +kernel
theorem dX0_isSettled_5 : decode cX0_isSettled 5 = .ok (.ireturn, 1) := by decide +kernel
theorem dX0_isSettled_6 : decode cX0_isSettled 6 = .ok (.aload_n 0, 1) := by decide +kernel
theorem dX0_isSettled_7 : decode cX0_isSettled 7 = .ok (.iload_n 1, 1) := by decide +kernel
theorem dX0_isSettled_8 : decode cX0_isSettled 8 = .ok (.invokevirtual 70, 3) := by decide +kernel
theorem dX0_isSettled_11 : decode cX0_isSettled 11 = .ok (.istore_n 2, 1) := by decide +kernel
theorem dX0_isSettled_12 : decode cX0_isSettled 12 = .ok (.iload_n 2, 1) := by decide +kernel
theorem dX0_isSettled_13 : decode cX0_isSettled 13 = .ok (.iconst 1, 1) := by decide +kernel
theorem dX0_isSettled_14 : decode cX0_isSettled 14 = .ok (.if_icmp .ne 20, 3) := by decide +kernel
theorem dX0_isSettled_17 : decode cX0_isSettled 17 = .ok (.aload_n 0, 1) := by decide +kernel
theorem dX0_isSettled_18 : decode cX0_isSettled 18 = .ok (.iload_n 1, 1) := by decide +kernel
theorem dX0_isSettled_19 : decode cX0_isSettled 19 = .ok (.invokevirtual 111, 3) := by decide +kernel
theorem dX0_isSettled_22 : decode cX0_isSettled 22 = .ok (.iconst 1, 1) := by decide +kernel
theorem dX0_isSettled_23 : decode cX0_isSettled 23 = .ok (.if_icmp .ne 7, 3) := by decide +kernel
theorem dX0_isSettled_26 : decode cX0_isSettled 26 = .ok (.iconst 1, 1) := by decide +kernel
theorem dX0_isSettled_27 : decode cX0_isSettled 27 = .ok (.goto 17, 3) := by decide +kernel
theorem dX0_isSettled_30 : decode cX0_isSettled 30 = .ok (.iconst 0, 1) := by decide +kernel
theorem dX0_isSettled_31 : decode cX0_isSettled 31 = .ok (.goto 13, 3) := by decide +kernel
theorem dX0_isSettled_34 : decode cX0_isSettled 34 = .ok (.iload_n 2, 1) := by decide +kernel
theorem dX0_isSettled_35 : decode cX0_isSettled 35 = .ok (.iconst 2, 1) := by decide +kernel
theorem dX0_isSettled_36 : decode cX0_isSettled 36 = .ok (.if_icmp .eq 7, 3) := by decide +kernel
theorem dX0_isSettled_39 : decode cX0_isSettled 39 = .ok (.iconst 1, 1) := by decide +kernel
theorem dX0_isSettled_40 : decode cX0_isSettled 40 = .ok (.goto 4, 3) := by decide +kernel
theorem dX0_isSettled_43 : decode cX0_isSettled 43 = .ok (.iconst 0, 1) := by decide +kernel
theorem dX0_isSettled_44 : decode cX0_isSettled 44 = .ok (.ireturn, 1) := by decide +kernel
theorem dX0_firstMatch_0 : decode cX0_firstMatch 0 = .ok (.aload_n 0, 1) := by decide +kernel
theorem dX0_firstMatch_1 : decode cX0_firstMatch 1 = .ok (.getfield 26, 3) := by decide +kernel
theorem dX0_firstMatch_4 : decode cX0_firstMatch 4 = .ok (.aload_n 0, 1) := by decide +kernel
theorem dX0_firstMatch_5 : decode cX0_firstMatch 5 = .ok (.getfield 26, 3) := by decide +kernel
theorem dX0_firstMatch_8 : decode cX0_firstMatch 8 = .ok (.iload_n 1, 1) := by decide +kernel
theorem dX0_firstMatch_9 : decode cX0_firstMatch 9 = .ok (.iconst 1, 1) := by decide +kernel
theorem dX0_firstMatch_10 : decode cX0_firstMatch 10 = .ok (.isub, 1) := by decide +kernel
theorem dX0_firstMatch_11 : decode cX0_firstMatch 11 = .ok (.ishr, 1) := by decide +kernel
theorem dX0_firstMatch_12 : decode cX0_firstMatch 12 = .ok (.isub, 1) := by decide +kernel
theorem dX0_firstMatch_13 : decode cX0_firstMatch 13 = .ok (.ireturn, 1) := by decide +kernel
theorem dX0_firstPlace_0 : decode cX0_firstPlace 0 = .ok (.iload_n 1, 1) := by decide +kernel
theorem dX0_firstPlace_1 : decode cX0_firstPlace 1 = .ok (.aload_n 0, 1) := by decide +kernel
theorem dX0_firstPlace_2 : decode cX0_firstPlace 2 = .ok (.iload_n 2, 1) := by decide +kernel
theorem dX0_firstPlace_3 : decode cX0_firstPlace 3 = .ok (.invokevirtual 57, 3) := by decide +kernel
theorem dX0_firstPlace_6 : decode cX0_firstPlace 6 = .ok (.isub, 1) := by decide +kernel
theorem dX0_firstPlace_7 : decode cX0_firstPlace 7 = .ok (.iload_n 2, 1) := by decide +kernel
theorem dX0_firstPlace_8 : decode cX0_firstPlace 8 = .ok (.ishl, 1) := by decide +kernel
theorem dX0_firstPlace_9 : decode cX0_firstPlace 9 = .ok (.ireturn, 1) := by decide +kernel
theorem dX1_init_0 : decode cX1_init 0 = .ok (.aload_n 0, 1) := by decide +kernel
theorem dX1_init_1 : decode cX1_init 1 = .ok (.invokespecial 3, 3) := by decide +kernel
theorem dX1_init_4 : decode cX1_init 4 = .ok (.aload_n 0, 1) := by decide +kernel
theorem dX1_init_5 : decode cX1_init 5 = .ok (.bipush 8, 2) := by decide +kernel
theorem dX1_init_7 : decode cX1_init 7 = .ok (.newarray .int, 2) := by decide +kernel
theorem dX1_init_9 : decode cX1_init 9 = .ok (.putfield 9, 3) := by decide +kernel
theorem dX1_init_12 : decode cX1_init 12 = .ok (.aload_n 0, 1) := by decide +kernel
theorem dX1_init_13 : decode cX1_init 13 = .ok (.sipush 2520, 3) := by decide +kernel
theorem dX1_init_16 : decode cX1_init 16 = .ok (.newarray .int, 2) := by decide +kernel
theorem dX1_init_18 : decode cX1_init 18 = .ok (.putfield 15, 3) := by decide +kernel
theorem dX1_init_21 : decode cX1_init 21 = .ok (.aload_n 0, 1) := by decide +kernel
theorem dX1_init_22 : decode cX1_init 22 = .ok (.sipush 2520, 3) := by decide +kernel
theorem dX1_init_25 : decode cX1_init 25 = .ok (.newarray .long, 2) := by decide +kernel
theorem dX1_init_27 : decode cX1_init 27 = .ok (.putfield 18, 3) := by decide +kernel
theorem dX1_init_30 : decode cX1_init 30 = .ok (.return_, 1) := by decide +kernel
theorem dX1_has_0 : decode cX1_has 0 = .ok (.iload_n 1, 1) := by decide +kernel
theorem dX1_has_1 : decode cX1_has 1 = .ok (.ifCond .lt 15, 3) := by decide +kernel
theorem dX1_has_4 : decode cX1_has 4 = .ok (.iload_n 1, 1) := by decide +kernel
theorem dX1_has_5 : decode cX1_has 5 = .ok (.aload_n 0, 1) := by decide +kernel
theorem dX1_has_6 : decode cX1_has 6 = .ok (.getfield 22, 3) := by decide +kernel
theorem dX1_has_9 : decode cX1_has 9 = .ok (.if_icmp .ge 7, 3) := by decide +kernel
theorem dX1_has_12 : decode cX1_has 12 = .ok (.iconst 1, 1) := by decide +kernel
theorem dX1_has_13 : decode cX1_has 13 = .ok (.goto 4, 3) := by decide +kernel
theorem dX1_has_16 : decode cX1_has 16 = .ok (.iconst 0, 1) := by decide +kernel
theorem dX1_has_17 : decode cX1_has 17 = .ok (.ireturn, 1) := by decide +kernel
theorem dX1_playerAt_0 : decode cX1_playerAt 0 = .ok (.iload_n 1, 1) := by decide +kernel
theorem dX1_playerAt_1 : decode cX1_playerAt 1 = .ok (.bipush 8, 2) := by decide +kernel
theorem dX1_playerAt_3 : decode cX1_playerAt 3 = .ok (.imul, 1) := by decide +kernel
theorem dX1_playerAt_4 : decode cX1_playerAt 4 = .ok (.iload_n 2, 1) := by decide +kernel
theorem dX1_playerAt_5 : decode cX1_playerAt 5 = .ok (.iadd, 1) := by decide +kernel
theorem dX1_playerAt_6 : decode cX1_playerAt 6 = .ok (.istore_n 3, 1) := by decide +kernel
theorem dX1_playerAt_7 : decode cX1_playerAt 7 = .ok (.aload_n 0, 1) := by decide +kernel
theorem dX1_playerAt_8 : decode cX1_playerAt 8 = .ok (.iload_n 1, 1) := by decide +kernel
theorem dX1_playerAt_9 : decode cX1_playerAt 9 = .ok (.invokevirtual 26, 3) := by decide +kernel
theorem dX1_playerAt_12 : decode cX1_playerAt 12 = .ok (.ifCond .eq 31, 3) := by decide +kernel
theorem dX1_playerAt_15 : decode cX1_playerAt 15 = .ok (.iload_n 2, 1) := by decide +kernel
theorem dX1_playerAt_16 : decode cX1_playerAt 16 = .ok (.ifCond .lt 27, 3) := by decide +kernel
theorem dX1_playerAt_19 : decode cX1_playerAt 19 = .ok (.iload_n 2, 1) := by decide +kernel
theorem dX1_playerAt_20 : decode cX1_playerAt 20 = .ok (.bipush 8, 2) := by decide +kernel
theorem dX1_playerAt_22 : decode cX1_playerAt 22 = .ok (.if_icmp .ge 21, 3) := by decide +kernel
theorem dX1_playerAt_25 : decode cX1_playerAt 25 = .ok (.iload_n 3, 1) := by decide +kernel
theorem dX1_playerAt_26 : decode cX1_playerAt 26 = .ok (.aload_n 0, 1) := by decide +kernel
theorem dX1_playerAt_27 : decode cX1_playerAt 27 = .ok (.getfield 15, 3) := by decide +kernel
theorem dX1_playerAt_30 : decode cX1_playerAt 30 = .ok (.arraylength, 1) := by decide +kernel
theorem dX1_playerAt_31 : decode cX1_playerAt 31 = .ok (.if_icmp .ge 12, 3) := by decide +kernel
theorem dX1_playerAt_34 : decode cX1_playerAt 34 = .ok (.aload_n 0, 1) := by decide +kernel
theorem dX1_playerAt_35 : decode cX1_playerAt 35 = .ok (.getfield 15, 3) := by decide +kernel
theorem dX1_playerAt_38 : decode cX1_playerAt 38 = .ok (.iload_n 3, 1) := by decide +kernel
theorem dX1_playerAt_39 : decode cX1_playerAt 39 = .ok (.iaload, 1) := by decide +kernel
theorem dX1_playerAt_40 : decode cX1_playerAt 40 = .ok (.goto 5, 3) := by decide +kernel
theorem dX1_playerAt_43 : decode cX1_playerAt 43 = .ok (.bipush 8, 2) := by decide +kernel
theorem dX1_playerAt_45 : decode cX1_playerAt 45 = .ok (.ireturn, 1) := by decide +kernel
theorem dX1_placeOf_0 : decode cX1_placeOf 0 = .ok (.iconst 0, 1) := by decide +kernel
theorem dX1_placeOf_1 : decode cX1_placeOf 1 = .ok (.istore_n 3, 1) := by decide +kernel
theorem dX1_placeOf_2 : decode cX1_placeOf 2 = .ok (.iload_n 3, 1) := by decide +kernel
theorem dX1_placeOf_3 : decode cX1_placeOf 3 = .ok (.bipush 8, 2) := by decide +kernel
theorem dX1_placeOf_5 : decode cX1_placeOf 5 = .ok (.if_icmp .ge 21, 3) := by decide +kernel
theorem dX1_placeOf_8 : decode cX1_placeOf 8 = .ok (.aload_n 0, 1) := by decide +kernel
theorem dX1_placeOf_9 : decode cX1_placeOf 9 = .ok (.iload_n 1, 1) := by decide +kernel
theorem dX1_placeOf_10 : decode cX1_placeOf 10 = .ok (.iload_n 3, 1) := by decide +kernel
theorem dX1_placeOf_11 : decode cX1_placeOf 11 = .ok (.invokevirtual 30, 3) := by decide +kernel
theorem dX1_placeOf_14 : decode cX1_placeOf 14 = .ok (.iload_n 2, 1) := by decide +kernel
theorem dX1_placeOf_15 : decode cX1_placeOf 15 = .ok (.if_icmp .ne 5, 3) := by decide +kernel
theorem dX1_placeOf_18 : decode cX1_placeOf 18 = .ok (.iload_n 3, 1) := by decide +kernel
theorem dX1_placeOf_19 : decode cX1_placeOf 19 = .ok (.ireturn, 1) := by decide +kernel
theorem dX1_placeOf_20 : decode cX1_placeOf 20 = .ok (.iinc 3 1, 3) := by decide +kernel
theorem dX1_placeOf_23 : decode cX1_placeOf 23 = .ok (.goto (-21), 3) := by decide +kernel
theorem dX1_placeOf_26 : decode cX1_placeOf 26 = .ok (.iconst (-1), 1) := by decide +kernel
theorem dX1_placeOf_27 : decode cX1_placeOf 27 = .ok (.ireturn, 1) := by decide +kernel
theorem dX1_oddsOf_0 : decode cX1_oddsOf 0 = .ok (.iload_n 1, 1) := by decide +kernel
theorem dX1_oddsOf_1 : decode cX1_oddsOf 1 = .ok (.bipush 8, 2) := by decide +kernel
theorem dX1_oddsOf_3 : decode cX1_oddsOf 3 = .ok (.imul, 1) := by decide +kernel
theorem dX1_oddsOf_4 : decode cX1_oddsOf 4 = .ok (.iload_n 2, 1) := by decide +kernel
theorem dX1_oddsOf_5 : decode cX1_oddsOf 5 = .ok (.iadd, 1) := by decide +kernel
theorem dX1_oddsOf_6 : decode cX1_oddsOf 6 = .ok (.istore_n 3, 1) := by decide +kernel
theorem dX1_oddsOf_7 : decode cX1_oddsOf 7 = .ok (.aload_n 0, 1) := by decide +kernel
theorem dX1_oddsOf_8 : decode cX1_oddsOf 8 = .ok (.iload_n 1, 1) := by decide +kernel
theorem dX1_oddsOf_9 : decode cX1_oddsOf 9 = .ok (.invokevirtual 26, 3) := by decide +kernel
theorem dX1_oddsOf_12 : decode cX1_oddsOf 12 = .ok (.ifCond .eq 31, 3) := by decide +kernel
theorem dX1_oddsOf_15 : decode cX1_oddsOf 15 = .ok (.iload_n 2, 1) := by decide +kernel
theorem dX1_oddsOf_16 : decode cX1_oddsOf 16 = .ok (.ifCond .lt 27, 3) := by decide +kernel
theorem dX1_oddsOf_19 : decode cX1_oddsOf 19 = .ok (.iload_n 2, 1) := by decide +kernel
theorem dX1_oddsOf_20 : decode cX1_oddsOf 20 = .ok (.bipush 8, 2) := by decide +kernel
theorem dX1_oddsOf_22 : decode cX1_oddsOf 22 = .ok (.if_icmp .ge 21, 3) := by decide +kernel
theorem dX1_oddsOf_25 : decode cX1_oddsOf 25 = .ok (.iload_n 3, 1) := by decide +kernel
theorem dX1_oddsOf_26 : decode cX1_oddsOf 26 = .ok (.aload_n 0, 1) := by decide +kernel
theorem dX1_oddsOf_27 : decode cX1_oddsOf 27 = .ok (.getfield 18, 3) := by decide +kernel
theorem dX1_oddsOf_30 : decode cX1_oddsOf 30 = .ok (.arraylength, 1) := by decide +kernel
theorem dX1_oddsOf_31 : decode cX1_oddsOf 31 = .ok (.if_icmp .ge 12, 3) := by decide +kernel
theorem dX1_oddsOf_34 : decode cX1_oddsOf 34 = .ok (.aload_n 0, 1) := by decide +kernel
theorem dX1_oddsOf_35 : decode cX1_oddsOf 35 = .ok (.getfield 18, 3) := by decide +kernel
theorem dX1_oddsOf_38 : decode cX1_oddsOf 38 = .ok (.iload_n 3, 1) := by decide +kernel
theorem dX1_oddsOf_39 : decode cX1_oddsOf 39 = .ok (.laload, 1) := by decide +kernel
theorem dX1_oddsOf_40 : decode cX1_oddsOf 40 = .ok (.goto 4, 3) := by decide +kernel
theorem dX1_oddsOf_43 : decode cX1_oddsOf 43 = .ok (.lconst 0, 1) := by decide +kernel
theorem dX1_oddsOf_44 : decode cX1_oddsOf 44 = .ok (.lreturn, 1) := by decide +kernel
theorem dX1_make_0 : decode cX1_make 0 = .ok (.aload_n 0, 1) := by decide +kernel
theorem dX1_make_1 : decode cX1_make 1 = .ok (.iconst 0, 1) := by decide +kernel
theorem dX1_make_2 : decode cX1_make 2 = .ok (.putfield 22, 3) := by decide +kernel
theorem dX1_make_5 : decode cX1_make 5 = .ok (.aload_n 0, 1) := by decide +kernel
theorem dX1_make_6 : decode cX1_make 6 = .ok (.getfield 9, 3) := by decide +kernel
theorem dX1_make_9 : decode cX1_make 9 = .ok (.bipush 8, 2) := by decide +kernel
theorem dX1_make_11 : decode cX1_make 11 = .ok (.invokestatic 34, 3) := by decide +kernel
theorem dX1_make_14 : decode cX1_make 14 = .ok (.aload_n 1, 1) := by decide +kernel
theorem dX1_make_15 : decode cX1_make 15 = .ok (.getfield 40, 3) := by decide +kernel
theorem dX1_make_18 : decode cX1_make 18 = .ok (.iload_n 2, 1) := by decide +kernel
theorem dX1_make_19 : decode cX1_make 19 = .ok (.if_icmp .gt 17, 3) := by decide +kernel
theorem dX1_make_22 : decode cX1_make 22 = .ok (.iload_n 2, 1) := by decide +kernel
theorem dX1_make_23 : decode cX1_make 23 = .ok (.bipush 8, 2) := by decide +kernel
theorem dX1_make_25 : decode cX1_make 25 = .ok (.if_icmp .gt 11, 3) := by decide +kernel
theorem dX1_make_28 : decode cX1_make 28 = .ok (.aload_n 0, 1) := by decide +kernel
theorem dX1_make_29 : decode cX1_make 29 = .ok (.aload_n 1, 1) := by decide +kernel
theorem dX1_make_30 : decode cX1_make 30 = .ok (.iload_n 2, 1) := by decide +kernel
theorem dX1_make_31 : decode cX1_make 31 = .ok (.iconst 0, 1) := by decide +kernel
theorem dX1_make_32 : decode cX1_make 32 = .ok (.iconst 0, 1) := by decide +kernel
theorem dX1_make_33 : decode cX1_make 33 = .ok (.invokestatic 43, 3) := by decide +kernel
theorem dX1_make_36 : decode cX1_make 36 = .ok (.return_, 1) := by decide +kernel
theorem dX1_fill_0 : decode cX1_fill 0 = .ok (.iload_n 3, 1) := by decide +kernel
theorem dX1_fill_1 : decode cX1_fill 1 = .ok (.iload_n 2, 1) := by decide +kernel
theorem dX1_fill_2 : decode cX1_fill 2 = .ok (.if_icmp .ge 9, 3) := by decide +kernel
theorem dX1_fill_5 : decode cX1_fill 5 = .ok (.iload_n 3, 1) := by decide +kernel
theorem dX1_fill_6 : decode cX1_fill 6 = .ok (.bipush 8, 2) := by decide +kernel
theorem dX1_fill_8 : decode cX1_fill 8 = .ok (.if_icmp .lt 8, 3) := by decide +kernel
theorem dX1_fill_11 : decode cX1_fill 11 = .ok (.aload_n 0, 1) := by decide +kernel
theorem dX1_fill_12 : decode cX1_fill 12 = .ok (.invokevirtual 46, 3) := by decide +kernel
theorem dX1_fill_15 : decode cX1_fill 15 = .ok (.return_, 1) := by decide +kernel
theorem dX1_fill_16 : decode cX1_fill 16 = .ok (.iconst 0, 1) := by decide +kernel
theorem dX1_fill_17 : decode cX1_fill 17 = .ok (.istore 5, 2) := by decide +kernel
theorem dX1_fill_19 : decode cX1_fill 19 = .ok (.iload 5, 2) := by decide +kernel
theorem dX1_fill_21 : decode cX1_fill 21 = .ok (.aload_n 1, 1) := by decide +kernel
theorem dX1_fill_22 : decode cX1_fill 22 = .ok (.getfield 40, 3) := by decide +kernel
theorem dX1_fill_25 : decode cX1_fill 25 = .ok (.if_icmp .ge 76, 3) := by decide +kernel
theorem dX1_fill_28 : decode cX1_fill 28 = .ok (.iload 4, 2) := by decide +kernel
theorem dX1_fill_30 : decode cX1_fill 30 = .ok (.iload 5, 2) := by decide +kernel
theorem dX1_fill_32 : decode cX1_fill 32 = .ok (.ishr, 1) := by decide +kernel
theorem dX1_fill_33 : decode cX1_fill 33 = .ok (.iconst 1, 1) := by decide +kernel
theorem dX1_fill_34 : decode cX1_fill 34 = .ok (.iand, 1) := by decide +kernel
theorem dX1_fill_35 : decode cX1_fill 35 = .ok (.ifCond .ne 7, 3) := by decide +kernel
theorem dX1_fill_38 : decode cX1_fill 38 = .ok (.iconst 1, 1) := by decide +kernel
theorem dX1_fill_39 : decode cX1_fill 39 = .ok (.goto 4, 3) := by decide +kernel
theorem dX1_fill_42 : decode cX1_fill 42 = .ok (.iconst 0, 1) := by decide +kernel
theorem dX1_fill_43 : decode cX1_fill 43 = .ok (.istore 6, 2) := by decide +kernel
theorem dX1_fill_45 : decode cX1_fill 45 = .ok (.iload 6, 2) := by decide +kernel
theorem dX1_fill_47 : decode cX1_fill 47 = .ok (.ifCond .eq 48, 3) := by decide +kernel
theorem dX1_fill_50 : decode cX1_fill 50 = .ok (.aload_n 0, 1) := by decide +kernel
theorem dX1_fill_51 : decode cX1_fill 51 = .ok (.iload_n 3, 1) := by decide +kernel
theorem dX1_fill_52 : decode cX1_fill 52 = .ok (.iload 5, 2) := by decide +kernel
theorem dX1_fill_54 : decode cX1_fill 54 = .ok (.invokevirtual 49, 3) := by decide +kernel
theorem dX1_fill_57 : decode cX1_fill 57 = .ok (.ifCond .eq 38, 3) := by decide +kernel
theorem dX1_fill_60 : decode cX1_fill 60 = .ok (.aload_n 0, 1) := by decide +kernel
theorem dX1_fill_61 : decode cX1_fill 61 = .ok (.aload_n 1, 1) := by decide +kernel
theorem dX1_fill_62 : decode cX1_fill 62 = .ok (.iload_n 3, 1) := by decide +kernel
theorem dX1_fill_63 : decode cX1_fill 63 = .ok (.iload 5, 2) := by decide +kernel
theorem dX1_fill_65 : decode cX1_fill 65 = .ok (.invokevirtual 53, 3) := by decide +kernel
theorem dX1_fill_68 : decode cX1_fill 68 = .ok (.ifCond .eq 27, 3) := by decide +kernel
theorem dX1_fill_71 : decode cX1_fill 71 = .ok (.aload_n 0, 1) := by decide +kernel
theorem dX1_fill_72 : decode cX1_fill 72 = .ok (.getfield 9, 3) := by decide +kernel
theorem dX1_fill_75 : decode cX1_fill 75 = .ok (.iload_n 3, 1) := by decide +kernel
theorem dX1_fill_76 : decode cX1_fill 76 = .ok (.iload 5, 2) := by decide +kernel
theorem dX1_fill_78 : decode cX1_fill 78 = .ok (.iastore, 1) := by decide +kernel
theorem dX1_fill_79 : decode cX1_fill 79 = .ok (.aload_n 0, 1) := by decide +kernel
theorem dX1_fill_80 : decode cX1_fill 80 = .ok (.aload_n 1, 1) := by decide +kernel
theorem dX1_fill_81 : decode cX1_fill 81 = .ok (.iload_n 2, 1) := by decide +kernel
theorem dX1_fill_82 : decode cX1_fill 82 = .ok (.iload_n 3, 1) := by decide +kernel
theorem dX1_fill_83 : decode cX1_fill 83 = .ok (.iconst 1, 1) := by decide +kernel
theorem dX1_fill_84 : decode cX1_fill 84 = .ok (.iadd, 1) := by decide +kernel
theorem dX1_fill_85 : decode cX1_fill 85 = .ok (.iload 4, 2) := by decide +kernel
theorem dX1_fill_87 : decode cX1_fill 87 = .ok (.iconst 1, 1) := by decide +kernel
theorem dX1_fill_88 : decode cX1_fill 88 = .ok (.iload 5, 2) := by decide +kernel
theorem dX1_fill_90 : decode cX1_fill 90 = .ok (.ishl, 1) := by decide +kernel
theorem dX1_fill_91 : decode cX1_fill 91 = .ok (.ior, 1) := by decide +kernel
theorem dX1_fill_92 : decode cX1_fill 92 = .ok (.invokestatic 43, 3) := by decide +kernel
theorem dX1_fill_95 : decode cX1_fill 95 = .ok (.iinc 5 1, 3) := by decide +kernel
theorem dX1_fill_98 : decode cX1_fill 98 = .ok (.goto (-79), 3) := by decide +kernel
theorem dX1_fill_101 : decode cX1_fill 101 = .ok (.iload_n 3, 1) := by decide +kernel
theorem dX1_fill_102 : decode cX1_fill 102 = .ok (.iload 4, 2) := by decide +kernel
theorem dX1_fill_104 : decode cX1_fill 104 = .ok (.invokestatic 57, 3) := by decide +kernel
theorem dX1_fill_107 : decode cX1_fill 107 = .ok (.isub, 1) := by decide +kernel
theorem dX1_fill_108 : decode cX1_fill 108 = .ok (.iload_n 2, 1) := by decide +kernel
theorem dX1_fill_109 : decode cX1_fill 109 = .ok (.aload_n 1, 1) := by decide +kernel
theorem dX1_fill_110 : decode cX1_fill 110 = .ok (.getfield 40, 3) := by decide +kernel
theorem dX1_fill_113 : decode cX1_fill 113 = .ok (.isub, 1) := by decide +kernel
theorem dX1_fill_114 : decode cX1_fill 114 = .ok (.if_icmp .ge 22, 3) := by decide +kernel
theorem dX1_fill_117 : decode cX1_fill 117 = .ok (.aload_n 0, 1) := by decide +kernel
theorem dX1_fill_118 : decode cX1_fill 118 = .ok (.getfield 9, 3) := by decide +kernel
theorem dX1_fill_121 : decode cX1_fill 121 = .ok (.iload_n 3, 1) := by decide +kernel
theorem dX1_fill_122 : decode cX1_fill 122 = .ok (.bipush 8, 2) := by decide +kernel
theorem dX1_fill_124 : decode cX1_fill 124 = .ok (.iastore, 1) := by decide +kernel
theorem dX1_fill_125 : decode cX1_fill 125 = .ok (.aload_n 0, 1) := by decide +kernel
theorem dX1_fill_126 : decode cX1_fill 126 = .ok (.aload_n 1, 1) := by decide +kernel
theorem dX1_fill_127 : decode cX1_fill 127 = .ok (.iload_n 2, 1) := by decide +kernel
theorem dX1_fill_128 : decode cX1_fill 128 = .ok (.iload_n 3, 1) := by decide +kernel
theorem dX1_fill_129 : decode cX1_fill 129 = .ok (.iconst 1, 1) := by decide +kernel
theorem dX1_fill_130 : decode cX1_fill 130 = .ok (.iadd, 1) := by decide +kernel
theorem dX1_fill_131 : decode cX1_fill 131 = .ok (.iload 4, 2) := by decide +kernel
theorem dX1_fill_133 : decode cX1_fill 133 = .ok (.invokestatic 43, 3) := by decide +kernel
theorem dX1_fill_136 : decode cX1_fill 136 = .ok (.return_, 1) := by decide +kernel
theorem dX1_keepRow_0 : decode cX1_keepRow 0 = .ok (.aload_n 0, 1) := by decide +kernel
theorem dX1_keepRow_1 : decode cX1_keepRow 1 = .ok (.getfield 22, 3) := by decide +kernel
theorem dX1_keepRow_4 : decode cX1_keepRow 4 = .ok (.sipush 315, 3) := by decide +kernel
theorem dX1_keepRow_7 : decode cX1_keepRow 7 = .ok (.if_icmp .ge 34, 3) := by decide +kernel
theorem dX1_keepRow_10 : decode cX1_keepRow 10 = .ok (.aload_n 0, 1) := by decide +kernel
theorem dX1_keepRow_11 : decode cX1_keepRow 11 = .ok (.getfield 9, 3) := by decide +kernel
theorem dX1_keepRow_14 : decode cX1_keepRow 14 = .ok (.iconst 0, 1) := by decide +kernel
theorem dX1_keepRow_15 : decode cX1_keepRow 15 = .ok (.aload_n 0, 1) := by decide +kernel
theorem dX1_keepRow_16 : decode cX1_keepRow 16 = .ok (.getfield 15, 3) := by decide +kernel
theorem dX1_keepRow_19 : decode cX1_keepRow 19 = .ok (.aload_n 0, 1) := by decide +kernel
theorem dX1_keepRow_20 : decode cX1_keepRow 20 = .ok (.getfield 22, 3) := by decide +kernel
theorem dX1_keepRow_23 : decode cX1_keepRow 23 = .ok (.bipush 8, 2) := by decide +kernel
theorem dX1_keepRow_25 : decode cX1_keepRow 25 = .ok (.imul, 1) := by decide +kernel
theorem dX1_keepRow_26 : decode cX1_keepRow 26 = .ok (.bipush 8, 2) := by decide +kernel
theorem dX1_keepRow_28 : decode cX1_keepRow 28 = .ok (.invokestatic 63, 3) := by decide +kernel
theorem dX1_keepRow_31 : decode cX1_keepRow 31 = .ok (.aload_n 0, 1) := by decide +kernel
theorem dX1_keepRow_32 : decode cX1_keepRow 32 = .ok (.dup, 1) := by decide +kernel
theorem dX1_keepRow_33 : decode cX1_keepRow 33 = .ok (.getfield 22, 3) := by decide +kernel
theorem dX1_keepRow_36 : decode cX1_keepRow 36 = .ok (.iconst 1, 1) := by decide +kernel
theorem dX1_keepRow_37 : decode cX1_keepRow 37 = .ok (.iadd, 1) := by decide +kernel
theorem dX1_keepRow_38 : decode cX1_keepRow 38 = .ok (.putfield 22, 3) := by decide +kernel
theorem dX1_keepRow_41 : decode cX1_keepRow 41 = .ok (.return_, 1) := by decide +kernel
theorem dX1_keepsOrder_0 : decode cX1_keepsOrder 0 = .ok (.iload_n 1, 1) := by decide +kernel
theorem dX1_keepsOrder_1 : decode cX1_keepsOrder 1 = .ok (.ifCond .ne 13, 3) := by decide +kernel
theorem dX1_keepsOrder_4 : decode cX1_keepsOrder 4 = .ok (.iload_n 2, 1) := by decide +kernel
theorem dX1_keepsOrder_5 : decode cX1_keepsOrder 5 = .ok (.ifCond .ne 7, 3) := by decide +kernel
theorem dX1_keepsOrder_8 : decode cX1_keepsOrder 8 = .ok (.iconst 1, 1) := by decide +kernel
theorem dX1_keepsOrder_9 : decode cX1_keepsOrder 9 = .ok (.goto 4, 3) := by decide +kernel
theorem dX1_keepsOrder_12 : decode cX1_keepsOrder 12 = .ok (.iconst 0, 1) := by decide +kernel
theorem dX1_keepsOrder_13 : decode cX1_keepsOrder 13 = .ok (.ireturn, 1) := by decide +kernel
theorem dX1_keepsOrder_14 : decode cX1_keepsOrder 14 = .ok (.iload_n 1, 1) := by decide +kernel
theorem dX1_keepsOrder_15 : decode cX1_keepsOrder 15 = .ok (.iload_n 1, 1) := by decide +kernel
theorem dX1_keepsOrder_16 : decode cX1_keepsOrder 16 = .ok (.iload_n 1, 1) := by decide +kernel
theorem dX1_keepsOrder_17 : decode cX1_keepsOrder 17 = .ok (.ineg, 1) := by decide +kernel
theorem dX1_keepsOrder_18 : decode cX1_keepsOrder 18 = .ok (.iand, 1) := by decide +kernel
theorem dX1_keepsOrder_19 : decode cX1_keepsOrder 19 = .ok (.isub, 1) := by decide +kernel
theorem dX1_keepsOrder_20 : decode cX1_keepsOrder 20 = .ok (.istore_n 3, 1) := by decide +kernel
theorem dX1_keepsOrder_21 : decode cX1_keepsOrder 21 = .ok (.iload_n 3, 1) := by decide +kernel
theorem dX1_keepsOrder_22 : decode cX1_keepsOrder 22 = .ok (.ifCond .lt 23, 3) := by decide +kernel
theorem dX1_keepsOrder_25 : decode cX1_keepsOrder 25 = .ok (.iload_n 3, 1) := by decide +kernel
theorem dX1_keepsOrder_26 : decode cX1_keepsOrder 26 = .ok (.bipush 8, 2) := by decide +kernel
theorem dX1_keepsOrder_28 : decode cX1_keepsOrder 28 = .ok (.if_icmp .ge 17, 3) := by decide +kernel
theorem dX1_keepsOrder_31 : decode cX1_keepsOrder 31 = .ok (.aload_n 0, 1) := by decide +kernel
theorem dX1_keepsOrder_32 : decode cX1_keepsOrder 32 = .ok (.getfield 9, 3) := by decide +kernel
theorem dX1_keepsOrder_35 : decode cX1_keepsOrder 35 = .ok (.iload_n 3, 1) := by decide +kernel
theorem dX1_keepsOrder_36 : decode cX1_keepsOrder 36 = .ok (.iaload, 1) := by decide +kernel
theorem dX1_keepsOrder_37 : decode cX1_keepsOrder 37 = .ok (.iload_n 2, 1) := by decide +kernel
theorem dX1_keepsOrder_38 : decode cX1_keepsOrder 38 = .ok (.if_icmp .ge 7, 3) := by decide +kernel
theorem dX1_keepsOrder_41 : decode cX1_keepsOrder 41 = .ok (.iconst 1, 1) := by decide +kernel
theorem dX1_keepsOrder_42 : decode cX1_keepsOrder 42 = .ok (.goto 4, 3) := by decide +kernel
theorem dX1_keepsOrder_45 : decode cX1_keepsOrder 45 = .ok (.iconst 0, 1) := by decide +kernel
theorem dX1_keepsOrder_46 : decode cX1_keepsOrder 46 = .ok (.ireturn, 1) := by decide +kernel
theorem dX1_keepsApart_0 : decode cX1_keepsApart 0 = .ok (.iconst 0, 1) := by decide +kernel
theorem dX1_keepsApart_1 : decode cX1_keepsApart 1 = .ok (.istore 4, 2) := by decide +kernel
theorem dX1_keepsApart_3 : decode cX1_keepsApart 3 = .ok (.iload 4, 2) := by decide +kernel
theorem dX1_keepsApart_5 : decode cX1_keepsApart 5 = .ok (.iload_n 2, 1) := by decide +kernel
theorem dX1_keepsApart_6 : decode cX1_keepsApart 6 = .ok (.if_icmp .ge 51, 3) := by decide +kernel
theorem dX1_keepsApart_9 : decode cX1_keepsApart 9 = .ok (.iload 4, 2) := by decide +kernel
theorem dX1_keepsApart_11 : decode cX1_keepsApart 11 = .ok (.bipush 8, 2) := by decide +kernel
theorem dX1_keepsApart_13 : decode cX1_keepsApart 13 = .ok (.if_icmp .ge 44, 3) := by decide +kernel
theorem dX1_keepsApart_16 : decode cX1_keepsApart 16 = .ok (.aload_n 0, 1) := by decide +kernel
theorem dX1_keepsApart_17 : decode cX1_keepsApart 17 = .ok (.getfield 9, 3) := by decide +kernel
theorem dX1_keepsApart_20 : decode cX1_keepsApart 20 = .ok (.iload 4, 2) := by decide +kernel
theorem dX1_keepsApart_22 : decode cX1_keepsApart 22 = .ok (.iaload, 1) := by decide +kernel
theorem dX1_keepsApart_23 : decode cX1_keepsApart 23 = .ok (.bipush 8, 2) := by decide +kernel
theorem dX1_keepsApart_25 : decode cX1_keepsApart 25 = .ok (.if_icmp .eq 26, 3) := by decide +kernel
theorem dX1_keepsApart_28 : decode cX1_keepsApart 28 = .ok (.iload 4, 2) := by decide +kernel
theorem dX1_keepsApart_30 : decode cX1_keepsApart 30 = .ok (.iload_n 2, 1) := by decide +kernel
theorem dX1_keepsApart_31 : decode cX1_keepsApart 31 = .ok (.invokestatic 69, 3) := by decide +kernel
theorem dX1_keepsApart_34 : decode cX1_keepsApart 34 = .ok (.aload_n 1, 1) := by decide +kernel
theorem dX1_keepsApart_35 : decode cX1_keepsApart 35 = .ok (.aload_n 0, 1) := by decide +kernel
theorem dX1_keepsApart_36 : decode cX1_keepsApart 36 = .ok (.getfield 9, 3) := by decide +kernel
theorem dX1_keepsApart_39 : decode cX1_keepsApart 39 = .ok (.iload 4, 2) := by decide +kernel
theorem dX1_keepsApart_41 : decode cX1_keepsApart 41 = .ok (.iaload, 1) := by decide +kernel
theorem dX1_keepsApart_42 : decode cX1_keepsApart 42 = .ok (.iload_n 3, 1) := by decide +kernel
theorem dX1_keepsApart_43 : decode cX1_keepsApart 43 = .ok (.invokevirtual 72, 3) := by decide +kernel
theorem dX1_keepsApart_46 : decode cX1_keepsApart 46 = .ok (.if_icmp .ge 5, 3) := by decide +kernel
theorem dX1_keepsApart_49 : decode cX1_keepsApart 49 = .ok (.iconst 0, 1) := by decide +kernel
theorem dX1_keepsApart_50 : decode cX1_keepsApart 50 = .ok (.ireturn, 1) := by decide +kernel
theorem dX1_keepsApart_51 : decode cX1_keepsApart 51 = .ok (.iinc 4 1, 3) := by decide +kernel
theorem dX1_keepsApart_54 : decode cX1_keepsApart 54 = .ok (.goto (-51), 3) := by decide +kernel
theorem dX1_keepsApart_57 : decode cX1_keepsApart 57 = .ok (.iconst 1, 1) := by decide +kernel
theorem dX1_keepsApart_58 : decode cX1_keepsApart 58 = .ok (.ireturn, 1) := by decide +kernel
theorem dX1_layInto_0 : decode cX1_layInto 0 = .ok (.iconst 0, 1) := by decide +kernel
theorem dX1_layInto_1 : decode cX1_layInto 1 = .ok (.istore_n 3, 1) := by decide +kernel
theorem dX1_layInto_2 : decode cX1_layInto 2 = .ok (.iload_n 3, 1) := by decide +kernel
theorem dX1_layInto_3 : decode cX1_layInto 3 = .ok (.aload_n 1, 1) := by decide +kernel
theorem dX1_layInto_4 : decode cX1_layInto 4 = .ok (.getfield 75, 3) := by decide +kernel
theorem dX1_layInto_7 : decode cX1_layInto 7 = .ok (.if_icmp .ge 20, 3) := by decide +kernel
theorem dX1_layInto_10 : decode cX1_layInto 10 = .ok (.aload_n 1, 1) := by decide +kernel
theorem dX1_layInto_11 : decode cX1_layInto 11 = .ok (.iload_n 3, 1) := by decide +kernel
theorem dX1_layInto_12 : decode cX1_layInto 12 = .ok (.aload_n 0, 1) := by decide +kernel
theorem dX1_layInto_13 : decode cX1_layInto 13 = .ok (.iload_n 2, 1) := by decide +kernel
theorem dX1_layInto_14 : decode cX1_layInto 14 = .ok (.iload_n 3, 1) := by decide +kernel
theorem dX1_layInto_15 : decode cX1_layInto 15 = .ok (.invokevirtual 30, 3) := by decide +kernel
theorem dX1_layInto_18 : decode cX1_layInto 18 = .ok (.invokevirtual 80, 3) := by decide +kernel
theorem dX1_layInto_21 : decode cX1_layInto 21 = .ok (.iinc 3 1, 3) := by decide +kernel
theorem dX1_layInto_24 : decode cX1_layInto 24 = .ok (.goto (-22), 3) := by decide +kernel
theorem dX1_layInto_27 : decode cX1_layInto 27 = .ok (.aload_n 1, 1) := by decide +kernel
theorem dX1_layInto_28 : decode cX1_layInto 28 = .ok (.invokevirtual 84, 3) := by decide +kernel
theorem dX1_layInto_31 : decode cX1_layInto 31 = .ok (.return_, 1) := by decide +kernel
theorem dX1_weigh_0 : decode cX1_weigh 0 = .ok (.aload_n 1, 1) := by decide +kernel
theorem dX1_weigh_1 : decode cX1_weigh 1 = .ok (.invokevirtual 87, 3) := by decide +kernel
theorem dX1_weigh_4 : decode cX1_weigh 4 = .ok (.istore_n 3, 1) := by decide +kernel
theorem dX1_weigh_5 : decode cX1_weigh 5 = .ok (.iconst 0, 1) := by decide +kernel
theorem dX1_weigh_6 : decode cX1_weigh 6 = .ok (.istore 4, 2) := by decide +kernel
theorem dX1_weigh_8 : decode cX1_weigh 8 = .ok (.iload 4, 2) := by decide +kernel
theorem dX1_weigh_10 : decode cX1_weigh 10 = .ok (.aload_n 0, 1) := by decide +kernel
theorem dX1_weigh_11 : decode cX1_weigh 11 = .ok (.getfield 22, 3) := by decide +kernel
theorem dX1_weigh_14 : decode cX1_weigh 14 = .ok (.if_icmp .ge 58, 3) := by decide +kernel
theorem dX1_weigh_17 : decode cX1_weigh 17 = .ok (.aload_n 0, 1) := by decide +kernel
theorem dX1_weigh_18 : decode cX1_weigh 18 = .ok (.aload_n 1, 1) := by decide +kernel
theorem dX1_weigh_19 : decode cX1_weigh 19 = .ok (.iload 4, 2) := by decide +kernel
theorem dX1_weigh_21 : decode cX1_weigh 21 = .ok (.invokevirtual 91, 3) := by decide +kernel
theorem dX1_weigh_24 : decode cX1_weigh 24 = .ok (.aload_n 1, 1) := by decide +kernel
theorem dX1_weigh_25 : decode cX1_weigh 25 = .ok (.aload_n 2, 1) := by decide +kernel
theorem dX1_weigh_26 : decode cX1_weigh 26 = .ok (.invokevirtual 95, 3) := by decide +kernel
theorem dX1_weigh_29 : decode cX1_weigh 29 = .ok (.iconst 0, 1) := by decide +kernel
theorem dX1_weigh_30 : decode cX1_weigh 30 = .ok (.istore 5, 2) := by decide +kernel
theorem dX1_weigh_32 : decode cX1_weigh 32 = .ok (.iload 5, 2) := by decide +kernel
theorem dX1_weigh_34 : decode cX1_weigh 34 = .ok (.aload_n 1, 1) := by decide +kernel
theorem dX1_weigh_35 : decode cX1_weigh 35 = .ok (.getfield 75, 3) := by decide +kernel
theorem dX1_weigh_38 : decode cX1_weigh 38 = .ok (.if_icmp .ge 28, 3) := by decide +kernel
theorem dX1_weigh_41 : decode cX1_weigh 41 = .ok (.aload_n 0, 1) := by decide +kernel
theorem dX1_weigh_42 : decode cX1_weigh 42 = .ok (.iload 4, 2) := by decide +kernel
theorem dX1_weigh_44 : decode cX1_weigh 44 = .ok (.aload_n 1, 1) := by decide +kernel
theorem dX1_weigh_45 : decode cX1_weigh 45 = .ok (.iload 5, 2) := by decide +kernel
theorem dX1_weigh_47 : decode cX1_weigh 47 = .ok (.invokevirtual 99, 3) := by decide +kernel
theorem dX1_weigh_50 : decode cX1_weigh 50 = .ok (.aload_n 1, 1) := by decide +kernel
theorem dX1_weigh_51 : decode cX1_weigh 51 = .ok (.iload_n 3, 1) := by decide +kernel
theorem dX1_weigh_52 : decode cX1_weigh 52 = .ok (.iload 5, 2) := by decide +kernel
theorem dX1_weigh_54 : decode cX1_weigh 54 = .ok (.invokevirtual 101, 3) := by decide +kernel
theorem dX1_weigh_57 : decode cX1_weigh 57 = .ok (.invokevirtual 105, 3) := by decide +kernel
theorem dX1_weigh_60 : decode cX1_weigh 60 = .ok (.iinc 5 1, 3) := by decide +kernel
theorem dX1_weigh_63 : decode cX1_weigh 63 = .ok (.goto (-31), 3) := by decide +kernel
theorem dX1_weigh_66 : decode cX1_weigh 66 = .ok (.iinc 4 1, 3) := by decide +kernel
theorem dX1_weigh_69 : decode cX1_weigh 69 = .ok (.goto (-61), 3) := by decide +kernel
theorem dX1_weigh_72 : decode cX1_weigh 72 = .ok (.return_, 1) := by decide +kernel
theorem dX1_setOdds_0 : decode cX1_setOdds 0 = .ok (.iload_n 1, 1) := by decide +kernel
theorem dX1_setOdds_1 : decode cX1_setOdds 1 = .ok (.bipush 8, 2) := by decide +kernel
theorem dX1_setOdds_3 : decode cX1_setOdds 3 = .ok (.imul, 1) := by decide +kernel
theorem dX1_setOdds_4 : decode cX1_setOdds 4 = .ok (.iload_n 2, 1) := by decide +kernel
theorem dX1_setOdds_5 : decode cX1_setOdds 5 = .ok (.iadd, 1) := by decide +kernel
theorem dX1_setOdds_6 : decode cX1_setOdds 6 = .ok (.istore 5, 2) := by decide +kernel
theorem dX1_setOdds_8 : decode cX1_setOdds 8 = .ok (.aload_n 0, 1) := by decide +kernel
theorem dX1_setOdds_9 : decode cX1_setOdds 9 = .ok (.iload_n 1, 1) := by decide +kernel
theorem dX1_setOdds_10 : decode cX1_setOdds 10 = .ok (.invokevirtual 26, 3) := by decide +kernel
theorem dX1_setOdds_13 : decode cX1_setOdds 13 = .ok (.ifCond .eq 31, 3) := by decide +kernel
theorem dX1_setOdds_16 : decode cX1_setOdds 16 = .ok (.iload_n 2, 1) := by decide +kernel
theorem dX1_setOdds_17 : decode cX1_setOdds 17 = .ok (.ifCond .lt 27, 3) := by decide +kernel
theorem dX1_setOdds_20 : decode cX1_setOdds 20 = .ok (.iload_n 2, 1) := by decide +kernel
theorem dX1_setOdds_21 : decode cX1_setOdds 21 = .ok (.bipush 8, 2) := by decide +kernel
theorem dX1_setOdds_23 : decode cX1_setOdds 23 = .ok (.if_icmp .ge 21, 3) := by decide +kernel
theorem dX1_setOdds_26 : decode cX1_setOdds 26 = .ok (.iload 5, 2) := by decide +kernel
theorem dX1_setOdds_28 : decode cX1_setOdds 28 = .ok (.aload_n 0, 1) := by decide +kernel
theorem dX1_setOdds_29 : decode cX1_setOdds 29 = .ok (.getfield 18, 3) := by decide +kernel
theorem dX1_setOdds_32 : decode cX1_setOdds 32 = .ok (.arraylength, 1) := by decide +kernel
theorem dX1_setOdds_33 : decode cX1_setOdds 33 = .ok (.if_icmp .ge 11, 3) := by decide +kernel
theorem dX1_setOdds_36 : decode cX1_setOdds 36 = .ok (.aload_n 0, 1) := by decide +kernel
theorem dX1_setOdds_37 : decode cX1_setOdds 37 = .ok (.getfield 18, 3) := by decide +kernel
theorem dX1_setOdds_40 : decode cX1_setOdds 40 = .ok (.iload 5, 2) := by decide +kernel
theorem dX1_setOdds_42 : decode cX1_setOdds 42 = .ok (.lload_n 3, 1) := by decide +kernel
theorem dX1_setOdds_43 : decode cX1_setOdds 43 = .ok (.lastore, 1) := by decide +kernel
theorem dX1_setOdds_44 : decode cX1_setOdds 44 = .ok (.return_, 1) := by decide +kernel
theorem dX1_numberOfLike_0 : decode cX1_numberOfLike 0 = .ok (.aload_n 0, 1) := by decide +kernel
theorem dX1_numberOfLike_1 : decode cX1_numberOfLike 1 = .ok (.aload_n 1, 1) := by decide +kernel
theorem dX1_numberOfLike_2 : decode cX1_numberOfLike 2 = .ok (.invokevirtual 109, 3) := by decide +kernel
theorem dX1_numberOfLike_5 : decode cX1_numberOfLike 5 = .ok (.iconst 0, 1) := by decide +kernel
theorem dX1_numberOfLike_6 : decode cX1_numberOfLike 6 = .ok (.istore_n 2, 1) := by decide +kernel
theorem dX1_numberOfLike_7 : decode cX1_numberOfLike 7 = .ok (.iload_n 2, 1) := by decide +kernel
theorem dX1_numberOfLike_8 : decode cX1_numberOfLike 8 = .ok (.aload_n 0, 1) := by decide +kernel
theorem dX1_numberOfLike_9 : decode cX1_numberOfLike 9 = .ok (.getfield 22, 3) := by decide +kernel
theorem dX1_numberOfLike_12 : decode cX1_numberOfLike 12 = .ok (.if_icmp .ge 19, 3) := by decide +kernel
theorem dX1_numberOfLike_15 : decode cX1_numberOfLike 15 = .ok (.aload_n 0, 1) := by decide +kernel
theorem dX1_numberOfLike_16 : decode cX1_numberOfLike 16 = .ok (.iload_n 2, 1) := by decide +kernel
theorem dX1_numberOfLike_17 : decode cX1_numberOfLike 17 = .ok (.invokevirtual 113, 3) := by decide +kernel
theorem dX1_numberOfLike_20 : decode cX1_numberOfLike 20 = .ok (.ifCond .eq 5, 3) := by decide +kernel
theorem dX1_numberOfLike_23 : decode cX1_numberOfLike 23 = .ok (.iload_n 2, 1) := by decide +kernel
theorem dX1_numberOfLike_24 : decode cX1_numberOfLike 24 = .ok (.ireturn, 1) := by decide +kernel
theorem dX1_numberOfLike_25 : decode cX1_numberOfLike 25 = .ok (.iinc 2 1, 3) := by decide +kernel
theorem dX1_numberOfLike_28 : decode cX1_numberOfLike 28 = .ok (.goto (-21), 3) := by decide +kernel
theorem dX1_numberOfLike_31 : decode cX1_numberOfLike 31 = .ok (.iconst (-1), 1) := by decide +kernel
theorem dX1_numberOfLike_32 : decode cX1_numberOfLike 32 = .ok (.ireturn, 1) := by decide +kernel
theorem dX1_orderRowOf_0 : decode cX1_orderRowOf 0 = .ok (.iconst 0, 1) := by decide +kernel
theorem dX1_orderRowOf_1 : decode cX1_orderRowOf 1 = .ok (.istore_n 2, 1) := by decide +kernel
theorem dX1_orderRowOf_2 : decode cX1_orderRowOf 2 = .ok (.iload_n 2, 1) := by decide +kernel
theorem dX1_orderRowOf_3 : decode cX1_orderRowOf 3 = .ok (.bipush 8, 2) := by decide +kernel
theorem dX1_orderRowOf_5 : decode cX1_orderRowOf 5 = .ok (.if_icmp .ge 20, 3) := by decide +kernel
theorem dX1_orderRowOf_8 : decode cX1_orderRowOf 8 = .ok (.aload_n 0, 1) := by decide +kernel
theorem dX1_orderRowOf_9 : decode cX1_orderRowOf 9 = .ok (.getfield 9, 3) := by decide +kernel
theorem dX1_orderRowOf_12 : decode cX1_orderRowOf 12 = .ok (.iload_n 2, 1) := by decide +kernel
theorem dX1_orderRowOf_13 : decode cX1_orderRowOf 13 = .ok (.aload_n 1, 1) := by decide +kernel
theorem dX1_orderRowOf_14 : decode cX1_orderRowOf 14 = .ok (.iload_n 2, 1) := by decide +kernel
theorem dX1_orderRowOf_15 : decode cX1_orderRowOf 15 = .ok (.invokevirtual 99, 3) := by decide +kernel
theorem dX1_orderRowOf_18 : decode cX1_orderRowOf 18 = .ok (.iastore, 1) := by decide +kernel
theorem dX1_orderRowOf_19 : decode cX1_orderRowOf 19 = .ok (.iinc 2 1, 3) := by decide +kernel
theorem dX1_orderRowOf_22 : decode cX1_orderRowOf 22 = .ok (.goto (-20), 3) := by decide +kernel
theorem dX1_orderRowOf_25 : decode cX1_orderRowOf 25 = .ok (.iconst 1, 1) := by decide +kernel
theorem dX1_orderRowOf_26 : decode cX1_orderRowOf 26 = .ok (.istore_n 2, 1) := by decide +kernel
theorem dX1_orderRowOf_27 : decode cX1_orderRowOf 27 = .ok (.iload_n 2, 1) := by decide +kernel
theorem dX1_orderRowOf_28 : decode cX1_orderRowOf 28 = .ok (.aload_n 1, 1) := by decide +kernel
theorem dX1_orderRowOf_29 : decode cX1_orderRowOf 29 = .ok (.getfield 75, 3) := by decide +kernel
theorem dX1_orderRowOf_32 : decode cX1_orderRowOf 32 = .ok (.if_icmp .ge 52, 3) := by decide +kernel
theorem dX1_orderRowOf_35 : decode cX1_orderRowOf 35 = .ok (.iconst 0, 1) := by decide +kernel
theorem dX1_orderRowOf_36 : decode cX1_orderRowOf 36 = .ok (.istore_n 3, 1) := by decide +kernel
theorem dX1_orderRowOf_37 : decode cX1_orderRowOf 37 = .ok (.iload_n 3, 1) := by decide +kernel
theorem dX1_orderRowOf_38 : decode cX1_orderRowOf 38 = .ok (.iload_n 2, 1) := by decide +kernel
theorem dX1_orderRowOf_39 : decode cX1_orderRowOf 39 = .ok (.iadd, 1) := by decide +kernel
theorem dX1_orderRowOf_40 : decode cX1_orderRowOf 40 = .ok (.bipush 8, 2) := by decide +kernel
theorem dX1_orderRowOf_42 : decode cX1_orderRowOf 42 = .ok (.if_icmp .ge 35, 3) := by decide +kernel
theorem dX1_orderRowOf_45 : decode cX1_orderRowOf 45 = .ok (.aload_n 0, 1) := by decide +kernel
theorem dX1_orderRowOf_46 : decode cX1_orderRowOf 46 = .ok (.getfield 9, 3) := by decide +kernel
theorem dX1_orderRowOf_49 : decode cX1_orderRowOf 49 = .ok (.iload_n 3, 1) := by decide +kernel
theorem dX1_orderRowOf_50 : decode cX1_orderRowOf 50 = .ok (.iaload, 1) := by decide +kernel
theorem dX1_orderRowOf_51 : decode cX1_orderRowOf 51 = .ok (.aload_n 0, 1) := by decide +kernel
theorem dX1_orderRowOf_52 : decode cX1_orderRowOf 52 = .ok (.getfield 9, 3) := by decide +kernel
theorem dX1_orderRowOf_55 : decode cX1_orderRowOf 55 = .ok (.iload_n 3, 1) := by decide +kernel
theorem dX1_orderRowOf_56 : decode cX1_orderRowOf 56 = .ok (.iload_n 2, 1) := by decide +kernel
theorem dX1_orderRowOf_57 : decode cX1_orderRowOf 57 = .ok (.iadd, 1) := by decide +kernel
theorem dX1_orderRowOf_58 : decode cX1_orderRowOf 58 = .ok (.iaload, 1) := by decide +kernel
theorem dX1_orderRowOf_59 : decode cX1_orderRowOf 59 = .ok (.if_icmp .le 9, 3) := by decide +kernel
theorem dX1_orderRowOf_62 : decode cX1_orderRowOf 62 = .ok (.aload_n 0, 1) := by decide +kernel
theorem dX1_orderRowOf_63 : decode cX1_orderRowOf 63 = .ok (.iload_n 3, 1) := by decide +kernel
theorem dX1_orderRowOf_64 : decode cX1_orderRowOf 64 = .ok (.iload_n 2, 1) := by decide +kernel
theorem dX1_orderRowOf_65 : decode cX1_orderRowOf 65 = .ok (.invokevirtual 116, 3) := by decide +kernel
theorem dX1_orderRowOf_68 : decode cX1_orderRowOf 68 = .ok (.iload_n 3, 1) := by decide +kernel
theorem dX1_orderRowOf_69 : decode cX1_orderRowOf 69 = .ok (.iload_n 2, 1) := by decide +kernel
theorem dX1_orderRowOf_70 : decode cX1_orderRowOf 70 = .ok (.iload_n 2, 1) := by decide +kernel
theorem dX1_orderRowOf_71 : decode cX1_orderRowOf 71 = .ok (.iadd, 1) := by decide +kernel
theorem dX1_orderRowOf_72 : decode cX1_orderRowOf 72 = .ok (.iadd, 1) := by decide +kernel
theorem dX1_orderRowOf_73 : decode cX1_orderRowOf 73 = .ok (.istore_n 3, 1) := by decide +kernel
theorem dX1_orderRowOf_74 : decode cX1_orderRowOf 74 = .ok (.goto (-37), 3) := by decide +kernel
theorem dX1_orderRowOf_77 : decode cX1_orderRowOf 77 = .ok (.iload_n 2, 1) := by decide +kernel
theorem dX1_orderRowOf_78 : decode cX1_orderRowOf 78 = .ok (.iload_n 2, 1) := by decide +kernel
theorem dX1_orderRowOf_79 : decode cX1_orderRowOf 79 = .ok (.iadd, 1) := by decide +kernel
theorem dX1_orderRowOf_80 : decode cX1_orderRowOf 80 = .ok (.istore_n 2, 1) := by decide +kernel
theorem dX1_orderRowOf_81 : decode cX1_orderRowOf 81 = .ok (.goto (-54), 3) := by decide +kernel
theorem dX1_orderRowOf_84 : decode cX1_orderRowOf 84 = .ok (.return_, 1) := by decide +kernel
theorem dX1_exchange_0 : decode cX1_exchange 0 = .ok (.iload_n 1, 1) := by decide +kernel
theorem dX1_exchange_1 : decode cX1_exchange 1 = .ok (.istore_n 3, 1) := by decide +kernel
theorem dX1_exchange_2 : decode cX1_exchange 2 = .ok (.iload_n 3, 1) := by decide +kernel
theorem dX1_exchange_3 : decode cX1_exchange 3 = .ok (.iload_n 1, 1) := by decide +kernel
theorem dX1_exchange_4 : decode cX1_exchange 4 = .ok (.iload_n 2, 1) := by decide +kernel
theorem dX1_exchange_5 : decode cX1_exchange 5 = .ok (.iadd, 1) := by decide +kernel
theorem dX1_exchange_6 : decode cX1_exchange 6 = .ok (.if_icmp .ge 49, 3) := by decide +kernel
theorem dX1_exchange_9 : decode cX1_exchange 9 = .ok (.iload_n 3, 1) := by decide +kernel
theorem dX1_exchange_10 : decode cX1_exchange 10 = .ok (.iload_n 2, 1) := by decide +kernel
theorem dX1_exchange_11 : decode cX1_exchange 11 = .ok (.iadd, 1) := by decide +kernel
theorem dX1_exchange_12 : decode cX1_exchange 12 = .ok (.bipush 8, 2) := by decide +kernel
theorem dX1_exchange_14 : decode cX1_exchange 14 = .ok (.if_icmp .ge 41, 3) := by decide +kernel
theorem dX1_exchange_17 : decode cX1_exchange 17 = .ok (.aload_n 0, 1) := by decide +kernel
theorem dX1_exchange_18 : decode cX1_exchange 18 = .ok (.getfield 9, 3) := by decide +kernel
theorem dX1_exchange_21 : decode cX1_exchange 21 = .ok (.iload_n 3, 1) := by decide +kernel
theorem dX1_exchange_22 : decode cX1_exchange 22 = .ok (.iaload, 1) := by decide +kernel
theorem dX1_exchange_23 : decode cX1_exchange 23 = .ok (.istore 4, 2) := by decide +kernel
theorem dX1_exchange_25 : decode cX1_exchange 25 = .ok (.aload_n 0, 1) := by decide +kernel
theorem dX1_exchange_26 : decode cX1_exchange 26 = .ok (.getfield 9, 3) := by decide +kernel
theorem dX1_exchange_29 : decode cX1_exchange 29 = .ok (.iload_n 3, 1) := by decide +kernel
theorem dX1_exchange_30 : decode cX1_exchange 30 = .ok (.aload_n 0, 1) := by decide +kernel
theorem dX1_exchange_31 : decode cX1_exchange 31 = .ok (.getfield 9, 3) := by decide +kernel
theorem dX1_exchange_34 : decode cX1_exchange 34 = .ok (.iload_n 3, 1) := by decide +kernel
theorem dX1_exchange_35 : decode cX1_exchange 35 = .ok (.iload_n 2, 1) := by decide +kernel
theorem dX1_exchange_36 : decode cX1_exchange 36 = .ok (.iadd, 1) := by decide +kernel
theorem dX1_exchange_37 : decode cX1_exchange 37 = .ok (.iaload, 1) := by decide +kernel
theorem dX1_exchange_38 : decode cX1_exchange 38 = .ok (.iastore, 1) := by decide +kernel
theorem dX1_exchange_39 : decode cX1_exchange 39 = .ok (.aload_n 0, 1) := by decide +kernel
theorem dX1_exchange_40 : decode cX1_exchange 40 = .ok (.getfield 9, 3) := by decide +kernel
theorem dX1_exchange_43 : decode cX1_exchange 43 = .ok (.iload_n 3, 1) := by decide +kernel
theorem dX1_exchange_44 : decode cX1_exchange 44 = .ok (.iload_n 2, 1) := by decide +kernel
theorem dX1_exchange_45 : decode cX1_exchange 45 = .ok (.iadd, 1) := by decide +kernel
theorem dX1_exchange_46 : decode cX1_exchange 46 = .ok (.iload 4, 2) := by decide +kernel
theorem dX1_exchange_48 : decode cX1_exchange 48 = .ok (.iastore, 1) := by decide +kernel
theorem dX1_exchange_49 : decode cX1_exchange 49 = .ok (.iinc 3 1, 3) := by decide +kernel
theorem dX1_exchange_52 : decode cX1_exchange 52 = .ok (.goto (-50), 3) := by decide +kernel
theorem dX1_exchange_55 : decode cX1_exchange 55 = .ok (.return_, 1) := by decide +kernel
theorem dX1_isRow_0 : decode cX1_isRow 0 = .ok (.iconst 0, 1) := by decide +kernel
theorem dX1_isRow_1 : decode cX1_isRow 1 = .ok (.istore_n 2, 1) := by decide +kernel
theorem dX1_isRow_2 : decode cX1_isRow 2 = .ok (.iload_n 2, 1) := by decide +kernel
theorem dX1_isRow_3 : decode cX1_isRow 3 = .ok (.bipush 8, 2) := by decide +kernel
theorem dX1_isRow_5 : decode cX1_isRow 5 = .ok (.if_icmp .ge 26, 3) := by decide +kernel
theorem dX1_isRow_8 : decode cX1_isRow 8 = .ok (.aload_n 0, 1) := by decide +kernel
theorem dX1_isRow_9 : decode cX1_isRow 9 = .ok (.iload_n 1, 1) := by decide +kernel
theorem dX1_isRow_10 : decode cX1_isRow 10 = .ok (.iload_n 2, 1) := by decide +kernel
theorem dX1_isRow_11 : decode cX1_isRow 11 = .ok (.invokevirtual 30, 3) := by decide +kernel
theorem dX1_isRow_14 : decode cX1_isRow 14 = .ok (.aload_n 0, 1) := by decide +kernel
theorem dX1_isRow_15 : decode cX1_isRow 15 = .ok (.getfield 9, 3) := by decide +kernel
theorem dX1_isRow_18 : decode cX1_isRow 18 = .ok (.iload_n 2, 1) := by decide +kernel
theorem dX1_isRow_19 : decode cX1_isRow 19 = .ok (.iaload, 1) := by decide +kernel
theorem dX1_isRow_20 : decode cX1_isRow 20 = .ok (.if_icmp .eq 5, 3) := by decide +kernel
theorem dX1_isRow_23 : decode cX1_isRow 23 = .ok (.iconst 0, 1) := by decide +kernel
theorem dX1_isRow_24 : decode cX1_isRow 24 = .ok (.ireturn, 1) := by decide +kernel
theorem dX1_isRow_25 : decode cX1_isRow 25 = .ok (.iinc 2 1, 3) := by decide +kernel
theorem dX1_isRow_28 : decode cX1_isRow 28 = .ok (.goto (-26), 3) := by decide +kernel
theorem dX1_isRow_31 : decode cX1_isRow 31 = .ok (.iconst 1, 1) := by decide +kernel
theorem dX1_isRow_32 : decode cX1_isRow 32 = .ok (.ireturn, 1) := by decide +kernel
theorem dX2_init_0 : decode cX2_init 0 = .ok (.aload_n 0, 1) := by decide +kernel
theorem dX2_init_1 : decode cX2_init 1 = .ok (.invokespecial 3, 3) := by decide +kernel
theorem dX2_init_4 : decode cX2_init 4 = .ok (.aload_n 0, 1) := by decide +kernel
theorem dX2_init_5 : decode cX2_init 5 = .ok (.bipush 64, 2) := by decide +kernel
theorem dX2_init_7 : decode cX2_init 7 = .ok (.newarray .int, 2) := by decide +kernel
theorem dX2_init_9 : decode cX2_init 9 = .ok (.putfield 9, 3) := by decide +kernel
theorem dX2_init_12 : decode cX2_init 12 = .ok (.aload_n 0, 1) := by decide +kernel
theorem dX2_init_13 : decode cX2_init 13 = .ok (.bipush 64, 2) := by decide +kernel
theorem dX2_init_15 : decode cX2_init 15 = .ok (.newarray .int, 2) := by decide +kernel
theorem dX2_init_17 : decode cX2_init 17 = .ok (.putfield 15, 3) := by decide +kernel
theorem dX2_init_20 : decode cX2_init 20 = .ok (.aload_n 0, 1) := by decide +kernel
theorem dX2_init_21 : decode cX2_init 21 = .ok (.iconst 2, 1) := by decide +kernel
theorem dX2_init_22 : decode cX2_init 22 = .ok (.invokevirtual 18, 3) := by decide +kernel
theorem dX2_init_25 : decode cX2_init 25 = .ok (.return_, 1) := by decide +kernel
theorem dX2_renew_0 : decode cX2_renew 0 = .ok (.aload_n 0, 1) := by decide +kernel
theorem dX2_renew_1 : decode cX2_renew 1 = .ok (.iload_n 1, 1) := by decide +kernel
theorem dX2_renew_2 : decode cX2_renew 2 = .ok (.putfield 22, 3) := by decide +kernel
theorem dX2_renew_5 : decode cX2_renew 5 = .ok (.aload_n 0, 1) := by decide +kernel
theorem dX2_renew_6 : decode cX2_renew 6 = .ok (.getfield 9, 3) := by decide +kernel
theorem dX2_renew_9 : decode cX2_renew 9 = .ok (.bipush 6, 2) := by decide +kernel
theorem dX2_renew_11 : decode cX2_renew 11 = .ok (.invokestatic 26, 3) := by decide +kernel
theorem dX2_renew_14 : decode cX2_renew 14 = .ok (.aload_n 0, 1) := by decide +kernel
theorem dX2_renew_15 : decode cX2_renew 15 = .ok (.getfield 15, 3) := by decide +kernel
theorem dX2_renew_18 : decode cX2_renew 18 = .ok (.iconst 1, 1) := by decide +kernel
theorem dX2_renew_19 : decode cX2_renew 19 = .ok (.invokestatic 26, 3) := by decide +kernel
theorem dX2_renew_22 : decode cX2_renew 22 = .ok (.return_, 1) := by decide +kernel
theorem dX2_has_0 : decode cX2_has 0 = .ok (.iload_n 1, 1) := by decide +kernel
theorem dX2_has_1 : decode cX2_has 1 = .ok (.ifCond .lt 15, 3) := by decide +kernel
theorem dX2_has_4 : decode cX2_has 4 = .ok (.iload_n 1, 1) := by decide +kernel
theorem dX2_has_5 : decode cX2_has 5 = .ok (.aload_n 0, 1) := by decide +kernel
theorem dX2_has_6 : decode cX2_has 6 = .ok (.getfield 22, 3) := by decide +kernel
theorem dX2_has_9 : decode cX2_has 9 = .ok (.if_icmp .ge 7, 3) := by decide +kernel
theorem dX2_has_12 : decode cX2_has 12 = .ok (.iconst 1, 1) := by decide +kernel
theorem dX2_has_13 : decode cX2_has 13 = .ok (.goto 4, 3) := by decide +kernel
theorem dX2_has_16 : decode cX2_has 16 = .ok (.iconst 0, 1) := by decide +kernel
theorem dX2_has_17 : decode cX2_has 17 = .ok (.ireturn, 1) := by decide +kernel
theorem dX2_chanceOf_0 : decode cX2_chanceOf 0 = .ok (.iload_n 1, 1) := by decide +kernel
theorem dX2_chanceOf_1 : decode cX2_chanceOf 1 = .ok (.bipush 8, 2) := by decide +kernel
theorem dX2_chanceOf_3 : decode cX2_chanceOf 3 = .ok (.imul, 1) := by decide +kernel
theorem dX2_chanceOf_4 : decode cX2_chanceOf 4 = .ok (.iload_n 2, 1) := by decide +kernel
theorem dX2_chanceOf_5 : decode cX2_chanceOf 5 = .ok (.iadd, 1) := by decide +kernel
theorem dX2_chanceOf_6 : decode cX2_chanceOf 6 = .ok (.istore_n 3, 1) := by decide +kernel
theorem dX2_chanceOf_7 : decode cX2_chanceOf 7 = .ok (.iload_n 3, 1) := by decide +kernel
theorem dX2_chanceOf_8 : decode cX2_chanceOf 8 = .ok (.ifCond .lt 21, 3) := by decide +kernel
theorem dX2_chanceOf_11 : decode cX2_chanceOf 11 = .ok (.iload_n 3, 1) := by decide +kernel
theorem dX2_chanceOf_12 : decode cX2_chanceOf 12 = .ok (.aload_n 0, 1) := by decide +kernel
theorem dX2_chanceOf_13 : decode cX2_chanceOf 13 = .ok (.getfield 9, 3) := by decide +kernel
theorem dX2_chanceOf_16 : decode cX2_chanceOf 16 = .ok (.arraylength, 1) := by decide +kernel
theorem dX2_chanceOf_17 : decode cX2_chanceOf 17 = .ok (.if_icmp .ge 12, 3) := by decide +kernel
theorem dX2_chanceOf_20 : decode cX2_chanceOf 20 = .ok (.aload_n 0, 1) := by decide +kernel
theorem dX2_chanceOf_21 : decode cX2_chanceOf 21 = .ok (.getfield 9, 3) := by decide +kernel
theorem dX2_chanceOf_24 : decode cX2_chanceOf 24 = .ok (.iload_n 3, 1) := by decide +kernel
theorem dX2_chanceOf_25 : decode cX2_chanceOf 25 = .ok (.iaload, 1) := by decide +kernel
theorem dX2_chanceOf_26 : decode cX2_chanceOf 26 = .ok (.goto 4, 3) := by decide +kernel
theorem dX2_chanceOf_29 : decode cX2_chanceOf 29 = .ok (.iconst 0, 1) := by decide +kernel
theorem dX2_chanceOf_30 : decode cX2_chanceOf 30 = .ok (.ireturn, 1) := by decide +kernel
theorem dX2_setChance_0 : decode cX2_setChance 0 = .ok (.aload_n 0, 1) := by decide +kernel
theorem dX2_setChance_1 : decode cX2_setChance 1 = .ok (.getfield 9, 3) := by decide +kernel
theorem dX2_setChance_4 : decode cX2_setChance 4 = .ok (.iload_n 1, 1) := by decide +kernel
theorem dX2_setChance_5 : decode cX2_setChance 5 = .ok (.bipush 8, 2) := by decide +kernel
theorem dX2_setChance_7 : decode cX2_setChance 7 = .ok (.imul, 1) := by decide +kernel
theorem dX2_setChance_8 : decode cX2_setChance 8 = .ok (.iload_n 2, 1) := by decide +kernel
theorem dX2_setChance_9 : decode cX2_setChance 9 = .ok (.iadd, 1) := by decide +kernel
theorem dX2_setChance_10 : decode cX2_setChance 10 = .ok (.iload_n 3, 1) := by decide +kernel
theorem dX2_setChance_11 : decode cX2_setChance 11 = .ok (.invokestatic 32, 3) := by decide +kernel
theorem dX2_setChance_14 : decode cX2_setChance 14 = .ok (.aload_n 0, 1) := by decide +kernel
theorem dX2_setChance_15 : decode cX2_setChance 15 = .ok (.getfield 9, 3) := by decide +kernel
theorem dX2_setChance_18 : decode cX2_setChance 18 = .ok (.iload_n 2, 1) := by decide +kernel
theorem dX2_setChance_19 : decode cX2_setChance 19 = .ok (.bipush 8, 2) := by decide +kernel
theorem dX2_setChance_21 : decode cX2_setChance 21 = .ok (.imul, 1) := by decide +kernel
theorem dX2_setChance_22 : decode cX2_setChance 22 = .ok (.iload_n 1, 1) := by decide +kernel
theorem dX2_setChance_23 : decode cX2_setChance 23 = .ok (.iadd, 1) := by decide +kernel
theorem dX2_setChance_24 : decode cX2_setChance 24 = .ok (.bipush 12, 2) := by decide +kernel
theorem dX2_setChance_26 : decode cX2_setChance 26 = .ok (.iload_n 3, 1) := by decide +kernel
theorem dX2_setChance_27 : decode cX2_setChance 27 = .ok (.isub, 1) := by decide +kernel
theorem dX2_setChance_28 : decode cX2_setChance 28 = .ok (.invokestatic 32, 3) := by decide +kernel
theorem dX2_setChance_31 : decode cX2_setChance 31 = .ok (.return_, 1) := by decide +kernel
theorem dX2_apartUntil_0 : decode cX2_apartUntil 0 = .ok (.iload_n 1, 1) := by decide +kernel
theorem dX2_apartUntil_1 : decode cX2_apartUntil 1 = .ok (.bipush 8, 2) := by decide +kernel
theorem dX2_apartUntil_3 : decode cX2_apartUntil 3 = .ok (.imul, 1) := by decide +kernel
theorem dX2_apartUntil_4 : decode cX2_apartUntil 4 = .ok (.iload_n 2, 1) := by decide +kernel
theorem dX2_apartUntil_5 : decode cX2_apartUntil 5 = .ok (.iadd, 1) := by decide +kernel
theorem dX2_apartUntil_6 : decode cX2_apartUntil 6 = .ok (.istore_n 3, 1) := by decide +kernel
theorem dX2_apartUntil_7 : decode cX2_apartUntil 7 = .ok (.iload_n 3, 1) := by decide +kernel
theorem dX2_apartUntil_8 : decode cX2_apartUntil 8 = .ok (.ifCond .lt 21, 3) := by decide +kernel
theorem dX2_apartUntil_11 : decode cX2_apartUntil 11 = .ok (.iload_n 3, 1) := by decide +kernel
theorem dX2_apartUntil_12 : decode cX2_apartUntil 12 = .ok (.aload_n 0, 1) := by decide +kernel
theorem dX2_apartUntil_13 : decode cX2_apartUntil 13 = .ok (.getfield 15, 3) := by decide +kernel
theorem dX2_apartUntil_16 : decode cX2_apartUntil 16 = .ok (.arraylength, 1) := by decide +kernel
theorem dX2_apartUntil_17 : decode cX2_apartUntil 17 = .ok (.if_icmp .ge 12, 3) := by decide +kernel
theorem dX2_apartUntil_20 : decode cX2_apartUntil 20 = .ok (.aload_n 0, 1) := by decide +kernel
theorem dX2_apartUntil_21 : decode cX2_apartUntil 21 = .ok (.getfield 15, 3) := by decide +kernel
theorem dX2_apartUntil_24 : decode cX2_apartUntil 24 = .ok (.iload_n 3, 1) := by decide +kernel
theorem dX2_apartUntil_25 : decode cX2_apartUntil 25 = .ok (.iaload, 1) := by decide +kernel
theorem dX2_apartUntil_26 : decode cX2_apartUntil 26 = .ok (.goto 4, 3) := by decide +kernel
theorem dX2_apartUntil_29 : decode cX2_apartUntil 29 = .ok (.iconst 1, 1) := by decide +kernel
theorem dX2_apartUntil_30 : decode cX2_apartUntil 30 = .ok (.ireturn, 1) := by decide +kernel
theorem dX2_setApart_0 : decode cX2_setApart 0 = .ok (.aload_n 0, 1) := by decide +kernel
theorem dX2_setApart_1 : decode cX2_setApart 1 = .ok (.getfield 15, 3) := by decide +kernel
theorem dX2_setApart_4 : decode cX2_setApart 4 = .ok (.iload_n 1, 1) := by decide +kernel
theorem dX2_setApart_5 : decode cX2_setApart 5 = .ok (.bipush 8, 2) := by decide +kernel
theorem dX2_setApart_7 : decode cX2_setApart 7 = .ok (.imul, 1) := by decide +kernel
theorem dX2_setApart_8 : decode cX2_setApart 8 = .ok (.iload_n 2, 1) := by decide +kernel
theorem dX2_setApart_9 : decode cX2_setApart 9 = .ok (.iadd, 1) := by decide +kernel
theorem dX2_setApart_10 : decode cX2_setApart 10 = .ok (.iload_n 3, 1) := by decide +kernel
theorem dX2_setApart_11 : decode cX2_setApart 11 = .ok (.invokestatic 32, 3) := by decide +kernel
theorem dX2_setApart_14 : decode cX2_setApart 14 = .ok (.aload_n 0, 1) := by decide +kernel
theorem dX2_setApart_15 : decode cX2_setApart 15 = .ok (.getfield 15, 3) := by decide +kernel
theorem dX2_setApart_18 : decode cX2_setApart 18 = .ok (.iload_n 2, 1) := by decide +kernel
theorem dX2_setApart_19 : decode cX2_setApart 19 = .ok (.bipush 8, 2) := by decide +kernel
theorem dX2_setApart_21 : decode cX2_setApart 21 = .ok (.imul, 1) := by decide +kernel
theorem dX2_setApart_22 : decode cX2_setApart 22 = .ok (.iload_n 1, 1) := by decide +kernel
theorem dX2_setApart_23 : decode cX2_setApart 23 = .ok (.iadd, 1) := by decide +kernel
theorem dX2_setApart_24 : decode cX2_setApart 24 = .ok (.iload_n 3, 1) := by decide +kernel
theorem dX2_setApart_25 : decode cX2_setApart 25 = .ok (.invokestatic 32, 3) := by decide +kernel
theorem dX2_setApart_28 : decode cX2_setApart 28 = .ok (.return_, 1) := by decide +kernel
theorem dX2_pairsApart_0 : decode cX2_pairsApart 0 = .ok (.iconst 0, 1) := by decide +kernel
theorem dX2_pairsApart_1 : decode cX2_pairsApart 1 = .ok (.istore_n 1, 1) := by decide +kernel
theorem dX2_pairsApart_2 : decode cX2_pairsApart 2 = .ok (.iconst 0, 1) := by decide +kernel
theorem dX2_pairsApart_3 : decode cX2_pairsApart 3 = .ok (.istore_n 2, 1) := by decide +kernel
theorem dX2_pairsApart_4 : decode cX2_pairsApart 4 = .ok (.iload_n 2, 1) := by decide +kernel
theorem dX2_pairsApart_5 : decode cX2_pairsApart 5 = .ok (.aload_n 0, 1) := by decide +kernel
theorem dX2_pairsApart_6 : decode cX2_pairsApart 6 = .ok (.getfield 22, 3) := by decide +kernel
theorem dX2_pairsApart_9 : decode cX2_pairsApart 9 = .ok (.if_icmp .ge 40, 3) := by decide +kernel
theorem dX2_pairsApart_12 : decode cX2_pairsApart 12 = .ok (.iload_n 2, 1) := by decide +kernel
theorem dX2_pairsApart_13 : decode cX2_pairsApart 13 = .ok (.iconst 1, 1) := by decide +kernel
theorem dX2_pairsApart_14 : decode cX2_pairsApart 14 = .ok (.iadd, 1) := by decide +kernel
theorem dX2_pairsApart_15 : decode cX2_pairsApart 15 = .ok (.istore_n 3, 1) := by decide +kernel
theorem dX2_pairsApart_16 : decode cX2_pairsApart 16 = .ok (.iload_n 3, 1) := by decide +kernel
theorem dX2_pairsApart_17 : decode cX2_pairsApart 17 = .ok (.aload_n 0, 1) := by decide +kernel
theorem dX2_pairsApart_18 : decode cX2_pairsApart 18 = .ok (.getfield 22, 3) := by decide +kernel
theorem dX2_pairsApart_21 : decode cX2_pairsApart 21 = .ok (.if_icmp .ge 22, 3) := by decide +kernel
theorem dX2_pairsApart_24 : decode cX2_pairsApart 24 = .ok (.aload_n 0, 1) := by decide +kernel
theorem dX2_pairsApart_25 : decode cX2_pairsApart 25 = .ok (.iload_n 2, 1) := by decide +kernel
theorem dX2_pairsApart_26 : decode cX2_pairsApart 26 = .ok (.iload_n 3, 1) := by decide +kernel
theorem dX2_pairsApart_27 : decode cX2_pairsApart 27 = .ok (.invokevirtual 36, 3) := by decide +kernel
theorem dX2_pairsApart_30 : decode cX2_pairsApart 30 = .ok (.iconst 1, 1) := by decide +kernel
theorem dX2_pairsApart_31 : decode cX2_pairsApart 31 = .ok (.if_icmp .eq 6, 3) := by decide +kernel
theorem dX2_pairsApart_34 : decode cX2_pairsApart 34 = .ok (.iinc 1 1, 3) := by decide +kernel
theorem dX2_pairsApart_37 : decode cX2_pairsApart 37 = .ok (.iinc 3 1, 3) := by decide +kernel
theorem dX2_pairsApart_40 : decode cX2_pairsApart 40 = .ok (.goto (-24), 3) := by decide +kernel
theorem dX2_pairsApart_43 : decode cX2_pairsApart 43 = .ok (.iinc 2 1, 3) := by decide +kernel
theorem dX2_pairsApart_46 : decode cX2_pairsApart 46 = .ok (.goto (-42), 3) := by decide +kernel
theorem dX2_pairsApart_49 : decode cX2_pairsApart 49 = .ok (.iload_n 1, 1) := by decide +kernel
theorem dX2_pairsApart_50 : decode cX2_pairsApart 50 = .ok (.ireturn, 1) := by decide +kernel
theorem dX2_setCell_0 : decode cX2_setCell 0 = .ok (.iload_n 1, 1) := by decide +kernel
theorem dX2_setCell_1 : decode cX2_setCell 1 = .ok (.ifCond .lt 13, 3) := by decide +kernel
theorem dX2_setCell_4 : decode cX2_setCell 4 = .ok (.iload_n 1, 1) := by decide +kernel
theorem dX2_setCell_5 : decode cX2_setCell 5 = .ok (.aload_n 0, 1) := by decide +kernel
theorem dX2_setCell_6 : decode cX2_setCell 6 = .ok (.arraylength, 1) := by decide +kernel
theorem dX2_setCell_7 : decode cX2_setCell 7 = .ok (.if_icmp .ge 7, 3) := by decide +kernel
theorem dX2_setCell_10 : decode cX2_setCell 10 = .ok (.aload_n 0, 1) := by decide +kernel
theorem dX2_setCell_11 : decode cX2_setCell 11 = .ok (.iload_n 1, 1) := by decide +kernel
theorem dX2_setCell_12 : decode cX2_setCell 12 = .ok (.iload_n 2, 1) := by decide +kernel
theorem dX2_setCell_13 : decode cX2_setCell 13 = .ok (.iastore, 1) := by decide +kernel
theorem dX2_setCell_14 : decode cX2_setCell 14 = .ok (.return_, 1) := by decide +kernel
theorem dX3_init_0 : decode cX3_init 0 = .ok (.aload_n 0, 1) := by decide +kernel
