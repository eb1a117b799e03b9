theorem dL_add_0 : decode cL_add 0 = .ok (.aload 4, 2) := by decide +kernel
theorem dL_add_2 : decode cL_add 2 = .ok (.iconst 0, 1) := by decide +kernel
theorem dL_add_3 : decode cL_add 3 = .ok (.aload_n 0, 1) := by decide +kernel
theorem dL_add_4 : decode cL_add 4 = .ok (.iload_n 1, 1) := by decide +kernel
theorem dL_add_5 : decode cL_add 5 = .ok (.iload_n 2, 1) := by decide +kernel
theorem dL_add_6 : decode cL_add 6 = .ok (.iload_n 3, 1) := by decide +kernel
theorem dL_add_7 : decode cL_add 7 = .ok (.invokevirtual 7, 3) := by decide +kernel
theorem dL_add_10 : decode cL_add 10 = .ok (.i2l, 1) := by decide +kernel
theorem dL_add_11 : decode cL_add 11 = .ok (.lastore, 1) := by decide +kernel
theorem dL_add_12 : decode cL_add 12 = .ok (.goto 11, 3) := by decide +kernel
theorem dL_add_15 : decode cL_add 15 = .ok (.astore 5, 2) := by decide +kernel
theorem dL_add_17 : decode cL_add 17 = .ok (.iconst 1, 1) := by decide +kernel
theorem dL_add_18 : decode cL_add 18 = .ok (.ireturn, 1) := by decide +kernel
theorem dL_add_19 : decode cL_add 19 = .ok (.astore 5, 2) := by decide +kernel
theorem dL_add_21 : decode cL_add 21 = .ok (.iconst 2, 1) := by decide +kernel
theorem dL_add_22 : decode cL_add 22 = .ok (.ireturn, 1) := by decide +kernel
theorem dL_add_23 : decode cL_add 23 = .ok (.iconst 0, 1) := by decide +kernel
theorem dL_add_24 : decode cL_add 24 = .ok (.ireturn, 1) := by decide +kernel
theorem dL_remove_0 : decode cL_remove 0 = .ok (.aload_n 2, 1) := by decide +kernel
theorem dL_remove_1 : decode cL_remove 1 = .ok (.iconst 0, 1) := by decide +kernel
theorem dL_remove_2 : decode cL_remove 2 = .ok (.aload_n 0, 1) := by decide +kernel
theorem dL_remove_3 : decode cL_remove 3 = .ok (.iload_n 1, 1) := by decide +kernel
theorem dL_remove_4 : decode cL_remove 4 = .ok (.invokevirtual 17, 3) := by decide +kernel
theorem dL_remove_7 : decode cL_remove 7 = .ok (.i2l, 1) := by decide +kernel
theorem dL_remove_8 : decode cL_remove 8 = .ok (.lastore, 1) := by decide +kernel
theorem dL_remove_9 : decode cL_remove 9 = .ok (.goto 6, 3) := by decide +kernel
theorem dL_remove_12 : decode cL_remove 12 = .ok (.astore_n 3, 1) := by decide +kernel
theorem dL_remove_13 : decode cL_remove 13 = .ok (.iconst 1, 1) := by decide +kernel
theorem dL_remove_14 : decode cL_remove 14 = .ok (.ireturn, 1) := by decide +kernel
theorem dL_remove_15 : decode cL_remove 15 = .ok (.iconst 0, 1) := by decide +kernel
theorem dL_remove_16 : decode cL_remove 16 = .ok (.ireturn, 1) := by decide +kernel
theorem dL_move_0 : decode cL_move 0 = .ok (.aload_n 3, 1) := by decide +kernel
theorem dL_move_1 : decode cL_move 1 = .ok (.iconst 0, 1) := by decide +kernel
theorem dL_move_2 : decode cL_move 2 = .ok (.aload_n 0, 1) := by decide +kernel
theorem dL_move_3 : decode cL_move 3 = .ok (.iload_n 1, 1) := by decide +kernel
theorem dL_move_4 : decode cL_move 4 = .ok (.iload_n 2, 1) := by decide +kernel
theorem dL_move_5 : decode cL_move 5 = .ok (.invokevirtual 23, 3) := by decide +kernel
theorem dL_move_8 : decode cL_move 8 = .ok (.i2l, 1) := by decide +kernel
theorem dL_move_9 : decode cL_move 9 = .ok (.lastore, 1) := by decide +kernel
theorem dL_move_10 : decode cL_move 10 = .ok (.goto 11, 3) := by decide +kernel
theorem dL_move_13 : decode cL_move 13 = .ok (.astore 4, 2) := by decide +kernel
theorem dL_move_15 : decode cL_move 15 = .ok (.iconst 1, 1) := by decide +kernel
theorem dL_move_16 : decode cL_move 16 = .ok (.ireturn, 1) := by decide +kernel
theorem dL_move_17 : decode cL_move 17 = .ok (.astore 4, 2) := by decide +kernel
theorem dL_move_19 : decode cL_move 19 = .ok (.iconst 2, 1) := by decide +kernel
theorem dL_move_20 : decode cL_move 20 = .ok (.ireturn, 1) := by decide +kernel
theorem dL_move_21 : decode cL_move 21 = .ok (.iconst 0, 1) := by decide +kernel
theorem dL_move_22 : decode cL_move 22 = .ok (.ireturn, 1) := by decide +kernel
theorem dL_overlapping_0 : decode cL_overlapping 0 = .ok (.aload_n 2, 1) := by decide +kernel
theorem dL_overlapping_1 : decode cL_overlapping 1 = .ok (.iconst 0, 1) := by decide +kernel
theorem dL_overlapping_2 : decode cL_overlapping 2 = .ok (.aload_n 0, 1) := by decide +kernel
theorem dL_overlapping_3 : decode cL_overlapping 3 = .ok (.iload_n 1, 1) := by decide +kernel
theorem dL_overlapping_4 : decode cL_overlapping 4 = .ok (.invokevirtual 27, 3) := by decide +kernel
theorem dL_overlapping_7 : decode cL_overlapping 7 = .ok (.lastore, 1) := by decide +kernel
theorem dL_overlapping_8 : decode cL_overlapping 8 = .ok (.goto 6, 3) := by decide +kernel
theorem dL_overlapping_11 : decode cL_overlapping 11 = .ok (.astore_n 3, 1) := by decide +kernel
theorem dL_overlapping_12 : decode cL_overlapping 12 = .ok (.iconst 1, 1) := by decide +kernel
theorem dL_overlapping_13 : decode cL_overlapping 13 = .ok (.ireturn, 1) := by decide +kernel
theorem dL_overlapping_14 : decode cL_overlapping 14 = .ok (.iconst 0, 1) := by decide +kernel
theorem dL_overlapping_15 : decode cL_overlapping 15 = .ok (.ireturn, 1) := by decide +kernel
theorem dL_roomOf_0 : decode cL_roomOf 0 = .ok (.aload_n 2, 1) := by decide +kernel
theorem dL_roomOf_1 : decode cL_roomOf 1 = .ok (.iconst 0, 1) := by decide +kernel
theorem dL_roomOf_2 : decode cL_roomOf 2 = .ok (.aload_n 0, 1) := by decide +kernel
theorem dL_roomOf_3 : decode cL_roomOf 3 = .ok (.iload_n 1, 1) := by decide +kernel
theorem dL_roomOf_4 : decode cL_roomOf 4 = .ok (.invokevirtual 31, 3) := by decide +kernel
theorem dL_roomOf_7 : decode cL_roomOf 7 = .ok (.i2l, 1) := by decide +kernel
theorem dL_roomOf_8 : decode cL_roomOf 8 = .ok (.lastore, 1) := by decide +kernel
theorem dL_roomOf_9 : decode cL_roomOf 9 = .ok (.goto 6, 3) := by decide +kernel
theorem dL_roomOf_12 : decode cL_roomOf 12 = .ok (.astore_n 3, 1) := by decide +kernel
theorem dL_roomOf_13 : decode cL_roomOf 13 = .ok (.iconst 1, 1) := by decide +kernel
theorem dL_roomOf_14 : decode cL_roomOf 14 = .ok (.ireturn, 1) := by decide +kernel
theorem dL_roomOf_15 : decode cL_roomOf 15 = .ok (.iconst 0, 1) := by decide +kernel
theorem dL_roomOf_16 : decode cL_roomOf 16 = .ok (.ireturn, 1) := by decide +kernel
theorem dL_depth_0 : decode cL_depth 0 = .ok (.aload_n 2, 1) := by decide +kernel
theorem dL_depth_1 : decode cL_depth 1 = .ok (.iconst 0, 1) := by decide +kernel
theorem dL_depth_2 : decode cL_depth 2 = .ok (.aload_n 0, 1) := by decide +kernel
theorem dL_depth_3 : decode cL_depth 3 = .ok (.iload_n 1, 1) := by decide +kernel
theorem dL_depth_4 : decode cL_depth 4 = .ok (.invokevirtual 34, 3) := by decide +kernel
theorem dL_depth_7 : decode cL_depth 7 = .ok (.i2l, 1) := by decide +kernel
theorem dL_depth_8 : decode cL_depth 8 = .ok (.lastore, 1) := by decide +kernel
theorem dL_depth_9 : decode cL_depth 9 = .ok (.goto 6, 3) := by decide +kernel
theorem dL_depth_12 : decode cL_depth 12 = .ok (.astore_n 3, 1) := by decide +kernel
theorem dL_depth_13 : decode cL_depth 13 = .ok (.iconst 1, 1) := by decide +kernel
theorem dL_depth_14 : decode cL_depth 14 = .ok (.ireturn, 1) := by decide +kernel
theorem dL_depth_15 : decode cL_depth 15 = .ok (.iconst 0, 1) := by decide +kernel
theorem dL_depth_16 : decode cL_depth 16 = .ok (.ireturn, 1) := by decide +kernel
theorem dL_earliest_0 : decode cL_earliest 0 = .ok (.aload_n 3, 1) := by decide +kernel
theorem dL_earliest_1 : decode cL_earliest 1 = .ok (.iconst 0, 1) := by decide +kernel
theorem dL_earliest_2 : decode cL_earliest 2 = .ok (.aload_n 0, 1) := by decide +kernel
theorem dL_earliest_3 : decode cL_earliest 3 = .ok (.iload_n 1, 1) := by decide +kernel
theorem dL_earliest_4 : decode cL_earliest 4 = .ok (.iload_n 2, 1) := by decide +kernel
theorem dL_earliest_5 : decode cL_earliest 5 = .ok (.invokevirtual 37, 3) := by decide +kernel
theorem dL_earliest_8 : decode cL_earliest 8 = .ok (.i2l, 1) := by decide +kernel
theorem dL_earliest_9 : decode cL_earliest 9 = .ok (.lastore, 1) := by decide +kernel
theorem dL_earliest_10 : decode cL_earliest 10 = .ok (.goto 7, 3) := by decide +kernel
theorem dL_earliest_13 : decode cL_earliest 13 = .ok (.astore 4, 2) := by decide +kernel
theorem dL_earliest_15 : decode cL_earliest 15 = .ok (.iconst 1, 1) := by decide +kernel
theorem dL_earliest_16 : decode cL_earliest 16 = .ok (.ireturn, 1) := by decide +kernel
theorem dL_earliest_17 : decode cL_earliest 17 = .ok (.iconst 0, 1) := by decide +kernel
theorem dL_earliest_18 : decode cL_earliest 18 = .ok (.ireturn, 1) := by decide +kernel
theorem dL_heaviestIn_0 : decode cL_heaviestIn 0 = .ok (.aload_n 2, 1) := by decide +kernel
theorem dL_heaviestIn_1 : decode cL_heaviestIn 1 = .ok (.iconst 0, 1) := by decide +kernel
theorem dL_heaviestIn_2 : decode cL_heaviestIn 2 = .ok (.aload_n 0, 1) := by decide +kernel
theorem dL_heaviestIn_3 : decode cL_heaviestIn 3 = .ok (.iload_n 1, 1) := by decide +kernel
theorem dL_heaviestIn_4 : decode cL_heaviestIn 4 = .ok (.invokevirtual 40, 3) := by decide +kernel
theorem dL_heaviestIn_7 : decode cL_heaviestIn 7 = .ok (.i2l, 1) := by decide +kernel
theorem dL_heaviestIn_8 : decode cL_heaviestIn 8 = .ok (.lastore, 1) := by decide +kernel
theorem dL_heaviestIn_9 : decode cL_heaviestIn 9 = .ok (.goto 6, 3) := by decide +kernel
theorem dL_heaviestIn_12 : decode cL_heaviestIn 12 = .ok (.astore_n 3, 1) := by decide +kernel
theorem dL_heaviestIn_13 : decode cL_heaviestIn 13 = .ok (.iconst 1, 1) := by decide +kernel
theorem dL_heaviestIn_14 : decode cL_heaviestIn 14 = .ok (.ireturn, 1) := by decide +kernel
theorem dL_heaviestIn_15 : decode cL_heaviestIn 15 = .ok (.iconst 0, 1) := by decide +kernel
theorem dL_heaviestIn_16 : decode cL_heaviestIn 16 = .ok (.ireturn, 1) := by decide +kernel
theorem dL_lossWithout_0 : decode cL_lossWithout 0 = .ok (.aload_n 3, 1) := by decide +kernel
theorem dL_lossWithout_1 : decode cL_lossWithout 1 = .ok (.iconst 0, 1) := by decide +kernel
theorem dL_lossWithout_2 : decode cL_lossWithout 2 = .ok (.aload_n 0, 1) := by decide +kernel
theorem dL_lossWithout_3 : decode cL_lossWithout 3 = .ok (.iload_n 1, 1) := by decide +kernel
theorem dL_lossWithout_4 : decode cL_lossWithout 4 = .ok (.iload_n 2, 1) := by decide +kernel
theorem dL_lossWithout_5 : decode cL_lossWithout 5 = .ok (.invokevirtual 43, 3) := by decide +kernel
theorem dL_lossWithout_8 : decode cL_lossWithout 8 = .ok (.i2l, 1) := by decide +kernel
theorem dL_lossWithout_9 : decode cL_lossWithout 9 = .ok (.lastore, 1) := by decide +kernel
theorem dL_lossWithout_10 : decode cL_lossWithout 10 = .ok (.goto 11, 3) := by decide +kernel
theorem dL_lossWithout_13 : decode cL_lossWithout 13 = .ok (.astore 4, 2) := by decide +kernel
theorem dL_lossWithout_15 : decode cL_lossWithout 15 = .ok (.iconst 1, 1) := by decide +kernel
theorem dL_lossWithout_16 : decode cL_lossWithout 16 = .ok (.ireturn, 1) := by decide +kernel
theorem dL_lossWithout_17 : decode cL_lossWithout 17 = .ok (.astore 4, 2) := by decide +kernel
theorem dL_lossWithout_19 : decode cL_lossWithout 19 = .ok (.iconst 2, 1) := by decide +kernel
theorem dL_lossWithout_20 : decode cL_lossWithout 20 = .ok (.ireturn, 1) := by decide +kernel
theorem dL_lossWithout_21 : decode cL_lossWithout 21 = .ok (.iconst 0, 1) := by decide +kernel
theorem dL_lossWithout_22 : decode cL_lossWithout 22 = .ok (.ireturn, 1) := by decide +kernel
theorem dL_openDesk_0 : decode cL_openDesk 0 = .ok (.aload_n 2, 1) := by decide +kernel
theorem dL_openDesk_1 : decode cL_openDesk 1 = .ok (.iconst 0, 1) := by decide +kernel
theorem dL_openDesk_2 : decode cL_openDesk 2 = .ok (.aload_n 0, 1) := by decide +kernel
theorem dL_openDesk_3 : decode cL_openDesk 3 = .ok (.iload_n 1, 1) := by decide +kernel
theorem dL_openDesk_4 : decode cL_openDesk 4 = .ok (.invokevirtual 46, 3) := by decide +kernel
theorem dL_openDesk_7 : decode cL_openDesk 7 = .ok (.i2l, 1) := by decide +kernel
theorem dL_openDesk_8 : decode cL_openDesk 8 = .ok (.lastore, 1) := by decide +kernel
theorem dL_openDesk_9 : decode cL_openDesk 9 = .ok (.goto 6, 3) := by decide +kernel
theorem dL_openDesk_12 : decode cL_openDesk 12 = .ok (.astore_n 3, 1) := by decide +kernel
theorem dL_openDesk_13 : decode cL_openDesk 13 = .ok (.iconst 1, 1) := by decide +kernel
theorem dL_openDesk_14 : decode cL_openDesk 14 = .ok (.ireturn, 1) := by decide +kernel
theorem dL_openDesk_15 : decode cL_openDesk 15 = .ok (.iconst 0, 1) := by decide +kernel
theorem dL_openDesk_16 : decode cL_openDesk 16 = .ok (.ireturn, 1) := by decide +kernel
theorem dL_offer_0 : decode cL_offer 0 = .ok (.aload_n 2, 1) := by decide +kernel
theorem dL_offer_1 : decode cL_offer 1 = .ok (.iconst 0, 1) := by decide +kernel
theorem dL_offer_2 : decode cL_offer 2 = .ok (.aload_n 0, 1) := by decide +kernel
theorem dL_offer_3 : decode cL_offer 3 = .ok (.iload_n 1, 1) := by decide +kernel
theorem dL_offer_4 : decode cL_offer 4 = .ok (.invokevirtual 49, 3) := by decide +kernel
theorem dL_offer_7 : decode cL_offer 7 = .ok (.i2l, 1) := by decide +kernel
theorem dL_offer_8 : decode cL_offer 8 = .ok (.lastore, 1) := by decide +kernel
theorem dL_offer_9 : decode cL_offer 9 = .ok (.goto 9, 3) := by decide +kernel
theorem dL_offer_12 : decode cL_offer 12 = .ok (.astore_n 3, 1) := by decide +kernel
theorem dL_offer_13 : decode cL_offer 13 = .ok (.iconst 1, 1) := by decide +kernel
theorem dL_offer_14 : decode cL_offer 14 = .ok (.ireturn, 1) := by decide +kernel
theorem dL_offer_15 : decode cL_offer 15 = .ok (.astore_n 3, 1) := by decide +kernel
theorem dL_offer_16 : decode cL_offer 16 = .ok (.iconst 2, 1) := by decide +kernel
theorem dL_offer_17 : decode cL_offer 17 = .ok (.ireturn, 1) := by decide +kernel
theorem dL_offer_18 : decode cL_offer 18 = .ok (.iconst 0, 1) := by decide +kernel
theorem dL_offer_19 : decode cL_offer 19 = .ok (.ireturn, 1) := by decide +kernel
theorem dL_depthRound_0 : decode cL_depthRound 0 = .ok (.aload_n 2, 1) := by decide +kernel
theorem dL_depthRound_1 : decode cL_depthRound 1 = .ok (.iconst 0, 1) := by decide +kernel
theorem dL_depthRound_2 : decode cL_depthRound 2 = .ok (.aload_n 0, 1) := by decide +kernel
theorem dL_depthRound_3 : decode cL_depthRound 3 = .ok (.iload_n 1, 1) := by decide +kernel
theorem dL_depthRound_4 : decode cL_depthRound 4 = .ok (.invokevirtual 52, 3) := by decide +kernel
theorem dL_depthRound_7 : decode cL_depthRound 7 = .ok (.i2l, 1) := by decide +kernel
theorem dL_depthRound_8 : decode cL_depthRound 8 = .ok (.lastore, 1) := by decide +kernel
theorem dL_depthRound_9 : decode cL_depthRound 9 = .ok (.goto 9, 3) := by decide +kernel
theorem dL_depthRound_12 : decode cL_depthRound 12 = .ok (.astore_n 3, 1) := by decide +kernel
theorem dL_depthRound_13 : decode cL_depthRound 13 = .ok (.iconst 1, 1) := by decide +kernel
theorem dL_depthRound_14 : decode cL_depthRound 14 = .ok (.ireturn, 1) := by decide +kernel
theorem dL_depthRound_15 : decode cL_depthRound 15 = .ok (.astore_n 3, 1) := by decide +kernel
theorem dL_depthRound_16 : decode cL_depthRound 16 = .ok (.iconst 2, 1) := by decide +kernel
theorem dL_depthRound_17 : decode cL_depthRound 17 = .ok (.ireturn, 1) := by decide +kernel
theorem dL_depthRound_18 : decode cL_depthRound 18 = .ok (.iconst 0, 1) := by decide +kernel
theorem dL_depthRound_19 : decode cL_depthRound 19 = .ok (.ireturn, 1) := by decide +kernel
theorem dL_heaviestRound_0 : decode cL_heaviestRound 0 = .ok (.aload_n 2, 1) := by decide +kernel
theorem dL_heaviestRound_1 : decode cL_heaviestRound 1 = .ok (.iconst 0, 1) := by decide +kernel
theorem dL_heaviestRound_2 : decode cL_heaviestRound 2 = .ok (.aload_n 0, 1) := by decide +kernel
theorem dL_heaviestRound_3 : decode cL_heaviestRound 3 = .ok (.iload_n 1, 1) := by decide +kernel
theorem dL_heaviestRound_4 : decode cL_heaviestRound 4 = .ok (.invokevirtual 55, 3) := by decide +kernel
theorem dL_heaviestRound_7 : decode cL_heaviestRound 7 = .ok (.i2l, 1) := by decide +kernel
theorem dL_heaviestRound_8 : decode cL_heaviestRound 8 = .ok (.lastore, 1) := by decide +kernel
theorem dL_heaviestRound_9 : decode cL_heaviestRound 9 = .ok (.goto 9, 3) := by decide +kernel
theorem dL_heaviestRound_12 : decode cL_heaviestRound 12 = .ok (.astore_n 3, 1) := by decide +kernel
theorem dL_heaviestRound_13 : decode cL_heaviestRound 13 = .ok (.iconst 1, 1) := by decide +kernel
theorem dL_heaviestRound_14 : decode cL_heaviestRound 14 = .ok (.ireturn, 1) := by decide +kernel
theorem dL_heaviestRound_15 : decode cL_heaviestRound 15 = .ok (.astore_n 3, 1) := by decide +kernel
theorem dL_heaviestRound_16 : decode cL_heaviestRound 16 = .ok (.iconst 2, 1) := by decide +kernel
theorem dL_heaviestRound_17 : decode cL_heaviestRound 17 = .ok (.ireturn, 1) := by decide +kernel
theorem dL_heaviestRound_18 : decode cL_heaviestRound 18 = .ok (.iconst 0, 1) := by decide +kernel
theorem dL_heaviestRound_19 : decode cL_heaviestRound 19 = .ok (.ireturn, 1) := by decide +kernel
