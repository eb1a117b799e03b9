theorem dX4_move_60 : decode cX4_move 60 = .ok (.getfield 75, 3) := by decide +kernel
theorem dX4_move_63 : decode cX4_move 63 = .ok (.iload_n 1, 1) := by decide +kernel
theorem dX4_move_64 : decode cX4_move 64 = .ok (.invokestatic 65, 3) := by decide +kernel
theorem dX4_move_67 : decode cX4_move 67 = .ok (.ldc2_w 73, 3) := by decide +kernel
theorem dX4_move_70 : decode cX4_move 70 = .ok (.lxor, 1) := by decide +kernel
theorem dX4_move_71 : decode cX4_move 71 = .ok (.land, 1) := by decide +kernel
theorem dX4_move_72 : decode cX4_move 72 = .ok (.putfield 75, 3) := by decide +kernel
theorem dX4_move_75 : decode cX4_move 75 = .ok (.iload 4, 2) := by decide +kernel
theorem dX4_move_77 : decode cX4_move 77 = .ok (.ireturn, 1) := by decide +kernel
theorem dX4_intervals_0 : decode cX4_intervals 0 = .ok (.aload_n 0, 1) := by decide +kernel
theorem dX4_intervals_1 : decode cX4_intervals 1 = .ok (.getfield 61, 3) := by decide +kernel
theorem dX4_intervals_4 : decode cX4_intervals 4 = .ok (.invokestatic 78, 3) := by decide +kernel
theorem dX4_intervals_7 : decode cX4_intervals 7 = .ok (.ireturn, 1) := by decide +kernel
theorem dX4_present_0 : decode cX4_present 0 = .ok (.aload_n 0, 1) := by decide +kernel
theorem dX4_present_1 : decode cX4_present 1 = .ok (.getfield 61, 3) := by decide +kernel
theorem dX4_present_4 : decode cX4_present 4 = .ok (.lreturn, 1) := by decide +kernel
theorem dX4_overlapping_0 : decode cX4_overlapping 0 = .ok (.aload_n 0, 1) := by decide +kernel
theorem dX4_overlapping_1 : decode cX4_overlapping 1 = .ok (.iload_n 1, 1) := by decide +kernel
theorem dX4_overlapping_2 : decode cX4_overlapping 2 = .ok (.invokevirtual 69, 3) := by decide +kernel
theorem dX4_overlapping_5 : decode cX4_overlapping 5 = .ok (.aload_n 0, 1) := by decide +kernel
theorem dX4_overlapping_6 : decode cX4_overlapping 6 = .ok (.iload_n 1, 1) := by decide +kernel
theorem dX4_overlapping_7 : decode cX4_overlapping 7 = .ok (.invokevirtual 90, 3) := by decide +kernel
theorem dX4_overlapping_10 : decode cX4_overlapping 10 = .ok (.lreturn, 1) := by decide +kernel
theorem dX4_rooms_0 : decode cX4_rooms 0 = .ok (.aload_n 0, 1) := by decide +kernel
theorem dX4_rooms_1 : decode cX4_rooms 1 = .ok (.invokevirtual 93, 3) := by decide +kernel
theorem dX4_rooms_4 : decode cX4_rooms 4 = .ok (.istore_n 1, 1) := by decide +kernel
theorem dX4_rooms_5 : decode cX4_rooms 5 = .ok (.iload_n 1, 1) := by decide +kernel
theorem dX4_rooms_6 : decode cX4_rooms 6 = .ok (.iconst (-1), 1) := by decide +kernel
theorem dX4_rooms_7 : decode cX4_rooms 7 = .ok (.if_icmp .ne 7, 3) := by decide +kernel
theorem dX4_rooms_10 : decode cX4_rooms 10 = .ok (.iconst 0, 1) := by decide +kernel
theorem dX4_rooms_11 : decode cX4_rooms 11 = .ok (.goto 8, 3) := by decide +kernel
theorem dX4_rooms_14 : decode cX4_rooms 14 = .ok (.aload_n 0, 1) := by decide +kernel
theorem dX4_rooms_15 : decode cX4_rooms 15 = .ok (.iload_n 1, 1) := by decide +kernel
theorem dX4_rooms_16 : decode cX4_rooms 16 = .ok (.invokevirtual 97, 3) := by decide +kernel
theorem dX4_rooms_19 : decode cX4_rooms 19 = .ok (.ireturn, 1) := by decide +kernel
theorem dX4_roomOf_0 : decode cX4_roomOf 0 = .ok (.aload_n 0, 1) := by decide +kernel
theorem dX4_roomOf_1 : decode cX4_roomOf 1 = .ok (.iload_n 1, 1) := by decide +kernel
theorem dX4_roomOf_2 : decode cX4_roomOf 2 = .ok (.invokevirtual 69, 3) := by decide +kernel
theorem dX4_roomOf_5 : decode cX4_roomOf 5 = .ok (.aload_n 0, 1) := by decide +kernel
theorem dX4_roomOf_6 : decode cX4_roomOf 6 = .ok (.aload_n 0, 1) := by decide +kernel
theorem dX4_roomOf_7 : decode cX4_roomOf 7 = .ok (.getfield 26, 3) := by decide +kernel
theorem dX4_roomOf_10 : decode cX4_roomOf 10 = .ok (.getfield 100, 3) := by decide +kernel
theorem dX4_roomOf_13 : decode cX4_roomOf 13 = .ok (.aload_n 0, 1) := by decide +kernel
theorem dX4_roomOf_14 : decode cX4_roomOf 14 = .ok (.getfield 61, 3) := by decide +kernel
theorem dX4_roomOf_17 : decode cX4_roomOf 17 = .ok (.invokevirtual 104, 3) := by decide +kernel
theorem dX4_roomOf_20 : decode cX4_roomOf 20 = .ok (.aload_n 0, 1) := by decide +kernel
theorem dX4_roomOf_21 : decode cX4_roomOf 21 = .ok (.getfield 26, 3) := by decide +kernel
theorem dX4_roomOf_24 : decode cX4_roomOf 24 = .ok (.iload_n 1, 1) := by decide +kernel
theorem dX4_roomOf_25 : decode cX4_roomOf 25 = .ok (.invokevirtual 108, 3) := by decide +kernel
theorem dX4_roomOf_28 : decode cX4_roomOf 28 = .ok (.ireturn, 1) := by decide +kernel
theorem dX4_depth_0 : decode cX4_depth 0 = .ok (.iload_n 1, 1) := by decide +kernel
theorem dX4_depth_1 : decode cX4_depth 1 = .ok (.ifCond .lt 10, 3) := by decide +kernel
theorem dX4_depth_4 : decode cX4_depth 4 = .ok (.iload_n 1, 1) := by decide +kernel
theorem dX4_depth_5 : decode cX4_depth 5 = .ok (.sipush 1000, 3) := by decide +kernel
theorem dX4_depth_8 : decode cX4_depth 8 = .ok (.if_icmp .le 13, 3) := by decide +kernel
theorem dX4_depth_11 : decode cX4_depth 11 = .ok (.new 44, 3) := by decide +kernel
theorem dX4_depth_14 : decode cX4_depth 14 = .ok (.dup, 1) := by decide +kernel
theorem dX4_depth_15 : decode cX4_depth 15 = .ok (.ldc 111, 2) := by decide +kernel
theorem dX4_depth_17 : decode cX4_depth 17 = .ok (.invokespecial 48, 3) := by decide +kernel
theorem dX4_depth_20 : decode cX4_depth 20 = .ok (.athrow, 1) := by decide +kernel
theorem dX4_depth_21 : decode cX4_depth 21 = .ok (.aload_n 0, 1) := by decide +kernel
theorem dX4_depth_22 : decode cX4_depth 22 = .ok (.iload_n 1, 1) := by decide +kernel
theorem dX4_depth_23 : decode cX4_depth 23 = .ok (.invokevirtual 97, 3) := by decide +kernel
theorem dX4_depth_26 : decode cX4_depth 26 = .ok (.ireturn, 1) := by decide +kernel
theorem dX4_busiest_0 : decode cX4_busiest 0 = .ok (.aload_n 0, 1) := by decide +kernel
theorem dX4_busiest_1 : decode cX4_busiest 1 = .ok (.invokevirtual 93, 3) := by decide +kernel
theorem dX4_busiest_4 : decode cX4_busiest 4 = .ok (.ireturn, 1) := by decide +kernel
theorem dX4_earliest_0 : decode cX4_earliest 0 = .ok (.iload_n 1, 1) := by decide +kernel
theorem dX4_earliest_1 : decode cX4_earliest 1 = .ok (.iconst 1, 1) := by decide +kernel
theorem dX4_earliest_2 : decode cX4_earliest 2 = .ok (.if_icmp .lt 10, 3) := by decide +kernel
theorem dX4_earliest_5 : decode cX4_earliest 5 = .ok (.iload_n 1, 1) := by decide +kernel
theorem dX4_earliest_6 : decode cX4_earliest 6 = .ok (.sipush 1000, 3) := by decide +kernel
theorem dX4_earliest_9 : decode cX4_earliest 9 = .ok (.if_icmp .le 13, 3) := by decide +kernel
theorem dX4_earliest_12 : decode cX4_earliest 12 = .ok (.new 44, 3) := by decide +kernel
theorem dX4_earliest_15 : decode cX4_earliest 15 = .ok (.dup, 1) := by decide +kernel
theorem dX4_earliest_16 : decode cX4_earliest 16 = .ok (.ldc 113, 2) := by decide +kernel
theorem dX4_earliest_18 : decode cX4_earliest 18 = .ok (.invokespecial 48, 3) := by decide +kernel
theorem dX4_earliest_21 : decode cX4_earliest 21 = .ok (.athrow, 1) := by decide +kernel
theorem dX4_earliest_22 : decode cX4_earliest 22 = .ok (.iload_n 2, 1) := by decide +kernel
theorem dX4_earliest_23 : decode cX4_earliest 23 = .ok (.iconst 1, 1) := by decide +kernel
theorem dX4_earliest_24 : decode cX4_earliest 24 = .ok (.if_icmp .lt 9, 3) := by decide +kernel
theorem dX4_earliest_27 : decode cX4_earliest 27 = .ok (.iload_n 2, 1) := by decide +kernel
theorem dX4_earliest_28 : decode cX4_earliest 28 = .ok (.bipush 40, 2) := by decide +kernel
theorem dX4_earliest_30 : decode cX4_earliest 30 = .ok (.if_icmp .le 13, 3) := by decide +kernel
theorem dX4_earliest_33 : decode cX4_earliest 33 = .ok (.new 44, 3) := by decide +kernel
theorem dX4_earliest_36 : decode cX4_earliest 36 = .ok (.dup, 1) := by decide +kernel
theorem dX4_earliest_37 : decode cX4_earliest 37 = .ok (.ldc 115, 2) := by decide +kernel
theorem dX4_earliest_39 : decode cX4_earliest 39 = .ok (.invokespecial 48, 3) := by decide +kernel
theorem dX4_earliest_42 : decode cX4_earliest 42 = .ok (.athrow, 1) := by decide +kernel
theorem dX4_earliest_43 : decode cX4_earliest 43 = .ok (.aload_n 0, 1) := by decide +kernel
theorem dX4_earliest_44 : decode cX4_earliest 44 = .ok (.iconst 0, 1) := by decide +kernel
theorem dX4_earliest_45 : decode cX4_earliest 45 = .ok (.iload_n 1, 1) := by decide +kernel
theorem dX4_earliest_46 : decode cX4_earliest 46 = .ok (.iload_n 2, 1) := by decide +kernel
theorem dX4_earliest_47 : decode cX4_earliest 47 = .ok (.invokevirtual 117, 3) := by decide +kernel
theorem dX4_earliest_50 : decode cX4_earliest 50 = .ok (.ifCond .eq 5, 3) := by decide +kernel
theorem dX4_earliest_53 : decode cX4_earliest 53 = .ok (.iconst 0, 1) := by decide +kernel
theorem dX4_earliest_54 : decode cX4_earliest 54 = .ok (.ireturn, 1) := by decide +kernel
theorem dX4_earliest_55 : decode cX4_earliest 55 = .ok (.aload_n 0, 1) := by decide +kernel
theorem dX4_earliest_56 : decode cX4_earliest 56 = .ok (.iload_n 1, 1) := by decide +kernel
theorem dX4_earliest_57 : decode cX4_earliest 57 = .ok (.iload_n 2, 1) := by decide +kernel
theorem dX4_earliest_58 : decode cX4_earliest 58 = .ok (.invokevirtual 121, 3) := by decide +kernel
theorem dX4_earliest_61 : decode cX4_earliest 61 = .ok (.ireturn, 1) := by decide +kernel
theorem dX4_heaviest_0 : decode cX4_heaviest 0 = .ok (.aload_n 0, 1) := by decide +kernel
theorem dX4_heaviest_1 : decode cX4_heaviest 1 = .ok (.aload_n 0, 1) := by decide +kernel
theorem dX4_heaviest_2 : decode cX4_heaviest 2 = .ok (.getfield 61, 3) := by decide +kernel
theorem dX4_heaviest_5 : decode cX4_heaviest 5 = .ok (.invokevirtual 125, 3) := by decide +kernel
theorem dX4_heaviest_8 : decode cX4_heaviest 8 = .ok (.ireturn, 1) := by decide +kernel
theorem dX4_chosen_0 : decode cX4_chosen 0 = .ok (.aload_n 0, 1) := by decide +kernel
theorem dX4_chosen_1 : decode cX4_chosen 1 = .ok (.aload_n 0, 1) := by decide +kernel
theorem dX4_chosen_2 : decode cX4_chosen 2 = .ok (.getfield 33, 3) := by decide +kernel
theorem dX4_chosen_5 : decode cX4_chosen 5 = .ok (.getfield 128, 3) := by decide +kernel
theorem dX4_chosen_8 : decode cX4_chosen 8 = .ok (.aload_n 0, 1) := by decide +kernel
theorem dX4_chosen_9 : decode cX4_chosen 9 = .ok (.getfield 61, 3) := by decide +kernel
theorem dX4_chosen_12 : decode cX4_chosen 12 = .ok (.invokevirtual 104, 3) := by decide +kernel
theorem dX4_chosen_15 : decode cX4_chosen 15 = .ok (.aload_n 0, 1) := by decide +kernel
theorem dX4_chosen_16 : decode cX4_chosen 16 = .ok (.getfield 33, 3) := by decide +kernel
theorem dX4_chosen_19 : decode cX4_chosen 19 = .ok (.invokevirtual 129, 3) := by decide +kernel
theorem dX4_chosen_22 : decode cX4_chosen 22 = .ok (.lreturn, 1) := by decide +kernel
theorem dX4_most_0 : decode cX4_most 0 = .ok (.aload_n 0, 1) := by decide +kernel
theorem dX4_most_1 : decode cX4_most 1 = .ok (.aload_n 0, 1) := by decide +kernel
theorem dX4_most_2 : decode cX4_most 2 = .ok (.getfield 33, 3) := by decide +kernel
theorem dX4_most_5 : decode cX4_most 5 = .ok (.getfield 128, 3) := by decide +kernel
theorem dX4_most_8 : decode cX4_most 8 = .ok (.aload_n 0, 1) := by decide +kernel
theorem dX4_most_9 : decode cX4_most 9 = .ok (.getfield 61, 3) := by decide +kernel
theorem dX4_most_12 : decode cX4_most 12 = .ok (.invokevirtual 104, 3) := by decide +kernel
theorem dX4_most_15 : decode cX4_most 15 = .ok (.aload_n 0, 1) := by decide +kernel
theorem dX4_most_16 : decode cX4_most 16 = .ok (.getfield 33, 3) := by decide +kernel
theorem dX4_most_19 : decode cX4_most 19 = .ok (.invokevirtual 133, 3) := by decide +kernel
theorem dX4_most_22 : decode cX4_most 22 = .ok (.ireturn, 1) := by decide +kernel
theorem dX4_heaviestIn_0 : decode cX4_heaviestIn 0 = .ok (.iload_n 1, 1) := by decide +kernel
theorem dX4_heaviestIn_1 : decode cX4_heaviestIn 1 = .ok (.invokestatic 136, 3) := by decide +kernel
theorem dX4_heaviestIn_4 : decode cX4_heaviestIn 4 = .ok (.aload_n 0, 1) := by decide +kernel
theorem dX4_heaviestIn_5 : decode cX4_heaviestIn 5 = .ok (.aload_n 0, 1) := by decide +kernel
theorem dX4_heaviestIn_6 : decode cX4_heaviestIn 6 = .ok (.getfield 61, 3) := by decide +kernel
theorem dX4_heaviestIn_9 : decode cX4_heaviestIn 9 = .ok (.iload_n 1, 1) := by decide +kernel
theorem dX4_heaviestIn_10 : decode cX4_heaviestIn 10 = .ok (.invokevirtual 139, 3) := by decide +kernel
theorem dX4_heaviestIn_13 : decode cX4_heaviestIn 13 = .ok (.ireturn, 1) := by decide +kernel
theorem dX4_openDesk_0 : decode cX4_openDesk 0 = .ok (.iload_n 1, 1) := by decide +kernel
theorem dX4_openDesk_1 : decode cX4_openDesk 1 = .ok (.bipush 100, 2) := by decide +kernel
theorem dX4_openDesk_3 : decode cX4_openDesk 3 = .ok (.if_icmp .lt 10, 3) := by decide +kernel
theorem dX4_openDesk_6 : decode cX4_openDesk 6 = .ok (.iload_n 1, 1) := by decide +kernel
theorem dX4_openDesk_7 : decode cX4_openDesk 7 = .ok (.sipush 400, 3) := by decide +kernel
theorem dX4_openDesk_10 : decode cX4_openDesk 10 = .ok (.if_icmp .le 13, 3) := by decide +kernel
theorem dX4_openDesk_13 : decode cX4_openDesk 13 = .ok (.new 44, 3) := by decide +kernel
theorem dX4_openDesk_16 : decode cX4_openDesk 16 = .ok (.dup, 1) := by decide +kernel
theorem dX4_openDesk_17 : decode cX4_openDesk 17 = .ok (.ldc 143, 2) := by decide +kernel
theorem dX4_openDesk_19 : decode cX4_openDesk 19 = .ok (.invokespecial 48, 3) := by decide +kernel
theorem dX4_openDesk_22 : decode cX4_openDesk 22 = .ok (.athrow, 1) := by decide +kernel
theorem dX4_openDesk_23 : decode cX4_openDesk 23 = .ok (.aload_n 0, 1) := by decide +kernel
theorem dX4_openDesk_24 : decode cX4_openDesk 24 = .ok (.aload_n 0, 1) := by decide +kernel
theorem dX4_openDesk_25 : decode cX4_openDesk 25 = .ok (.getfield 75, 3) := by decide +kernel
theorem dX4_openDesk_28 : decode cX4_openDesk 28 = .ok (.invokevirtual 145, 3) := by decide +kernel
theorem dX4_openDesk_31 : decode cX4_openDesk 31 = .ok (.istore_n 2, 1) := by decide +kernel
theorem dX4_openDesk_32 : decode cX4_openDesk 32 = .ok (.aload_n 0, 1) := by decide +kernel
theorem dX4_openDesk_33 : decode cX4_openDesk 33 = .ok (.iload_n 1, 1) := by decide +kernel
theorem dX4_openDesk_34 : decode cX4_openDesk 34 = .ok (.putfield 19, 3) := by decide +kernel
theorem dX4_openDesk_37 : decode cX4_openDesk 37 = .ok (.aload_n 0, 1) := by decide +kernel
theorem dX4_openDesk_38 : decode cX4_openDesk 38 = .ok (.lconst 0, 1) := by decide +kernel
theorem dX4_openDesk_39 : decode cX4_openDesk 39 = .ok (.putfield 148, 3) := by decide +kernel
theorem dX4_openDesk_42 : decode cX4_openDesk 42 = .ok (.aload_n 0, 1) := by decide +kernel
theorem dX4_openDesk_43 : decode cX4_openDesk 43 = .ok (.lconst 0, 1) := by decide +kernel
theorem dX4_openDesk_44 : decode cX4_openDesk 44 = .ok (.putfield 75, 3) := by decide +kernel
theorem dX4_openDesk_47 : decode cX4_openDesk 47 = .ok (.aload_n 0, 1) := by decide +kernel
theorem dX4_openDesk_48 : decode cX4_openDesk 48 = .ok (.iconst 0, 1) := by decide +kernel
theorem dX4_openDesk_49 : decode cX4_openDesk 49 = .ok (.putfield 151, 3) := by decide +kernel
theorem dX4_openDesk_52 : decode cX4_openDesk 52 = .ok (.iload_n 2, 1) := by decide +kernel
theorem dX4_openDesk_53 : decode cX4_openDesk 53 = .ok (.ireturn, 1) := by decide +kernel
theorem dX4_offer_0 : decode cX4_offer 0 = .ok (.aload_n 0, 1) := by decide +kernel
theorem dX4_offer_1 : decode cX4_offer 1 = .ok (.iload_n 1, 1) := by decide +kernel
theorem dX4_offer_2 : decode cX4_offer 2 = .ok (.invokevirtual 69, 3) := by decide +kernel
theorem dX4_offer_5 : decode cX4_offer 5 = .ok (.aload_n 0, 1) := by decide +kernel
theorem dX4_offer_6 : decode cX4_offer 6 = .ok (.getfield 148, 3) := by decide +kernel
theorem dX4_offer_9 : decode cX4_offer 9 = .ok (.iload_n 1, 1) := by decide +kernel
theorem dX4_offer_10 : decode cX4_offer 10 = .ok (.invokestatic 154, 3) := by decide +kernel
theorem dX4_offer_13 : decode cX4_offer 13 = .ok (.ifCond .eq 13, 3) := by decide +kernel
theorem dX4_offer_16 : decode cX4_offer 16 = .ok (.new 56, 3) := by decide +kernel
theorem dX4_offer_19 : decode cX4_offer 19 = .ok (.dup, 1) := by decide +kernel
theorem dX4_offer_20 : decode cX4_offer 20 = .ok (.ldc 158, 2) := by decide +kernel
theorem dX4_offer_22 : decode cX4_offer 22 = .ok (.invokespecial 60, 3) := by decide +kernel
theorem dX4_offer_25 : decode cX4_offer 25 = .ok (.athrow, 1) := by decide +kernel
theorem dX4_offer_26 : decode cX4_offer 26 = .ok (.aload_n 0, 1) := by decide +kernel
theorem dX4_offer_27 : decode cX4_offer 27 = .ok (.dup, 1) := by decide +kernel
theorem dX4_offer_28 : decode cX4_offer 28 = .ok (.getfield 148, 3) := by decide +kernel
theorem dX4_offer_31 : decode cX4_offer 31 = .ok (.iload_n 1, 1) := by decide +kernel
theorem dX4_offer_32 : decode cX4_offer 32 = .ok (.invokestatic 65, 3) := by decide +kernel
theorem dX4_offer_35 : decode cX4_offer 35 = .ok (.lor, 1) := by decide +kernel
theorem dX4_offer_36 : decode cX4_offer 36 = .ok (.putfield 148, 3) := by decide +kernel
theorem dX4_offer_39 : decode cX4_offer 39 = .ok (.aload_n 0, 1) := by decide +kernel
theorem dX4_offer_40 : decode cX4_offer 40 = .ok (.iload_n 1, 1) := by decide +kernel
theorem dX4_offer_41 : decode cX4_offer 41 = .ok (.invokevirtual 90, 3) := by decide +kernel
theorem dX4_offer_44 : decode cX4_offer 44 = .ok (.aload_n 0, 1) := by decide +kernel
theorem dX4_offer_45 : decode cX4_offer 45 = .ok (.getfield 75, 3) := by decide +kernel
theorem dX4_offer_48 : decode cX4_offer 48 = .ok (.land, 1) := by decide +kernel
theorem dX4_offer_49 : decode cX4_offer 49 = .ok (.lstore_n 2, 1) := by decide +kernel
theorem dX4_offer_50 : decode cX4_offer 50 = .ok (.aload_n 0, 1) := by decide +kernel
theorem dX4_offer_51 : decode cX4_offer 51 = .ok (.lload_n 2, 1) := by decide +kernel
theorem dX4_offer_52 : decode cX4_offer 52 = .ok (.invokevirtual 145, 3) := by decide +kernel
theorem dX4_offer_55 : decode cX4_offer 55 = .ok (.istore 4, 2) := by decide +kernel
theorem dX4_offer_57 : decode cX4_offer 57 = .ok (.bipush 100, 2) := by decide +kernel
theorem dX4_offer_59 : decode cX4_offer 59 = .ok (.aload_n 0, 1) := by decide +kernel
theorem dX4_offer_60 : decode cX4_offer 60 = .ok (.getfield 16, 3) := by decide +kernel
theorem dX4_offer_63 : decode cX4_offer 63 = .ok (.iload_n 1, 1) := by decide +kernel
theorem dX4_offer_64 : decode cX4_offer 64 = .ok (.iaload, 1) := by decide +kernel
theorem dX4_offer_65 : decode cX4_offer 65 = .ok (.imul, 1) := by decide +kernel
theorem dX4_offer_66 : decode cX4_offer 66 = .ok (.aload_n 0, 1) := by decide +kernel
theorem dX4_offer_67 : decode cX4_offer 67 = .ok (.getfield 19, 3) := by decide +kernel
theorem dX4_offer_70 : decode cX4_offer 70 = .ok (.iload 4, 2) := by decide +kernel
theorem dX4_offer_72 : decode cX4_offer 72 = .ok (.imul, 1) := by decide +kernel
theorem dX4_offer_73 : decode cX4_offer 73 = .ok (.if_icmp .gt 5, 3) := by decide +kernel
theorem dX4_offer_76 : decode cX4_offer 76 = .ok (.iconst (-1), 1) := by decide +kernel
theorem dX4_offer_77 : decode cX4_offer 77 = .ok (.ireturn, 1) := by decide +kernel
theorem dX4_offer_78 : decode cX4_offer 78 = .ok (.aload_n 0, 1) := by decide +kernel
theorem dX4_offer_79 : decode cX4_offer 79 = .ok (.aload_n 0, 1) := by decide +kernel
theorem dX4_offer_80 : decode cX4_offer 80 = .ok (.getfield 75, 3) := by decide +kernel
theorem dX4_offer_83 : decode cX4_offer 83 = .ok (.lload_n 2, 1) := by decide +kernel
theorem dX4_offer_84 : decode cX4_offer 84 = .ok (.ldc2_w 73, 3) := by decide +kernel
theorem dX4_offer_87 : decode cX4_offer 87 = .ok (.lxor, 1) := by decide +kernel
theorem dX4_offer_88 : decode cX4_offer 88 = .ok (.land, 1) := by decide +kernel
theorem dX4_offer_89 : decode cX4_offer 89 = .ok (.iload_n 1, 1) := by decide +kernel
theorem dX4_offer_90 : decode cX4_offer 90 = .ok (.invokestatic 65, 3) := by decide +kernel
theorem dX4_offer_93 : decode cX4_offer 93 = .ok (.lor, 1) := by decide +kernel
theorem dX4_offer_94 : decode cX4_offer 94 = .ok (.putfield 75, 3) := by decide +kernel
theorem dX4_offer_97 : decode cX4_offer 97 = .ok (.aload_n 0, 1) := by decide +kernel
theorem dX4_offer_98 : decode cX4_offer 98 = .ok (.dup, 1) := by decide +kernel
theorem dX4_offer_99 : decode cX4_offer 99 = .ok (.getfield 151, 3) := by decide +kernel
theorem dX4_offer_102 : decode cX4_offer 102 = .ok (.iload 4, 2) := by decide +kernel
theorem dX4_offer_104 : decode cX4_offer 104 = .ok (.iadd, 1) := by decide +kernel
theorem dX4_offer_105 : decode cX4_offer 105 = .ok (.putfield 151, 3) := by decide +kernel
theorem dX4_offer_108 : decode cX4_offer 108 = .ok (.iload 4, 2) := by decide +kernel
theorem dX4_offer_110 : decode cX4_offer 110 = .ok (.ireturn, 1) := by decide +kernel
theorem dX4_accepted_0 : decode cX4_accepted 0 = .ok (.aload_n 0, 1) := by decide +kernel
theorem dX4_accepted_1 : decode cX4_accepted 1 = .ok (.getfield 75, 3) := by decide +kernel
theorem dX4_accepted_4 : decode cX4_accepted 4 = .ok (.lreturn, 1) := by decide +kernel
theorem dX4_acceptedWeight_0 : decode cX4_acceptedWeight 0 = .ok (.aload_n 0, 1) := by decide +kernel
theorem dX4_acceptedWeight_1 : decode cX4_acceptedWeight 1 = .ok (.aload_n 0, 1) := by decide +kernel
theorem dX4_acceptedWeight_2 : decode cX4_acceptedWeight 2 = .ok (.getfield 75, 3) := by decide +kernel
theorem dX4_acceptedWeight_5 : decode cX4_acceptedWeight 5 = .ok (.invokevirtual 145, 3) := by decide +kernel
theorem dX4_acceptedWeight_8 : decode cX4_acceptedWeight 8 = .ok (.ireturn, 1) := by decide +kernel
theorem dX4_droppedWeight_0 : decode cX4_droppedWeight 0 = .ok (.aload_n 0, 1) := by decide +kernel
theorem dX4_droppedWeight_1 : decode cX4_droppedWeight 1 = .ok (.getfield 151, 3) := by decide +kernel
theorem dX4_droppedWeight_4 : decode cX4_droppedWeight 4 = .ok (.ireturn, 1) := by decide +kernel
theorem dX4_bestOfOffered_0 : decode cX4_bestOfOffered 0 = .ok (.aload_n 0, 1) := by decide +kernel
theorem dX4_bestOfOffered_1 : decode cX4_bestOfOffered 1 = .ok (.aload_n 0, 1) := by decide +kernel
theorem dX4_bestOfOffered_2 : decode cX4_bestOfOffered 2 = .ok (.getfield 61, 3) := by decide +kernel
theorem dX4_bestOfOffered_5 : decode cX4_bestOfOffered 5 = .ok (.aload_n 0, 1) := by decide +kernel
theorem dX4_bestOfOffered_6 : decode cX4_bestOfOffered 6 = .ok (.getfield 148, 3) := by decide +kernel
theorem dX4_bestOfOffered_9 : decode cX4_bestOfOffered 9 = .ok (.land, 1) := by decide +kernel
theorem dX4_bestOfOffered_10 : decode cX4_bestOfOffered 10 = .ok (.invokevirtual 125, 3) := by decide +kernel
theorem dX4_bestOfOffered_13 : decode cX4_bestOfOffered 13 = .ok (.ireturn, 1) := by decide +kernel
theorem dX4_depthRound_0 : decode cX4_depthRound 0 = .ok (.aload_n 0, 1) := by decide +kernel
theorem dX4_depthRound_1 : decode cX4_depthRound 1 = .ok (.iload_n 1, 1) := by decide +kernel
theorem dX4_depthRound_2 : decode cX4_depthRound 2 = .ok (.invokevirtual 160, 3) := by decide +kernel
theorem dX4_depthRound_5 : decode cX4_depthRound 5 = .ok (.iconst 0, 1) := by decide +kernel
theorem dX4_depthRound_6 : decode cX4_depthRound 6 = .ok (.istore_n 2, 1) := by decide +kernel
theorem dX4_depthRound_7 : decode cX4_depthRound 7 = .ok (.iconst 0, 1) := by decide +kernel
theorem dX4_depthRound_8 : decode cX4_depthRound 8 = .ok (.istore_n 3, 1) := by decide +kernel
theorem dX4_depthRound_9 : decode cX4_depthRound 9 = .ok (.iload_n 3, 1) := by decide +kernel
theorem dX4_depthRound_10 : decode cX4_depthRound 10 = .ok (.aload_n 0, 1) := by decide +kernel
theorem dX4_depthRound_11 : decode cX4_depthRound 11 = .ok (.getfield 53, 3) := by decide +kernel
theorem dX4_depthRound_14 : decode cX4_depthRound 14 = .ok (.if_icmp .ge 36, 3) := by decide +kernel
theorem dX4_depthRound_17 : decode cX4_depthRound 17 = .ok (.aload_n 0, 1) := by decide +kernel
theorem dX4_depthRound_18 : decode cX4_depthRound 18 = .ok (.getfield 61, 3) := by decide +kernel
theorem dX4_depthRound_21 : decode cX4_depthRound 21 = .ok (.iload_n 3, 1) := by decide +kernel
theorem dX4_depthRound_22 : decode cX4_depthRound 22 = .ok (.invokestatic 154, 3) := by decide +kernel
theorem dX4_depthRound_25 : decode cX4_depthRound 25 = .ok (.ifCond .eq 19, 3) := by decide +kernel
theorem dX4_depthRound_28 : decode cX4_depthRound 28 = .ok (.iload_n 2, 1) := by decide +kernel
theorem dX4_depthRound_29 : decode cX4_depthRound 29 = .ok (.aload_n 0, 1) := by decide +kernel
theorem dX4_depthRound_30 : decode cX4_depthRound 30 = .ok (.aload_n 0, 1) := by decide +kernel
theorem dX4_depthRound_31 : decode cX4_depthRound 31 = .ok (.getfield 9, 3) := by decide +kernel
theorem dX4_depthRound_34 : decode cX4_depthRound 34 = .ok (.iload_n 3, 1) := by decide +kernel
theorem dX4_depthRound_35 : decode cX4_depthRound 35 = .ok (.iaload, 1) := by decide +kernel
theorem dX4_depthRound_36 : decode cX4_depthRound 36 = .ok (.iload_n 1, 1) := by decide +kernel
theorem dX4_depthRound_37 : decode cX4_depthRound 37 = .ok (.invokevirtual 163, 3) := by decide +kernel
theorem dX4_depthRound_40 : decode cX4_depthRound 40 = .ok (.invokestatic 166, 3) := by decide +kernel
theorem dX4_depthRound_43 : decode cX4_depthRound 43 = .ok (.istore_n 2, 1) := by decide +kernel
theorem dX4_depthRound_44 : decode cX4_depthRound 44 = .ok (.iinc 3 1, 3) := by decide +kernel
theorem dX4_depthRound_47 : decode cX4_depthRound 47 = .ok (.goto (-38), 3) := by decide +kernel
theorem dX4_depthRound_50 : decode cX4_depthRound 50 = .ok (.iload_n 2, 1) := by decide +kernel
theorem dX4_depthRound_51 : decode cX4_depthRound 51 = .ok (.ireturn, 1) := by decide +kernel
theorem dX4_heaviestRound_0 : decode cX4_heaviestRound 0 = .ok (.aload_n 0, 1) := by decide +kernel
theorem dX4_heaviestRound_1 : decode cX4_heaviestRound 1 = .ok (.iload_n 1, 1) := by decide +kernel
theorem dX4_heaviestRound_2 : decode cX4_heaviestRound 2 = .ok (.invokevirtual 160, 3) := by decide +kernel
theorem dX4_heaviestRound_5 : decode cX4_heaviestRound 5 = .ok (.aload_n 0, 1) := by decide +kernel
theorem dX4_heaviestRound_6 : decode cX4_heaviestRound 6 = .ok (.iconst 0, 1) := by decide +kernel
theorem dX4_heaviestRound_7 : decode cX4_heaviestRound 7 = .ok (.iconst 0, 1) := by decide +kernel
theorem dX4_heaviestRound_8 : decode cX4_heaviestRound 8 = .ok (.iload_n 1, 1) := by decide +kernel
theorem dX4_heaviestRound_9 : decode cX4_heaviestRound 9 = .ok (.invokevirtual 171, 3) := by decide +kernel
theorem dX4_heaviestRound_12 : decode cX4_heaviestRound 12 = .ok (.istore_n 2, 1) := by decide +kernel
theorem dX4_heaviestRound_13 : decode cX4_heaviestRound 13 = .ok (.iconst 0, 1) := by decide +kernel
theorem dX4_heaviestRound_14 : decode cX4_heaviestRound 14 = .ok (.istore_n 3, 1) := by decide +kernel
theorem dX4_heaviestRound_15 : decode cX4_heaviestRound 15 = .ok (.iload_n 3, 1) := by decide +kernel
theorem dX4_heaviestRound_16 : decode cX4_heaviestRound 16 = .ok (.aload_n 0, 1) := by decide +kernel
theorem dX4_heaviestRound_17 : decode cX4_heaviestRound 17 = .ok (.getfield 53, 3) := by decide +kernel
theorem dX4_heaviestRound_20 : decode cX4_heaviestRound 20 = .ok (.if_icmp .ge 61, 3) := by decide +kernel
theorem dX4_heaviestRound_23 : decode cX4_heaviestRound 23 = .ok (.aload_n 0, 1) := by decide +kernel
theorem dX4_heaviestRound_24 : decode cX4_heaviestRound 24 = .ok (.getfield 61, 3) := by decide +kernel
theorem dX4_heaviestRound_27 : decode cX4_heaviestRound 27 = .ok (.iload_n 3, 1) := by decide +kernel
theorem dX4_heaviestRound_28 : decode cX4_heaviestRound 28 = .ok (.invokestatic 154, 3) := by decide +kernel
theorem dX4_heaviestRound_31 : decode cX4_heaviestRound 31 = .ok (.ifCond .eq 44, 3) := by decide +kernel
theorem dX4_heaviestRound_34 : decode cX4_heaviestRound 34 = .ok (.aload_n 0, 1) := by decide +kernel
theorem dX4_heaviestRound_35 : decode cX4_heaviestRound 35 = .ok (.iload_n 3, 1) := by decide +kernel
theorem dX4_heaviestRound_36 : decode cX4_heaviestRound 36 = .ok (.iload_n 1, 1) := by decide +kernel
theorem dX4_heaviestRound_37 : decode cX4_heaviestRound 37 = .ok (.invokevirtual 175, 3) := by decide +kernel
theorem dX4_heaviestRound_40 : decode cX4_heaviestRound 40 = .ok (.ifCond .eq 35, 3) := by decide +kernel
theorem dX4_heaviestRound_43 : decode cX4_heaviestRound 43 = .ok (.aload_n 0, 1) := by decide +kernel
theorem dX4_heaviestRound_44 : decode cX4_heaviestRound 44 = .ok (.aload_n 0, 1) := by decide +kernel
theorem dX4_heaviestRound_45 : decode cX4_heaviestRound 45 = .ok (.getfield 9, 3) := by decide +kernel
theorem dX4_heaviestRound_48 : decode cX4_heaviestRound 48 = .ok (.iload_n 3, 1) := by decide +kernel
theorem dX4_heaviestRound_49 : decode cX4_heaviestRound 49 = .ok (.iaload, 1) := by decide +kernel
theorem dX4_heaviestRound_50 : decode cX4_heaviestRound 50 = .ok (.aload_n 0, 1) := by decide +kernel
theorem dX4_heaviestRound_51 : decode cX4_heaviestRound 51 = .ok (.iload_n 3, 1) := by decide +kernel
theorem dX4_heaviestRound_52 : decode cX4_heaviestRound 52 = .ok (.invokevirtual 84, 3) := by decide +kernel
theorem dX4_heaviestRound_55 : decode cX4_heaviestRound 55 = .ok (.iload_n 1, 1) := by decide +kernel
theorem dX4_heaviestRound_56 : decode cX4_heaviestRound 56 = .ok (.invokevirtual 171, 3) := by decide +kernel
theorem dX4_heaviestRound_59 : decode cX4_heaviestRound 59 = .ok (.istore 4, 2) := by decide +kernel
theorem dX4_heaviestRound_61 : decode cX4_heaviestRound 61 = .ok (.iload_n 2, 1) := by decide +kernel
theorem dX4_heaviestRound_62 : decode cX4_heaviestRound 62 = .ok (.aload_n 0, 1) := by decide +kernel
theorem dX4_heaviestRound_63 : decode cX4_heaviestRound 63 = .ok (.getfield 16, 3) := by decide +kernel
theorem dX4_heaviestRound_66 : decode cX4_heaviestRound 66 = .ok (.iload_n 3, 1) := by decide +kernel
theorem dX4_heaviestRound_67 : decode cX4_heaviestRound 67 = .ok (.iaload, 1) := by decide +kernel
theorem dX4_heaviestRound_68 : decode cX4_heaviestRound 68 = .ok (.iload 4, 2) := by decide +kernel
theorem dX4_heaviestRound_70 : decode cX4_heaviestRound 70 = .ok (.iadd, 1) := by decide +kernel
theorem dX4_heaviestRound_71 : decode cX4_heaviestRound 71 = .ok (.invokestatic 166, 3) := by decide +kernel
theorem dX4_heaviestRound_74 : decode cX4_heaviestRound 74 = .ok (.istore_n 2, 1) := by decide +kernel
theorem dX4_heaviestRound_75 : decode cX4_heaviestRound 75 = .ok (.iinc 3 1, 3) := by decide +kernel
theorem dX4_heaviestRound_78 : decode cX4_heaviestRound 78 = .ok (.goto (-63), 3) := by decide +kernel
theorem dX4_heaviestRound_81 : decode cX4_heaviestRound 81 = .ok (.iload_n 2, 1) := by decide +kernel
theorem dX4_heaviestRound_82 : decode cX4_heaviestRound 82 = .ok (.ireturn, 1) := by decide +kernel
theorem dX4_requireThere_0 : decode cX4_requireThere 0 = .ok (.iload_n 1, 1) := by decide +kernel
theorem dX4_requireThere_1 : decode cX4_requireThere 1 = .ok (.ifCond .lt 22, 3) := by decide +kernel
theorem dX4_requireThere_4 : decode cX4_requireThere 4 = .ok (.iload_n 1, 1) := by decide +kernel
theorem dX4_requireThere_5 : decode cX4_requireThere 5 = .ok (.aload_n 0, 1) := by decide +kernel
theorem dX4_requireThere_6 : decode cX4_requireThere 6 = .ok (.getfield 53, 3) := by decide +kernel
theorem dX4_requireThere_9 : decode cX4_requireThere 9 = .ok (.if_icmp .ge 14, 3) := by decide +kernel
theorem dX4_requireThere_12 : decode cX4_requireThere 12 = .ok (.aload_n 0, 1) := by decide +kernel
theorem dX4_requireThere_13 : decode cX4_requireThere 13 = .ok (.getfield 61, 3) := by decide +kernel
theorem dX4_requireThere_16 : decode cX4_requireThere 16 = .ok (.iload_n 1, 1) := by decide +kernel
theorem dX4_requireThere_17 : decode cX4_requireThere 17 = .ok (.invokestatic 154, 3) := by decide +kernel
theorem dX4_requireThere_20 : decode cX4_requireThere 20 = .ok (.ifCond .ne 13, 3) := by decide +kernel
theorem dX4_requireThere_23 : decode cX4_requireThere 23 = .ok (.new 179, 3) := by decide +kernel
theorem dX4_requireThere_26 : decode cX4_requireThere 26 = .ok (.dup, 1) := by decide +kernel
theorem dX4_requireThere_27 : decode cX4_requireThere 27 = .ok (.ldc 181, 2) := by decide +kernel
theorem dX4_requireThere_29 : decode cX4_requireThere 29 = .ok (.invokespecial 183, 3) := by decide +kernel
theorem dX4_requireThere_32 : decode cX4_requireThere 32 = .ok (.athrow, 1) := by decide +kernel
theorem dX4_requireThere_33 : decode cX4_requireThere 33 = .ok (.return_, 1) := by decide +kernel
theorem dX4_requirePlannedRooms_0 : decode cX4_requirePlannedRooms 0 = .ok (.iload_n 0, 1) := by decide +kernel
theorem dX4_requirePlannedRooms_1 : decode cX4_requirePlannedRooms 1 = .ok (.iconst 1, 1) := by decide +kernel
theorem dX4_requirePlannedRooms_2 : decode cX4_requirePlannedRooms 2 = .ok (.if_icmp .lt 9, 3) := by decide +kernel
theorem dX4_requirePlannedRooms_5 : decode cX4_requirePlannedRooms 5 = .ok (.iload_n 0, 1) := by decide +kernel
theorem dX4_requirePlannedRooms_6 : decode cX4_requirePlannedRooms 6 = .ok (.bipush 6, 2) := by decide +kernel
theorem dX4_requirePlannedRooms_8 : decode cX4_requirePlannedRooms 8 = .ok (.if_icmp .le 13, 3) := by decide +kernel
theorem dX4_requirePlannedRooms_11 : decode cX4_requirePlannedRooms 11 = .ok (.new 44, 3) := by decide +kernel
theorem dX4_requirePlannedRooms_14 : decode cX4_requirePlannedRooms 14 = .ok (.dup, 1) := by decide +kernel
theorem dX4_requirePlannedRooms_15 : decode cX4_requirePlannedRooms 15 = .ok (.ldc 115, 2) := by decide +kernel
theorem dX4_requirePlannedRooms_17 : decode cX4_requirePlannedRooms 17 = .ok (.invokespecial 48, 3) := by decide +kernel
theorem dX4_requirePlannedRooms_20 : decode cX4_requirePlannedRooms 20 = .ok (.athrow, 1) := by decide +kernel
theorem dX4_requirePlannedRooms_21 : decode cX4_requirePlannedRooms 21 = .ok (.return_, 1) := by decide +kernel
theorem dX4_requireCircle_0 : decode cX4_requireCircle 0 = .ok (.iload_n 1, 1) := by decide +kernel
theorem dX4_requireCircle_1 : decode cX4_requireCircle 1 = .ok (.iconst 1, 1) := by decide +kernel
theorem dX4_requireCircle_2 : decode cX4_requireCircle 2 = .ok (.if_icmp .lt 10, 3) := by decide +kernel
theorem dX4_requireCircle_5 : decode cX4_requireCircle 5 = .ok (.iload_n 1, 1) := by decide +kernel
theorem dX4_requireCircle_6 : decode cX4_requireCircle 6 = .ok (.sipush 1000, 3) := by decide +kernel
theorem dX4_requireCircle_9 : decode cX4_requireCircle 9 = .ok (.if_icmp .le 13, 3) := by decide +kernel
theorem dX4_requireCircle_12 : decode cX4_requireCircle 12 = .ok (.new 44, 3) := by decide +kernel
theorem dX4_requireCircle_15 : decode cX4_requireCircle 15 = .ok (.dup, 1) := by decide +kernel
theorem dX4_requireCircle_16 : decode cX4_requireCircle 16 = .ok (.ldc 184, 2) := by decide +kernel
theorem dX4_requireCircle_18 : decode cX4_requireCircle 18 = .ok (.invokespecial 48, 3) := by decide +kernel
theorem dX4_requireCircle_21 : decode cX4_requireCircle 21 = .ok (.athrow, 1) := by decide +kernel
theorem dX4_requireCircle_22 : decode cX4_requireCircle 22 = .ok (.iconst 0, 1) := by decide +kernel
theorem dX4_requireCircle_23 : decode cX4_requireCircle 23 = .ok (.istore_n 2, 1) := by decide +kernel
theorem dX4_requireCircle_24 : decode cX4_requireCircle 24 = .ok (.iload_n 2, 1) := by decide +kernel
theorem dX4_requireCircle_25 : decode cX4_requireCircle 25 = .ok (.aload_n 0, 1) := by decide +kernel
theorem dX4_requireCircle_26 : decode cX4_requireCircle 26 = .ok (.getfield 53, 3) := by decide +kernel
theorem dX4_requireCircle_29 : decode cX4_requireCircle 29 = .ok (.if_icmp .ge 39, 3) := by decide +kernel
theorem dX4_requireCircle_32 : decode cX4_requireCircle 32 = .ok (.aload_n 0, 1) := by decide +kernel
theorem dX4_requireCircle_33 : decode cX4_requireCircle 33 = .ok (.getfield 61, 3) := by decide +kernel
theorem dX4_requireCircle_36 : decode cX4_requireCircle 36 = .ok (.iload_n 2, 1) := by decide +kernel
theorem dX4_requireCircle_37 : decode cX4_requireCircle 37 = .ok (.invokestatic 154, 3) := by decide +kernel
theorem dX4_requireCircle_40 : decode cX4_requireCircle 40 = .ok (.ifCond .eq 22, 3) := by decide +kernel
theorem dX4_requireCircle_43 : decode cX4_requireCircle 43 = .ok (.aload_n 0, 1) := by decide +kernel
theorem dX4_requireCircle_44 : decode cX4_requireCircle 44 = .ok (.iload_n 2, 1) := by decide +kernel
theorem dX4_requireCircle_45 : decode cX4_requireCircle 45 = .ok (.invokevirtual 84, 3) := by decide +kernel
theorem dX4_requireCircle_48 : decode cX4_requireCircle 48 = .ok (.iload_n 1, 1) := by decide +kernel
theorem dX4_requireCircle_49 : decode cX4_requireCircle 49 = .ok (.if_icmp .le 13, 3) := by decide +kernel
theorem dX4_requireCircle_52 : decode cX4_requireCircle 52 = .ok (.new 56, 3) := by decide +kernel
theorem dX4_requireCircle_55 : decode cX4_requireCircle 55 = .ok (.dup, 1) := by decide +kernel
theorem dX4_requireCircle_56 : decode cX4_requireCircle 56 = .ok (.ldc 186, 2) := by decide +kernel
theorem dX4_requireCircle_58 : decode cX4_requireCircle 58 = .ok (.invokespecial 60, 3) := by decide +kernel
theorem dX4_requireCircle_61 : decode cX4_requireCircle 61 = .ok (.athrow, 1) := by decide +kernel
theorem dX4_requireCircle_62 : decode cX4_requireCircle 62 = .ok (.iinc 2 1, 3) := by decide +kernel
theorem dX4_requireCircle_65 : decode cX4_requireCircle 65 = .ok (.goto (-41), 3) := by decide +kernel
theorem dX4_requireCircle_68 : decode cX4_requireCircle 68 = .ok (.return_, 1) := by decide +kernel
theorem dX4_only_0 : decode cX4_only 0 = .ok (.lconst 1, 1) := by decide +kernel
theorem dX4_only_1 : decode cX4_only 1 = .ok (.iload_n 0, 1) := by decide +kernel
theorem dX4_only_2 : decode cX4_only 2 = .ok (.lshl, 1) := by decide +kernel
theorem dX4_only_3 : decode cX4_only 3 = .ok (.lreturn, 1) := by decide +kernel
theorem dX4_contains_0 : decode cX4_contains 0 = .ok (.lload_n 0, 1) := by decide +kernel
theorem dX4_contains_1 : decode cX4_contains 1 = .ok (.iload_n 2, 1) := by decide +kernel
theorem dX4_contains_2 : decode cX4_contains 2 = .ok (.invokestatic 65, 3) := by decide +kernel
theorem dX4_contains_5 : decode cX4_contains 5 = .ok (.land, 1) := by decide +kernel
theorem dX4_contains_6 : decode cX4_contains 6 = .ok (.lconst 0, 1) := by decide +kernel
theorem dX4_contains_7 : decode cX4_contains 7 = .ok (.lcmp, 1) := by decide +kernel
theorem dX4_contains_8 : decode cX4_contains 8 = .ok (.ifCond .eq 7, 3) := by decide +kernel
theorem dX4_contains_11 : decode cX4_contains 11 = .ok (.iconst 1, 1) := by decide +kernel
theorem dX4_contains_12 : decode cX4_contains 12 = .ok (.goto 4, 3) := by decide +kernel
theorem dX4_contains_15 : decode cX4_contains 15 = .ok (.iconst 0, 1) := by decide +kernel
theorem dX4_contains_16 : decode cX4_contains 16 = .ok (.ireturn, 1) := by decide +kernel
theorem dX4_lengthOf_0 : decode cX4_lengthOf 0 = .ok (.aload_n 0, 1) := by decide +kernel
theorem dX4_lengthOf_1 : decode cX4_lengthOf 1 = .ok (.getfield 13, 3) := by decide +kernel
theorem dX4_lengthOf_4 : decode cX4_lengthOf 4 = .ok (.iload_n 1, 1) := by decide +kernel
theorem dX4_lengthOf_5 : decode cX4_lengthOf 5 = .ok (.iaload, 1) := by decide +kernel
theorem dX4_lengthOf_6 : decode cX4_lengthOf 6 = .ok (.aload_n 0, 1) := by decide +kernel
theorem dX4_lengthOf_7 : decode cX4_lengthOf 7 = .ok (.getfield 9, 3) := by decide +kernel
theorem dX4_lengthOf_10 : decode cX4_lengthOf 10 = .ok (.iload_n 1, 1) := by decide +kernel
theorem dX4_lengthOf_11 : decode cX4_lengthOf 11 = .ok (.iaload, 1) := by decide +kernel
theorem dX4_lengthOf_12 : decode cX4_lengthOf 12 = .ok (.isub, 1) := by decide +kernel
theorem dX4_lengthOf_13 : decode cX4_lengthOf 13 = .ok (.ireturn, 1) := by decide +kernel
theorem dX4_weightOf_0 : decode cX4_weightOf 0 = .ok (.iconst 0, 1) := by decide +kernel
theorem dX4_weightOf_1 : decode cX4_weightOf 1 = .ok (.istore_n 3, 1) := by decide +kernel
theorem dX4_weightOf_2 : decode cX4_weightOf 2 = .ok (.iconst 0, 1) := by decide +kernel
theorem dX4_weightOf_3 : decode cX4_weightOf 3 = .ok (.istore 4, 2) := by decide +kernel
theorem dX4_weightOf_5 : decode cX4_weightOf 5 = .ok (.iload 4, 2) := by decide +kernel
theorem dX4_weightOf_7 : decode cX4_weightOf 7 = .ok (.aload_n 0, 1) := by decide +kernel
theorem dX4_weightOf_8 : decode cX4_weightOf 8 = .ok (.getfield 53, 3) := by decide +kernel
theorem dX4_weightOf_11 : decode cX4_weightOf 11 = .ok (.if_icmp .ge 28, 3) := by decide +kernel
theorem dX4_weightOf_14 : decode cX4_weightOf 14 = .ok (.lload_n 1, 1) := by decide +kernel
theorem dX4_weightOf_15 : decode cX4_weightOf 15 = .ok (.iload 4, 2) := by decide +kernel
theorem dX4_weightOf_17 : decode cX4_weightOf 17 = .ok (.invokestatic 154, 3) := by decide +kernel
theorem dX4_weightOf_20 : decode cX4_weightOf 20 = .ok (.ifCond .eq 13, 3) := by decide +kernel
theorem dX4_weightOf_23 : decode cX4_weightOf 23 = .ok (.iload_n 3, 1) := by decide +kernel
theorem dX4_weightOf_24 : decode cX4_weightOf 24 = .ok (.aload_n 0, 1) := by decide +kernel
theorem dX4_weightOf_25 : decode cX4_weightOf 25 = .ok (.getfield 16, 3) := by decide +kernel
theorem dX4_weightOf_28 : decode cX4_weightOf 28 = .ok (.iload 4, 2) := by decide +kernel
theorem dX4_weightOf_30 : decode cX4_weightOf 30 = .ok (.iaload, 1) := by decide +kernel
theorem dX4_weightOf_31 : decode cX4_weightOf 31 = .ok (.iadd, 1) := by decide +kernel
theorem dX4_weightOf_32 : decode cX4_weightOf 32 = .ok (.istore_n 3, 1) := by decide +kernel
theorem dX4_weightOf_33 : decode cX4_weightOf 33 = .ok (.iinc 4 1, 3) := by decide +kernel
theorem dX4_weightOf_36 : decode cX4_weightOf 36 = .ok (.goto (-31), 3) := by decide +kernel
theorem dX4_weightOf_39 : decode cX4_weightOf 39 = .ok (.iload_n 3, 1) := by decide +kernel
theorem dX4_weightOf_40 : decode cX4_weightOf 40 = .ok (.ireturn, 1) := by decide +kernel
theorem dX4_othersMeeting_0 : decode cX4_othersMeeting 0 = .ok (.lconst 0, 1) := by decide +kernel
theorem dX4_othersMeeting_1 : decode cX4_othersMeeting 1 = .ok (.lstore_n 2, 1) := by decide +kernel
theorem dX4_othersMeeting_2 : decode cX4_othersMeeting 2 = .ok (.iconst 0, 1) := by decide +kernel
theorem dX4_othersMeeting_3 : decode cX4_othersMeeting 3 = .ok (.istore 4, 2) := by decide +kernel
theorem dX4_othersMeeting_5 : decode cX4_othersMeeting 5 = .ok (.iload 4, 2) := by decide +kernel
theorem dX4_othersMeeting_7 : decode cX4_othersMeeting 7 = .ok (.aload_n 0, 1) := by decide +kernel
theorem dX4_othersMeeting_8 : decode cX4_othersMeeting 8 = .ok (.getfield 53, 3) := by decide +kernel
theorem dX4_othersMeeting_11 : decode cX4_othersMeeting 11 = .ok (.if_icmp .ge 49, 3) := by decide +kernel
theorem dX4_othersMeeting_14 : decode cX4_othersMeeting 14 = .ok (.aload_n 0, 1) := by decide +kernel
theorem dX4_othersMeeting_15 : decode cX4_othersMeeting 15 = .ok (.getfield 9, 3) := by decide +kernel
theorem dX4_othersMeeting_18 : decode cX4_othersMeeting 18 = .ok (.iload 4, 2) := by decide +kernel
theorem dX4_othersMeeting_20 : decode cX4_othersMeeting 20 = .ok (.iaload, 1) := by decide +kernel
theorem dX4_othersMeeting_21 : decode cX4_othersMeeting 21 = .ok (.aload_n 0, 1) := by decide +kernel
theorem dX4_othersMeeting_22 : decode cX4_othersMeeting 22 = .ok (.getfield 13, 3) := by decide +kernel
theorem dX4_othersMeeting_25 : decode cX4_othersMeeting 25 = .ok (.iload_n 1, 1) := by decide +kernel
theorem dX4_othersMeeting_26 : decode cX4_othersMeeting 26 = .ok (.iaload, 1) := by decide +kernel
theorem dX4_othersMeeting_27 : decode cX4_othersMeeting 27 = .ok (.if_icmp .ge 27, 3) := by decide +kernel
theorem dX4_othersMeeting_30 : decode cX4_othersMeeting 30 = .ok (.aload_n 0, 1) := by decide +kernel
theorem dX4_othersMeeting_31 : decode cX4_othersMeeting 31 = .ok (.getfield 9, 3) := by decide +kernel
theorem dX4_othersMeeting_34 : decode cX4_othersMeeting 34 = .ok (.iload_n 1, 1) := by decide +kernel
theorem dX4_othersMeeting_35 : decode cX4_othersMeeting 35 = .ok (.iaload, 1) := by decide +kernel
theorem dX4_othersMeeting_36 : decode cX4_othersMeeting 36 = .ok (.aload_n 0, 1) := by decide +kernel
theorem dX4_othersMeeting_37 : decode cX4_othersMeeting 37 = .ok (.getfield 13, 3) := by decide +kernel
theorem dX4_othersMeeting_40 : decode cX4_othersMeeting 40 = .ok (.iload 4, 2) := by decide +kernel
theorem dX4_othersMeeting_42 : decode cX4_othersMeeting 42 = .ok (.iaload, 1) := by decide +kernel
theorem dX4_othersMeeting_43 : decode cX4_othersMeeting 43 = .ok (.if_icmp .ge 11, 3) := by decide +kernel
theorem dX4_othersMeeting_46 : decode cX4_othersMeeting 46 = .ok (.lload_n 2, 1) := by decide +kernel
theorem dX4_othersMeeting_47 : decode cX4_othersMeeting 47 = .ok (.iload 4, 2) := by decide +kernel
theorem dX4_othersMeeting_49 : decode cX4_othersMeeting 49 = .ok (.invokestatic 65, 3) := by decide +kernel
theorem dX4_othersMeeting_52 : decode cX4_othersMeeting 52 = .ok (.lor, 1) := by decide +kernel
theorem dX4_othersMeeting_53 : decode cX4_othersMeeting 53 = .ok (.lstore_n 2, 1) := by decide +kernel
theorem dX4_othersMeeting_54 : decode cX4_othersMeeting 54 = .ok (.iinc 4 1, 3) := by decide +kernel
theorem dX4_othersMeeting_57 : decode cX4_othersMeeting 57 = .ok (.goto (-52), 3) := by decide +kernel
theorem dX4_othersMeeting_60 : decode cX4_othersMeeting 60 = .ok (.lload_n 2, 1) := by decide +kernel
theorem dX4_othersMeeting_61 : decode cX4_othersMeeting 61 = .ok (.aload_n 0, 1) := by decide +kernel
theorem dX4_othersMeeting_62 : decode cX4_othersMeeting 62 = .ok (.getfield 61, 3) := by decide +kernel
theorem dX4_othersMeeting_65 : decode cX4_othersMeeting 65 = .ok (.land, 1) := by decide +kernel
theorem dX4_othersMeeting_66 : decode cX4_othersMeeting 66 = .ok (.iload_n 1, 1) := by decide +kernel
theorem dX4_othersMeeting_67 : decode cX4_othersMeeting 67 = .ok (.invokestatic 65, 3) := by decide +kernel
theorem dX4_othersMeeting_70 : decode cX4_othersMeeting 70 = .ok (.ldc2_w 73, 3) := by decide +kernel
theorem dX4_othersMeeting_73 : decode cX4_othersMeeting 73 = .ok (.lxor, 1) := by decide +kernel
theorem dX4_othersMeeting_74 : decode cX4_othersMeeting 74 = .ok (.land, 1) := by decide +kernel
theorem dX4_othersMeeting_75 : decode cX4_othersMeeting 75 = .ok (.lreturn, 1) := by decide +kernel
theorem dX4_depthAt_0 : decode cX4_depthAt 0 = .ok (.iconst 0, 1) := by decide +kernel
theorem dX4_depthAt_1 : decode cX4_depthAt 1 = .ok (.istore_n 2, 1) := by decide +kernel
theorem dX4_depthAt_2 : decode cX4_depthAt 2 = .ok (.iconst 0, 1) := by decide +kernel
theorem dX4_depthAt_3 : decode cX4_depthAt 3 = .ok (.istore_n 3, 1) := by decide +kernel
theorem dX4_depthAt_4 : decode cX4_depthAt 4 = .ok (.iload_n 3, 1) := by decide +kernel
theorem dX4_depthAt_5 : decode cX4_depthAt 5 = .ok (.aload_n 0, 1) := by decide +kernel
theorem dX4_depthAt_6 : decode cX4_depthAt 6 = .ok (.getfield 53, 3) := by decide +kernel
theorem dX4_depthAt_9 : decode cX4_depthAt 9 = .ok (.if_icmp .ge 43, 3) := by decide +kernel
theorem dX4_depthAt_12 : decode cX4_depthAt 12 = .ok (.aload_n 0, 1) := by decide +kernel
theorem dX4_depthAt_13 : decode cX4_depthAt 13 = .ok (.getfield 61, 3) := by decide +kernel
theorem dX4_depthAt_16 : decode cX4_depthAt 16 = .ok (.iload_n 3, 1) := by decide +kernel
theorem dX4_depthAt_17 : decode cX4_depthAt 17 = .ok (.invokestatic 154, 3) := by decide +kernel
theorem dX4_depthAt_20 : decode cX4_depthAt 20 = .ok (.ifCond .eq 26, 3) := by decide +kernel
theorem dX4_depthAt_23 : decode cX4_depthAt 23 = .ok (.aload_n 0, 1) := by decide +kernel
theorem dX4_depthAt_24 : decode cX4_depthAt 24 = .ok (.getfield 9, 3) := by decide +kernel
theorem dX4_depthAt_27 : decode cX4_depthAt 27 = .ok (.iload_n 3, 1) := by decide +kernel
theorem dX4_depthAt_28 : decode cX4_depthAt 28 = .ok (.iaload, 1) := by decide +kernel
theorem dX4_depthAt_29 : decode cX4_depthAt 29 = .ok (.iload_n 1, 1) := by decide +kernel
theorem dX4_depthAt_30 : decode cX4_depthAt 30 = .ok (.if_icmp .gt 16, 3) := by decide +kernel
theorem dX4_depthAt_33 : decode cX4_depthAt 33 = .ok (.iload_n 1, 1) := by decide +kernel
theorem dX4_depthAt_34 : decode cX4_depthAt 34 = .ok (.aload_n 0, 1) := by decide +kernel
theorem dX4_depthAt_35 : decode cX4_depthAt 35 = .ok (.getfield 13, 3) := by decide +kernel
theorem dX4_depthAt_38 : decode cX4_depthAt 38 = .ok (.iload_n 3, 1) := by decide +kernel
theorem dX4_depthAt_39 : decode cX4_depthAt 39 = .ok (.iaload, 1) := by decide +kernel
theorem dX4_depthAt_40 : decode cX4_depthAt 40 = .ok (.if_icmp .ge 6, 3) := by decide +kernel
theorem dX4_depthAt_43 : decode cX4_depthAt 43 = .ok (.iinc 2 1, 3) := by decide +kernel
theorem dX4_depthAt_46 : decode cX4_depthAt 46 = .ok (.iinc 3 1, 3) := by decide +kernel
theorem dX4_depthAt_49 : decode cX4_depthAt 49 = .ok (.goto (-45), 3) := by decide +kernel
theorem dX4_depthAt_52 : decode cX4_depthAt 52 = .ok (.iload_n 2, 1) := by decide +kernel
theorem dX4_depthAt_53 : decode cX4_depthAt 53 = .ok (.ireturn, 1) := by decide +kernel
theorem dX4_leastDeepestTime_0 : decode cX4_leastDeepestTime 0 = .ok (.iconst (-1), 1) := by decide +kernel
theorem dX4_leastDeepestTime_1 : decode cX4_leastDeepestTime 1 = .ok (.istore_n 1, 1) := by decide +kernel
theorem dX4_leastDeepestTime_2 : decode cX4_leastDeepestTime 2 = .ok (.iconst 0, 1) := by decide +kernel
theorem dX4_leastDeepestTime_3 : decode cX4_leastDeepestTime 3 = .ok (.istore_n 2, 1) := by decide +kernel
theorem dX4_leastDeepestTime_4 : decode cX4_leastDeepestTime 4 = .ok (.iconst 0, 1) := by decide +kernel
theorem dX4_leastDeepestTime_5 : decode cX4_leastDeepestTime 5 = .ok (.istore_n 3, 1) := by decide +kernel
theorem dX4_leastDeepestTime_6 : decode cX4_leastDeepestTime 6 = .ok (.iload_n 3, 1) := by decide +kernel
theorem dX4_leastDeepestTime_7 : decode cX4_leastDeepestTime 7 = .ok (.aload_n 0, 1) := by decide +kernel
theorem dX4_leastDeepestTime_8 : decode cX4_leastDeepestTime 8 = .ok (.getfield 53, 3) := by decide +kernel
theorem dX4_leastDeepestTime_11 : decode cX4_leastDeepestTime 11 = .ok (.if_icmp .ge 64, 3) := by decide +kernel
theorem dX4_leastDeepestTime_14 : decode cX4_leastDeepestTime 14 = .ok (.aload_n 0, 1) := by decide +kernel
theorem dX4_leastDeepestTime_15 : decode cX4_leastDeepestTime 15 = .ok (.getfield 9, 3) := by decide +kernel
theorem dX4_leastDeepestTime_18 : decode cX4_leastDeepestTime 18 = .ok (.iload_n 3, 1) := by decide +kernel
theorem dX4_leastDeepestTime_19 : decode cX4_leastDeepestTime 19 = .ok (.iaload, 1) := by decide +kernel
theorem dX4_leastDeepestTime_20 : decode cX4_leastDeepestTime 20 = .ok (.istore 4, 2) := by decide +kernel
theorem dX4_leastDeepestTime_22 : decode cX4_leastDeepestTime 22 = .ok (.aload_n 0, 1) := by decide +kernel
theorem dX4_leastDeepestTime_23 : decode cX4_leastDeepestTime 23 = .ok (.getfield 61, 3) := by decide +kernel
theorem dX4_leastDeepestTime_26 : decode cX4_leastDeepestTime 26 = .ok (.iload_n 3, 1) := by decide +kernel
theorem dX4_leastDeepestTime_27 : decode cX4_leastDeepestTime 27 = .ok (.invokestatic 154, 3) := by decide +kernel
theorem dX4_leastDeepestTime_30 : decode cX4_leastDeepestTime 30 = .ok (.ifCond .eq 12, 3) := by decide +kernel
theorem dX4_leastDeepestTime_33 : decode cX4_leastDeepestTime 33 = .ok (.aload_n 0, 1) := by decide +kernel
theorem dX4_leastDeepestTime_34 : decode cX4_leastDeepestTime 34 = .ok (.iload 4, 2) := by decide +kernel
theorem dX4_leastDeepestTime_36 : decode cX4_leastDeepestTime 36 = .ok (.invokevirtual 97, 3) := by decide +kernel
theorem dX4_leastDeepestTime_39 : decode cX4_leastDeepestTime 39 = .ok (.goto 4, 3) := by decide +kernel
theorem dX4_leastDeepestTime_42 : decode cX4_leastDeepestTime 42 = .ok (.iconst 0, 1) := by decide +kernel
theorem dX4_leastDeepestTime_43 : decode cX4_leastDeepestTime 43 = .ok (.istore 5, 2) := by decide +kernel
theorem dX4_leastDeepestTime_45 : decode cX4_leastDeepestTime 45 = .ok (.iload 5, 2) := by decide +kernel
theorem dX4_leastDeepestTime_47 : decode cX4_leastDeepestTime 47 = .ok (.iload_n 2, 1) := by decide +kernel
theorem dX4_leastDeepestTime_48 : decode cX4_leastDeepestTime 48 = .ok (.if_icmp .gt 15, 3) := by decide +kernel
theorem dX4_leastDeepestTime_51 : decode cX4_leastDeepestTime 51 = .ok (.iload 5, 2) := by decide +kernel
theorem dX4_leastDeepestTime_53 : decode cX4_leastDeepestTime 53 = .ok (.iload_n 2, 1) := by decide +kernel
theorem dX4_leastDeepestTime_54 : decode cX4_leastDeepestTime 54 = .ok (.if_icmp .ne 15, 3) := by decide +kernel
theorem dX4_leastDeepestTime_57 : decode cX4_leastDeepestTime 57 = .ok (.iload 4, 2) := by decide +kernel
theorem dX4_leastDeepestTime_59 : decode cX4_leastDeepestTime 59 = .ok (.iload_n 1, 1) := by decide +kernel
theorem dX4_leastDeepestTime_60 : decode cX4_leastDeepestTime 60 = .ok (.if_icmp .ge 9, 3) := by decide +kernel
theorem dX4_leastDeepestTime_63 : decode cX4_leastDeepestTime 63 = .ok (.iload 4, 2) := by decide +kernel
theorem dX4_leastDeepestTime_65 : decode cX4_leastDeepestTime 65 = .ok (.istore_n 1, 1) := by decide +kernel
theorem dX4_leastDeepestTime_66 : decode cX4_leastDeepestTime 66 = .ok (.iload 5, 2) := by decide +kernel
theorem dX4_leastDeepestTime_68 : decode cX4_leastDeepestTime 68 = .ok (.istore_n 2, 1) := by decide +kernel
theorem dX4_leastDeepestTime_69 : decode cX4_leastDeepestTime 69 = .ok (.iinc 3 1, 3) := by decide +kernel
theorem dX4_leastDeepestTime_72 : decode cX4_leastDeepestTime 72 = .ok (.goto (-66), 3) := by decide +kernel
theorem dX4_leastDeepestTime_75 : decode cX4_leastDeepestTime 75 = .ok (.iload_n 1, 1) := by decide +kernel
theorem dX4_leastDeepestTime_76 : decode cX4_leastDeepestTime 76 = .ok (.ireturn, 1) := by decide +kernel
theorem dX4_earliestEndThatFits_0 : decode cX4_earliestEndThatFits 0 = .ok (.iconst (-1), 1) := by decide +kernel
theorem dX4_earliestEndThatFits_1 : decode cX4_earliestEndThatFits 1 = .ok (.istore_n 3, 1) := by decide +kernel
theorem dX4_earliestEndThatFits_2 : decode cX4_earliestEndThatFits 2 = .ok (.iconst 0, 1) := by decide +kernel
theorem dX4_earliestEndThatFits_3 : decode cX4_earliestEndThatFits 3 = .ok (.istore 4, 2) := by decide +kernel
theorem dX4_earliestEndThatFits_5 : decode cX4_earliestEndThatFits 5 = .ok (.iload 4, 2) := by decide +kernel
theorem dX4_earliestEndThatFits_7 : decode cX4_earliestEndThatFits 7 = .ok (.aload_n 0, 1) := by decide +kernel
theorem dX4_earliestEndThatFits_8 : decode cX4_earliestEndThatFits 8 = .ok (.getfield 53, 3) := by decide +kernel
theorem dX4_earliestEndThatFits_11 : decode cX4_earliestEndThatFits 11 = .ok (.if_icmp .ge 55, 3) := by decide +kernel
theorem dX4_earliestEndThatFits_14 : decode cX4_earliestEndThatFits 14 = .ok (.aload_n 0, 1) := by decide +kernel
theorem dX4_earliestEndThatFits_15 : decode cX4_earliestEndThatFits 15 = .ok (.getfield 13, 3) := by decide +kernel
theorem dX4_earliestEndThatFits_18 : decode cX4_earliestEndThatFits 18 = .ok (.iload 4, 2) := by decide +kernel
theorem dX4_earliestEndThatFits_20 : decode cX4_earliestEndThatFits 20 = .ok (.iaload, 1) := by decide +kernel
theorem dX4_earliestEndThatFits_21 : decode cX4_earliestEndThatFits 21 = .ok (.istore 5, 2) := by decide +kernel
theorem dX4_earliestEndThatFits_23 : decode cX4_earliestEndThatFits 23 = .ok (.aload_n 0, 1) := by decide +kernel
theorem dX4_earliestEndThatFits_24 : decode cX4_earliestEndThatFits 24 = .ok (.getfield 61, 3) := by decide +kernel
theorem dX4_earliestEndThatFits_27 : decode cX4_earliestEndThatFits 27 = .ok (.iload 4, 2) := by decide +kernel
theorem dX4_earliestEndThatFits_29 : decode cX4_earliestEndThatFits 29 = .ok (.invokestatic 154, 3) := by decide +kernel
theorem dX4_earliestEndThatFits_32 : decode cX4_earliestEndThatFits 32 = .ok (.ifCond .eq 28, 3) := by decide +kernel
theorem dX4_earliestEndThatFits_35 : decode cX4_earliestEndThatFits 35 = .ok (.iload_n 3, 1) := by decide +kernel
theorem dX4_earliestEndThatFits_36 : decode cX4_earliestEndThatFits 36 = .ok (.iconst (-1), 1) := by decide +kernel
theorem dX4_earliestEndThatFits_37 : decode cX4_earliestEndThatFits 37 = .ok (.if_icmp .eq 9, 3) := by decide +kernel
theorem dX4_earliestEndThatFits_40 : decode cX4_earliestEndThatFits 40 = .ok (.iload 5, 2) := by decide +kernel
theorem dX4_earliestEndThatFits_42 : decode cX4_earliestEndThatFits 42 = .ok (.iload_n 3, 1) := by decide +kernel
theorem dX4_earliestEndThatFits_43 : decode cX4_earliestEndThatFits 43 = .ok (.if_icmp .ge 17, 3) := by decide +kernel
theorem dX4_earliestEndThatFits_46 : decode cX4_earliestEndThatFits 46 = .ok (.aload_n 0, 1) := by decide +kernel
theorem dX4_earliestEndThatFits_47 : decode cX4_earliestEndThatFits 47 = .ok (.iload 5, 2) := by decide +kernel
theorem dX4_earliestEndThatFits_49 : decode cX4_earliestEndThatFits 49 = .ok (.iload_n 1, 1) := by decide +kernel
theorem dX4_earliestEndThatFits_50 : decode cX4_earliestEndThatFits 50 = .ok (.iload_n 2, 1) := by decide +kernel
theorem dX4_earliestEndThatFits_51 : decode cX4_earliestEndThatFits 51 = .ok (.invokevirtual 117, 3) := by decide +kernel
theorem dX4_earliestEndThatFits_54 : decode cX4_earliestEndThatFits 54 = .ok (.ifCond .eq 6, 3) := by decide +kernel
theorem dX4_earliestEndThatFits_57 : decode cX4_earliestEndThatFits 57 = .ok (.iload 5, 2) := by decide +kernel
theorem dX4_earliestEndThatFits_59 : decode cX4_earliestEndThatFits 59 = .ok (.istore_n 3, 1) := by decide +kernel
theorem dX4_earliestEndThatFits_60 : decode cX4_earliestEndThatFits 60 = .ok (.iinc 4 1, 3) := by decide +kernel
theorem dX4_earliestEndThatFits_63 : decode cX4_earliestEndThatFits 63 = .ok (.goto (-58), 3) := by decide +kernel
theorem dX4_earliestEndThatFits_66 : decode cX4_earliestEndThatFits 66 = .ok (.iload_n 3, 1) := by decide +kernel
theorem dX4_earliestEndThatFits_67 : decode cX4_earliestEndThatFits 67 = .ok (.ireturn, 1) := by decide +kernel
theorem dX4_fits_0 : decode cX4_fits 0 = .ok (.iload_n 1, 1) := by decide +kernel
theorem dX4_fits_1 : decode cX4_fits 1 = .ok (.sipush 1000, 3) := by decide +kernel
theorem dX4_fits_4 : decode cX4_fits 4 = .ok (.iload_n 2, 1) := by decide +kernel
theorem dX4_fits_5 : decode cX4_fits 5 = .ok (.isub, 1) := by decide +kernel
theorem dX4_fits_6 : decode cX4_fits 6 = .ok (.if_icmp .gt 12, 3) := by decide +kernel
theorem dX4_fits_9 : decode cX4_fits 9 = .ok (.aload_n 0, 1) := by decide +kernel
theorem dX4_fits_10 : decode cX4_fits 10 = .ok (.iload_n 1, 1) := by decide +kernel
theorem dX4_fits_11 : decode cX4_fits 11 = .ok (.invokevirtual 97, 3) := by decide +kernel
theorem dX4_fits_14 : decode cX4_fits 14 = .ok (.iload_n 3, 1) := by decide +kernel
theorem dX4_fits_15 : decode cX4_fits 15 = .ok (.if_icmp .lt 5, 3) := by decide +kernel
theorem dX4_fits_18 : decode cX4_fits 18 = .ok (.iconst 0, 1) := by decide +kernel
theorem dX4_fits_19 : decode cX4_fits 19 = .ok (.ireturn, 1) := by decide +kernel
theorem dX4_fits_20 : decode cX4_fits 20 = .ok (.iconst 0, 1) := by decide +kernel
theorem dX4_fits_21 : decode cX4_fits 21 = .ok (.istore 4, 2) := by decide +kernel
theorem dX4_fits_23 : decode cX4_fits 23 = .ok (.iload 4, 2) := by decide +kernel
theorem dX4_fits_25 : decode cX4_fits 25 = .ok (.aload_n 0, 1) := by decide +kernel
theorem dX4_fits_26 : decode cX4_fits 26 = .ok (.getfield 53, 3) := by decide +kernel
theorem dX4_fits_29 : decode cX4_fits 29 = .ok (.if_icmp .ge 44, 3) := by decide +kernel
theorem dX4_fits_32 : decode cX4_fits 32 = .ok (.aload_n 0, 1) := by decide +kernel
theorem dX4_fits_33 : decode cX4_fits 33 = .ok (.getfield 9, 3) := by decide +kernel
theorem dX4_fits_36 : decode cX4_fits 36 = .ok (.iload 4, 2) := by decide +kernel
theorem dX4_fits_38 : decode cX4_fits 38 = .ok (.iaload, 1) := by decide +kernel
theorem dX4_fits_39 : decode cX4_fits 39 = .ok (.istore 5, 2) := by decide +kernel
theorem dX4_fits_41 : decode cX4_fits 41 = .ok (.iload 5, 2) := by decide +kernel
theorem dX4_fits_43 : decode cX4_fits 43 = .ok (.iload_n 1, 1) := by decide +kernel
theorem dX4_fits_44 : decode cX4_fits 44 = .ok (.if_icmp .le 23, 3) := by decide +kernel
theorem dX4_fits_47 : decode cX4_fits 47 = .ok (.iload 5, 2) := by decide +kernel
theorem dX4_fits_49 : decode cX4_fits 49 = .ok (.iload_n 1, 1) := by decide +kernel
theorem dX4_fits_50 : decode cX4_fits 50 = .ok (.iload_n 2, 1) := by decide +kernel
theorem dX4_fits_51 : decode cX4_fits 51 = .ok (.iadd, 1) := by decide +kernel
theorem dX4_fits_52 : decode cX4_fits 52 = .ok (.if_icmp .ge 15, 3) := by decide +kernel
theorem dX4_fits_55 : decode cX4_fits 55 = .ok (.aload_n 0, 1) := by decide +kernel
theorem dX4_fits_56 : decode cX4_fits 56 = .ok (.iload 5, 2) := by decide +kernel
theorem dX4_fits_58 : decode cX4_fits 58 = .ok (.invokevirtual 97, 3) := by decide +kernel
theorem dX4_fits_61 : decode cX4_fits 61 = .ok (.iload_n 3, 1) := by decide +kernel
theorem dX4_fits_62 : decode cX4_fits 62 = .ok (.if_icmp .lt 5, 3) := by decide +kernel
theorem dX4_fits_65 : decode cX4_fits 65 = .ok (.iconst 0, 1) := by decide +kernel
theorem dX4_fits_66 : decode cX4_fits 66 = .ok (.ireturn, 1) := by decide +kernel
theorem dX4_fits_67 : decode cX4_fits 67 = .ok (.iinc 4 1, 3) := by decide +kernel
theorem dX4_fits_70 : decode cX4_fits 70 = .ok (.goto (-47), 3) := by decide +kernel
theorem dX4_fits_73 : decode cX4_fits 73 = .ok (.iconst 1, 1) := by decide +kernel
theorem dX4_fits_74 : decode cX4_fits 74 = .ok (.ireturn, 1) := by decide +kernel
theorem dX4_fill_0 : decode cX4_fill 0 = .ok (.aload_n 1, 1) := by decide +kernel
theorem dX4_fill_1 : decode cX4_fill 1 = .ok (.invokevirtual 188, 3) := by decide +kernel
theorem dX4_fill_4 : decode cX4_fill 4 = .ok (.iconst 0, 1) := by decide +kernel
theorem dX4_fill_5 : decode cX4_fill 5 = .ok (.istore 4, 2) := by decide +kernel
theorem dX4_fill_7 : decode cX4_fill 7 = .ok (.iload 4, 2) := by decide +kernel
theorem dX4_fill_9 : decode cX4_fill 9 = .ok (.aload_n 0, 1) := by decide +kernel
theorem dX4_fill_10 : decode cX4_fill 10 = .ok (.getfield 53, 3) := by decide +kernel
theorem dX4_fill_13 : decode cX4_fill 13 = .ok (.if_icmp .ge 45, 3) := by decide +kernel
theorem dX4_fill_16 : decode cX4_fill 16 = .ok (.lload_n 2, 1) := by decide +kernel
theorem dX4_fill_17 : decode cX4_fill 17 = .ok (.iload 4, 2) := by decide +kernel
theorem dX4_fill_19 : decode cX4_fill 19 = .ok (.invokestatic 154, 3) := by decide +kernel
theorem dX4_fill_22 : decode cX4_fill 22 = .ok (.ifCond .eq 30, 3) := by decide +kernel
theorem dX4_fill_25 : decode cX4_fill 25 = .ok (.aload_n 1, 1) := by decide +kernel
theorem dX4_fill_26 : decode cX4_fill 26 = .ok (.iload 4, 2) := by decide +kernel
theorem dX4_fill_28 : decode cX4_fill 28 = .ok (.aload_n 0, 1) := by decide +kernel
theorem dX4_fill_29 : decode cX4_fill 29 = .ok (.getfield 9, 3) := by decide +kernel
theorem dX4_fill_32 : decode cX4_fill 32 = .ok (.iload 4, 2) := by decide +kernel
theorem dX4_fill_34 : decode cX4_fill 34 = .ok (.iaload, 1) := by decide +kernel
theorem dX4_fill_35 : decode cX4_fill 35 = .ok (.aload_n 0, 1) := by decide +kernel
theorem dX4_fill_36 : decode cX4_fill 36 = .ok (.getfield 13, 3) := by decide +kernel
theorem dX4_fill_39 : decode cX4_fill 39 = .ok (.iload 4, 2) := by decide +kernel
theorem dX4_fill_41 : decode cX4_fill 41 = .ok (.iaload, 1) := by decide +kernel
theorem dX4_fill_42 : decode cX4_fill 42 = .ok (.aload_n 0, 1) := by decide +kernel
theorem dX4_fill_43 : decode cX4_fill 43 = .ok (.getfield 16, 3) := by decide +kernel
theorem dX4_fill_46 : decode cX4_fill 46 = .ok (.iload 4, 2) := by decide +kernel
theorem dX4_fill_48 : decode cX4_fill 48 = .ok (.iaload, 1) := by decide +kernel
theorem dX4_fill_49 : decode cX4_fill 49 = .ok (.invokevirtual 193, 3) := by decide +kernel
theorem dX4_fill_52 : decode cX4_fill 52 = .ok (.iinc 4 1, 3) := by decide +kernel
theorem dX4_fill_55 : decode cX4_fill 55 = .ok (.goto (-48), 3) := by decide +kernel
theorem dX4_fill_58 : decode cX4_fill 58 = .ok (.return_, 1) := by decide +kernel
theorem dX4_fillBeside_0 : decode cX4_fillBeside 0 = .ok (.aload_n 0, 1) := by decide +kernel
theorem dX4_fillBeside_1 : decode cX4_fillBeside 1 = .ok (.getfield 33, 3) := by decide +kernel
theorem dX4_fillBeside_4 : decode cX4_fillBeside 4 = .ok (.getfield 128, 3) := by decide +kernel
theorem dX4_fillBeside_7 : decode cX4_fillBeside 7 = .ok (.invokevirtual 188, 3) := by decide +kernel
theorem dX4_fillBeside_10 : decode cX4_fillBeside 10 = .ok (.iconst 0, 1) := by decide +kernel
theorem dX4_fillBeside_11 : decode cX4_fillBeside 11 = .ok (.istore 4, 2) := by decide +kernel
theorem dX4_fillBeside_13 : decode cX4_fillBeside 13 = .ok (.iload 4, 2) := by decide +kernel
theorem dX4_fillBeside_15 : decode cX4_fillBeside 15 = .ok (.aload_n 0, 1) := by decide +kernel
theorem dX4_fillBeside_16 : decode cX4_fillBeside 16 = .ok (.getfield 53, 3) := by decide +kernel
theorem dX4_fillBeside_19 : decode cX4_fillBeside 19 = .ok (.if_icmp .ge 82, 3) := by decide +kernel
theorem dX4_fillBeside_22 : decode cX4_fillBeside 22 = .ok (.aload_n 0, 1) := by decide +kernel
theorem dX4_fillBeside_23 : decode cX4_fillBeside 23 = .ok (.getfield 9, 3) := by decide +kernel
theorem dX4_fillBeside_26 : decode cX4_fillBeside 26 = .ok (.iload 4, 2) := by decide +kernel
theorem dX4_fillBeside_28 : decode cX4_fillBeside 28 = .ok (.iaload, 1) := by decide +kernel
theorem dX4_fillBeside_29 : decode cX4_fillBeside 29 = .ok (.iload_n 1, 1) := by decide +kernel
theorem dX4_fillBeside_30 : decode cX4_fillBeside 30 = .ok (.isub, 1) := by decide +kernel
theorem dX4_fillBeside_31 : decode cX4_fillBeside 31 = .ok (.iload_n 3, 1) := by decide +kernel
theorem dX4_fillBeside_32 : decode cX4_fillBeside 32 = .ok (.invokestatic 197, 3) := by decide +kernel
theorem dX4_fillBeside_35 : decode cX4_fillBeside 35 = .ok (.istore 5, 2) := by decide +kernel
theorem dX4_fillBeside_37 : decode cX4_fillBeside 37 = .ok (.iload 5, 2) := by decide +kernel
theorem dX4_fillBeside_39 : decode cX4_fillBeside 39 = .ok (.aload_n 0, 1) := by decide +kernel
theorem dX4_fillBeside_40 : decode cX4_fillBeside 40 = .ok (.iload 4, 2) := by decide +kernel
theorem dX4_fillBeside_42 : decode cX4_fillBeside 42 = .ok (.invokevirtual 84, 3) := by decide +kernel
theorem dX4_fillBeside_45 : decode cX4_fillBeside 45 = .ok (.iadd, 1) := by decide +kernel
theorem dX4_fillBeside_46 : decode cX4_fillBeside 46 = .ok (.istore 6, 2) := by decide +kernel
theorem dX4_fillBeside_48 : decode cX4_fillBeside 48 = .ok (.aload_n 0, 1) := by decide +kernel
theorem dX4_fillBeside_49 : decode cX4_fillBeside 49 = .ok (.getfield 61, 3) := by decide +kernel
theorem dX4_fillBeside_52 : decode cX4_fillBeside 52 = .ok (.iload 4, 2) := by decide +kernel
theorem dX4_fillBeside_54 : decode cX4_fillBeside 54 = .ok (.invokestatic 154, 3) := by decide +kernel
theorem dX4_fillBeside_57 : decode cX4_fillBeside 57 = .ok (.ifCond .eq 38, 3) := by decide +kernel
theorem dX4_fillBeside_60 : decode cX4_fillBeside 60 = .ok (.iload 5, 2) := by decide +kernel
theorem dX4_fillBeside_62 : decode cX4_fillBeside 62 = .ok (.iload_n 2, 1) := by decide +kernel
theorem dX4_fillBeside_63 : decode cX4_fillBeside 63 = .ok (.if_icmp .lt 32, 3) := by decide +kernel
theorem dX4_fillBeside_66 : decode cX4_fillBeside 66 = .ok (.iload 6, 2) := by decide +kernel
theorem dX4_fillBeside_68 : decode cX4_fillBeside 68 = .ok (.iload_n 3, 1) := by decide +kernel
theorem dX4_fillBeside_69 : decode cX4_fillBeside 69 = .ok (.if_icmp .gt 26, 3) := by decide +kernel
theorem dX4_fillBeside_72 : decode cX4_fillBeside 72 = .ok (.aload_n 0, 1) := by decide +kernel
theorem dX4_fillBeside_73 : decode cX4_fillBeside 73 = .ok (.getfield 33, 3) := by decide +kernel
theorem dX4_fillBeside_76 : decode cX4_fillBeside 76 = .ok (.getfield 128, 3) := by decide +kernel
theorem dX4_fillBeside_79 : decode cX4_fillBeside 79 = .ok (.iload 4, 2) := by decide +kernel
theorem dX4_fillBeside_81 : decode cX4_fillBeside 81 = .ok (.iload 5, 2) := by decide +kernel
theorem dX4_fillBeside_83 : decode cX4_fillBeside 83 = .ok (.iload 6, 2) := by decide +kernel
theorem dX4_fillBeside_85 : decode cX4_fillBeside 85 = .ok (.aload_n 0, 1) := by decide +kernel
theorem dX4_fillBeside_86 : decode cX4_fillBeside 86 = .ok (.getfield 16, 3) := by decide +kernel
theorem dX4_fillBeside_89 : decode cX4_fillBeside 89 = .ok (.iload 4, 2) := by decide +kernel
theorem dX4_fillBeside_91 : decode cX4_fillBeside 91 = .ok (.iaload, 1) := by decide +kernel
theorem dX4_fillBeside_92 : decode cX4_fillBeside 92 = .ok (.invokevirtual 193, 3) := by decide +kernel
theorem dX4_fillBeside_95 : decode cX4_fillBeside 95 = .ok (.iinc 4 1, 3) := by decide +kernel
theorem dX4_fillBeside_98 : decode cX4_fillBeside 98 = .ok (.goto (-85), 3) := by decide +kernel
theorem dX4_fillBeside_101 : decode cX4_fillBeside 101 = .ok (.return_, 1) := by decide +kernel
theorem dX4_heaviestForOne_0 : decode cX4_heaviestForOne 0 = .ok (.aload_n 0, 1) := by decide +kernel
theorem dX4_heaviestForOne_1 : decode cX4_heaviestForOne 1 = .ok (.aload_n 0, 1) := by decide +kernel
theorem dX4_heaviestForOne_2 : decode cX4_heaviestForOne 2 = .ok (.getfield 33, 3) := by decide +kernel
theorem dX4_heaviestForOne_5 : decode cX4_heaviestForOne 5 = .ok (.getfield 128, 3) := by decide +kernel
theorem dX4_heaviestForOne_8 : decode cX4_heaviestForOne 8 = .ok (.lload_n 1, 1) := by decide +kernel
theorem dX4_heaviestForOne_9 : decode cX4_heaviestForOne 9 = .ok (.invokevirtual 104, 3) := by decide +kernel
theorem dX4_heaviestForOne_12 : decode cX4_heaviestForOne 12 = .ok (.aload_n 0, 1) := by decide +kernel
theorem dX4_heaviestForOne_13 : decode cX4_heaviestForOne 13 = .ok (.getfield 33, 3) := by decide +kernel
theorem dX4_heaviestForOne_16 : decode cX4_heaviestForOne 16 = .ok (.invokevirtual 200, 3) := by decide +kernel
theorem dX4_heaviestForOne_19 : decode cX4_heaviestForOne 19 = .ok (.ireturn, 1) := by decide +kernel
theorem dX4_heaviestForMany_0 : decode cX4_heaviestForMany 0 = .ok (.aload_n 0, 1) := by decide +kernel
theorem dX4_heaviestForMany_1 : decode cX4_heaviestForMany 1 = .ok (.aload_n 0, 1) := by decide +kernel
theorem dX4_heaviestForMany_2 : decode cX4_heaviestForMany 2 = .ok (.getfield 40, 3) := by decide +kernel
theorem dX4_heaviestForMany_5 : decode cX4_heaviestForMany 5 = .ok (.getfield 203, 3) := by decide +kernel
theorem dX4_heaviestForMany_8 : decode cX4_heaviestForMany 8 = .ok (.lload_n 1, 1) := by decide +kernel
theorem dX4_heaviestForMany_9 : decode cX4_heaviestForMany 9 = .ok (.invokevirtual 104, 3) := by decide +kernel
theorem dX4_heaviestForMany_12 : decode cX4_heaviestForMany 12 = .ok (.aload_n 0, 1) := by decide +kernel
theorem dX4_heaviestForMany_13 : decode cX4_heaviestForMany 13 = .ok (.getfield 40, 3) := by decide +kernel
theorem dX4_heaviestForMany_16 : decode cX4_heaviestForMany 16 = .ok (.iload_n 3, 1) := by decide +kernel
theorem dX4_heaviestForMany_17 : decode cX4_heaviestForMany 17 = .ok (.invokevirtual 204, 3) := by decide +kernel
theorem dX4_heaviestForMany_20 : decode cX4_heaviestForMany 20 = .ok (.ireturn, 1) := by decide +kernel
theorem dX4_heaviestBeside_0 : decode cX4_heaviestBeside 0 = .ok (.aload_n 0, 1) := by decide +kernel
theorem dX4_heaviestBeside_1 : decode cX4_heaviestBeside 1 = .ok (.iload_n 1, 1) := by decide +kernel
theorem dX4_heaviestBeside_2 : decode cX4_heaviestBeside 2 = .ok (.iload_n 2, 1) := by decide +kernel
theorem dX4_heaviestBeside_3 : decode cX4_heaviestBeside 3 = .ok (.iload_n 3, 1) := by decide +kernel
theorem dX4_heaviestBeside_4 : decode cX4_heaviestBeside 4 = .ok (.invokevirtual 206, 3) := by decide +kernel
theorem dX4_heaviestBeside_7 : decode cX4_heaviestBeside 7 = .ok (.aload_n 0, 1) := by decide +kernel
theorem dX4_heaviestBeside_8 : decode cX4_heaviestBeside 8 = .ok (.getfield 33, 3) := by decide +kernel
theorem dX4_heaviestBeside_11 : decode cX4_heaviestBeside 11 = .ok (.invokevirtual 200, 3) := by decide +kernel
theorem dX4_heaviestBeside_14 : decode cX4_heaviestBeside 14 = .ok (.ireturn, 1) := by decide +kernel
theorem dX4_runsPastTurn_0 : decode cX4_runsPastTurn 0 = .ok (.aload_n 0, 1) := by decide +kernel
theorem dX4_runsPastTurn_1 : decode cX4_runsPastTurn 1 = .ok (.getfield 9, 3) := by decide +kernel
theorem dX4_runsPastTurn_4 : decode cX4_runsPastTurn 4 = .ok (.iload_n 1, 1) := by decide +kernel
theorem dX4_runsPastTurn_5 : decode cX4_runsPastTurn 5 = .ok (.iaload, 1) := by decide +kernel
theorem dX4_runsPastTurn_6 : decode cX4_runsPastTurn 6 = .ok (.iload_n 2, 1) := by decide +kernel
theorem dX4_runsPastTurn_7 : decode cX4_runsPastTurn 7 = .ok (.invokestatic 197, 3) := by decide +kernel
theorem dX4_runsPastTurn_10 : decode cX4_runsPastTurn 10 = .ok (.aload_n 0, 1) := by decide +kernel
theorem dX4_runsPastTurn_11 : decode cX4_runsPastTurn 11 = .ok (.iload_n 1, 1) := by decide +kernel
theorem dX4_runsPastTurn_12 : decode cX4_runsPastTurn 12 = .ok (.invokevirtual 84, 3) := by decide +kernel
theorem dX4_runsPastTurn_15 : decode cX4_runsPastTurn 15 = .ok (.iadd, 1) := by decide +kernel
theorem dX4_runsPastTurn_16 : decode cX4_runsPastTurn 16 = .ok (.iload_n 2, 1) := by decide +kernel
theorem dX4_runsPastTurn_17 : decode cX4_runsPastTurn 17 = .ok (.if_icmp .le 7, 3) := by decide +kernel
theorem dX4_runsPastTurn_20 : decode cX4_runsPastTurn 20 = .ok (.iconst 1, 1) := by decide +kernel
theorem dX4_runsPastTurn_21 : decode cX4_runsPastTurn 21 = .ok (.goto 4, 3) := by decide +kernel
theorem dX4_runsPastTurn_24 : decode cX4_runsPastTurn 24 = .ok (.iconst 0, 1) := by decide +kernel
theorem dX4_runsPastTurn_25 : decode cX4_runsPastTurn 25 = .ok (.ireturn, 1) := by decide +kernel
theorem dX4_depthOnCircle_0 : decode cX4_depthOnCircle 0 = .ok (.iconst 0, 1) := by decide +kernel
theorem dX4_depthOnCircle_1 : decode cX4_depthOnCircle 1 = .ok (.istore_n 3, 1) := by decide +kernel
theorem dX4_depthOnCircle_2 : decode cX4_depthOnCircle 2 = .ok (.iconst 0, 1) := by decide +kernel
theorem dX4_depthOnCircle_3 : decode cX4_depthOnCircle 3 = .ok (.istore 4, 2) := by decide +kernel
theorem dX4_depthOnCircle_5 : decode cX4_depthOnCircle 5 = .ok (.iload 4, 2) := by decide +kernel
theorem dX4_depthOnCircle_7 : decode cX4_depthOnCircle 7 = .ok (.aload_n 0, 1) := by decide +kernel
theorem dX4_depthOnCircle_8 : decode cX4_depthOnCircle 8 = .ok (.getfield 53, 3) := by decide +kernel
theorem dX4_depthOnCircle_11 : decode cX4_depthOnCircle 11 = .ok (.if_icmp .ge 46, 3) := by decide +kernel
theorem dX4_depthOnCircle_14 : decode cX4_depthOnCircle 14 = .ok (.aload_n 0, 1) := by decide +kernel
theorem dX4_depthOnCircle_15 : decode cX4_depthOnCircle 15 = .ok (.getfield 61, 3) := by decide +kernel
theorem dX4_depthOnCircle_18 : decode cX4_depthOnCircle 18 = .ok (.iload 4, 2) := by decide +kernel
theorem dX4_depthOnCircle_20 : decode cX4_depthOnCircle 20 = .ok (.invokestatic 154, 3) := by decide +kernel
theorem dX4_depthOnCircle_23 : decode cX4_depthOnCircle 23 = .ok (.ifCond .eq 28, 3) := by decide +kernel
theorem dX4_depthOnCircle_26 : decode cX4_depthOnCircle 26 = .ok (.iload_n 1, 1) := by decide +kernel
theorem dX4_depthOnCircle_27 : decode cX4_depthOnCircle 27 = .ok (.aload_n 0, 1) := by decide +kernel
theorem dX4_depthOnCircle_28 : decode cX4_depthOnCircle 28 = .ok (.getfield 9, 3) := by decide +kernel
theorem dX4_depthOnCircle_31 : decode cX4_depthOnCircle 31 = .ok (.iload 4, 2) := by decide +kernel
theorem dX4_depthOnCircle_33 : decode cX4_depthOnCircle 33 = .ok (.iaload, 1) := by decide +kernel
theorem dX4_depthOnCircle_34 : decode cX4_depthOnCircle 34 = .ok (.isub, 1) := by decide +kernel
theorem dX4_depthOnCircle_35 : decode cX4_depthOnCircle 35 = .ok (.iload_n 2, 1) := by decide +kernel
theorem dX4_depthOnCircle_36 : decode cX4_depthOnCircle 36 = .ok (.invokestatic 197, 3) := by decide +kernel
theorem dX4_depthOnCircle_39 : decode cX4_depthOnCircle 39 = .ok (.aload_n 0, 1) := by decide +kernel
theorem dX4_depthOnCircle_40 : decode cX4_depthOnCircle 40 = .ok (.iload 4, 2) := by decide +kernel
theorem dX4_depthOnCircle_42 : decode cX4_depthOnCircle 42 = .ok (.invokevirtual 84, 3) := by decide +kernel
theorem dX4_depthOnCircle_45 : decode cX4_depthOnCircle 45 = .ok (.if_icmp .ge 6, 3) := by decide +kernel
theorem dX4_depthOnCircle_48 : decode cX4_depthOnCircle 48 = .ok (.iinc 3 1, 3) := by decide +kernel
theorem dX4_depthOnCircle_51 : decode cX4_depthOnCircle 51 = .ok (.iinc 4 1, 3) := by decide +kernel
theorem dX4_depthOnCircle_54 : decode cX4_depthOnCircle 54 = .ok (.goto (-49), 3) := by decide +kernel
theorem dX4_depthOnCircle_57 : decode cX4_depthOnCircle 57 = .ok (.iload_n 3, 1) := by decide +kernel
theorem dX4_depthOnCircle_58 : decode cX4_depthOnCircle 58 = .ok (.ireturn, 1) := by decide +kernel
theorem dX4_turned_0 : decode cX4_turned 0 = .ok (.iload_n 1, 1) := by decide +kernel
theorem dX4_turned_1 : decode cX4_turned 1 = .ok (.iconst 1, 1) := by decide +kernel
theorem dX4_turned_2 : decode cX4_turned 2 = .ok (.if_icmp .ge 7, 3) := by decide +kernel
theorem dX4_turned_5 : decode cX4_turned 5 = .ok (.iconst 0, 1) := by decide +kernel
theorem dX4_turned_6 : decode cX4_turned 6 = .ok (.goto 8, 3) := by decide +kernel
theorem dX4_turned_9 : decode cX4_turned 9 = .ok (.iload_n 0, 1) := by decide +kernel
theorem dX4_turned_10 : decode cX4_turned 10 = .ok (.iload_n 1, 1) := by decide +kernel
theorem dX4_turned_11 : decode cX4_turned 11 = .ok (.invokestatic 210, 3) := by decide +kernel
theorem dX4_turned_14 : decode cX4_turned 14 = .ok (.ireturn, 1) := by decide +kernel
theorem dJ13_bitCount_95d88_0 : decode cJ13_bitCount_95d88 0 = .ok (.lload_n 0, 1) := by decide +kernel
theorem dJ13_bitCount_95d88_1 : decode cJ13_bitCount_95d88 1 = .ok (.lload_n 0, 1) := by decide +kernel
theorem dJ13_bitCount_95d88_2 : decode cJ13_bitCount_95d88 2 = .ok (.iconst 1, 1) := by decide +kernel
theorem dJ13_bitCount_95d88_3 : decode cJ13_bitCount_95d88 3 = .ok (.lushr, 1) := by decide +kernel
theorem dJ13_bitCount_95d88_4 : decode cJ13_bitCount_95d88 4 = .ok (.ldc2_w 314, 3) := by decide +kernel
theorem dJ13_bitCount_95d88_7 : decode cJ13_bitCount_95d88 7 = .ok (.land, 1) := by decide +kernel
theorem dJ13_bitCount_95d88_8 : decode cJ13_bitCount_95d88 8 = .ok (.lsub, 1) := by decide +kernel
theorem dJ13_bitCount_95d88_9 : decode cJ13_bitCount_95d88 9 = .ok (.lstore_n 0, 1) := by decide +kernel
theorem dJ13_bitCount_95d88_10 : decode cJ13_bitCount_95d88 10 = .ok (.lload_n 0, 1) := by decide +kernel
theorem dJ13_bitCount_95d88_11 : decode cJ13_bitCount_95d88 11 = .ok (.ldc2_w 316, 3) := by decide +kernel
theorem dJ13_bitCount_95d88_14 : decode cJ13_bitCount_95d88 14 = .ok (.land, 1) := by decide +kernel
theorem dJ13_bitCount_95d88_15 : decode cJ13_bitCount_95d88 15 = .ok (.lload_n 0, 1) := by decide +kernel
theorem dJ13_bitCount_95d88_16 : decode cJ13_bitCount_95d88 16 = .ok (.iconst 2, 1) := by decide +kernel
theorem dJ13_bitCount_95d88_17 : decode cJ13_bitCount_95d88 17 = .ok (.lushr, 1) := by decide +kernel
theorem dJ13_bitCount_95d88_18 : decode cJ13_bitCount_95d88 18 = .ok (.ldc2_w 316, 3) := by decide +kernel
theorem dJ13_bitCount_95d88_21 : decode cJ13_bitCount_95d88 21 = .ok (.land, 1) := by decide +kernel
theorem dJ13_bitCount_95d88_22 : decode cJ13_bitCount_95d88 22 = .ok (.ladd, 1) := by decide +kernel
theorem dJ13_bitCount_95d88_23 : decode cJ13_bitCount_95d88 23 = .ok (.lstore_n 0, 1) := by decide +kernel
theorem dJ13_bitCount_95d88_24 : decode cJ13_bitCount_95d88 24 = .ok (.lload_n 0, 1) := by decide +kernel
theorem dJ13_bitCount_95d88_25 : decode cJ13_bitCount_95d88 25 = .ok (.lload_n 0, 1) := by decide +kernel
theorem dJ13_bitCount_95d88_26 : decode cJ13_bitCount_95d88 26 = .ok (.iconst 4, 1) := by decide +kernel
theorem dJ13_bitCount_95d88_27 : decode cJ13_bitCount_95d88 27 = .ok (.lushr, 1) := by decide +kernel
theorem dJ13_bitCount_95d88_28 : decode cJ13_bitCount_95d88 28 = .ok (.ladd, 1) := by decide +kernel
theorem dJ13_bitCount_95d88_29 : decode cJ13_bitCount_95d88 29 = .ok (.ldc2_w 318, 3) := by decide +kernel
theorem dJ13_bitCount_95d88_32 : decode cJ13_bitCount_95d88 32 = .ok (.land, 1) := by decide +kernel
theorem dJ13_bitCount_95d88_33 : decode cJ13_bitCount_95d88 33 = .ok (.lstore_n 0, 1) := by decide +kernel
theorem dJ13_bitCount_95d88_34 : decode cJ13_bitCount_95d88 34 = .ok (.lload_n 0, 1) := by decide +kernel
theorem dJ13_bitCount_95d88_35 : decode cJ13_bitCount_95d88 35 = .ok (.lload_n 0, 1) := by decide +kernel
theorem dJ13_bitCount_95d88_36 : decode cJ13_bitCount_95d88 36 = .ok (.bipush 8, 2) := by decide +kernel
theorem dJ13_bitCount_95d88_38 : decode cJ13_bitCount_95d88 38 = .ok (.lushr, 1) := by decide +kernel
theorem dJ13_bitCount_95d88_39 : decode cJ13_bitCount_95d88 39 = .ok (.ladd, 1) := by decide +kernel
theorem dJ13_bitCount_95d88_40 : decode cJ13_bitCount_95d88 40 = .ok (.lstore_n 0, 1) := by decide +kernel
theorem dJ13_bitCount_95d88_41 : decode cJ13_bitCount_95d88 41 = .ok (.lload_n 0, 1) := by decide +kernel
theorem dJ13_bitCount_95d88_42 : decode cJ13_bitCount_95d88 42 = .ok (.lload_n 0, 1) := by decide +kernel
theorem dJ13_bitCount_95d88_43 : decode cJ13_bitCount_95d88 43 = .ok (.bipush 16, 2) := by decide +kernel
theorem dJ13_bitCount_95d88_45 : decode cJ13_bitCount_95d88 45 = .ok (.lushr, 1) := by decide +kernel
theorem dJ13_bitCount_95d88_46 : decode cJ13_bitCount_95d88 46 = .ok (.ladd, 1) := by decide +kernel
theorem dJ13_bitCount_95d88_47 : decode cJ13_bitCount_95d88 47 = .ok (.lstore_n 0, 1) := by decide +kernel
theorem dJ13_bitCount_95d88_48 : decode cJ13_bitCount_95d88 48 = .ok (.lload_n 0, 1) := by decide +kernel
theorem dJ13_bitCount_95d88_49 : decode cJ13_bitCount_95d88 49 = .ok (.lload_n 0, 1) := by decide +kernel
theorem dJ13_bitCount_95d88_50 : decode cJ13_bitCount_95d88 50 = .ok (.bipush 32, 2) := by decide +kernel
theorem dJ13_bitCount_95d88_52 : decode cJ13_bitCount_95d88 52 = .ok (.lushr, 1) := by decide +kernel
theorem dJ13_bitCount_95d88_53 : decode cJ13_bitCount_95d88 53 = .ok (.ladd, 1) := by decide +kernel
theorem dJ13_bitCount_95d88_54 : decode cJ13_bitCount_95d88 54 = .ok (.lstore_n 0, 1) := by decide +kernel
theorem dJ13_bitCount_95d88_55 : decode cJ13_bitCount_95d88 55 = .ok (.lload_n 0, 1) := by decide +kernel
theorem dJ13_bitCount_95d88_56 : decode cJ13_bitCount_95d88 56 = .ok (.l2i, 1) := by decide +kernel
theorem dJ13_bitCount_95d88_57 : decode cJ13_bitCount_95d88 57 = .ok (.bipush 127, 2) := by decide +kernel
theorem dJ13_bitCount_95d88_59 : decode cJ13_bitCount_95d88 59 = .ok (.iand, 1) := by decide +kernel
theorem dJ13_bitCount_95d88_60 : decode cJ13_bitCount_95d88 60 = .ok (.ireturn, 1) := by decide +kernel
theorem dJ9_floorMod_7cf53_0 : decode cJ9_floorMod_7cf53 0 = .ok (.iload_n 0, 1) := by decide +kernel
theorem dJ9_floorMod_7cf53_1 : decode cJ9_floorMod_7cf53 1 = .ok (.iload_n 1, 1) := by decide +kernel
theorem dJ9_floorMod_7cf53_2 : decode cJ9_floorMod_7cf53 2 = .ok (.irem, 1) := by decide +kernel
theorem dJ9_floorMod_7cf53_3 : decode cJ9_floorMod_7cf53 3 = .ok (.istore_n 2, 1) := by decide +kernel
theorem dJ9_floorMod_7cf53_4 : decode cJ9_floorMod_7cf53 4 = .ok (.iload_n 0, 1) := by decide +kernel
theorem dJ9_floorMod_7cf53_5 : decode cJ9_floorMod_7cf53 5 = .ok (.iload_n 1, 1) := by decide +kernel
theorem dJ9_floorMod_7cf53_6 : decode cJ9_floorMod_7cf53 6 = .ok (.ixor, 1) := by decide +kernel
theorem dJ9_floorMod_7cf53_7 : decode cJ9_floorMod_7cf53 7 = .ok (.ifCond .ge 11, 3) := by decide +kernel
theorem dJ9_floorMod_7cf53_10 : decode cJ9_floorMod_7cf53 10 = .ok (.iload_n 2, 1) := by decide +kernel
theorem dJ9_floorMod_7cf53_11 : decode cJ9_floorMod_7cf53 11 = .ok (.ifCond .eq 7, 3) := by decide +kernel
theorem dJ9_floorMod_7cf53_14 : decode cJ9_floorMod_7cf53 14 = .ok (.iload_n 2, 1) := by decide +kernel
theorem dJ9_floorMod_7cf53_15 : decode cJ9_floorMod_7cf53 15 = .ok (.iload_n 1, 1) := by decide +kernel
theorem dJ9_floorMod_7cf53_16 : decode cJ9_floorMod_7cf53 16 = .ok (.iadd, 1) := by decide +kernel
theorem dJ9_floorMod_7cf53_17 : decode cJ9_floorMod_7cf53 17 = .ok (.ireturn, 1) := by decide +kernel
theorem dJ9_floorMod_7cf53_18 : decode cJ9_floorMod_7cf53 18 = .ok (.iload_n 2, 1) := by decide +kernel
theorem dJ9_floorMod_7cf53_19 : decode cJ9_floorMod_7cf53 19 = .ok (.ireturn, 1) := by decide +kernel
theorem dJ9_max_7cf53_0 : decode cJ9_max_7cf53 0 = .ok (.iload_n 0, 1) := by decide +kernel
theorem dJ9_max_7cf53_1 : decode cJ9_max_7cf53 1 = .ok (.iload_n 1, 1) := by decide +kernel
theorem dJ9_max_7cf53_2 : decode cJ9_max_7cf53 2 = .ok (.if_icmp .lt 7, 3) := by decide +kernel
theorem dJ9_max_7cf53_5 : decode cJ9_max_7cf53 5 = .ok (.iload_n 0, 1) := by decide +kernel
theorem dJ9_max_7cf53_6 : decode cJ9_max_7cf53 6 = .ok (.goto 4, 3) := by decide +kernel
theorem dJ9_max_7cf53_9 : decode cJ9_max_7cf53 9 = .ok (.iload_n 1, 1) := by decide +kernel
theorem dJ9_max_7cf53_10 : decode cJ9_max_7cf53 10 = .ok (.ireturn, 1) := by decide +kernel
theorem dJ9_min_7cf53_0 : decode cJ9_min_7cf53 0 = .ok (.iload_n 0, 1) := by decide +kernel
theorem dJ9_min_7cf53_1 : decode cJ9_min_7cf53 1 = .ok (.iload_n 1, 1) := by decide +kernel
theorem dJ9_min_7cf53_2 : decode cJ9_min_7cf53 2 = .ok (.if_icmp .gt 7, 3) := by decide +kernel
theorem dJ9_min_7cf53_5 : decode cJ9_min_7cf53 5 = .ok (.iload_n 0, 1) := by decide +kernel
theorem dJ9_min_7cf53_6 : decode cJ9_min_7cf53 6 = .ok (.goto 4, 3) := by decide +kernel
theorem dJ9_min_7cf53_9 : decode cJ9_min_7cf53 9 = .ok (.iload_n 1, 1) := by decide +kernel
theorem dJ9_min_7cf53_10 : decode cJ9_min_7cf53 10 = .ok (.ireturn, 1) := by decide +kernel
