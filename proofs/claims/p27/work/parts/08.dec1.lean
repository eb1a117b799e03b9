theorem dX0_init_0 : decode cX0_init 0 = .ok (.aload_n 0, 1) := by decide +kernel
theorem dX0_init_1 : decode cX0_init 1 = .ok (.invokespecial 3, 3) := by decide +kernel
theorem dX0_init_4 : decode cX0_init 4 = .ok (.aload_n 0, 1) := by decide +kernel
theorem dX0_init_5 : decode cX0_init 5 = .ok (.new 9, 3) := by decide +kernel
theorem dX0_init_8 : decode cX0_init 8 = .ok (.dup, 1) := by decide +kernel
theorem dX0_init_9 : decode cX0_init 9 = .ok (.iconst 0, 1) := by decide +kernel
theorem dX0_init_10 : decode cX0_init 10 = .ok (.invokespecial 11, 3) := by decide +kernel
theorem dX0_init_13 : decode cX0_init 13 = .ok (.putfield 14, 3) := by decide +kernel
theorem dX0_init_16 : decode cX0_init 16 = .ok (.aload_n 0, 1) := by decide +kernel
theorem dX0_init_17 : decode cX0_init 17 = .ok (.bipush 40, 2) := by decide +kernel
theorem dX0_init_19 : decode cX0_init 19 = .ok (.newarray .int, 2) := by decide +kernel
theorem dX0_init_21 : decode cX0_init 21 = .ok (.putfield 20, 3) := by decide +kernel
theorem dX0_init_24 : decode cX0_init 24 = .ok (.return_, 1) := by decide +kernel
theorem dX0_givenTo_0 : decode cX0_givenTo 0 = .ok (.aload_n 0, 1) := by decide +kernel
theorem dX0_givenTo_1 : decode cX0_givenTo 1 = .ok (.invokevirtual 24, 3) := by decide +kernel
theorem dX0_givenTo_4 : decode cX0_givenTo 4 = .ok (.iconst 0, 1) := by decide +kernel
theorem dX0_givenTo_5 : decode cX0_givenTo 5 = .ok (.istore_n 2, 1) := by decide +kernel
theorem dX0_givenTo_6 : decode cX0_givenTo 6 = .ok (.iload_n 2, 1) := by decide +kernel
theorem dX0_givenTo_7 : decode cX0_givenTo 7 = .ok (.aload_n 0, 1) := by decide +kernel
theorem dX0_givenTo_8 : decode cX0_givenTo 8 = .ok (.getfield 14, 3) := by decide +kernel
theorem dX0_givenTo_11 : decode cX0_givenTo 11 = .ok (.getfield 27, 3) := by decide +kernel
theorem dX0_givenTo_14 : decode cX0_givenTo 14 = .ok (.if_icmp .ge 53, 3) := by decide +kernel
theorem dX0_givenTo_17 : decode cX0_givenTo 17 = .ok (.aload_n 0, 1) := by decide +kernel
theorem dX0_givenTo_18 : decode cX0_givenTo 18 = .ok (.aload_n 0, 1) := by decide +kernel
theorem dX0_givenTo_19 : decode cX0_givenTo 19 = .ok (.getfield 14, 3) := by decide +kernel
theorem dX0_givenTo_22 : decode cX0_givenTo 22 = .ok (.getfield 31, 3) := by decide +kernel
theorem dX0_givenTo_25 : decode cX0_givenTo 25 = .ok (.iload_n 2, 1) := by decide +kernel
theorem dX0_givenTo_26 : decode cX0_givenTo 26 = .ok (.iaload, 1) := by decide +kernel
theorem dX0_givenTo_27 : decode cX0_givenTo 27 = .ok (.invokevirtual 34, 3) := by decide +kernel
theorem dX0_givenTo_30 : decode cX0_givenTo 30 = .ok (.istore_n 3, 1) := by decide +kernel
theorem dX0_givenTo_31 : decode cX0_givenTo 31 = .ok (.aload_n 0, 1) := by decide +kernel
theorem dX0_givenTo_32 : decode cX0_givenTo 32 = .ok (.getfield 14, 3) := by decide +kernel
theorem dX0_givenTo_35 : decode cX0_givenTo 35 = .ok (.getfield 38, 3) := by decide +kernel
theorem dX0_givenTo_38 : decode cX0_givenTo 38 = .ok (.iload_n 2, 1) := by decide +kernel
theorem dX0_givenTo_39 : decode cX0_givenTo 39 = .ok (.iaload, 1) := by decide +kernel
theorem dX0_givenTo_40 : decode cX0_givenTo 40 = .ok (.iload_n 1, 1) := by decide +kernel
theorem dX0_givenTo_41 : decode cX0_givenTo 41 = .ok (.if_icmp .ne 5, 3) := by decide +kernel
theorem dX0_givenTo_44 : decode cX0_givenTo 44 = .ok (.iload_n 3, 1) := by decide +kernel
theorem dX0_givenTo_45 : decode cX0_givenTo 45 = .ok (.ireturn, 1) := by decide +kernel
theorem dX0_givenTo_46 : decode cX0_givenTo 46 = .ok (.aload_n 0, 1) := by decide +kernel
theorem dX0_givenTo_47 : decode cX0_givenTo 47 = .ok (.getfield 20, 3) := by decide +kernel
theorem dX0_givenTo_50 : decode cX0_givenTo 50 = .ok (.iload_n 3, 1) := by decide +kernel
theorem dX0_givenTo_51 : decode cX0_givenTo 51 = .ok (.aload_n 0, 1) := by decide +kernel
theorem dX0_givenTo_52 : decode cX0_givenTo 52 = .ok (.getfield 14, 3) := by decide +kernel
theorem dX0_givenTo_55 : decode cX0_givenTo 55 = .ok (.getfield 41, 3) := by decide +kernel
theorem dX0_givenTo_58 : decode cX0_givenTo 58 = .ok (.iload_n 2, 1) := by decide +kernel
theorem dX0_givenTo_59 : decode cX0_givenTo 59 = .ok (.iaload, 1) := by decide +kernel
theorem dX0_givenTo_60 : decode cX0_givenTo 60 = .ok (.iastore, 1) := by decide +kernel
theorem dX0_givenTo_61 : decode cX0_givenTo 61 = .ok (.iinc 2 1, 3) := by decide +kernel
theorem dX0_givenTo_64 : decode cX0_givenTo 64 = .ok (.goto (-58), 3) := by decide +kernel
theorem dX0_givenTo_67 : decode cX0_givenTo 67 = .ok (.iconst (-1), 1) := by decide +kernel
theorem dX0_givenTo_68 : decode cX0_givenTo 68 = .ok (.ireturn, 1) := by decide +kernel
theorem dX0_clearRooms_0 : decode cX0_clearRooms 0 = .ok (.iconst 0, 1) := by decide +kernel
theorem dX0_clearRooms_1 : decode cX0_clearRooms 1 = .ok (.istore_n 1, 1) := by decide +kernel
theorem dX0_clearRooms_2 : decode cX0_clearRooms 2 = .ok (.iload_n 1, 1) := by decide +kernel
theorem dX0_clearRooms_3 : decode cX0_clearRooms 3 = .ok (.bipush 40, 2) := by decide +kernel
theorem dX0_clearRooms_5 : decode cX0_clearRooms 5 = .ok (.if_icmp .ge 16, 3) := by decide +kernel
theorem dX0_clearRooms_8 : decode cX0_clearRooms 8 = .ok (.aload_n 0, 1) := by decide +kernel
theorem dX0_clearRooms_9 : decode cX0_clearRooms 9 = .ok (.getfield 20, 3) := by decide +kernel
theorem dX0_clearRooms_12 : decode cX0_clearRooms 12 = .ok (.iload_n 1, 1) := by decide +kernel
theorem dX0_clearRooms_13 : decode cX0_clearRooms 13 = .ok (.iconst 0, 1) := by decide +kernel
theorem dX0_clearRooms_14 : decode cX0_clearRooms 14 = .ok (.iastore, 1) := by decide +kernel
theorem dX0_clearRooms_15 : decode cX0_clearRooms 15 = .ok (.iinc 1 1, 3) := by decide +kernel
theorem dX0_clearRooms_18 : decode cX0_clearRooms 18 = .ok (.goto (-16), 3) := by decide +kernel
theorem dX0_clearRooms_21 : decode cX0_clearRooms 21 = .ok (.return_, 1) := by decide +kernel
theorem dX0_lowestFreeRoom_0 : decode cX0_lowestFreeRoom 0 = .ok (.iconst 0, 1) := by decide +kernel
theorem dX0_lowestFreeRoom_1 : decode cX0_lowestFreeRoom 1 = .ok (.istore_n 2, 1) := by decide +kernel
theorem dX0_lowestFreeRoom_2 : decode cX0_lowestFreeRoom 2 = .ok (.iload_n 2, 1) := by decide +kernel
theorem dX0_lowestFreeRoom_3 : decode cX0_lowestFreeRoom 3 = .ok (.bipush 39, 2) := by decide +kernel
theorem dX0_lowestFreeRoom_5 : decode cX0_lowestFreeRoom 5 = .ok (.if_icmp .ge 19, 3) := by decide +kernel
theorem dX0_lowestFreeRoom_8 : decode cX0_lowestFreeRoom 8 = .ok (.aload_n 0, 1) := by decide +kernel
theorem dX0_lowestFreeRoom_9 : decode cX0_lowestFreeRoom 9 = .ok (.getfield 20, 3) := by decide +kernel
theorem dX0_lowestFreeRoom_12 : decode cX0_lowestFreeRoom 12 = .ok (.iload_n 2, 1) := by decide +kernel
theorem dX0_lowestFreeRoom_13 : decode cX0_lowestFreeRoom 13 = .ok (.iaload, 1) := by decide +kernel
theorem dX0_lowestFreeRoom_14 : decode cX0_lowestFreeRoom 14 = .ok (.iload_n 1, 1) := by decide +kernel
theorem dX0_lowestFreeRoom_15 : decode cX0_lowestFreeRoom 15 = .ok (.if_icmp .le 9, 3) := by decide +kernel
theorem dX0_lowestFreeRoom_18 : decode cX0_lowestFreeRoom 18 = .ok (.iinc 2 1, 3) := by decide +kernel
theorem dX0_lowestFreeRoom_21 : decode cX0_lowestFreeRoom 21 = .ok (.goto (-19), 3) := by decide +kernel
theorem dX0_lowestFreeRoom_24 : decode cX0_lowestFreeRoom 24 = .ok (.iload_n 2, 1) := by decide +kernel
theorem dX0_lowestFreeRoom_25 : decode cX0_lowestFreeRoom 25 = .ok (.ireturn, 1) := by decide +kernel
theorem dX1_init_0 : decode cX1_init 0 = .ok (.aload_n 0, 1) := by decide +kernel
theorem dX1_init_1 : decode cX1_init 1 = .ok (.invokespecial 3, 3) := by decide +kernel
theorem dX1_init_4 : decode cX1_init 4 = .ok (.aload_n 0, 1) := by decide +kernel
theorem dX1_init_5 : decode cX1_init 5 = .ok (.new 9, 3) := by decide +kernel
theorem dX1_init_8 : decode cX1_init 8 = .ok (.dup, 1) := by decide +kernel
theorem dX1_init_9 : decode cX1_init 9 = .ok (.iconst 0, 1) := by decide +kernel
theorem dX1_init_10 : decode cX1_init 10 = .ok (.invokespecial 11, 3) := by decide +kernel
theorem dX1_init_13 : decode cX1_init 13 = .ok (.putfield 14, 3) := by decide +kernel
theorem dX1_init_16 : decode cX1_init 16 = .ok (.aload_n 0, 1) := by decide +kernel
theorem dX1_init_17 : decode cX1_init 17 = .ok (.bipush 40, 2) := by decide +kernel
theorem dX1_init_19 : decode cX1_init 19 = .ok (.newarray .int, 2) := by decide +kernel
theorem dX1_init_21 : decode cX1_init 21 = .ok (.putfield 20, 3) := by decide +kernel
theorem dX1_init_24 : decode cX1_init 24 = .ok (.aload_n 0, 1) := by decide +kernel
theorem dX1_init_25 : decode cX1_init 25 = .ok (.bipush 40, 2) := by decide +kernel
theorem dX1_init_27 : decode cX1_init 27 = .ok (.newarray .boolean, 2) := by decide +kernel
theorem dX1_init_29 : decode cX1_init 29 = .ok (.putfield 24, 3) := by decide +kernel
theorem dX1_init_32 : decode cX1_init 32 = .ok (.aload_n 0, 1) := by decide +kernel
theorem dX1_init_33 : decode cX1_init 33 = .ok (.bipush 40, 2) := by decide +kernel
theorem dX1_init_35 : decode cX1_init 35 = .ok (.newarray .int, 2) := by decide +kernel
theorem dX1_init_37 : decode cX1_init 37 = .ok (.putfield 28, 3) := by decide +kernel
theorem dX1_init_40 : decode cX1_init 40 = .ok (.aload_n 0, 1) := by decide +kernel
theorem dX1_init_41 : decode cX1_init 41 = .ok (.bipush 41, 2) := by decide +kernel
theorem dX1_init_43 : decode cX1_init 43 = .ok (.newarray .int, 2) := by decide +kernel
theorem dX1_init_45 : decode cX1_init 45 = .ok (.putfield 31, 3) := by decide +kernel
theorem dX1_init_48 : decode cX1_init 48 = .ok (.aload_n 0, 1) := by decide +kernel
theorem dX1_init_49 : decode cX1_init 49 = .ok (.bipush 41, 2) := by decide +kernel
theorem dX1_init_51 : decode cX1_init 51 = .ok (.newarray .int, 2) := by decide +kernel
theorem dX1_init_53 : decode cX1_init 53 = .ok (.putfield 34, 3) := by decide +kernel
theorem dX1_init_56 : decode cX1_init 56 = .ok (.aload_n 0, 1) := by decide +kernel
theorem dX1_init_57 : decode cX1_init 57 = .ok (.bipush 41, 2) := by decide +kernel
theorem dX1_init_59 : decode cX1_init 59 = .ok (.newarray .boolean, 2) := by decide +kernel
theorem dX1_init_61 : decode cX1_init 61 = .ok (.putfield 37, 3) := by decide +kernel
theorem dX1_init_64 : decode cX1_init 64 = .ok (.return_, 1) := by decide +kernel
theorem dX1_greatestWeight_0 : decode cX1_greatestWeight 0 = .ok (.aload_n 0, 1) := by decide +kernel
theorem dX1_greatestWeight_1 : decode cX1_greatestWeight 1 = .ok (.invokevirtual 40, 3) := by decide +kernel
theorem dX1_greatestWeight_4 : decode cX1_greatestWeight 4 = .ok (.iconst 0, 1) := by decide +kernel
theorem dX1_greatestWeight_5 : decode cX1_greatestWeight 5 = .ok (.istore_n 2, 1) := by decide +kernel
theorem dX1_greatestWeight_6 : decode cX1_greatestWeight 6 = .ok (.iconst 0, 1) := by decide +kernel
theorem dX1_greatestWeight_7 : decode cX1_greatestWeight 7 = .ok (.istore_n 3, 1) := by decide +kernel
theorem dX1_greatestWeight_8 : decode cX1_greatestWeight 8 = .ok (.iload_n 3, 1) := by decide +kernel
theorem dX1_greatestWeight_9 : decode cX1_greatestWeight 9 = .ok (.iload_n 1, 1) := by decide +kernel
theorem dX1_greatestWeight_10 : decode cX1_greatestWeight 10 = .ok (.if_icmp .ge 32, 3) := by decide +kernel
theorem dX1_greatestWeight_13 : decode cX1_greatestWeight 13 = .ok (.aload_n 0, 1) := by decide +kernel
theorem dX1_greatestWeight_14 : decode cX1_greatestWeight 14 = .ok (.invokevirtual 43, 3) := by decide +kernel
theorem dX1_greatestWeight_17 : decode cX1_greatestWeight 17 = .ok (.iload_n 2, 1) := by decide +kernel
theorem dX1_greatestWeight_18 : decode cX1_greatestWeight 18 = .ok (.aload_n 0, 1) := by decide +kernel
theorem dX1_greatestWeight_19 : decode cX1_greatestWeight 19 = .ok (.getfield 31, 3) := by decide +kernel
theorem dX1_greatestWeight_22 : decode cX1_greatestWeight 22 = .ok (.aload_n 0, 1) := by decide +kernel
theorem dX1_greatestWeight_23 : decode cX1_greatestWeight 23 = .ok (.getfield 14, 3) := by decide +kernel
theorem dX1_greatestWeight_26 : decode cX1_greatestWeight 26 = .ok (.getfield 46, 3) := by decide +kernel
theorem dX1_greatestWeight_29 : decode cX1_greatestWeight 29 = .ok (.iaload, 1) := by decide +kernel
theorem dX1_greatestWeight_30 : decode cX1_greatestWeight 30 = .ok (.iadd, 1) := by decide +kernel
theorem dX1_greatestWeight_31 : decode cX1_greatestWeight 31 = .ok (.istore_n 2, 1) := by decide +kernel
theorem dX1_greatestWeight_32 : decode cX1_greatestWeight 32 = .ok (.aload_n 0, 1) := by decide +kernel
theorem dX1_greatestWeight_33 : decode cX1_greatestWeight 33 = .ok (.invokevirtual 50, 3) := by decide +kernel
theorem dX1_greatestWeight_36 : decode cX1_greatestWeight 36 = .ok (.iinc 3 1, 3) := by decide +kernel
theorem dX1_greatestWeight_39 : decode cX1_greatestWeight 39 = .ok (.goto (-31), 3) := by decide +kernel
theorem dX1_greatestWeight_42 : decode cX1_greatestWeight 42 = .ok (.iload_n 2, 1) := by decide +kernel
theorem dX1_greatestWeight_43 : decode cX1_greatestWeight 43 = .ok (.ireturn, 1) := by decide +kernel
theorem dX1_clearRooms_0 : decode cX1_clearRooms 0 = .ok (.iconst 0, 1) := by decide +kernel
theorem dX1_clearRooms_1 : decode cX1_clearRooms 1 = .ok (.istore_n 1, 1) := by decide +kernel
theorem dX1_clearRooms_2 : decode cX1_clearRooms 2 = .ok (.iload_n 1, 1) := by decide +kernel
theorem dX1_clearRooms_3 : decode cX1_clearRooms 3 = .ok (.aload_n 0, 1) := by decide +kernel
theorem dX1_clearRooms_4 : decode cX1_clearRooms 4 = .ok (.getfield 14, 3) := by decide +kernel
theorem dX1_clearRooms_7 : decode cX1_clearRooms 7 = .ok (.getfield 46, 3) := by decide +kernel
theorem dX1_clearRooms_10 : decode cX1_clearRooms 10 = .ok (.if_icmp .ge 45, 3) := by decide +kernel
theorem dX1_clearRooms_13 : decode cX1_clearRooms 13 = .ok (.aload_n 0, 1) := by decide +kernel
theorem dX1_clearRooms_14 : decode cX1_clearRooms 14 = .ok (.getfield 24, 3) := by decide +kernel
theorem dX1_clearRooms_17 : decode cX1_clearRooms 17 = .ok (.iload_n 1, 1) := by decide +kernel
theorem dX1_clearRooms_18 : decode cX1_clearRooms 18 = .ok (.iconst 0, 1) := by decide +kernel
theorem dX1_clearRooms_19 : decode cX1_clearRooms 19 = .ok (.bastore, 1) := by decide +kernel
theorem dX1_clearRooms_20 : decode cX1_clearRooms 20 = .ok (.aload_n 0, 1) := by decide +kernel
theorem dX1_clearRooms_21 : decode cX1_clearRooms 21 = .ok (.getfield 28, 3) := by decide +kernel
theorem dX1_clearRooms_24 : decode cX1_clearRooms 24 = .ok (.iload_n 1, 1) := by decide +kernel
theorem dX1_clearRooms_25 : decode cX1_clearRooms 25 = .ok (.iconst 0, 1) := by decide +kernel
theorem dX1_clearRooms_26 : decode cX1_clearRooms 26 = .ok (.iastore, 1) := by decide +kernel
theorem dX1_clearRooms_27 : decode cX1_clearRooms 27 = .ok (.aload_n 0, 1) := by decide +kernel
theorem dX1_clearRooms_28 : decode cX1_clearRooms 28 = .ok (.getfield 20, 3) := by decide +kernel
theorem dX1_clearRooms_31 : decode cX1_clearRooms 31 = .ok (.iload_n 1, 1) := by decide +kernel
theorem dX1_clearRooms_32 : decode cX1_clearRooms 32 = .ok (.aload_n 0, 1) := by decide +kernel
theorem dX1_clearRooms_33 : decode cX1_clearRooms 33 = .ok (.aload_n 0, 1) := by decide +kernel
theorem dX1_clearRooms_34 : decode cX1_clearRooms 34 = .ok (.getfield 14, 3) := by decide +kernel
theorem dX1_clearRooms_37 : decode cX1_clearRooms 37 = .ok (.getfield 53, 3) := by decide +kernel
theorem dX1_clearRooms_40 : decode cX1_clearRooms 40 = .ok (.iload_n 1, 1) := by decide +kernel
theorem dX1_clearRooms_41 : decode cX1_clearRooms 41 = .ok (.iaload, 1) := by decide +kernel
theorem dX1_clearRooms_42 : decode cX1_clearRooms 42 = .ok (.iload_n 1, 1) := by decide +kernel
theorem dX1_clearRooms_43 : decode cX1_clearRooms 43 = .ok (.iconst 1, 1) := by decide +kernel
theorem dX1_clearRooms_44 : decode cX1_clearRooms 44 = .ok (.iadd, 1) := by decide +kernel
theorem dX1_clearRooms_45 : decode cX1_clearRooms 45 = .ok (.invokevirtual 56, 3) := by decide +kernel
theorem dX1_clearRooms_48 : decode cX1_clearRooms 48 = .ok (.iastore, 1) := by decide +kernel
theorem dX1_clearRooms_49 : decode cX1_clearRooms 49 = .ok (.iinc 1 1, 3) := by decide +kernel
theorem dX1_clearRooms_52 : decode cX1_clearRooms 52 = .ok (.goto (-50), 3) := by decide +kernel
theorem dX1_clearRooms_55 : decode cX1_clearRooms 55 = .ok (.return_, 1) := by decide +kernel
theorem dX1_firstBegunFrom_0 : decode cX1_firstBegunFrom 0 = .ok (.iload_n 2, 1) := by decide +kernel
theorem dX1_firstBegunFrom_1 : decode cX1_firstBegunFrom 1 = .ok (.istore_n 3, 1) := by decide +kernel
theorem dX1_firstBegunFrom_2 : decode cX1_firstBegunFrom 2 = .ok (.iload_n 3, 1) := by decide +kernel
theorem dX1_firstBegunFrom_3 : decode cX1_firstBegunFrom 3 = .ok (.aload_n 0, 1) := by decide +kernel
theorem dX1_firstBegunFrom_4 : decode cX1_firstBegunFrom 4 = .ok (.getfield 14, 3) := by decide +kernel
theorem dX1_firstBegunFrom_7 : decode cX1_firstBegunFrom 7 = .ok (.getfield 46, 3) := by decide +kernel
theorem dX1_firstBegunFrom_10 : decode cX1_firstBegunFrom 10 = .ok (.if_icmp .ge 22, 3) := by decide +kernel
theorem dX1_firstBegunFrom_13 : decode cX1_firstBegunFrom 13 = .ok (.aload_n 0, 1) := by decide +kernel
theorem dX1_firstBegunFrom_14 : decode cX1_firstBegunFrom 14 = .ok (.getfield 14, 3) := by decide +kernel
theorem dX1_firstBegunFrom_17 : decode cX1_firstBegunFrom 17 = .ok (.getfield 60, 3) := by decide +kernel
theorem dX1_firstBegunFrom_20 : decode cX1_firstBegunFrom 20 = .ok (.iload_n 3, 1) := by decide +kernel
theorem dX1_firstBegunFrom_21 : decode cX1_firstBegunFrom 21 = .ok (.iaload, 1) := by decide +kernel
theorem dX1_firstBegunFrom_22 : decode cX1_firstBegunFrom 22 = .ok (.iload_n 1, 1) := by decide +kernel
theorem dX1_firstBegunFrom_23 : decode cX1_firstBegunFrom 23 = .ok (.if_icmp .ge 9, 3) := by decide +kernel
theorem dX1_firstBegunFrom_26 : decode cX1_firstBegunFrom 26 = .ok (.iinc 3 1, 3) := by decide +kernel
theorem dX1_firstBegunFrom_29 : decode cX1_firstBegunFrom 29 = .ok (.goto (-27), 3) := by decide +kernel
theorem dX1_firstBegunFrom_32 : decode cX1_firstBegunFrom 32 = .ok (.iload_n 3, 1) := by decide +kernel
theorem dX1_firstBegunFrom_33 : decode cX1_firstBegunFrom 33 = .ok (.ireturn, 1) := by decide +kernel
theorem dX1_findBestWay_0 : decode cX1_findBestWay 0 = .ok (.iconst 0, 1) := by decide +kernel
theorem dX1_findBestWay_1 : decode cX1_findBestWay 1 = .ok (.istore_n 1, 1) := by decide +kernel
theorem dX1_findBestWay_2 : decode cX1_findBestWay 2 = .ok (.iload_n 1, 1) := by decide +kernel
theorem dX1_findBestWay_3 : decode cX1_findBestWay 3 = .ok (.aload_n 0, 1) := by decide +kernel
theorem dX1_findBestWay_4 : decode cX1_findBestWay 4 = .ok (.getfield 14, 3) := by decide +kernel
theorem dX1_findBestWay_7 : decode cX1_findBestWay 7 = .ok (.getfield 46, 3) := by decide +kernel
theorem dX1_findBestWay_10 : decode cX1_findBestWay 10 = .ok (.if_icmp .gt 32, 3) := by decide +kernel
theorem dX1_findBestWay_13 : decode cX1_findBestWay 13 = .ok (.aload_n 0, 1) := by decide +kernel
theorem dX1_findBestWay_14 : decode cX1_findBestWay 14 = .ok (.getfield 31, 3) := by decide +kernel
theorem dX1_findBestWay_17 : decode cX1_findBestWay 17 = .ok (.iload_n 1, 1) := by decide +kernel
theorem dX1_findBestWay_18 : decode cX1_findBestWay 18 = .ok (.iconst 0, 1) := by decide +kernel
theorem dX1_findBestWay_19 : decode cX1_findBestWay 19 = .ok (.iastore, 1) := by decide +kernel
theorem dX1_findBestWay_20 : decode cX1_findBestWay 20 = .ok (.aload_n 0, 1) := by decide +kernel
theorem dX1_findBestWay_21 : decode cX1_findBestWay 21 = .ok (.getfield 34, 3) := by decide +kernel
theorem dX1_findBestWay_24 : decode cX1_findBestWay 24 = .ok (.iload_n 1, 1) := by decide +kernel
theorem dX1_findBestWay_25 : decode cX1_findBestWay 25 = .ok (.iload_n 1, 1) := by decide +kernel
theorem dX1_findBestWay_26 : decode cX1_findBestWay 26 = .ok (.iconst 1, 1) := by decide +kernel
theorem dX1_findBestWay_27 : decode cX1_findBestWay 27 = .ok (.isub, 1) := by decide +kernel
theorem dX1_findBestWay_28 : decode cX1_findBestWay 28 = .ok (.iastore, 1) := by decide +kernel
theorem dX1_findBestWay_29 : decode cX1_findBestWay 29 = .ok (.aload_n 0, 1) := by decide +kernel
theorem dX1_findBestWay_30 : decode cX1_findBestWay 30 = .ok (.getfield 37, 3) := by decide +kernel
theorem dX1_findBestWay_33 : decode cX1_findBestWay 33 = .ok (.iload_n 1, 1) := by decide +kernel
theorem dX1_findBestWay_34 : decode cX1_findBestWay 34 = .ok (.iconst 0, 1) := by decide +kernel
theorem dX1_findBestWay_35 : decode cX1_findBestWay 35 = .ok (.bastore, 1) := by decide +kernel
theorem dX1_findBestWay_36 : decode cX1_findBestWay 36 = .ok (.iinc 1 1, 3) := by decide +kernel
theorem dX1_findBestWay_39 : decode cX1_findBestWay 39 = .ok (.goto (-37), 3) := by decide +kernel
theorem dX1_findBestWay_42 : decode cX1_findBestWay 42 = .ok (.iconst 0, 1) := by decide +kernel
theorem dX1_findBestWay_43 : decode cX1_findBestWay 43 = .ok (.istore_n 1, 1) := by decide +kernel
theorem dX1_findBestWay_44 : decode cX1_findBestWay 44 = .ok (.iload_n 1, 1) := by decide +kernel
theorem dX1_findBestWay_45 : decode cX1_findBestWay 45 = .ok (.aload_n 0, 1) := by decide +kernel
theorem dX1_findBestWay_46 : decode cX1_findBestWay 46 = .ok (.getfield 14, 3) := by decide +kernel
theorem dX1_findBestWay_49 : decode cX1_findBestWay 49 = .ok (.getfield 46, 3) := by decide +kernel
theorem dX1_findBestWay_52 : decode cX1_findBestWay 52 = .ok (.if_icmp .gt 20, 3) := by decide +kernel
theorem dX1_findBestWay_55 : decode cX1_findBestWay 55 = .ok (.aload_n 0, 1) := by decide +kernel
theorem dX1_findBestWay_56 : decode cX1_findBestWay 56 = .ok (.invokevirtual 63, 3) := by decide +kernel
theorem dX1_findBestWay_59 : decode cX1_findBestWay 59 = .ok (.ifCond .eq 13, 3) := by decide +kernel
theorem dX1_findBestWay_62 : decode cX1_findBestWay 62 = .ok (.aload_n 0, 1) := by decide +kernel
theorem dX1_findBestWay_63 : decode cX1_findBestWay 63 = .ok (.invokevirtual 67, 3) := by decide +kernel
theorem dX1_findBestWay_66 : decode cX1_findBestWay 66 = .ok (.iinc 1 1, 3) := by decide +kernel
theorem dX1_findBestWay_69 : decode cX1_findBestWay 69 = .ok (.goto (-25), 3) := by decide +kernel
theorem dX1_findBestWay_72 : decode cX1_findBestWay 72 = .ok (.return_, 1) := by decide +kernel
theorem dX1_improveForwards_0 : decode cX1_improveForwards 0 = .ok (.iconst 0, 1) := by decide +kernel
theorem dX1_improveForwards_1 : decode cX1_improveForwards 1 = .ok (.istore_n 1, 1) := by decide +kernel
theorem dX1_improveForwards_2 : decode cX1_improveForwards 2 = .ok (.iconst 0, 1) := by decide +kernel
theorem dX1_improveForwards_3 : decode cX1_improveForwards 3 = .ok (.istore_n 2, 1) := by decide +kernel
theorem dX1_improveForwards_4 : decode cX1_improveForwards 4 = .ok (.iload_n 2, 1) := by decide +kernel
theorem dX1_improveForwards_5 : decode cX1_improveForwards 5 = .ok (.aload_n 0, 1) := by decide +kernel
theorem dX1_improveForwards_6 : decode cX1_improveForwards 6 = .ok (.getfield 14, 3) := by decide +kernel
theorem dX1_improveForwards_9 : decode cX1_improveForwards 9 = .ok (.getfield 46, 3) := by decide +kernel
theorem dX1_improveForwards_12 : decode cX1_improveForwards 12 = .ok (.if_icmp .ge 73, 3) := by decide +kernel
theorem dX1_improveForwards_15 : decode cX1_improveForwards 15 = .ok (.aload_n 0, 1) := by decide +kernel
theorem dX1_improveForwards_16 : decode cX1_improveForwards 16 = .ok (.iload_n 2, 1) := by decide +kernel
theorem dX1_improveForwards_17 : decode cX1_improveForwards 17 = .ok (.iconst 1, 1) := by decide +kernel
theorem dX1_improveForwards_18 : decode cX1_improveForwards 18 = .ok (.iadd, 1) := by decide +kernel
theorem dX1_improveForwards_19 : decode cX1_improveForwards 19 = .ok (.iload_n 2, 1) := by decide +kernel
theorem dX1_improveForwards_20 : decode cX1_improveForwards 20 = .ok (.aload_n 0, 1) := by decide +kernel
theorem dX1_improveForwards_21 : decode cX1_improveForwards 21 = .ok (.getfield 31, 3) := by decide +kernel
theorem dX1_improveForwards_24 : decode cX1_improveForwards 24 = .ok (.iload_n 2, 1) := by decide +kernel
theorem dX1_improveForwards_25 : decode cX1_improveForwards 25 = .ok (.iaload, 1) := by decide +kernel
theorem dX1_improveForwards_26 : decode cX1_improveForwards 26 = .ok (.iconst 0, 1) := by decide +kernel
theorem dX1_improveForwards_27 : decode cX1_improveForwards 27 = .ok (.invokevirtual 70, 3) := by decide +kernel
theorem dX1_improveForwards_30 : decode cX1_improveForwards 30 = .ok (.ifCond .eq 5, 3) := by decide +kernel
theorem dX1_improveForwards_33 : decode cX1_improveForwards 33 = .ok (.iconst 1, 1) := by decide +kernel
theorem dX1_improveForwards_34 : decode cX1_improveForwards 34 = .ok (.istore_n 1, 1) := by decide +kernel
theorem dX1_improveForwards_35 : decode cX1_improveForwards 35 = .ok (.aload_n 0, 1) := by decide +kernel
theorem dX1_improveForwards_36 : decode cX1_improveForwards 36 = .ok (.getfield 31, 3) := by decide +kernel
theorem dX1_improveForwards_39 : decode cX1_improveForwards 39 = .ok (.iload_n 2, 1) := by decide +kernel
theorem dX1_improveForwards_40 : decode cX1_improveForwards 40 = .ok (.iaload, 1) := by decide +kernel
theorem dX1_improveForwards_41 : decode cX1_improveForwards 41 = .ok (.aload_n 0, 1) := by decide +kernel
theorem dX1_improveForwards_42 : decode cX1_improveForwards 42 = .ok (.getfield 14, 3) := by decide +kernel
theorem dX1_improveForwards_45 : decode cX1_improveForwards 45 = .ok (.getfield 74, 3) := by decide +kernel
theorem dX1_improveForwards_48 : decode cX1_improveForwards 48 = .ok (.iload_n 2, 1) := by decide +kernel
theorem dX1_improveForwards_49 : decode cX1_improveForwards 49 = .ok (.iaload, 1) := by decide +kernel
theorem dX1_improveForwards_50 : decode cX1_improveForwards 50 = .ok (.iadd, 1) := by decide +kernel
theorem dX1_improveForwards_51 : decode cX1_improveForwards 51 = .ok (.istore_n 3, 1) := by decide +kernel
theorem dX1_improveForwards_52 : decode cX1_improveForwards 52 = .ok (.aload_n 0, 1) := by decide +kernel
theorem dX1_improveForwards_53 : decode cX1_improveForwards 53 = .ok (.getfield 24, 3) := by decide +kernel
theorem dX1_improveForwards_56 : decode cX1_improveForwards 56 = .ok (.iload_n 2, 1) := by decide +kernel
theorem dX1_improveForwards_57 : decode cX1_improveForwards 57 = .ok (.baload, 1) := by decide +kernel
theorem dX1_improveForwards_58 : decode cX1_improveForwards 58 = .ok (.ifCond .ne 21, 3) := by decide +kernel
theorem dX1_improveForwards_61 : decode cX1_improveForwards 61 = .ok (.aload_n 0, 1) := by decide +kernel
theorem dX1_improveForwards_62 : decode cX1_improveForwards 62 = .ok (.aload_n 0, 1) := by decide +kernel
theorem dX1_improveForwards_63 : decode cX1_improveForwards 63 = .ok (.getfield 20, 3) := by decide +kernel
theorem dX1_improveForwards_66 : decode cX1_improveForwards 66 = .ok (.iload_n 2, 1) := by decide +kernel
theorem dX1_improveForwards_67 : decode cX1_improveForwards 67 = .ok (.iaload, 1) := by decide +kernel
theorem dX1_improveForwards_68 : decode cX1_improveForwards 68 = .ok (.iload_n 2, 1) := by decide +kernel
theorem dX1_improveForwards_69 : decode cX1_improveForwards 69 = .ok (.iload_n 3, 1) := by decide +kernel
theorem dX1_improveForwards_70 : decode cX1_improveForwards 70 = .ok (.iconst 1, 1) := by decide +kernel
theorem dX1_improveForwards_71 : decode cX1_improveForwards 71 = .ok (.invokevirtual 70, 3) := by decide +kernel
theorem dX1_improveForwards_74 : decode cX1_improveForwards 74 = .ok (.ifCond .eq 5, 3) := by decide +kernel
theorem dX1_improveForwards_77 : decode cX1_improveForwards 77 = .ok (.iconst 1, 1) := by decide +kernel
theorem dX1_improveForwards_78 : decode cX1_improveForwards 78 = .ok (.istore_n 1, 1) := by decide +kernel
theorem dX1_improveForwards_79 : decode cX1_improveForwards 79 = .ok (.iinc 2 1, 3) := by decide +kernel
theorem dX1_improveForwards_82 : decode cX1_improveForwards 82 = .ok (.goto (-78), 3) := by decide +kernel
theorem dX1_improveForwards_85 : decode cX1_improveForwards 85 = .ok (.iload_n 1, 1) := by decide +kernel
theorem dX1_improveForwards_86 : decode cX1_improveForwards 86 = .ok (.ireturn, 1) := by decide +kernel
theorem dX1_improveBackwards_0 : decode cX1_improveBackwards 0 = .ok (.aload_n 0, 1) := by decide +kernel
theorem dX1_improveBackwards_1 : decode cX1_improveBackwards 1 = .ok (.getfield 14, 3) := by decide +kernel
theorem dX1_improveBackwards_4 : decode cX1_improveBackwards 4 = .ok (.getfield 46, 3) := by decide +kernel
theorem dX1_improveBackwards_7 : decode cX1_improveBackwards 7 = .ok (.iconst 1, 1) := by decide +kernel
theorem dX1_improveBackwards_8 : decode cX1_improveBackwards 8 = .ok (.isub, 1) := by decide +kernel
theorem dX1_improveBackwards_9 : decode cX1_improveBackwards 9 = .ok (.istore_n 1, 1) := by decide +kernel
theorem dX1_improveBackwards_10 : decode cX1_improveBackwards 10 = .ok (.iload_n 1, 1) := by decide +kernel
theorem dX1_improveBackwards_11 : decode cX1_improveBackwards 11 = .ok (.ifCond .lt 76, 3) := by decide +kernel
theorem dX1_improveBackwards_14 : decode cX1_improveBackwards 14 = .ok (.aload_n 0, 1) := by decide +kernel
theorem dX1_improveBackwards_15 : decode cX1_improveBackwards 15 = .ok (.getfield 28, 3) := by decide +kernel
theorem dX1_improveBackwards_18 : decode cX1_improveBackwards 18 = .ok (.iload_n 1, 1) := by decide +kernel
theorem dX1_improveBackwards_19 : decode cX1_improveBackwards 19 = .ok (.iaload, 1) := by decide +kernel
theorem dX1_improveBackwards_20 : decode cX1_improveBackwards 20 = .ok (.ifCond .le 21, 3) := by decide +kernel
theorem dX1_improveBackwards_23 : decode cX1_improveBackwards 23 = .ok (.aload_n 0, 1) := by decide +kernel
theorem dX1_improveBackwards_24 : decode cX1_improveBackwards 24 = .ok (.iload_n 1, 1) := by decide +kernel
theorem dX1_improveBackwards_25 : decode cX1_improveBackwards 25 = .ok (.iload_n 1, 1) := by decide +kernel
theorem dX1_improveBackwards_26 : decode cX1_improveBackwards 26 = .ok (.iconst 1, 1) := by decide +kernel
theorem dX1_improveBackwards_27 : decode cX1_improveBackwards 27 = .ok (.iadd, 1) := by decide +kernel
theorem dX1_improveBackwards_28 : decode cX1_improveBackwards 28 = .ok (.aload_n 0, 1) := by decide +kernel
theorem dX1_improveBackwards_29 : decode cX1_improveBackwards 29 = .ok (.getfield 31, 3) := by decide +kernel
theorem dX1_improveBackwards_32 : decode cX1_improveBackwards 32 = .ok (.iload_n 1, 1) := by decide +kernel
theorem dX1_improveBackwards_33 : decode cX1_improveBackwards 33 = .ok (.iconst 1, 1) := by decide +kernel
theorem dX1_improveBackwards_34 : decode cX1_improveBackwards 34 = .ok (.iadd, 1) := by decide +kernel
theorem dX1_improveBackwards_35 : decode cX1_improveBackwards 35 = .ok (.iaload, 1) := by decide +kernel
theorem dX1_improveBackwards_36 : decode cX1_improveBackwards 36 = .ok (.iconst 0, 1) := by decide +kernel
theorem dX1_improveBackwards_37 : decode cX1_improveBackwards 37 = .ok (.invokevirtual 70, 3) := by decide +kernel
theorem dX1_improveBackwards_40 : decode cX1_improveBackwards 40 = .ok (.pop, 1) := by decide +kernel
theorem dX1_improveBackwards_41 : decode cX1_improveBackwards 41 = .ok (.aload_n 0, 1) := by decide +kernel
theorem dX1_improveBackwards_42 : decode cX1_improveBackwards 42 = .ok (.getfield 24, 3) := by decide +kernel
theorem dX1_improveBackwards_45 : decode cX1_improveBackwards 45 = .ok (.iload_n 1, 1) := by decide +kernel
theorem dX1_improveBackwards_46 : decode cX1_improveBackwards 46 = .ok (.baload, 1) := by decide +kernel
theorem dX1_improveBackwards_47 : decode cX1_improveBackwards 47 = .ok (.ifCond .eq 34, 3) := by decide +kernel
theorem dX1_improveBackwards_50 : decode cX1_improveBackwards 50 = .ok (.aload_n 0, 1) := by decide +kernel
theorem dX1_improveBackwards_51 : decode cX1_improveBackwards 51 = .ok (.getfield 20, 3) := by decide +kernel
theorem dX1_improveBackwards_54 : decode cX1_improveBackwards 54 = .ok (.iload_n 1, 1) := by decide +kernel
theorem dX1_improveBackwards_55 : decode cX1_improveBackwards 55 = .ok (.iaload, 1) := by decide +kernel
theorem dX1_improveBackwards_56 : decode cX1_improveBackwards 56 = .ok (.istore_n 2, 1) := by decide +kernel
theorem dX1_improveBackwards_57 : decode cX1_improveBackwards 57 = .ok (.aload_n 0, 1) := by decide +kernel
theorem dX1_improveBackwards_58 : decode cX1_improveBackwards 58 = .ok (.iload_n 1, 1) := by decide +kernel
theorem dX1_improveBackwards_59 : decode cX1_improveBackwards 59 = .ok (.iload_n 2, 1) := by decide +kernel
theorem dX1_improveBackwards_60 : decode cX1_improveBackwards 60 = .ok (.aload_n 0, 1) := by decide +kernel
theorem dX1_improveBackwards_61 : decode cX1_improveBackwards 61 = .ok (.getfield 31, 3) := by decide +kernel
theorem dX1_improveBackwards_64 : decode cX1_improveBackwards 64 = .ok (.iload_n 2, 1) := by decide +kernel
theorem dX1_improveBackwards_65 : decode cX1_improveBackwards 65 = .ok (.iaload, 1) := by decide +kernel
theorem dX1_improveBackwards_66 : decode cX1_improveBackwards 66 = .ok (.aload_n 0, 1) := by decide +kernel
theorem dX1_improveBackwards_67 : decode cX1_improveBackwards 67 = .ok (.getfield 14, 3) := by decide +kernel
theorem dX1_improveBackwards_70 : decode cX1_improveBackwards 70 = .ok (.getfield 74, 3) := by decide +kernel
theorem dX1_improveBackwards_73 : decode cX1_improveBackwards 73 = .ok (.iload_n 1, 1) := by decide +kernel
theorem dX1_improveBackwards_74 : decode cX1_improveBackwards 74 = .ok (.iaload, 1) := by decide +kernel
theorem dX1_improveBackwards_75 : decode cX1_improveBackwards 75 = .ok (.isub, 1) := by decide +kernel
theorem dX1_improveBackwards_76 : decode cX1_improveBackwards 76 = .ok (.iconst 1, 1) := by decide +kernel
theorem dX1_improveBackwards_77 : decode cX1_improveBackwards 77 = .ok (.invokevirtual 70, 3) := by decide +kernel
theorem dX1_improveBackwards_80 : decode cX1_improveBackwards 80 = .ok (.pop, 1) := by decide +kernel
theorem dX1_improveBackwards_81 : decode cX1_improveBackwards 81 = .ok (.iinc 1 (-1), 3) := by decide +kernel
theorem dX1_improveBackwards_84 : decode cX1_improveBackwards 84 = .ok (.goto (-74), 3) := by decide +kernel
theorem dX1_improveBackwards_87 : decode cX1_improveBackwards 87 = .ok (.return_, 1) := by decide +kernel
theorem dX1_reach_0 : decode cX1_reach 0 = .ok (.iload_n 3, 1) := by decide +kernel
theorem dX1_reach_1 : decode cX1_reach 1 = .ok (.aload_n 0, 1) := by decide +kernel
theorem dX1_reach_2 : decode cX1_reach 2 = .ok (.getfield 31, 3) := by decide +kernel
theorem dX1_reach_5 : decode cX1_reach 5 = .ok (.iload_n 1, 1) := by decide +kernel
theorem dX1_reach_6 : decode cX1_reach 6 = .ok (.iaload, 1) := by decide +kernel
theorem dX1_reach_7 : decode cX1_reach 7 = .ok (.if_icmp .gt 5, 3) := by decide +kernel
theorem dX1_reach_10 : decode cX1_reach 10 = .ok (.iconst 0, 1) := by decide +kernel
theorem dX1_reach_11 : decode cX1_reach 11 = .ok (.ireturn, 1) := by decide +kernel
theorem dX1_reach_12 : decode cX1_reach 12 = .ok (.aload_n 0, 1) := by decide +kernel
theorem dX1_reach_13 : decode cX1_reach 13 = .ok (.getfield 31, 3) := by decide +kernel
theorem dX1_reach_16 : decode cX1_reach 16 = .ok (.iload_n 1, 1) := by decide +kernel
theorem dX1_reach_17 : decode cX1_reach 17 = .ok (.iload_n 3, 1) := by decide +kernel
theorem dX1_reach_18 : decode cX1_reach 18 = .ok (.iastore, 1) := by decide +kernel
theorem dX1_reach_19 : decode cX1_reach 19 = .ok (.aload_n 0, 1) := by decide +kernel
theorem dX1_reach_20 : decode cX1_reach 20 = .ok (.getfield 34, 3) := by decide +kernel
theorem dX1_reach_23 : decode cX1_reach 23 = .ok (.iload_n 1, 1) := by decide +kernel
theorem dX1_reach_24 : decode cX1_reach 24 = .ok (.iload_n 2, 1) := by decide +kernel
theorem dX1_reach_25 : decode cX1_reach 25 = .ok (.iastore, 1) := by decide +kernel
theorem dX1_reach_26 : decode cX1_reach 26 = .ok (.aload_n 0, 1) := by decide +kernel
theorem dX1_reach_27 : decode cX1_reach 27 = .ok (.getfield 37, 3) := by decide +kernel
theorem dX1_reach_30 : decode cX1_reach 30 = .ok (.iload_n 1, 1) := by decide +kernel
theorem dX1_reach_31 : decode cX1_reach 31 = .ok (.iload 4, 2) := by decide +kernel
theorem dX1_reach_33 : decode cX1_reach 33 = .ok (.bastore, 1) := by decide +kernel
theorem dX1_reach_34 : decode cX1_reach 34 = .ok (.iconst 1, 1) := by decide +kernel
theorem dX1_reach_35 : decode cX1_reach 35 = .ok (.ireturn, 1) := by decide +kernel
theorem dX1_goBestWay_0 : decode cX1_goBestWay 0 = .ok (.aload_n 0, 1) := by decide +kernel
theorem dX1_goBestWay_1 : decode cX1_goBestWay 1 = .ok (.getfield 14, 3) := by decide +kernel
theorem dX1_goBestWay_4 : decode cX1_goBestWay 4 = .ok (.getfield 46, 3) := by decide +kernel
theorem dX1_goBestWay_7 : decode cX1_goBestWay 7 = .ok (.istore_n 1, 1) := by decide +kernel
theorem dX1_goBestWay_8 : decode cX1_goBestWay 8 = .ok (.iconst 0, 1) := by decide +kernel
theorem dX1_goBestWay_9 : decode cX1_goBestWay 9 = .ok (.istore_n 2, 1) := by decide +kernel
theorem dX1_goBestWay_10 : decode cX1_goBestWay 10 = .ok (.iload_n 1, 1) := by decide +kernel
theorem dX1_goBestWay_11 : decode cX1_goBestWay 11 = .ok (.ifCond .le 89, 3) := by decide +kernel
theorem dX1_goBestWay_14 : decode cX1_goBestWay 14 = .ok (.iload_n 2, 1) := by decide +kernel
theorem dX1_goBestWay_15 : decode cX1_goBestWay 15 = .ok (.aload_n 0, 1) := by decide +kernel
theorem dX1_goBestWay_16 : decode cX1_goBestWay 16 = .ok (.getfield 14, 3) := by decide +kernel
theorem dX1_goBestWay_19 : decode cX1_goBestWay 19 = .ok (.getfield 46, 3) := by decide +kernel
theorem dX1_goBestWay_22 : decode cX1_goBestWay 22 = .ok (.if_icmp .gt 78, 3) := by decide +kernel
theorem dX1_goBestWay_25 : decode cX1_goBestWay 25 = .ok (.aload_n 0, 1) := by decide +kernel
theorem dX1_goBestWay_26 : decode cX1_goBestWay 26 = .ok (.getfield 34, 3) := by decide +kernel
theorem dX1_goBestWay_29 : decode cX1_goBestWay 29 = .ok (.iload_n 1, 1) := by decide +kernel
theorem dX1_goBestWay_30 : decode cX1_goBestWay 30 = .ok (.iaload, 1) := by decide +kernel
theorem dX1_goBestWay_31 : decode cX1_goBestWay 31 = .ok (.istore_n 3, 1) := by decide +kernel
theorem dX1_goBestWay_32 : decode cX1_goBestWay 32 = .ok (.iload_n 3, 1) := by decide +kernel
theorem dX1_goBestWay_33 : decode cX1_goBestWay 33 = .ok (.iload_n 1, 1) := by decide +kernel
theorem dX1_goBestWay_34 : decode cX1_goBestWay 34 = .ok (.if_icmp .ge 7, 3) := by decide +kernel
theorem dX1_goBestWay_37 : decode cX1_goBestWay 37 = .ok (.iconst 1, 1) := by decide +kernel
theorem dX1_goBestWay_38 : decode cX1_goBestWay 38 = .ok (.goto 4, 3) := by decide +kernel
theorem dX1_goBestWay_41 : decode cX1_goBestWay 41 = .ok (.iconst 0, 1) := by decide +kernel
theorem dX1_goBestWay_42 : decode cX1_goBestWay 42 = .ok (.istore 4, 2) := by decide +kernel
theorem dX1_goBestWay_44 : decode cX1_goBestWay 44 = .ok (.iload_n 3, 1) := by decide +kernel
theorem dX1_goBestWay_45 : decode cX1_goBestWay 45 = .ok (.iload_n 1, 1) := by decide +kernel
theorem dX1_goBestWay_46 : decode cX1_goBestWay 46 = .ok (.invokestatic 77, 3) := by decide +kernel
theorem dX1_goBestWay_49 : decode cX1_goBestWay 49 = .ok (.istore 5, 2) := by decide +kernel
theorem dX1_goBestWay_51 : decode cX1_goBestWay 51 = .ok (.aload_n 0, 1) := by decide +kernel
theorem dX1_goBestWay_52 : decode cX1_goBestWay 52 = .ok (.getfield 37, 3) := by decide +kernel
theorem dX1_goBestWay_55 : decode cX1_goBestWay 55 = .ok (.iload_n 1, 1) := by decide +kernel
theorem dX1_goBestWay_56 : decode cX1_goBestWay 56 = .ok (.baload, 1) := by decide +kernel
theorem dX1_goBestWay_57 : decode cX1_goBestWay 57 = .ok (.ifCond .eq 15, 3) := by decide +kernel
theorem dX1_goBestWay_60 : decode cX1_goBestWay 60 = .ok (.aload_n 0, 1) := by decide +kernel
theorem dX1_goBestWay_61 : decode cX1_goBestWay 61 = .ok (.getfield 24, 3) := by decide +kernel
theorem dX1_goBestWay_64 : decode cX1_goBestWay 64 = .ok (.iload 5, 2) := by decide +kernel
theorem dX1_goBestWay_66 : decode cX1_goBestWay 66 = .ok (.iload 4, 2) := by decide +kernel
theorem dX1_goBestWay_68 : decode cX1_goBestWay 68 = .ok (.bastore, 1) := by decide +kernel
theorem dX1_goBestWay_69 : decode cX1_goBestWay 69 = .ok (.goto 23, 3) := by decide +kernel
theorem dX1_goBestWay_72 : decode cX1_goBestWay 72 = .ok (.aload_n 0, 1) := by decide +kernel
theorem dX1_goBestWay_73 : decode cX1_goBestWay 73 = .ok (.getfield 28, 3) := by decide +kernel
theorem dX1_goBestWay_76 : decode cX1_goBestWay 76 = .ok (.iload 5, 2) := by decide +kernel
theorem dX1_goBestWay_78 : decode cX1_goBestWay 78 = .ok (.dup2, 1) := by decide +kernel
theorem dX1_goBestWay_79 : decode cX1_goBestWay 79 = .ok (.iaload, 1) := by decide +kernel
theorem dX1_goBestWay_80 : decode cX1_goBestWay 80 = .ok (.iload 4, 2) := by decide +kernel
theorem dX1_goBestWay_82 : decode cX1_goBestWay 82 = .ok (.ifCond .eq 7, 3) := by decide +kernel
theorem dX1_goBestWay_85 : decode cX1_goBestWay 85 = .ok (.iconst 1, 1) := by decide +kernel
theorem dX1_goBestWay_86 : decode cX1_goBestWay 86 = .ok (.goto 4, 3) := by decide +kernel
theorem dX1_goBestWay_89 : decode cX1_goBestWay 89 = .ok (.iconst (-1), 1) := by decide +kernel
theorem dX1_goBestWay_90 : decode cX1_goBestWay 90 = .ok (.iadd, 1) := by decide +kernel
theorem dX1_goBestWay_91 : decode cX1_goBestWay 91 = .ok (.iastore, 1) := by decide +kernel
theorem dX1_goBestWay_92 : decode cX1_goBestWay 92 = .ok (.iload_n 3, 1) := by decide +kernel
theorem dX1_goBestWay_93 : decode cX1_goBestWay 93 = .ok (.istore_n 1, 1) := by decide +kernel
theorem dX1_goBestWay_94 : decode cX1_goBestWay 94 = .ok (.iinc 2 1, 3) := by decide +kernel
theorem dX1_goBestWay_97 : decode cX1_goBestWay 97 = .ok (.goto (-87), 3) := by decide +kernel
theorem dX1_goBestWay_100 : decode cX1_goBestWay 100 = .ok (.return_, 1) := by decide +kernel
theorem dX2_init_0 : decode cX2_init 0 = .ok (.aload_n 0, 1) := by decide +kernel
theorem dX2_init_1 : decode cX2_init 1 = .ok (.invokespecial 3, 3) := by decide +kernel
theorem dX2_init_4 : decode cX2_init 4 = .ok (.aload_n 0, 1) := by decide +kernel
theorem dX2_init_5 : decode cX2_init 5 = .ok (.new 9, 3) := by decide +kernel
theorem dX2_init_8 : decode cX2_init 8 = .ok (.dup, 1) := by decide +kernel
theorem dX2_init_9 : decode cX2_init 9 = .ok (.iconst 1, 1) := by decide +kernel
theorem dX2_init_10 : decode cX2_init 10 = .ok (.invokespecial 11, 3) := by decide +kernel
theorem dX2_init_13 : decode cX2_init 13 = .ok (.putfield 14, 3) := by decide +kernel
theorem dX2_init_16 : decode cX2_init 16 = .ok (.aload_n 0, 1) := by decide +kernel
theorem dX2_init_17 : decode cX2_init 17 = .ok (.bipush 41, 2) := by decide +kernel
theorem dX2_init_19 : decode cX2_init 19 = .ok (.newarray .int, 2) := by decide +kernel
theorem dX2_init_21 : decode cX2_init 21 = .ok (.putfield 20, 3) := by decide +kernel
theorem dX2_init_24 : decode cX2_init 24 = .ok (.return_, 1) := by decide +kernel
theorem dX2_greatestWeight_0 : decode cX2_greatestWeight 0 = .ok (.aload_n 0, 1) := by decide +kernel
theorem dX2_greatestWeight_1 : decode cX2_greatestWeight 1 = .ok (.getfield 20, 3) := by decide +kernel
theorem dX2_greatestWeight_4 : decode cX2_greatestWeight 4 = .ok (.iconst 0, 1) := by decide +kernel
theorem dX2_greatestWeight_5 : decode cX2_greatestWeight 5 = .ok (.iconst 0, 1) := by decide +kernel
theorem dX2_greatestWeight_6 : decode cX2_greatestWeight 6 = .ok (.iastore, 1) := by decide +kernel
theorem dX2_greatestWeight_7 : decode cX2_greatestWeight 7 = .ok (.iconst 1, 1) := by decide +kernel
theorem dX2_greatestWeight_8 : decode cX2_greatestWeight 8 = .ok (.istore_n 1, 1) := by decide +kernel
theorem dX2_greatestWeight_9 : decode cX2_greatestWeight 9 = .ok (.iload_n 1, 1) := by decide +kernel
theorem dX2_greatestWeight_10 : decode cX2_greatestWeight 10 = .ok (.aload_n 0, 1) := by decide +kernel
theorem dX2_greatestWeight_11 : decode cX2_greatestWeight 11 = .ok (.getfield 14, 3) := by decide +kernel
theorem dX2_greatestWeight_14 : decode cX2_greatestWeight 14 = .ok (.getfield 24, 3) := by decide +kernel
theorem dX2_greatestWeight_17 : decode cX2_greatestWeight 17 = .ok (.if_icmp .gt 60, 3) := by decide +kernel
theorem dX2_greatestWeight_20 : decode cX2_greatestWeight 20 = .ok (.aload_n 0, 1) := by decide +kernel
theorem dX2_greatestWeight_21 : decode cX2_greatestWeight 21 = .ok (.getfield 14, 3) := by decide +kernel
theorem dX2_greatestWeight_24 : decode cX2_greatestWeight 24 = .ok (.getfield 28, 3) := by decide +kernel
theorem dX2_greatestWeight_27 : decode cX2_greatestWeight 27 = .ok (.iload_n 1, 1) := by decide +kernel
theorem dX2_greatestWeight_28 : decode cX2_greatestWeight 28 = .ok (.iconst 1, 1) := by decide +kernel
theorem dX2_greatestWeight_29 : decode cX2_greatestWeight 29 = .ok (.isub, 1) := by decide +kernel
theorem dX2_greatestWeight_30 : decode cX2_greatestWeight 30 = .ok (.iaload, 1) := by decide +kernel
theorem dX2_greatestWeight_31 : decode cX2_greatestWeight 31 = .ok (.aload_n 0, 1) := by decide +kernel
theorem dX2_greatestWeight_32 : decode cX2_greatestWeight 32 = .ok (.getfield 20, 3) := by decide +kernel
theorem dX2_greatestWeight_35 : decode cX2_greatestWeight 35 = .ok (.aload_n 0, 1) := by decide +kernel
theorem dX2_greatestWeight_36 : decode cX2_greatestWeight 36 = .ok (.aload_n 0, 1) := by decide +kernel
theorem dX2_greatestWeight_37 : decode cX2_greatestWeight 37 = .ok (.getfield 14, 3) := by decide +kernel
theorem dX2_greatestWeight_40 : decode cX2_greatestWeight 40 = .ok (.getfield 31, 3) := by decide +kernel
theorem dX2_greatestWeight_43 : decode cX2_greatestWeight 43 = .ok (.iload_n 1, 1) := by decide +kernel
theorem dX2_greatestWeight_44 : decode cX2_greatestWeight 44 = .ok (.iconst 1, 1) := by decide +kernel
theorem dX2_greatestWeight_45 : decode cX2_greatestWeight 45 = .ok (.isub, 1) := by decide +kernel
theorem dX2_greatestWeight_46 : decode cX2_greatestWeight 46 = .ok (.iaload, 1) := by decide +kernel
theorem dX2_greatestWeight_47 : decode cX2_greatestWeight 47 = .ok (.invokevirtual 34, 3) := by decide +kernel
theorem dX2_greatestWeight_50 : decode cX2_greatestWeight 50 = .ok (.iaload, 1) := by decide +kernel
theorem dX2_greatestWeight_51 : decode cX2_greatestWeight 51 = .ok (.iadd, 1) := by decide +kernel
theorem dX2_greatestWeight_52 : decode cX2_greatestWeight 52 = .ok (.istore_n 2, 1) := by decide +kernel
theorem dX2_greatestWeight_53 : decode cX2_greatestWeight 53 = .ok (.aload_n 0, 1) := by decide +kernel
theorem dX2_greatestWeight_54 : decode cX2_greatestWeight 54 = .ok (.getfield 20, 3) := by decide +kernel
theorem dX2_greatestWeight_57 : decode cX2_greatestWeight 57 = .ok (.iload_n 1, 1) := by decide +kernel
theorem dX2_greatestWeight_58 : decode cX2_greatestWeight 58 = .ok (.aload_n 0, 1) := by decide +kernel
theorem dX2_greatestWeight_59 : decode cX2_greatestWeight 59 = .ok (.getfield 20, 3) := by decide +kernel
theorem dX2_greatestWeight_62 : decode cX2_greatestWeight 62 = .ok (.iload_n 1, 1) := by decide +kernel
theorem dX2_greatestWeight_63 : decode cX2_greatestWeight 63 = .ok (.iconst 1, 1) := by decide +kernel
theorem dX2_greatestWeight_64 : decode cX2_greatestWeight 64 = .ok (.isub, 1) := by decide +kernel
theorem dX2_greatestWeight_65 : decode cX2_greatestWeight 65 = .ok (.iaload, 1) := by decide +kernel
theorem dX2_greatestWeight_66 : decode cX2_greatestWeight 66 = .ok (.iload_n 2, 1) := by decide +kernel
theorem dX2_greatestWeight_67 : decode cX2_greatestWeight 67 = .ok (.invokestatic 38, 3) := by decide +kernel
theorem dX2_greatestWeight_70 : decode cX2_greatestWeight 70 = .ok (.iastore, 1) := by decide +kernel
theorem dX2_greatestWeight_71 : decode cX2_greatestWeight 71 = .ok (.iinc 1 1, 3) := by decide +kernel
theorem dX2_greatestWeight_74 : decode cX2_greatestWeight 74 = .ok (.goto (-65), 3) := by decide +kernel
theorem dX2_greatestWeight_77 : decode cX2_greatestWeight 77 = .ok (.aload_n 0, 1) := by decide +kernel
theorem dX2_greatestWeight_78 : decode cX2_greatestWeight 78 = .ok (.getfield 20, 3) := by decide +kernel
theorem dX2_greatestWeight_81 : decode cX2_greatestWeight 81 = .ok (.aload_n 0, 1) := by decide +kernel
theorem dX2_greatestWeight_82 : decode cX2_greatestWeight 82 = .ok (.getfield 14, 3) := by decide +kernel
theorem dX2_greatestWeight_85 : decode cX2_greatestWeight 85 = .ok (.getfield 24, 3) := by decide +kernel
theorem dX2_greatestWeight_88 : decode cX2_greatestWeight 88 = .ok (.iaload, 1) := by decide +kernel
theorem dX2_greatestWeight_89 : decode cX2_greatestWeight 89 = .ok (.ireturn, 1) := by decide +kernel
theorem dX2_chosenSet_0 : decode cX2_chosenSet 0 = .ok (.aload_n 0, 1) := by decide +kernel
theorem dX2_chosenSet_1 : decode cX2_chosenSet 1 = .ok (.invokevirtual 44, 3) := by decide +kernel
theorem dX2_chosenSet_4 : decode cX2_chosenSet 4 = .ok (.pop, 1) := by decide +kernel
theorem dX2_chosenSet_5 : decode cX2_chosenSet 5 = .ok (.lconst 0, 1) := by decide +kernel
theorem dX2_chosenSet_6 : decode cX2_chosenSet 6 = .ok (.lstore_n 1, 1) := by decide +kernel
theorem dX2_chosenSet_7 : decode cX2_chosenSet 7 = .ok (.aload_n 0, 1) := by decide +kernel
theorem dX2_chosenSet_8 : decode cX2_chosenSet 8 = .ok (.getfield 14, 3) := by decide +kernel
theorem dX2_chosenSet_11 : decode cX2_chosenSet 11 = .ok (.getfield 24, 3) := by decide +kernel
theorem dX2_chosenSet_14 : decode cX2_chosenSet 14 = .ok (.istore_n 3, 1) := by decide +kernel
theorem dX2_chosenSet_15 : decode cX2_chosenSet 15 = .ok (.aload_n 0, 1) := by decide +kernel
theorem dX2_chosenSet_16 : decode cX2_chosenSet 16 = .ok (.getfield 14, 3) := by decide +kernel
theorem dX2_chosenSet_19 : decode cX2_chosenSet 19 = .ok (.getfield 24, 3) := by decide +kernel
theorem dX2_chosenSet_22 : decode cX2_chosenSet 22 = .ok (.istore 4, 2) := by decide +kernel
theorem dX2_chosenSet_24 : decode cX2_chosenSet 24 = .ok (.iload 4, 2) := by decide +kernel
theorem dX2_chosenSet_26 : decode cX2_chosenSet 26 = .ok (.ifCond .le 69, 3) := by decide +kernel
theorem dX2_chosenSet_29 : decode cX2_chosenSet 29 = .ok (.iload 4, 2) := by decide +kernel
theorem dX2_chosenSet_31 : decode cX2_chosenSet 31 = .ok (.iload_n 3, 1) := by decide +kernel
theorem dX2_chosenSet_32 : decode cX2_chosenSet 32 = .ok (.if_icmp .gt 57, 3) := by decide +kernel
theorem dX2_chosenSet_35 : decode cX2_chosenSet 35 = .ok (.aload_n 0, 1) := by decide +kernel
theorem dX2_chosenSet_36 : decode cX2_chosenSet 36 = .ok (.getfield 20, 3) := by decide +kernel
theorem dX2_chosenSet_39 : decode cX2_chosenSet 39 = .ok (.iload 4, 2) := by decide +kernel
theorem dX2_chosenSet_41 : decode cX2_chosenSet 41 = .ok (.iaload, 1) := by decide +kernel
theorem dX2_chosenSet_42 : decode cX2_chosenSet 42 = .ok (.aload_n 0, 1) := by decide +kernel
theorem dX2_chosenSet_43 : decode cX2_chosenSet 43 = .ok (.getfield 20, 3) := by decide +kernel
theorem dX2_chosenSet_46 : decode cX2_chosenSet 46 = .ok (.iload 4, 2) := by decide +kernel
theorem dX2_chosenSet_48 : decode cX2_chosenSet 48 = .ok (.iconst 1, 1) := by decide +kernel
theorem dX2_chosenSet_49 : decode cX2_chosenSet 49 = .ok (.isub, 1) := by decide +kernel
theorem dX2_chosenSet_50 : decode cX2_chosenSet 50 = .ok (.iaload, 1) := by decide +kernel
theorem dX2_chosenSet_51 : decode cX2_chosenSet 51 = .ok (.if_icmp .eq 38, 3) := by decide +kernel
theorem dX2_chosenSet_54 : decode cX2_chosenSet 54 = .ok (.lload_n 1, 1) := by decide +kernel
theorem dX2_chosenSet_55 : decode cX2_chosenSet 55 = .ok (.aload_n 0, 1) := by decide +kernel
theorem dX2_chosenSet_56 : decode cX2_chosenSet 56 = .ok (.getfield 14, 3) := by decide +kernel
theorem dX2_chosenSet_59 : decode cX2_chosenSet 59 = .ok (.getfield 48, 3) := by decide +kernel
theorem dX2_chosenSet_62 : decode cX2_chosenSet 62 = .ok (.iload 4, 2) := by decide +kernel
theorem dX2_chosenSet_64 : decode cX2_chosenSet 64 = .ok (.iconst 1, 1) := by decide +kernel
theorem dX2_chosenSet_65 : decode cX2_chosenSet 65 = .ok (.isub, 1) := by decide +kernel
theorem dX2_chosenSet_66 : decode cX2_chosenSet 66 = .ok (.iaload, 1) := by decide +kernel
theorem dX2_chosenSet_67 : decode cX2_chosenSet 67 = .ok (.invokestatic 51, 3) := by decide +kernel
theorem dX2_chosenSet_70 : decode cX2_chosenSet 70 = .ok (.lor, 1) := by decide +kernel
theorem dX2_chosenSet_71 : decode cX2_chosenSet 71 = .ok (.lstore_n 1, 1) := by decide +kernel
theorem dX2_chosenSet_72 : decode cX2_chosenSet 72 = .ok (.aload_n 0, 1) := by decide +kernel
theorem dX2_chosenSet_73 : decode cX2_chosenSet 73 = .ok (.aload_n 0, 1) := by decide +kernel
theorem dX2_chosenSet_74 : decode cX2_chosenSet 74 = .ok (.getfield 14, 3) := by decide +kernel
theorem dX2_chosenSet_77 : decode cX2_chosenSet 77 = .ok (.getfield 31, 3) := by decide +kernel
theorem dX2_chosenSet_80 : decode cX2_chosenSet 80 = .ok (.iload 4, 2) := by decide +kernel
theorem dX2_chosenSet_82 : decode cX2_chosenSet 82 = .ok (.iconst 1, 1) := by decide +kernel
theorem dX2_chosenSet_83 : decode cX2_chosenSet 83 = .ok (.isub, 1) := by decide +kernel
theorem dX2_chosenSet_84 : decode cX2_chosenSet 84 = .ok (.iaload, 1) := by decide +kernel
theorem dX2_chosenSet_85 : decode cX2_chosenSet 85 = .ok (.invokevirtual 34, 3) := by decide +kernel
theorem dX2_chosenSet_88 : decode cX2_chosenSet 88 = .ok (.istore_n 3, 1) := by decide +kernel
theorem dX2_chosenSet_89 : decode cX2_chosenSet 89 = .ok (.iinc 4 (-1), 3) := by decide +kernel
theorem dX2_chosenSet_92 : decode cX2_chosenSet 92 = .ok (.goto (-68), 3) := by decide +kernel
theorem dX2_chosenSet_95 : decode cX2_chosenSet 95 = .ok (.lload_n 1, 1) := by decide +kernel
theorem dX2_chosenSet_96 : decode cX2_chosenSet 96 = .ok (.lreturn, 1) := by decide +kernel
theorem dX2_greatestNumber_0 : decode cX2_greatestNumber 0 = .ok (.iconst 0, 1) := by decide +kernel
theorem dX2_greatestNumber_1 : decode cX2_greatestNumber 1 = .ok (.istore_n 1, 1) := by decide +kernel
theorem dX2_greatestNumber_2 : decode cX2_greatestNumber 2 = .ok (.iconst 0, 1) := by decide +kernel
theorem dX2_greatestNumber_3 : decode cX2_greatestNumber 3 = .ok (.istore_n 2, 1) := by decide +kernel
theorem dX2_greatestNumber_4 : decode cX2_greatestNumber 4 = .ok (.iconst 0, 1) := by decide +kernel
theorem dX2_greatestNumber_5 : decode cX2_greatestNumber 5 = .ok (.istore_n 3, 1) := by decide +kernel
theorem dX2_greatestNumber_6 : decode cX2_greatestNumber 6 = .ok (.iload_n 3, 1) := by decide +kernel
theorem dX2_greatestNumber_7 : decode cX2_greatestNumber 7 = .ok (.aload_n 0, 1) := by decide +kernel
theorem dX2_greatestNumber_8 : decode cX2_greatestNumber 8 = .ok (.getfield 14, 3) := by decide +kernel
theorem dX2_greatestNumber_11 : decode cX2_greatestNumber 11 = .ok (.getfield 24, 3) := by decide +kernel
theorem dX2_greatestNumber_14 : decode cX2_greatestNumber 14 = .ok (.if_icmp .ge 35, 3) := by decide +kernel
theorem dX2_greatestNumber_17 : decode cX2_greatestNumber 17 = .ok (.aload_n 0, 1) := by decide +kernel
theorem dX2_greatestNumber_18 : decode cX2_greatestNumber 18 = .ok (.getfield 14, 3) := by decide +kernel
theorem dX2_greatestNumber_21 : decode cX2_greatestNumber 21 = .ok (.getfield 31, 3) := by decide +kernel
theorem dX2_greatestNumber_24 : decode cX2_greatestNumber 24 = .ok (.iload_n 3, 1) := by decide +kernel
theorem dX2_greatestNumber_25 : decode cX2_greatestNumber 25 = .ok (.iaload, 1) := by decide +kernel
theorem dX2_greatestNumber_26 : decode cX2_greatestNumber 26 = .ok (.iload_n 2, 1) := by decide +kernel
theorem dX2_greatestNumber_27 : decode cX2_greatestNumber 27 = .ok (.if_icmp .lt 16, 3) := by decide +kernel
theorem dX2_greatestNumber_30 : decode cX2_greatestNumber 30 = .ok (.iinc 1 1, 3) := by decide +kernel
theorem dX2_greatestNumber_33 : decode cX2_greatestNumber 33 = .ok (.aload_n 0, 1) := by decide +kernel
theorem dX2_greatestNumber_34 : decode cX2_greatestNumber 34 = .ok (.getfield 14, 3) := by decide +kernel
theorem dX2_greatestNumber_37 : decode cX2_greatestNumber 37 = .ok (.getfield 55, 3) := by decide +kernel
theorem dX2_greatestNumber_40 : decode cX2_greatestNumber 40 = .ok (.iload_n 3, 1) := by decide +kernel
theorem dX2_greatestNumber_41 : decode cX2_greatestNumber 41 = .ok (.iaload, 1) := by decide +kernel
theorem dX2_greatestNumber_42 : decode cX2_greatestNumber 42 = .ok (.istore_n 2, 1) := by decide +kernel
theorem dX2_greatestNumber_43 : decode cX2_greatestNumber 43 = .ok (.iinc 3 1, 3) := by decide +kernel
theorem dX2_greatestNumber_46 : decode cX2_greatestNumber 46 = .ok (.goto (-40), 3) := by decide +kernel
theorem dX2_greatestNumber_49 : decode cX2_greatestNumber 49 = .ok (.iload_n 1, 1) := by decide +kernel
theorem dX2_greatestNumber_50 : decode cX2_greatestNumber 50 = .ok (.ireturn, 1) := by decide +kernel
theorem dX2_endedBy_0 : decode cX2_endedBy 0 = .ok (.iconst 0, 1) := by decide +kernel
theorem dX2_endedBy_1 : decode cX2_endedBy 1 = .ok (.istore_n 2, 1) := by decide +kernel
theorem dX2_endedBy_2 : decode cX2_endedBy 2 = .ok (.iload_n 2, 1) := by decide +kernel
theorem dX2_endedBy_3 : decode cX2_endedBy 3 = .ok (.aload_n 0, 1) := by decide +kernel
theorem dX2_endedBy_4 : decode cX2_endedBy 4 = .ok (.getfield 14, 3) := by decide +kernel
theorem dX2_endedBy_7 : decode cX2_endedBy 7 = .ok (.getfield 24, 3) := by decide +kernel
theorem dX2_endedBy_10 : decode cX2_endedBy 10 = .ok (.if_icmp .ge 22, 3) := by decide +kernel
theorem dX2_endedBy_13 : decode cX2_endedBy 13 = .ok (.aload_n 0, 1) := by decide +kernel
theorem dX2_endedBy_14 : decode cX2_endedBy 14 = .ok (.getfield 14, 3) := by decide +kernel
theorem dX2_endedBy_17 : decode cX2_endedBy 17 = .ok (.getfield 55, 3) := by decide +kernel
theorem dX2_endedBy_20 : decode cX2_endedBy 20 = .ok (.iload_n 2, 1) := by decide +kernel
theorem dX2_endedBy_21 : decode cX2_endedBy 21 = .ok (.iaload, 1) := by decide +kernel
theorem dX2_endedBy_22 : decode cX2_endedBy 22 = .ok (.iload_n 1, 1) := by decide +kernel
theorem dX2_endedBy_23 : decode cX2_endedBy 23 = .ok (.if_icmp .gt 9, 3) := by decide +kernel
theorem dX2_endedBy_26 : decode cX2_endedBy 26 = .ok (.iinc 2 1, 3) := by decide +kernel
theorem dX2_endedBy_29 : decode cX2_endedBy 29 = .ok (.goto (-27), 3) := by decide +kernel
theorem dX2_endedBy_32 : decode cX2_endedBy 32 = .ok (.iload_n 2, 1) := by decide +kernel
theorem dX2_endedBy_33 : decode cX2_endedBy 33 = .ok (.ireturn, 1) := by decide +kernel
theorem dX3_init_0 : decode cX3_init 0 = .ok (.aload_n 0, 1) := by decide +kernel
theorem dX3_init_1 : decode cX3_init 1 = .ok (.invokespecial 3, 3) := by decide +kernel
theorem dX3_init_4 : decode cX3_init 4 = .ok (.aload_n 0, 1) := by decide +kernel
theorem dX3_init_5 : decode cX3_init 5 = .ok (.iload_n 1, 1) := by decide +kernel
theorem dX3_init_6 : decode cX3_init 6 = .ok (.putfield 9, 3) := by decide +kernel
theorem dX3_init_9 : decode cX3_init 9 = .ok (.aload_n 0, 1) := by decide +kernel
theorem dX3_init_10 : decode cX3_init 10 = .ok (.bipush 40, 2) := by decide +kernel
theorem dX3_init_12 : decode cX3_init 12 = .ok (.newarray .int, 2) := by decide +kernel
theorem dX3_init_14 : decode cX3_init 14 = .ok (.putfield 15, 3) := by decide +kernel
theorem dX3_init_17 : decode cX3_init 17 = .ok (.aload_n 0, 1) := by decide +kernel
theorem dX3_init_18 : decode cX3_init 18 = .ok (.bipush 40, 2) := by decide +kernel
theorem dX3_init_20 : decode cX3_init 20 = .ok (.newarray .int, 2) := by decide +kernel
theorem dX3_init_22 : decode cX3_init 22 = .ok (.putfield 19, 3) := by decide +kernel
theorem dX3_init_25 : decode cX3_init 25 = .ok (.aload_n 0, 1) := by decide +kernel
theorem dX3_init_26 : decode cX3_init 26 = .ok (.bipush 40, 2) := by decide +kernel
theorem dX3_init_28 : decode cX3_init 28 = .ok (.newarray .int, 2) := by decide +kernel
theorem dX3_init_30 : decode cX3_init 30 = .ok (.putfield 22, 3) := by decide +kernel
theorem dX3_init_33 : decode cX3_init 33 = .ok (.aload_n 0, 1) := by decide +kernel
theorem dX3_init_34 : decode cX3_init 34 = .ok (.bipush 40, 2) := by decide +kernel
theorem dX3_init_36 : decode cX3_init 36 = .ok (.newarray .int, 2) := by decide +kernel
theorem dX3_init_38 : decode cX3_init 38 = .ok (.putfield 25, 3) := by decide +kernel
theorem dX3_init_41 : decode cX3_init 41 = .ok (.return_, 1) := by decide +kernel
theorem dX3_clear_0 : decode cX3_clear 0 = .ok (.aload_n 0, 1) := by decide +kernel
theorem dX3_clear_1 : decode cX3_clear 1 = .ok (.iconst 0, 1) := by decide +kernel
theorem dX3_clear_2 : decode cX3_clear 2 = .ok (.putfield 28, 3) := by decide +kernel
theorem dX3_clear_5 : decode cX3_clear 5 = .ok (.return_, 1) := by decide +kernel
theorem dX3_put_0 : decode cX3_put 0 = .ok (.aload_n 0, 1) := by decide +kernel
theorem dX3_put_1 : decode cX3_put 1 = .ok (.getfield 28, 3) := by decide +kernel
theorem dX3_put_4 : decode cX3_put 4 = .ok (.bipush 40, 2) := by decide +kernel
theorem dX3_put_6 : decode cX3_put 6 = .ok (.if_icmp .lt 4, 3) := by decide +kernel
theorem dX3_put_9 : decode cX3_put 9 = .ok (.return_, 1) := by decide +kernel
theorem dX3_put_10 : decode cX3_put 10 = .ok (.aload_n 0, 1) := by decide +kernel
theorem dX3_put_11 : decode cX3_put 11 = .ok (.getfield 28, 3) := by decide +kernel
theorem dX3_put_14 : decode cX3_put 14 = .ok (.istore 5, 2) := by decide +kernel
theorem dX3_put_16 : decode cX3_put 16 = .ok (.iload 5, 2) := by decide +kernel
theorem dX3_put_18 : decode cX3_put 18 = .ok (.ifCond .le 30, 3) := by decide +kernel
theorem dX3_put_21 : decode cX3_put 21 = .ok (.aload_n 0, 1) := by decide +kernel
theorem dX3_put_22 : decode cX3_put 22 = .ok (.iload 5, 2) := by decide +kernel
theorem dX3_put_24 : decode cX3_put 24 = .ok (.iconst 1, 1) := by decide +kernel
theorem dX3_put_25 : decode cX3_put 25 = .ok (.isub, 1) := by decide +kernel
theorem dX3_put_26 : decode cX3_put 26 = .ok (.iload_n 2, 1) := by decide +kernel
theorem dX3_put_27 : decode cX3_put 27 = .ok (.iload_n 3, 1) := by decide +kernel
theorem dX3_put_28 : decode cX3_put 28 = .ok (.invokevirtual 32, 3) := by decide +kernel
theorem dX3_put_31 : decode cX3_put 31 = .ok (.ifCond .eq 17, 3) := by decide +kernel
theorem dX3_put_34 : decode cX3_put 34 = .ok (.aload_n 0, 1) := by decide +kernel
theorem dX3_put_35 : decode cX3_put 35 = .ok (.iload 5, 2) := by decide +kernel
theorem dX3_put_37 : decode cX3_put 37 = .ok (.iconst 1, 1) := by decide +kernel
theorem dX3_put_38 : decode cX3_put 38 = .ok (.isub, 1) := by decide +kernel
theorem dX3_put_39 : decode cX3_put 39 = .ok (.invokevirtual 36, 3) := by decide +kernel
theorem dX3_put_42 : decode cX3_put 42 = .ok (.iinc 5 (-1), 3) := by decide +kernel
theorem dX3_put_45 : decode cX3_put 45 = .ok (.goto (-29), 3) := by decide +kernel
theorem dX3_put_48 : decode cX3_put 48 = .ok (.aload_n 0, 1) := by decide +kernel
theorem dX3_put_49 : decode cX3_put 49 = .ok (.getfield 15, 3) := by decide +kernel
theorem dX3_put_52 : decode cX3_put 52 = .ok (.iload 5, 2) := by decide +kernel
theorem dX3_put_54 : decode cX3_put 54 = .ok (.iload_n 1, 1) := by decide +kernel
theorem dX3_put_55 : decode cX3_put 55 = .ok (.iastore, 1) := by decide +kernel
theorem dX3_put_56 : decode cX3_put 56 = .ok (.aload_n 0, 1) := by decide +kernel
theorem dX3_put_57 : decode cX3_put 57 = .ok (.getfield 19, 3) := by decide +kernel
theorem dX3_put_60 : decode cX3_put 60 = .ok (.iload 5, 2) := by decide +kernel
theorem dX3_put_62 : decode cX3_put 62 = .ok (.iload_n 2, 1) := by decide +kernel
theorem dX3_put_63 : decode cX3_put 63 = .ok (.iastore, 1) := by decide +kernel
theorem dX3_put_64 : decode cX3_put 64 = .ok (.aload_n 0, 1) := by decide +kernel
theorem dX3_put_65 : decode cX3_put 65 = .ok (.getfield 22, 3) := by decide +kernel
theorem dX3_put_68 : decode cX3_put 68 = .ok (.iload 5, 2) := by decide +kernel
theorem dX3_put_70 : decode cX3_put 70 = .ok (.iload_n 3, 1) := by decide +kernel
theorem dX3_put_71 : decode cX3_put 71 = .ok (.iastore, 1) := by decide +kernel
theorem dX3_put_72 : decode cX3_put 72 = .ok (.aload_n 0, 1) := by decide +kernel
theorem dX3_put_73 : decode cX3_put 73 = .ok (.getfield 25, 3) := by decide +kernel
theorem dX3_put_76 : decode cX3_put 76 = .ok (.iload 5, 2) := by decide +kernel
theorem dX3_put_78 : decode cX3_put 78 = .ok (.iload 4, 2) := by decide +kernel
theorem dX3_put_80 : decode cX3_put 80 = .ok (.iastore, 1) := by decide +kernel
theorem dX3_put_81 : decode cX3_put 81 = .ok (.aload_n 0, 1) := by decide +kernel
theorem dX3_put_82 : decode cX3_put 82 = .ok (.dup, 1) := by decide +kernel
theorem dX3_put_83 : decode cX3_put 83 = .ok (.getfield 28, 3) := by decide +kernel
theorem dX3_put_86 : decode cX3_put 86 = .ok (.iconst 1, 1) := by decide +kernel
theorem dX3_put_87 : decode cX3_put 87 = .ok (.iadd, 1) := by decide +kernel
theorem dX3_put_88 : decode cX3_put 88 = .ok (.putfield 28, 3) := by decide +kernel
theorem dX3_put_91 : decode cX3_put 91 = .ok (.return_, 1) := by decide +kernel
theorem dX3_comesBehind_0 : decode cX3_comesBehind 0 = .ok (.aload_n 0, 1) := by decide +kernel
theorem dX3_comesBehind_1 : decode cX3_comesBehind 1 = .ok (.getfield 9, 3) := by decide +kernel
theorem dX3_comesBehind_4 : decode cX3_comesBehind 4 = .ok (.ifCond .eq 21, 3) := by decide +kernel
theorem dX3_comesBehind_7 : decode cX3_comesBehind 7 = .ok (.aload_n 0, 1) := by decide +kernel
theorem dX3_comesBehind_8 : decode cX3_comesBehind 8 = .ok (.getfield 22, 3) := by decide +kernel
theorem dX3_comesBehind_11 : decode cX3_comesBehind 11 = .ok (.iload_n 1, 1) := by decide +kernel
theorem dX3_comesBehind_12 : decode cX3_comesBehind 12 = .ok (.iaload, 1) := by decide +kernel
theorem dX3_comesBehind_13 : decode cX3_comesBehind 13 = .ok (.iload_n 3, 1) := by decide +kernel
theorem dX3_comesBehind_14 : decode cX3_comesBehind 14 = .ok (.if_icmp .le 7, 3) := by decide +kernel
theorem dX3_comesBehind_17 : decode cX3_comesBehind 17 = .ok (.iconst 1, 1) := by decide +kernel
theorem dX3_comesBehind_18 : decode cX3_comesBehind 18 = .ok (.goto 22, 3) := by decide +kernel
theorem dX3_comesBehind_21 : decode cX3_comesBehind 21 = .ok (.iconst 0, 1) := by decide +kernel
theorem dX3_comesBehind_22 : decode cX3_comesBehind 22 = .ok (.goto 18, 3) := by decide +kernel
theorem dX3_comesBehind_25 : decode cX3_comesBehind 25 = .ok (.aload_n 0, 1) := by decide +kernel
theorem dX3_comesBehind_26 : decode cX3_comesBehind 26 = .ok (.getfield 19, 3) := by decide +kernel
theorem dX3_comesBehind_29 : decode cX3_comesBehind 29 = .ok (.iload_n 1, 1) := by decide +kernel
theorem dX3_comesBehind_30 : decode cX3_comesBehind 30 = .ok (.iaload, 1) := by decide +kernel
theorem dX3_comesBehind_31 : decode cX3_comesBehind 31 = .ok (.iload_n 2, 1) := by decide +kernel
theorem dX3_comesBehind_32 : decode cX3_comesBehind 32 = .ok (.if_icmp .le 7, 3) := by decide +kernel
theorem dX3_comesBehind_35 : decode cX3_comesBehind 35 = .ok (.iconst 1, 1) := by decide +kernel
theorem dX3_comesBehind_36 : decode cX3_comesBehind 36 = .ok (.goto 4, 3) := by decide +kernel
theorem dX3_comesBehind_39 : decode cX3_comesBehind 39 = .ok (.iconst 0, 1) := by decide +kernel
theorem dX3_comesBehind_40 : decode cX3_comesBehind 40 = .ok (.ireturn, 1) := by decide +kernel
theorem dX3_shiftUp_0 : decode cX3_shiftUp 0 = .ok (.aload_n 0, 1) := by decide +kernel
theorem dX3_shiftUp_1 : decode cX3_shiftUp 1 = .ok (.getfield 15, 3) := by decide +kernel
theorem dX3_shiftUp_4 : decode cX3_shiftUp 4 = .ok (.iload_n 1, 1) := by decide +kernel
theorem dX3_shiftUp_5 : decode cX3_shiftUp 5 = .ok (.iconst 1, 1) := by decide +kernel
theorem dX3_shiftUp_6 : decode cX3_shiftUp 6 = .ok (.iadd, 1) := by decide +kernel
theorem dX3_shiftUp_7 : decode cX3_shiftUp 7 = .ok (.aload_n 0, 1) := by decide +kernel
theorem dX3_shiftUp_8 : decode cX3_shiftUp 8 = .ok (.getfield 15, 3) := by decide +kernel
theorem dX3_shiftUp_11 : decode cX3_shiftUp 11 = .ok (.iload_n 1, 1) := by decide +kernel
theorem dX3_shiftUp_12 : decode cX3_shiftUp 12 = .ok (.iaload, 1) := by decide +kernel
theorem dX3_shiftUp_13 : decode cX3_shiftUp 13 = .ok (.iastore, 1) := by decide +kernel
theorem dX3_shiftUp_14 : decode cX3_shiftUp 14 = .ok (.aload_n 0, 1) := by decide +kernel
theorem dX3_shiftUp_15 : decode cX3_shiftUp 15 = .ok (.getfield 19, 3) := by decide +kernel
theorem dX3_shiftUp_18 : decode cX3_shiftUp 18 = .ok (.iload_n 1, 1) := by decide +kernel
theorem dX3_shiftUp_19 : decode cX3_shiftUp 19 = .ok (.iconst 1, 1) := by decide +kernel
theorem dX3_shiftUp_20 : decode cX3_shiftUp 20 = .ok (.iadd, 1) := by decide +kernel
theorem dX3_shiftUp_21 : decode cX3_shiftUp 21 = .ok (.aload_n 0, 1) := by decide +kernel
theorem dX3_shiftUp_22 : decode cX3_shiftUp 22 = .ok (.getfield 19, 3) := by decide +kernel
theorem dX3_shiftUp_25 : decode cX3_shiftUp 25 = .ok (.iload_n 1, 1) := by decide +kernel
theorem dX3_shiftUp_26 : decode cX3_shiftUp 26 = .ok (.iaload, 1) := by decide +kernel
theorem dX3_shiftUp_27 : decode cX3_shiftUp 27 = .ok (.iastore, 1) := by decide +kernel
theorem dX3_shiftUp_28 : decode cX3_shiftUp 28 = .ok (.aload_n 0, 1) := by decide +kernel
theorem dX3_shiftUp_29 : decode cX3_shiftUp 29 = .ok (.getfield 22, 3) := by decide +kernel
theorem dX3_shiftUp_32 : decode cX3_shiftUp 32 = .ok (.iload_n 1, 1) := by decide +kernel
theorem dX3_shiftUp_33 : decode cX3_shiftUp 33 = .ok (.iconst 1, 1) := by decide +kernel
theorem dX3_shiftUp_34 : decode cX3_shiftUp 34 = .ok (.iadd, 1) := by decide +kernel
theorem dX3_shiftUp_35 : decode cX3_shiftUp 35 = .ok (.aload_n 0, 1) := by decide +kernel
theorem dX3_shiftUp_36 : decode cX3_shiftUp 36 = .ok (.getfield 22, 3) := by decide +kernel
theorem dX3_shiftUp_39 : decode cX3_shiftUp 39 = .ok (.iload_n 1, 1) := by decide +kernel
theorem dX3_shiftUp_40 : decode cX3_shiftUp 40 = .ok (.iaload, 1) := by decide +kernel
theorem dX3_shiftUp_41 : decode cX3_shiftUp 41 = .ok (.iastore, 1) := by decide +kernel
theorem dX3_shiftUp_42 : decode cX3_shiftUp 42 = .ok (.aload_n 0, 1) := by decide +kernel
theorem dX3_shiftUp_43 : decode cX3_shiftUp 43 = .ok (.getfield 25, 3) := by decide +kernel
theorem dX3_shiftUp_46 : decode cX3_shiftUp 46 = .ok (.iload_n 1, 1) := by decide +kernel
theorem dX3_shiftUp_47 : decode cX3_shiftUp 47 = .ok (.iconst 1, 1) := by decide +kernel
theorem dX3_shiftUp_48 : decode cX3_shiftUp 48 = .ok (.iadd, 1) := by decide +kernel
theorem dX3_shiftUp_49 : decode cX3_shiftUp 49 = .ok (.aload_n 0, 1) := by decide +kernel
theorem dX3_shiftUp_50 : decode cX3_shiftUp 50 = .ok (.getfield 25, 3) := by decide +kernel
theorem dX3_shiftUp_53 : decode cX3_shiftUp 53 = .ok (.iload_n 1, 1) := by decide +kernel
theorem dX3_shiftUp_54 : decode cX3_shiftUp 54 = .ok (.iaload, 1) := by decide +kernel
theorem dX3_shiftUp_55 : decode cX3_shiftUp 55 = .ok (.iastore, 1) := by decide +kernel
theorem dX3_shiftUp_56 : decode cX3_shiftUp 56 = .ok (.return_, 1) := by decide +kernel
theorem dX4_init_0 : decode cX4_init 0 = .ok (.aload_n 0, 1) := by decide +kernel
theorem dX4_init_1 : decode cX4_init 1 = .ok (.invokespecial 1, 3) := by decide +kernel
theorem dX4_init_4 : decode cX4_init 4 = .ok (.aload_n 0, 1) := by decide +kernel
theorem dX4_init_5 : decode cX4_init 5 = .ok (.bipush 40, 2) := by decide +kernel
theorem dX4_init_7 : decode cX4_init 7 = .ok (.newarray .int, 2) := by decide +kernel
theorem dX4_init_9 : decode cX4_init 9 = .ok (.putfield 9, 3) := by decide +kernel
theorem dX4_init_12 : decode cX4_init 12 = .ok (.aload_n 0, 1) := by decide +kernel
theorem dX4_init_13 : decode cX4_init 13 = .ok (.bipush 40, 2) := by decide +kernel
theorem dX4_init_15 : decode cX4_init 15 = .ok (.newarray .int, 2) := by decide +kernel
theorem dX4_init_17 : decode cX4_init 17 = .ok (.putfield 13, 3) := by decide +kernel
theorem dX4_init_20 : decode cX4_init 20 = .ok (.aload_n 0, 1) := by decide +kernel
theorem dX4_init_21 : decode cX4_init 21 = .ok (.bipush 40, 2) := by decide +kernel
theorem dX4_init_23 : decode cX4_init 23 = .ok (.newarray .int, 2) := by decide +kernel
theorem dX4_init_25 : decode cX4_init 25 = .ok (.putfield 16, 3) := by decide +kernel
theorem dX4_init_28 : decode cX4_init 28 = .ok (.aload_n 0, 1) := by decide +kernel
theorem dX4_init_29 : decode cX4_init 29 = .ok (.bipush 100, 2) := by decide +kernel
theorem dX4_init_31 : decode cX4_init 31 = .ok (.putfield 19, 3) := by decide +kernel
theorem dX4_init_34 : decode cX4_init 34 = .ok (.aload_n 0, 1) := by decide +kernel
theorem dX4_init_35 : decode cX4_init 35 = .ok (.new 23, 3) := by decide +kernel
theorem dX4_init_38 : decode cX4_init 38 = .ok (.dup, 1) := by decide +kernel
theorem dX4_init_39 : decode cX4_init 39 = .ok (.invokespecial 25, 3) := by decide +kernel
theorem dX4_init_42 : decode cX4_init 42 = .ok (.putfield 26, 3) := by decide +kernel
theorem dX4_init_45 : decode cX4_init 45 = .ok (.aload_n 0, 1) := by decide +kernel
theorem dX4_init_46 : decode cX4_init 46 = .ok (.new 30, 3) := by decide +kernel
theorem dX4_init_49 : decode cX4_init 49 = .ok (.dup, 1) := by decide +kernel
theorem dX4_init_50 : decode cX4_init 50 = .ok (.invokespecial 32, 3) := by decide +kernel
theorem dX4_init_53 : decode cX4_init 53 = .ok (.putfield 33, 3) := by decide +kernel
theorem dX4_init_56 : decode cX4_init 56 = .ok (.aload_n 0, 1) := by decide +kernel
theorem dX4_init_57 : decode cX4_init 57 = .ok (.new 37, 3) := by decide +kernel
theorem dX4_init_60 : decode cX4_init 60 = .ok (.dup, 1) := by decide +kernel
theorem dX4_init_61 : decode cX4_init 61 = .ok (.invokespecial 39, 3) := by decide +kernel
theorem dX4_init_64 : decode cX4_init 64 = .ok (.putfield 40, 3) := by decide +kernel
theorem dX4_init_67 : decode cX4_init 67 = .ok (.return_, 1) := by decide +kernel
theorem dX4_add_0 : decode cX4_add 0 = .ok (.iload_n 1, 1) := by decide +kernel
theorem dX4_add_1 : decode cX4_add 1 = .ok (.ifCond .lt 22, 3) := by decide +kernel
theorem dX4_add_4 : decode cX4_add 4 = .ok (.iload_n 1, 1) := by decide +kernel
theorem dX4_add_5 : decode cX4_add 5 = .ok (.sipush 1000, 3) := by decide +kernel
theorem dX4_add_8 : decode cX4_add 8 = .ok (.if_icmp .ge 15, 3) := by decide +kernel
theorem dX4_add_11 : decode cX4_add 11 = .ok (.iload_n 2, 1) := by decide +kernel
theorem dX4_add_12 : decode cX4_add 12 = .ok (.iload_n 1, 1) := by decide +kernel
theorem dX4_add_13 : decode cX4_add 13 = .ok (.if_icmp .le 10, 3) := by decide +kernel
theorem dX4_add_16 : decode cX4_add 16 = .ok (.iload_n 2, 1) := by decide +kernel
theorem dX4_add_17 : decode cX4_add 17 = .ok (.sipush 1000, 3) := by decide +kernel
theorem dX4_add_20 : decode cX4_add 20 = .ok (.if_icmp .le 13, 3) := by decide +kernel
theorem dX4_add_23 : decode cX4_add 23 = .ok (.new 44, 3) := by decide +kernel
theorem dX4_add_26 : decode cX4_add 26 = .ok (.dup, 1) := by decide +kernel
theorem dX4_add_27 : decode cX4_add 27 = .ok (.ldc 46, 2) := by decide +kernel
theorem dX4_add_29 : decode cX4_add 29 = .ok (.invokespecial 48, 3) := by decide +kernel
theorem dX4_add_32 : decode cX4_add 32 = .ok (.athrow, 1) := by decide +kernel
theorem dX4_add_33 : decode cX4_add 33 = .ok (.iload_n 3, 1) := by decide +kernel
theorem dX4_add_34 : decode cX4_add 34 = .ok (.iconst 1, 1) := by decide +kernel
theorem dX4_add_35 : decode cX4_add 35 = .ok (.if_icmp .lt 10, 3) := by decide +kernel
theorem dX4_add_38 : decode cX4_add 38 = .ok (.iload_n 3, 1) := by decide +kernel
theorem dX4_add_39 : decode cX4_add 39 = .ok (.sipush 1000, 3) := by decide +kernel
theorem dX4_add_42 : decode cX4_add 42 = .ok (.if_icmp .le 13, 3) := by decide +kernel
theorem dX4_add_45 : decode cX4_add 45 = .ok (.new 44, 3) := by decide +kernel
theorem dX4_add_48 : decode cX4_add 48 = .ok (.dup, 1) := by decide +kernel
theorem dX4_add_49 : decode cX4_add 49 = .ok (.ldc 51, 2) := by decide +kernel
theorem dX4_add_51 : decode cX4_add 51 = .ok (.invokespecial 48, 3) := by decide +kernel
theorem dX4_add_54 : decode cX4_add 54 = .ok (.athrow, 1) := by decide +kernel
theorem dX4_add_55 : decode cX4_add 55 = .ok (.aload_n 0, 1) := by decide +kernel
theorem dX4_add_56 : decode cX4_add 56 = .ok (.getfield 53, 3) := by decide +kernel
theorem dX4_add_59 : decode cX4_add 59 = .ok (.bipush 40, 2) := by decide +kernel
theorem dX4_add_61 : decode cX4_add 61 = .ok (.if_icmp .lt 13, 3) := by decide +kernel
theorem dX4_add_64 : decode cX4_add 64 = .ok (.new 56, 3) := by decide +kernel
theorem dX4_add_67 : decode cX4_add 67 = .ok (.dup, 1) := by decide +kernel
theorem dX4_add_68 : decode cX4_add 68 = .ok (.ldc 58, 2) := by decide +kernel
theorem dX4_add_70 : decode cX4_add 70 = .ok (.invokespecial 60, 3) := by decide +kernel
theorem dX4_add_73 : decode cX4_add 73 = .ok (.athrow, 1) := by decide +kernel
theorem dX4_add_74 : decode cX4_add 74 = .ok (.aload_n 0, 1) := by decide +kernel
theorem dX4_add_75 : decode cX4_add 75 = .ok (.getfield 53, 3) := by decide +kernel
theorem dX4_add_78 : decode cX4_add 78 = .ok (.istore 4, 2) := by decide +kernel
theorem dX4_add_80 : decode cX4_add 80 = .ok (.aload_n 0, 1) := by decide +kernel
theorem dX4_add_81 : decode cX4_add 81 = .ok (.getfield 9, 3) := by decide +kernel
theorem dX4_add_84 : decode cX4_add 84 = .ok (.iload 4, 2) := by decide +kernel
theorem dX4_add_86 : decode cX4_add 86 = .ok (.iload_n 1, 1) := by decide +kernel
theorem dX4_add_87 : decode cX4_add 87 = .ok (.iastore, 1) := by decide +kernel
theorem dX4_add_88 : decode cX4_add 88 = .ok (.aload_n 0, 1) := by decide +kernel
theorem dX4_add_89 : decode cX4_add 89 = .ok (.getfield 13, 3) := by decide +kernel
theorem dX4_add_92 : decode cX4_add 92 = .ok (.iload 4, 2) := by decide +kernel
theorem dX4_add_94 : decode cX4_add 94 = .ok (.iload_n 2, 1) := by decide +kernel
theorem dX4_add_95 : decode cX4_add 95 = .ok (.iastore, 1) := by decide +kernel
theorem dX4_add_96 : decode cX4_add 96 = .ok (.aload_n 0, 1) := by decide +kernel
theorem dX4_add_97 : decode cX4_add 97 = .ok (.getfield 16, 3) := by decide +kernel
theorem dX4_add_100 : decode cX4_add 100 = .ok (.iload 4, 2) := by decide +kernel
theorem dX4_add_102 : decode cX4_add 102 = .ok (.iload_n 3, 1) := by decide +kernel
theorem dX4_add_103 : decode cX4_add 103 = .ok (.iastore, 1) := by decide +kernel
theorem dX4_add_104 : decode cX4_add 104 = .ok (.aload_n 0, 1) := by decide +kernel
theorem dX4_add_105 : decode cX4_add 105 = .ok (.dup, 1) := by decide +kernel
theorem dX4_add_106 : decode cX4_add 106 = .ok (.getfield 61, 3) := by decide +kernel
theorem dX4_add_109 : decode cX4_add 109 = .ok (.iload 4, 2) := by decide +kernel
theorem dX4_add_111 : decode cX4_add 111 = .ok (.invokestatic 65, 3) := by decide +kernel
theorem dX4_add_114 : decode cX4_add 114 = .ok (.lor, 1) := by decide +kernel
theorem dX4_add_115 : decode cX4_add 115 = .ok (.putfield 61, 3) := by decide +kernel
theorem dX4_add_118 : decode cX4_add 118 = .ok (.aload_n 0, 1) := by decide +kernel
theorem dX4_add_119 : decode cX4_add 119 = .ok (.dup, 1) := by decide +kernel
theorem dX4_add_120 : decode cX4_add 120 = .ok (.getfield 53, 3) := by decide +kernel
theorem dX4_add_123 : decode cX4_add 123 = .ok (.iconst 1, 1) := by decide +kernel
theorem dX4_add_124 : decode cX4_add 124 = .ok (.iadd, 1) := by decide +kernel
theorem dX4_add_125 : decode cX4_add 125 = .ok (.putfield 53, 3) := by decide +kernel
theorem dX4_add_128 : decode cX4_add 128 = .ok (.iload 4, 2) := by decide +kernel
theorem dX4_add_130 : decode cX4_add 130 = .ok (.ireturn, 1) := by decide +kernel
theorem dX4_remove_0 : decode cX4_remove 0 = .ok (.aload_n 0, 1) := by decide +kernel
theorem dX4_remove_1 : decode cX4_remove 1 = .ok (.iload_n 1, 1) := by decide +kernel
theorem dX4_remove_2 : decode cX4_remove 2 = .ok (.invokevirtual 69, 3) := by decide +kernel
theorem dX4_remove_5 : decode cX4_remove 5 = .ok (.aload_n 0, 1) := by decide +kernel
theorem dX4_remove_6 : decode cX4_remove 6 = .ok (.dup, 1) := by decide +kernel
theorem dX4_remove_7 : decode cX4_remove 7 = .ok (.getfield 61, 3) := by decide +kernel
theorem dX4_remove_10 : decode cX4_remove 10 = .ok (.iload_n 1, 1) := by decide +kernel
theorem dX4_remove_11 : decode cX4_remove 11 = .ok (.invokestatic 65, 3) := by decide +kernel
theorem dX4_remove_14 : decode cX4_remove 14 = .ok (.ldc2_w 73, 3) := by decide +kernel
theorem dX4_remove_17 : decode cX4_remove 17 = .ok (.lxor, 1) := by decide +kernel
theorem dX4_remove_18 : decode cX4_remove 18 = .ok (.land, 1) := by decide +kernel
theorem dX4_remove_19 : decode cX4_remove 19 = .ok (.putfield 61, 3) := by decide +kernel
theorem dX4_remove_22 : decode cX4_remove 22 = .ok (.aload_n 0, 1) := by decide +kernel
theorem dX4_remove_23 : decode cX4_remove 23 = .ok (.dup, 1) := by decide +kernel
theorem dX4_remove_24 : decode cX4_remove 24 = .ok (.getfield 75, 3) := by decide +kernel
theorem dX4_remove_27 : decode cX4_remove 27 = .ok (.iload_n 1, 1) := by decide +kernel
theorem dX4_remove_28 : decode cX4_remove 28 = .ok (.invokestatic 65, 3) := by decide +kernel
theorem dX4_remove_31 : decode cX4_remove 31 = .ok (.ldc2_w 73, 3) := by decide +kernel
theorem dX4_remove_34 : decode cX4_remove 34 = .ok (.lxor, 1) := by decide +kernel
theorem dX4_remove_35 : decode cX4_remove 35 = .ok (.land, 1) := by decide +kernel
theorem dX4_remove_36 : decode cX4_remove 36 = .ok (.putfield 75, 3) := by decide +kernel
theorem dX4_remove_39 : decode cX4_remove 39 = .ok (.aload_n 0, 1) := by decide +kernel
theorem dX4_remove_40 : decode cX4_remove 40 = .ok (.getfield 61, 3) := by decide +kernel
theorem dX4_remove_43 : decode cX4_remove 43 = .ok (.invokestatic 78, 3) := by decide +kernel
theorem dX4_remove_46 : decode cX4_remove 46 = .ok (.ireturn, 1) := by decide +kernel
theorem dX4_move_0 : decode cX4_move 0 = .ok (.aload_n 0, 1) := by decide +kernel
theorem dX4_move_1 : decode cX4_move 1 = .ok (.iload_n 1, 1) := by decide +kernel
theorem dX4_move_2 : decode cX4_move 2 = .ok (.invokevirtual 69, 3) := by decide +kernel
theorem dX4_move_5 : decode cX4_move 5 = .ok (.aload_n 0, 1) := by decide +kernel
theorem dX4_move_6 : decode cX4_move 6 = .ok (.iload_n 1, 1) := by decide +kernel
theorem dX4_move_7 : decode cX4_move 7 = .ok (.invokevirtual 84, 3) := by decide +kernel
theorem dX4_move_10 : decode cX4_move 10 = .ok (.istore_n 3, 1) := by decide +kernel
theorem dX4_move_11 : decode cX4_move 11 = .ok (.iload_n 2, 1) := by decide +kernel
theorem dX4_move_12 : decode cX4_move 12 = .ok (.ifCond .lt 12, 3) := by decide +kernel
theorem dX4_move_15 : decode cX4_move 15 = .ok (.iload_n 2, 1) := by decide +kernel
theorem dX4_move_16 : decode cX4_move 16 = .ok (.sipush 1000, 3) := by decide +kernel
theorem dX4_move_19 : decode cX4_move 19 = .ok (.iload_n 3, 1) := by decide +kernel
theorem dX4_move_20 : decode cX4_move 20 = .ok (.isub, 1) := by decide +kernel
theorem dX4_move_21 : decode cX4_move 21 = .ok (.if_icmp .le 13, 3) := by decide +kernel
theorem dX4_move_24 : decode cX4_move 24 = .ok (.new 44, 3) := by decide +kernel
theorem dX4_move_27 : decode cX4_move 27 = .ok (.dup, 1) := by decide +kernel
theorem dX4_move_28 : decode cX4_move 28 = .ok (.ldc 88, 2) := by decide +kernel
theorem dX4_move_30 : decode cX4_move 30 = .ok (.invokespecial 48, 3) := by decide +kernel
theorem dX4_move_33 : decode cX4_move 33 = .ok (.athrow, 1) := by decide +kernel
theorem dX4_move_34 : decode cX4_move 34 = .ok (.aload_n 0, 1) := by decide +kernel
theorem dX4_move_35 : decode cX4_move 35 = .ok (.getfield 9, 3) := by decide +kernel
theorem dX4_move_38 : decode cX4_move 38 = .ok (.iload_n 1, 1) := by decide +kernel
theorem dX4_move_39 : decode cX4_move 39 = .ok (.iaload, 1) := by decide +kernel
theorem dX4_move_40 : decode cX4_move 40 = .ok (.istore 4, 2) := by decide +kernel
theorem dX4_move_42 : decode cX4_move 42 = .ok (.aload_n 0, 1) := by decide +kernel
theorem dX4_move_43 : decode cX4_move 43 = .ok (.getfield 9, 3) := by decide +kernel
theorem dX4_move_46 : decode cX4_move 46 = .ok (.iload_n 1, 1) := by decide +kernel
theorem dX4_move_47 : decode cX4_move 47 = .ok (.iload_n 2, 1) := by decide +kernel
theorem dX4_move_48 : decode cX4_move 48 = .ok (.iastore, 1) := by decide +kernel
theorem dX4_move_49 : decode cX4_move 49 = .ok (.aload_n 0, 1) := by decide +kernel
theorem dX4_move_50 : decode cX4_move 50 = .ok (.getfield 13, 3) := by decide +kernel
theorem dX4_move_53 : decode cX4_move 53 = .ok (.iload_n 1, 1) := by decide +kernel
theorem dX4_move_54 : decode cX4_move 54 = .ok (.iload_n 2, 1) := by decide +kernel
theorem dX4_move_55 : decode cX4_move 55 = .ok (.iload_n 3, 1) := by decide +kernel
theorem dX4_move_56 : decode cX4_move 56 = .ok (.iadd, 1) := by decide +kernel
theorem dX4_move_57 : decode cX4_move 57 = .ok (.iastore, 1) := by decide +kernel
theorem dX4_move_58 : decode cX4_move 58 = .ok (.aload_n 0, 1) := by decide +kernel
theorem dX4_move_59 : decode cX4_move 59 = .ok (.dup, 1) := by decide +kernel
