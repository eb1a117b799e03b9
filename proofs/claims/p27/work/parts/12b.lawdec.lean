theorem dL_areAlike_12 : decode cL_areAlike 12 = .ok (.aload_n 0, 1) := by decide +kernel
theorem dL_areAlike_13 : decode cL_areAlike 13 = .ok (.invokevirtual 58, 3) := by decide +kernel
theorem dL_areAlike_16 : decode cL_areAlike 16 = .ok (.aload_n 1, 1) := by decide +kernel
theorem dL_areAlike_17 : decode cL_areAlike 17 = .ok (.invokevirtual 58, 3) := by decide +kernel
theorem dL_areAlike_20 : decode cL_areAlike 20 = .ok (.lcmp, 1) := by decide +kernel
theorem dL_areAlike_21 : decode cL_areAlike 21 = .ok (.ifCond .ne 62, 3) := by decide +kernel
theorem dL_areAlike_24 : decode cL_areAlike 24 = .ok (.aload_n 0, 1) := by decide +kernel
theorem dL_areAlike_25 : decode cL_areAlike 25 = .ok (.invokevirtual 61, 3) := by decide +kernel
theorem dL_areAlike_28 : decode cL_areAlike 28 = .ok (.aload_n 1, 1) := by decide +kernel
theorem dL_areAlike_29 : decode cL_areAlike 29 = .ok (.invokevirtual 61, 3) := by decide +kernel
theorem dL_areAlike_32 : decode cL_areAlike 32 = .ok (.if_icmp .ne 51, 3) := by decide +kernel
theorem dL_areAlike_35 : decode cL_areAlike 35 = .ok (.aload_n 0, 1) := by decide +kernel
theorem dL_areAlike_36 : decode cL_areAlike 36 = .ok (.invokevirtual 65, 3) := by decide +kernel
theorem dL_areAlike_39 : decode cL_areAlike 39 = .ok (.aload_n 1, 1) := by decide +kernel
theorem dL_areAlike_40 : decode cL_areAlike 40 = .ok (.invokevirtual 65, 3) := by decide +kernel
theorem dL_areAlike_43 : decode cL_areAlike 43 = .ok (.if_icmp .ne 40, 3) := by decide +kernel
theorem dL_areAlike_46 : decode cL_areAlike 46 = .ok (.aload_n 0, 1) := by decide +kernel
theorem dL_areAlike_47 : decode cL_areAlike 47 = .ok (.invokevirtual 68, 3) := by decide +kernel
theorem dL_areAlike_50 : decode cL_areAlike 50 = .ok (.aload_n 1, 1) := by decide +kernel
theorem dL_areAlike_51 : decode cL_areAlike 51 = .ok (.invokevirtual 68, 3) := by decide +kernel
theorem dL_areAlike_54 : decode cL_areAlike 54 = .ok (.if_icmp .ne 29, 3) := by decide +kernel
theorem dL_areAlike_57 : decode cL_areAlike 57 = .ok (.aload_n 0, 1) := by decide +kernel
theorem dL_areAlike_58 : decode cL_areAlike 58 = .ok (.invokevirtual 71, 3) := by decide +kernel
theorem dL_areAlike_61 : decode cL_areAlike 61 = .ok (.aload_n 1, 1) := by decide +kernel
theorem dL_areAlike_62 : decode cL_areAlike 62 = .ok (.invokevirtual 71, 3) := by decide +kernel
theorem dL_areAlike_65 : decode cL_areAlike 65 = .ok (.if_icmp .ne 18, 3) := by decide +kernel
theorem dL_areAlike_68 : decode cL_areAlike 68 = .ok (.aload_n 0, 1) := by decide +kernel
theorem dL_areAlike_69 : decode cL_areAlike 69 = .ok (.invokevirtual 74, 3) := by decide +kernel
theorem dL_areAlike_72 : decode cL_areAlike 72 = .ok (.aload_n 1, 1) := by decide +kernel
theorem dL_areAlike_73 : decode cL_areAlike 73 = .ok (.invokevirtual 74, 3) := by decide +kernel
theorem dL_areAlike_76 : decode cL_areAlike 76 = .ok (.if_icmp .ne 7, 3) := by decide +kernel
theorem dL_areAlike_79 : decode cL_areAlike 79 = .ok (.iconst 1, 1) := by decide +kernel
theorem dL_areAlike_80 : decode cL_areAlike 80 = .ok (.goto 4, 3) := by decide +kernel
theorem dL_areAlike_83 : decode cL_areAlike 83 = .ok (.iconst 0, 1) := by decide +kernel
theorem dL_areAlike_84 : decode cL_areAlike 84 = .ok (.ireturn, 1) := by decide +kernel
theorem dL_bits_0 : decode cL_bits 0 = .ok (.iconst 0, 1) := by decide +kernel
theorem dL_bits_1 : decode cL_bits 1 = .ok (.istore_n 2, 1) := by decide +kernel
theorem dL_bits_2 : decode cL_bits 2 = .ok (.lload_n 0, 1) := by decide +kernel
theorem dL_bits_3 : decode cL_bits 3 = .ok (.lstore_n 3, 1) := by decide +kernel
theorem dL_bits_4 : decode cL_bits 4 = .ok (.lload_n 3, 1) := by decide +kernel
theorem dL_bits_5 : decode cL_bits 5 = .ok (.lconst 0, 1) := by decide +kernel
theorem dL_bits_6 : decode cL_bits 6 = .ok (.lcmp, 1) := by decide +kernel
theorem dL_bits_7 : decode cL_bits 7 = .ok (.ifCond .eq 15, 3) := by decide +kernel
theorem dL_bits_10 : decode cL_bits 10 = .ok (.iinc 2 1, 3) := by decide +kernel
theorem dL_bits_13 : decode cL_bits 13 = .ok (.lload_n 3, 1) := by decide +kernel
theorem dL_bits_14 : decode cL_bits 14 = .ok (.lload_n 3, 1) := by decide +kernel
theorem dL_bits_15 : decode cL_bits 15 = .ok (.lconst 1, 1) := by decide +kernel
theorem dL_bits_16 : decode cL_bits 16 = .ok (.lsub, 1) := by decide +kernel
theorem dL_bits_17 : decode cL_bits 17 = .ok (.land, 1) := by decide +kernel
theorem dL_bits_18 : decode cL_bits 18 = .ok (.lstore_n 3, 1) := by decide +kernel
theorem dL_bits_19 : decode cL_bits 19 = .ok (.goto (-15), 3) := by decide +kernel
theorem dL_bits_22 : decode cL_bits 22 = .ok (.iload_n 2, 1) := by decide +kernel
theorem dL_bits_23 : decode cL_bits 23 = .ok (.ireturn, 1) := by decide +kernel
theorem dL_isPlan_0 : decode cL_isPlan 0 = .ok (.lload_n 1, 1) := by decide +kernel
theorem dL_isPlan_1 : decode cL_isPlan 1 = .ok (.aload_n 0, 1) := by decide +kernel
theorem dL_isPlan_2 : decode cL_isPlan 2 = .ok (.invokevirtual 54, 3) := by decide +kernel
theorem dL_isPlan_5 : decode cL_isPlan 5 = .ok (.ldc2_w 77, 3) := by decide +kernel
theorem dL_isPlan_8 : decode cL_isPlan 8 = .ok (.lxor, 1) := by decide +kernel
theorem dL_isPlan_9 : decode cL_isPlan 9 = .ok (.land, 1) := by decide +kernel
theorem dL_isPlan_10 : decode cL_isPlan 10 = .ok (.lconst 0, 1) := by decide +kernel
theorem dL_isPlan_11 : decode cL_isPlan 11 = .ok (.lcmp, 1) := by decide +kernel
theorem dL_isPlan_12 : decode cL_isPlan 12 = .ok (.ifCond .ne 7, 3) := by decide +kernel
theorem dL_isPlan_15 : decode cL_isPlan 15 = .ok (.iconst 1, 1) := by decide +kernel
theorem dL_isPlan_16 : decode cL_isPlan 16 = .ok (.goto 4, 3) := by decide +kernel
theorem dL_isPlan_19 : decode cL_isPlan 19 = .ok (.iconst 0, 1) := by decide +kernel
theorem dL_isPlan_20 : decode cL_isPlan 20 = .ok (.istore_n 3, 1) := by decide +kernel
theorem dL_isPlan_21 : decode cL_isPlan 21 = .ok (.iconst 0, 1) := by decide +kernel
theorem dL_isPlan_22 : decode cL_isPlan 22 = .ok (.istore 4, 2) := by decide +kernel
theorem dL_isPlan_24 : decode cL_isPlan 24 = .ok (.iload 4, 2) := by decide +kernel
theorem dL_isPlan_26 : decode cL_isPlan 26 = .ok (.bipush 40, 2) := by decide +kernel
theorem dL_isPlan_28 : decode cL_isPlan 28 = .ok (.if_icmp .ge 43, 3) := by decide +kernel
theorem dL_isPlan_31 : decode cL_isPlan 31 = .ok (.iload_n 3, 1) := by decide +kernel
theorem dL_isPlan_32 : decode cL_isPlan 32 = .ok (.ifCond .eq 39, 3) := by decide +kernel
theorem dL_isPlan_35 : decode cL_isPlan 35 = .ok (.lload_n 1, 1) := by decide +kernel
theorem dL_isPlan_36 : decode cL_isPlan 36 = .ok (.iload 4, 2) := by decide +kernel
theorem dL_isPlan_38 : decode cL_isPlan 38 = .ok (.lshr, 1) := by decide +kernel
theorem dL_isPlan_39 : decode cL_isPlan 39 = .ok (.lconst 1, 1) := by decide +kernel
theorem dL_isPlan_40 : decode cL_isPlan 40 = .ok (.land, 1) := by decide +kernel
theorem dL_isPlan_41 : decode cL_isPlan 41 = .ok (.lconst 0, 1) := by decide +kernel
theorem dL_isPlan_42 : decode cL_isPlan 42 = .ok (.lcmp, 1) := by decide +kernel
theorem dL_isPlan_43 : decode cL_isPlan 43 = .ok (.ifCond .eq 16, 3) := by decide +kernel
theorem dL_isPlan_46 : decode cL_isPlan 46 = .ok (.aload_n 0, 1) := by decide +kernel
theorem dL_isPlan_47 : decode cL_isPlan 47 = .ok (.iload 4, 2) := by decide +kernel
theorem dL_isPlan_49 : decode cL_isPlan 49 = .ok (.invokevirtual 79, 3) := by decide +kernel
theorem dL_isPlan_52 : decode cL_isPlan 52 = .ok (.lload_n 1, 1) := by decide +kernel
theorem dL_isPlan_53 : decode cL_isPlan 53 = .ok (.land, 1) := by decide +kernel
theorem dL_isPlan_54 : decode cL_isPlan 54 = .ok (.lconst 0, 1) := by decide +kernel
theorem dL_isPlan_55 : decode cL_isPlan 55 = .ok (.lcmp, 1) := by decide +kernel
theorem dL_isPlan_56 : decode cL_isPlan 56 = .ok (.ifCond .ne 7, 3) := by decide +kernel
theorem dL_isPlan_59 : decode cL_isPlan 59 = .ok (.iconst 1, 1) := by decide +kernel
theorem dL_isPlan_60 : decode cL_isPlan 60 = .ok (.goto 4, 3) := by decide +kernel
theorem dL_isPlan_63 : decode cL_isPlan 63 = .ok (.iconst 0, 1) := by decide +kernel
theorem dL_isPlan_64 : decode cL_isPlan 64 = .ok (.istore_n 3, 1) := by decide +kernel
theorem dL_isPlan_65 : decode cL_isPlan 65 = .ok (.iinc 4 1, 3) := by decide +kernel
theorem dL_isPlan_68 : decode cL_isPlan 68 = .ok (.goto (-44), 3) := by decide +kernel
theorem dL_isPlan_71 : decode cL_isPlan 71 = .ok (.iload_n 3, 1) := by decide +kernel
theorem dL_isPlan_72 : decode cL_isPlan 72 = .ok (.ireturn, 1) := by decide +kernel
theorem dL_areRoomsSo_0 : decode cL_areRoomsSo 0 = .ok (.aload_n 0, 1) := by decide +kernel
theorem dL_areRoomsSo_1 : decode cL_areRoomsSo 1 = .ok (.invokevirtual 71, 3) := by decide +kernel
theorem dL_areRoomsSo_4 : decode cL_areRoomsSo 4 = .ok (.istore_n 1, 1) := by decide +kernel
theorem dL_areRoomsSo_5 : decode cL_areRoomsSo 5 = .ok (.lconst 0, 1) := by decide +kernel
theorem dL_areRoomsSo_6 : decode cL_areRoomsSo 6 = .ok (.lstore_n 2, 1) := by decide +kernel
theorem dL_areRoomsSo_7 : decode cL_areRoomsSo 7 = .ok (.iconst 0, 1) := by decide +kernel
theorem dL_areRoomsSo_8 : decode cL_areRoomsSo 8 = .ok (.istore 4, 2) := by decide +kernel
theorem dL_areRoomsSo_10 : decode cL_areRoomsSo 10 = .ok (.iload 4, 2) := by decide +kernel
theorem dL_areRoomsSo_12 : decode cL_areRoomsSo 12 = .ok (.bipush 40, 2) := by decide +kernel
theorem dL_areRoomsSo_14 : decode cL_areRoomsSo 14 = .ok (.if_icmp .ge 99, 3) := by decide +kernel
theorem dL_areRoomsSo_17 : decode cL_areRoomsSo 17 = .ok (.aload_n 0, 1) := by decide +kernel
theorem dL_areRoomsSo_18 : decode cL_areRoomsSo 18 = .ok (.invokevirtual 54, 3) := by decide +kernel
theorem dL_areRoomsSo_21 : decode cL_areRoomsSo 21 = .ok (.iload 4, 2) := by decide +kernel
theorem dL_areRoomsSo_23 : decode cL_areRoomsSo 23 = .ok (.lshr, 1) := by decide +kernel
theorem dL_areRoomsSo_24 : decode cL_areRoomsSo 24 = .ok (.lconst 1, 1) := by decide +kernel
theorem dL_areRoomsSo_25 : decode cL_areRoomsSo 25 = .ok (.land, 1) := by decide +kernel
theorem dL_areRoomsSo_26 : decode cL_areRoomsSo 26 = .ok (.lconst 1, 1) := by decide +kernel
theorem dL_areRoomsSo_27 : decode cL_areRoomsSo 27 = .ok (.lcmp, 1) := by decide +kernel
theorem dL_areRoomsSo_28 : decode cL_areRoomsSo 28 = .ok (.ifCond .ne 79, 3) := by decide +kernel
theorem dL_areRoomsSo_31 : decode cL_areRoomsSo 31 = .ok (.aload_n 0, 1) := by decide +kernel
theorem dL_areRoomsSo_32 : decode cL_areRoomsSo 32 = .ok (.iload 4, 2) := by decide +kernel
theorem dL_areRoomsSo_34 : decode cL_areRoomsSo 34 = .ok (.invokevirtual 83, 3) := by decide +kernel
theorem dL_areRoomsSo_37 : decode cL_areRoomsSo 37 = .ok (.istore 5, 2) := by decide +kernel
theorem dL_areRoomsSo_39 : decode cL_areRoomsSo 39 = .ok (.lload_n 2, 1) := by decide +kernel
theorem dL_areRoomsSo_40 : decode cL_areRoomsSo 40 = .ok (.lconst 1, 1) := by decide +kernel
theorem dL_areRoomsSo_41 : decode cL_areRoomsSo 41 = .ok (.iload 5, 2) := by decide +kernel
theorem dL_areRoomsSo_43 : decode cL_areRoomsSo 43 = .ok (.lshl, 1) := by decide +kernel
theorem dL_areRoomsSo_44 : decode cL_areRoomsSo 44 = .ok (.lor, 1) := by decide +kernel
theorem dL_areRoomsSo_45 : decode cL_areRoomsSo 45 = .ok (.lstore_n 2, 1) := by decide +kernel
theorem dL_areRoomsSo_46 : decode cL_areRoomsSo 46 = .ok (.iconst 0, 1) := by decide +kernel
theorem dL_areRoomsSo_47 : decode cL_areRoomsSo 47 = .ok (.istore 6, 2) := by decide +kernel
theorem dL_areRoomsSo_49 : decode cL_areRoomsSo 49 = .ok (.iload 6, 2) := by decide +kernel
theorem dL_areRoomsSo_51 : decode cL_areRoomsSo 51 = .ok (.iload 4, 2) := by decide +kernel
theorem dL_areRoomsSo_53 : decode cL_areRoomsSo 53 = .ok (.if_icmp .ge 54, 3) := by decide +kernel
theorem dL_areRoomsSo_56 : decode cL_areRoomsSo 56 = .ok (.aload_n 0, 1) := by decide +kernel
theorem dL_areRoomsSo_57 : decode cL_areRoomsSo 57 = .ok (.iload 4, 2) := by decide +kernel
theorem dL_areRoomsSo_59 : decode cL_areRoomsSo 59 = .ok (.invokevirtual 79, 3) := by decide +kernel
theorem dL_areRoomsSo_62 : decode cL_areRoomsSo 62 = .ok (.iload 6, 2) := by decide +kernel
theorem dL_areRoomsSo_64 : decode cL_areRoomsSo 64 = .ok (.lshr, 1) := by decide +kernel
theorem dL_areRoomsSo_65 : decode cL_areRoomsSo 65 = .ok (.lconst 1, 1) := by decide +kernel
theorem dL_areRoomsSo_66 : decode cL_areRoomsSo 66 = .ok (.land, 1) := by decide +kernel
theorem dL_areRoomsSo_67 : decode cL_areRoomsSo 67 = .ok (.lconst 1, 1) := by decide +kernel
theorem dL_areRoomsSo_68 : decode cL_areRoomsSo 68 = .ok (.lcmp, 1) := by decide +kernel
theorem dL_areRoomsSo_69 : decode cL_areRoomsSo 69 = .ok (.ifCond .ne 32, 3) := by decide +kernel
theorem dL_areRoomsSo_72 : decode cL_areRoomsSo 72 = .ok (.aload_n 0, 1) := by decide +kernel
theorem dL_areRoomsSo_73 : decode cL_areRoomsSo 73 = .ok (.iload 6, 2) := by decide +kernel
theorem dL_areRoomsSo_75 : decode cL_areRoomsSo 75 = .ok (.invokevirtual 83, 3) := by decide +kernel
theorem dL_areRoomsSo_78 : decode cL_areRoomsSo 78 = .ok (.iload 5, 2) := by decide +kernel
theorem dL_areRoomsSo_80 : decode cL_areRoomsSo 80 = .ok (.if_icmp .eq 19, 3) := by decide +kernel
theorem dL_areRoomsSo_83 : decode cL_areRoomsSo 83 = .ok (.aload_n 0, 1) := by decide +kernel
theorem dL_areRoomsSo_84 : decode cL_areRoomsSo 84 = .ok (.iload 6, 2) := by decide +kernel
theorem dL_areRoomsSo_86 : decode cL_areRoomsSo 86 = .ok (.invokevirtual 79, 3) := by decide +kernel
theorem dL_areRoomsSo_89 : decode cL_areRoomsSo 89 = .ok (.iload 4, 2) := by decide +kernel
theorem dL_areRoomsSo_91 : decode cL_areRoomsSo 91 = .ok (.lshr, 1) := by decide +kernel
theorem dL_areRoomsSo_92 : decode cL_areRoomsSo 92 = .ok (.lconst 1, 1) := by decide +kernel
theorem dL_areRoomsSo_93 : decode cL_areRoomsSo 93 = .ok (.land, 1) := by decide +kernel
theorem dL_areRoomsSo_94 : decode cL_areRoomsSo 94 = .ok (.lconst 0, 1) := by decide +kernel
theorem dL_areRoomsSo_95 : decode cL_areRoomsSo 95 = .ok (.lcmp, 1) := by decide +kernel
theorem dL_areRoomsSo_96 : decode cL_areRoomsSo 96 = .ok (.ifCond .ne 5, 3) := by decide +kernel
theorem dL_areRoomsSo_99 : decode cL_areRoomsSo 99 = .ok (.iconst 0, 1) := by decide +kernel
theorem dL_areRoomsSo_100 : decode cL_areRoomsSo 100 = .ok (.ireturn, 1) := by decide +kernel
theorem dL_areRoomsSo_101 : decode cL_areRoomsSo 101 = .ok (.iinc 6 1, 3) := by decide +kernel
theorem dL_areRoomsSo_104 : decode cL_areRoomsSo 104 = .ok (.goto (-55), 3) := by decide +kernel
theorem dL_areRoomsSo_107 : decode cL_areRoomsSo 107 = .ok (.iinc 4 1, 3) := by decide +kernel
theorem dL_areRoomsSo_110 : decode cL_areRoomsSo 110 = .ok (.goto (-100), 3) := by decide +kernel
theorem dL_areRoomsSo_113 : decode cL_areRoomsSo 113 = .ok (.aload_n 0, 1) := by decide +kernel
theorem dL_areRoomsSo_114 : decode cL_areRoomsSo 114 = .ok (.invokevirtual 86, 3) := by decide +kernel
theorem dL_areRoomsSo_117 : decode cL_areRoomsSo 117 = .ok (.istore 4, 2) := by decide +kernel
theorem dL_areRoomsSo_119 : decode cL_areRoomsSo 119 = .ok (.lload_n 2, 1) := by decide +kernel
theorem dL_areRoomsSo_120 : decode cL_areRoomsSo 120 = .ok (.lconst 1, 1) := by decide +kernel
theorem dL_areRoomsSo_121 : decode cL_areRoomsSo 121 = .ok (.iload_n 1, 1) := by decide +kernel
theorem dL_areRoomsSo_122 : decode cL_areRoomsSo 122 = .ok (.lshl, 1) := by decide +kernel
theorem dL_areRoomsSo_123 : decode cL_areRoomsSo 123 = .ok (.lconst 1, 1) := by decide +kernel
