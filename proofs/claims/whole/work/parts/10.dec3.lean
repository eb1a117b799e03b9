theorem dX5_init_0 : decode cX5_init 0 = .ok (.aload_n 0, 1) := by decide +kernel
theorem dX5_init_1 : decode cX5_init 1 = .ok (.invokespecial 1, 3) := by decide +kernel
theorem dX5_init_4 : decode cX5_init 4 = .ok (.aload_n 0, 1) := by decide +kernel
theorem dX5_init_5 : decode cX5_init 5 = .ok (.bipush 40, 2) := by decide +kernel
theorem dX5_init_7 : decode cX5_init 7 = .ok (.newarray .int, 2) := by decide +kernel
theorem dX5_init_9 : decode cX5_init 9 = .ok (.putfield 7, 3) := by decide +kernel
theorem dX5_init_12 : decode cX5_init 12 = .ok (.aload_n 0, 1) := by decide +kernel
theorem dX5_init_13 : decode cX5_init 13 = .ok (.bipush 40, 2) := by decide +kernel
theorem dX5_init_15 : decode cX5_init 15 = .ok (.newarray .int, 2) := by decide +kernel
theorem dX5_init_17 : decode cX5_init 17 = .ok (.putfield 13, 3) := by decide +kernel
theorem dX5_init_20 : decode cX5_init 20 = .ok (.aload_n 0, 1) := by decide +kernel
theorem dX5_init_21 : decode cX5_init 21 = .ok (.bipush 40, 2) := by decide +kernel
theorem dX5_init_23 : decode cX5_init 23 = .ok (.newarray .int, 2) := by decide +kernel
theorem dX5_init_25 : decode cX5_init 25 = .ok (.putfield 16, 3) := by decide +kernel
theorem dX5_init_28 : decode cX5_init 28 = .ok (.aload_n 0, 1) := by decide +kernel
theorem dX5_init_29 : decode cX5_init 29 = .ok (.bipush 40, 2) := by decide +kernel
theorem dX5_init_31 : decode cX5_init 31 = .ok (.newarray .boolean, 2) := by decide +kernel
theorem dX5_init_33 : decode cX5_init 33 = .ok (.putfield 19, 3) := by decide +kernel
theorem dX5_init_36 : decode cX5_init 36 = .ok (.aload_n 0, 1) := by decide +kernel
theorem dX5_init_37 : decode cX5_init 37 = .ok (.bipush 40, 2) := by decide +kernel
theorem dX5_init_39 : decode cX5_init 39 = .ok (.newarray .int, 2) := by decide +kernel
theorem dX5_init_41 : decode cX5_init 41 = .ok (.putfield 23, 3) := by decide +kernel
theorem dX5_init_44 : decode cX5_init 44 = .ok (.aload_n 0, 1) := by decide +kernel
theorem dX5_init_45 : decode cX5_init 45 = .ok (.bipush 100, 2) := by decide +kernel
theorem dX5_init_47 : decode cX5_init 47 = .ok (.putfield 26, 3) := by decide +kernel
theorem dX5_init_50 : decode cX5_init 50 = .ok (.aload_n 0, 1) := by decide +kernel
theorem dX5_init_51 : decode cX5_init 51 = .ok (.bipush 40, 2) := by decide +kernel
theorem dX5_init_53 : decode cX5_init 53 = .ok (.newarray .boolean, 2) := by decide +kernel
theorem dX5_init_55 : decode cX5_init 55 = .ok (.putfield 30, 3) := by decide +kernel
theorem dX5_init_58 : decode cX5_init 58 = .ok (.aload_n 0, 1) := by decide +kernel
theorem dX5_init_59 : decode cX5_init 59 = .ok (.bipush 40, 2) := by decide +kernel
theorem dX5_init_61 : decode cX5_init 61 = .ok (.newarray .boolean, 2) := by decide +kernel
theorem dX5_init_63 : decode cX5_init 63 = .ok (.putfield 33, 3) := by decide +kernel
theorem dX5_init_66 : decode cX5_init 66 = .ok (.aload_n 0, 1) := by decide +kernel
theorem dX5_init_67 : decode cX5_init 67 = .ok (.sipush 1001, 3) := by decide +kernel
theorem dX5_init_70 : decode cX5_init 70 = .ok (.newarray .int, 2) := by decide +kernel
theorem dX5_init_72 : decode cX5_init 72 = .ok (.putfield 36, 3) := by decide +kernel
theorem dX5_init_75 : decode cX5_init 75 = .ok (.aload_n 0, 1) := by decide +kernel
theorem dX5_init_76 : decode cX5_init 76 = .ok (.bipush 40, 2) := by decide +kernel
theorem dX5_init_78 : decode cX5_init 78 = .ok (.newarray .int, 2) := by decide +kernel
theorem dX5_init_80 : decode cX5_init 80 = .ok (.putfield 39, 3) := by decide +kernel
theorem dX5_init_83 : decode cX5_init 83 = .ok (.aload_n 0, 1) := by decide +kernel
theorem dX5_init_84 : decode cX5_init 84 = .ok (.bipush 40, 2) := by decide +kernel
theorem dX5_init_86 : decode cX5_init 86 = .ok (.newarray .int, 2) := by decide +kernel
theorem dX5_init_88 : decode cX5_init 88 = .ok (.putfield 42, 3) := by decide +kernel
theorem dX5_init_91 : decode cX5_init 91 = .ok (.aload_n 0, 1) := by decide +kernel
theorem dX5_init_92 : decode cX5_init 92 = .ok (.bipush 40, 2) := by decide +kernel
theorem dX5_init_94 : decode cX5_init 94 = .ok (.newarray .int, 2) := by decide +kernel
theorem dX5_init_96 : decode cX5_init 96 = .ok (.putfield 45, 3) := by decide +kernel
theorem dX5_init_99 : decode cX5_init 99 = .ok (.aload_n 0, 1) := by decide +kernel
theorem dX5_init_100 : decode cX5_init 100 = .ok (.bipush 40, 2) := by decide +kernel
theorem dX5_init_102 : decode cX5_init 102 = .ok (.newarray .boolean, 2) := by decide +kernel
theorem dX5_init_104 : decode cX5_init 104 = .ok (.putfield 48, 3) := by decide +kernel
theorem dX5_init_107 : decode cX5_init 107 = .ok (.aload_n 0, 1) := by decide +kernel
theorem dX5_init_108 : decode cX5_init 108 = .ok (.bipush 80, 2) := by decide +kernel
theorem dX5_init_110 : decode cX5_init 110 = .ok (.newarray .int, 2) := by decide +kernel
theorem dX5_init_112 : decode cX5_init 112 = .ok (.putfield 51, 3) := by decide +kernel
theorem dX5_init_115 : decode cX5_init 115 = .ok (.aload_n 0, 1) := by decide +kernel
theorem dX5_init_116 : decode cX5_init 116 = .ok (.bipush 80, 2) := by decide +kernel
theorem dX5_init_118 : decode cX5_init 118 = .ok (.newarray .int, 2) := by decide +kernel
theorem dX5_init_120 : decode cX5_init 120 = .ok (.putfield 54, 3) := by decide +kernel
theorem dX5_init_123 : decode cX5_init 123 = .ok (.aload_n 0, 1) := by decide +kernel
theorem dX5_init_124 : decode cX5_init 124 = .ok (.bipush 40, 2) := by decide +kernel
theorem dX5_init_126 : decode cX5_init 126 = .ok (.newarray .boolean, 2) := by decide +kernel
theorem dX5_init_128 : decode cX5_init 128 = .ok (.putfield 57, 3) := by decide +kernel
theorem dX5_init_131 : decode cX5_init 131 = .ok (.aload_n 0, 1) := by decide +kernel
theorem dX5_init_132 : decode cX5_init 132 = .ok (.bipush 80, 2) := by decide +kernel
theorem dX5_init_134 : decode cX5_init 134 = .ok (.newarray .int, 2) := by decide +kernel
theorem dX5_init_136 : decode cX5_init 136 = .ok (.putfield 60, 3) := by decide +kernel
theorem dX5_init_139 : decode cX5_init 139 = .ok (.aload_n 0, 1) := by decide +kernel
theorem dX5_init_140 : decode cX5_init 140 = .ok (.bipush 80, 2) := by decide +kernel
theorem dX5_init_142 : decode cX5_init 142 = .ok (.newarray .int, 2) := by decide +kernel
theorem dX5_init_144 : decode cX5_init 144 = .ok (.putfield 63, 3) := by decide +kernel
theorem dX5_init_147 : decode cX5_init 147 = .ok (.return_, 1) := by decide +kernel
theorem dX5_thrown_0 : decode cX5_thrown 0 = .ok (.aload_n 0, 1) := by decide +kernel
theorem dX5_thrown_1 : decode cX5_thrown 1 = .ok (.getfield 66, 3) := by decide +kernel
theorem dX5_thrown_4 : decode cX5_thrown 4 = .ok (.ireturn, 1) := by decide +kernel
theorem dX5_goesWell_0 : decode cX5_goesWell 0 = .ok (.aload_n 0, 1) := by decide +kernel
theorem dX5_goesWell_1 : decode cX5_goesWell 1 = .ok (.iload_n 1, 1) := by decide +kernel
theorem dX5_goesWell_2 : decode cX5_goesWell 2 = .ok (.putfield 66, 3) := by decide +kernel
theorem dX5_goesWell_5 : decode cX5_goesWell 5 = .ok (.iload_n 1, 1) := by decide +kernel
theorem dX5_goesWell_6 : decode cX5_goesWell 6 = .ok (.ifCond .ne 7, 3) := by decide +kernel
theorem dX5_goesWell_9 : decode cX5_goesWell 9 = .ok (.iconst 1, 1) := by decide +kernel
theorem dX5_goesWell_10 : decode cX5_goesWell 10 = .ok (.goto 4, 3) := by decide +kernel
theorem dX5_goesWell_13 : decode cX5_goesWell 13 = .ok (.iconst 0, 1) := by decide +kernel
theorem dX5_goesWell_14 : decode cX5_goesWell 14 = .ok (.ireturn, 1) := by decide +kernel
theorem dX5_in_0 : decode cX5_in 0 = .ok (.iload_n 0, 1) := by decide +kernel
theorem dX5_in_1 : decode cX5_in 1 = .ok (.iload_n 1, 1) := by decide +kernel
theorem dX5_in_2 : decode cX5_in 2 = .ok (.if_icmp .lt 12, 3) := by decide +kernel
theorem dX5_in_5 : decode cX5_in 5 = .ok (.iload_n 0, 1) := by decide +kernel
theorem dX5_in_6 : decode cX5_in 6 = .ok (.iload_n 2, 1) := by decide +kernel
theorem dX5_in_7 : decode cX5_in 7 = .ok (.if_icmp .gt 7, 3) := by decide +kernel
theorem dX5_in_10 : decode cX5_in 10 = .ok (.iconst 1, 1) := by decide +kernel
theorem dX5_in_11 : decode cX5_in 11 = .ok (.goto 4, 3) := by decide +kernel
theorem dX5_in_14 : decode cX5_in 14 = .ok (.iconst 0, 1) := by decide +kernel
theorem dX5_in_15 : decode cX5_in 15 = .ok (.ireturn, 1) := by decide +kernel
theorem dX5_is_0 : decode cX5_is 0 = .ok (.iload_n 1, 1) := by decide +kernel
theorem dX5_is_1 : decode cX5_is 1 = .ok (.iconst 0, 1) := by decide +kernel
theorem dX5_is_2 : decode cX5_is 2 = .ok (.aload_n 0, 1) := by decide +kernel
theorem dX5_is_3 : decode cX5_is 3 = .ok (.getfield 69, 3) := by decide +kernel
theorem dX5_is_6 : decode cX5_is 6 = .ok (.iconst 1, 1) := by decide +kernel
theorem dX5_is_7 : decode cX5_is 7 = .ok (.isub, 1) := by decide +kernel
theorem dX5_is_8 : decode cX5_is 8 = .ok (.invokestatic 72, 3) := by decide +kernel
theorem dX5_is_11 : decode cX5_is 11 = .ok (.ifCond .eq 16, 3) := by decide +kernel
theorem dX5_is_14 : decode cX5_is 14 = .ok (.aload_n 0, 1) := by decide +kernel
theorem dX5_is_15 : decode cX5_is 15 = .ok (.getfield 19, 3) := by decide +kernel
theorem dX5_is_18 : decode cX5_is 18 = .ok (.iload_n 1, 1) := by decide +kernel
theorem dX5_is_19 : decode cX5_is 19 = .ok (.baload, 1) := by decide +kernel
theorem dX5_is_20 : decode cX5_is 20 = .ok (.ifCond .eq 7, 3) := by decide +kernel
theorem dX5_is_23 : decode cX5_is 23 = .ok (.iconst 1, 1) := by decide +kernel
theorem dX5_is_24 : decode cX5_is 24 = .ok (.goto 4, 3) := by decide +kernel
theorem dX5_is_27 : decode cX5_is 27 = .ok (.iconst 0, 1) := by decide +kernel
theorem dX5_is_28 : decode cX5_is 28 = .ok (.ireturn, 1) := by decide +kernel
theorem dX5_count_0 : decode cX5_count 0 = .ok (.iconst 0, 1) := by decide +kernel
theorem dX5_count_1 : decode cX5_count 1 = .ok (.istore_n 1, 1) := by decide +kernel
theorem dX5_count_2 : decode cX5_count 2 = .ok (.iconst 0, 1) := by decide +kernel
theorem dX5_count_3 : decode cX5_count 3 = .ok (.istore_n 2, 1) := by decide +kernel
theorem dX5_count_4 : decode cX5_count 4 = .ok (.iload_n 2, 1) := by decide +kernel
theorem dX5_count_5 : decode cX5_count 5 = .ok (.aload_n 0, 1) := by decide +kernel
theorem dX5_count_6 : decode cX5_count 6 = .ok (.getfield 69, 3) := by decide +kernel
theorem dX5_count_9 : decode cX5_count 9 = .ok (.if_icmp .ge 26, 3) := by decide +kernel
theorem dX5_count_12 : decode cX5_count 12 = .ok (.iload_n 1, 1) := by decide +kernel
theorem dX5_count_13 : decode cX5_count 13 = .ok (.aload_n 0, 1) := by decide +kernel
theorem dX5_count_14 : decode cX5_count 14 = .ok (.getfield 19, 3) := by decide +kernel
theorem dX5_count_17 : decode cX5_count 17 = .ok (.iload_n 2, 1) := by decide +kernel
theorem dX5_count_18 : decode cX5_count 18 = .ok (.baload, 1) := by decide +kernel
theorem dX5_count_19 : decode cX5_count 19 = .ok (.ifCond .eq 7, 3) := by decide +kernel
theorem dX5_count_22 : decode cX5_count 22 = .ok (.iconst 1, 1) := by decide +kernel
theorem dX5_count_23 : decode cX5_count 23 = .ok (.goto 4, 3) := by decide +kernel
theorem dX5_count_26 : decode cX5_count 26 = .ok (.iconst 0, 1) := by decide +kernel
theorem dX5_count_27 : decode cX5_count 27 = .ok (.iadd, 1) := by decide +kernel
theorem dX5_count_28 : decode cX5_count 28 = .ok (.istore_n 1, 1) := by decide +kernel
theorem dX5_count_29 : decode cX5_count 29 = .ok (.iinc 2 1, 3) := by decide +kernel
theorem dX5_count_32 : decode cX5_count 32 = .ok (.goto (-28), 3) := by decide +kernel
theorem dX5_count_35 : decode cX5_count 35 = .ok (.iload_n 1, 1) := by decide +kernel
theorem dX5_count_36 : decode cX5_count 36 = .ok (.ireturn, 1) := by decide +kernel
theorem dX5_add_0 : decode cX5_add 0 = .ok (.iload_n 1, 1) := by decide +kernel
theorem dX5_add_1 : decode cX5_add 1 = .ok (.iconst 0, 1) := by decide +kernel
theorem dX5_add_2 : decode cX5_add 2 = .ok (.sipush 999, 3) := by decide +kernel
theorem dX5_add_5 : decode cX5_add 5 = .ok (.invokestatic 72, 3) := by decide +kernel
theorem dX5_add_8 : decode cX5_add 8 = .ok (.ifCond .eq 30, 3) := by decide +kernel
theorem dX5_add_11 : decode cX5_add 11 = .ok (.iload_n 2, 1) := by decide +kernel
theorem dX5_add_12 : decode cX5_add 12 = .ok (.iload_n 1, 1) := by decide +kernel
theorem dX5_add_13 : decode cX5_add 13 = .ok (.if_icmp .le 25, 3) := by decide +kernel
theorem dX5_add_16 : decode cX5_add 16 = .ok (.iload_n 2, 1) := by decide +kernel
theorem dX5_add_17 : decode cX5_add 17 = .ok (.sipush 1000, 3) := by decide +kernel
theorem dX5_add_20 : decode cX5_add 20 = .ok (.if_icmp .gt 18, 3) := by decide +kernel
theorem dX5_add_23 : decode cX5_add 23 = .ok (.iload_n 3, 1) := by decide +kernel
theorem dX5_add_24 : decode cX5_add 24 = .ok (.iconst 1, 1) := by decide +kernel
theorem dX5_add_25 : decode cX5_add 25 = .ok (.sipush 1000, 3) := by decide +kernel
theorem dX5_add_28 : decode cX5_add 28 = .ok (.invokestatic 72, 3) := by decide +kernel
theorem dX5_add_31 : decode cX5_add 31 = .ok (.ifCond .eq 7, 3) := by decide +kernel
theorem dX5_add_34 : decode cX5_add 34 = .ok (.iconst 1, 1) := by decide +kernel
theorem dX5_add_35 : decode cX5_add 35 = .ok (.goto 4, 3) := by decide +kernel
theorem dX5_add_38 : decode cX5_add 38 = .ok (.iconst 0, 1) := by decide +kernel
theorem dX5_add_39 : decode cX5_add 39 = .ok (.istore 4, 2) := by decide +kernel
theorem dX5_add_41 : decode cX5_add 41 = .ok (.aload_n 0, 1) := by decide +kernel
theorem dX5_add_42 : decode cX5_add 42 = .ok (.iload 4, 2) := by decide +kernel
theorem dX5_add_44 : decode cX5_add 44 = .ok (.ifCond .ne 7, 3) := by decide +kernel
theorem dX5_add_47 : decode cX5_add 47 = .ok (.iconst 1, 1) := by decide +kernel
theorem dX5_add_48 : decode cX5_add 48 = .ok (.goto 17, 3) := by decide +kernel
theorem dX5_add_51 : decode cX5_add 51 = .ok (.aload_n 0, 1) := by decide +kernel
theorem dX5_add_52 : decode cX5_add 52 = .ok (.getfield 69, 3) := by decide +kernel
theorem dX5_add_55 : decode cX5_add 55 = .ok (.bipush 40, 2) := by decide +kernel
theorem dX5_add_57 : decode cX5_add 57 = .ok (.if_icmp .ne 7, 3) := by decide +kernel
theorem dX5_add_60 : decode cX5_add 60 = .ok (.iconst 2, 1) := by decide +kernel
theorem dX5_add_61 : decode cX5_add 61 = .ok (.goto 4, 3) := by decide +kernel
theorem dX5_add_64 : decode cX5_add 64 = .ok (.iconst 0, 1) := by decide +kernel
theorem dX5_add_65 : decode cX5_add 65 = .ok (.invokevirtual 76, 3) := by decide +kernel
theorem dX5_add_68 : decode cX5_add 68 = .ok (.ifCond .ne 5, 3) := by decide +kernel
theorem dX5_add_71 : decode cX5_add 71 = .ok (.iconst 0, 1) := by decide +kernel
theorem dX5_add_72 : decode cX5_add 72 = .ok (.ireturn, 1) := by decide +kernel
theorem dX5_add_73 : decode cX5_add 73 = .ok (.aload_n 0, 1) := by decide +kernel
theorem dX5_add_74 : decode cX5_add 74 = .ok (.getfield 7, 3) := by decide +kernel
theorem dX5_add_77 : decode cX5_add 77 = .ok (.aload_n 0, 1) := by decide +kernel
theorem dX5_add_78 : decode cX5_add 78 = .ok (.getfield 69, 3) := by decide +kernel
theorem dX5_add_81 : decode cX5_add 81 = .ok (.iload_n 1, 1) := by decide +kernel
theorem dX5_add_82 : decode cX5_add 82 = .ok (.iastore, 1) := by decide +kernel
theorem dX5_add_83 : decode cX5_add 83 = .ok (.aload_n 0, 1) := by decide +kernel
theorem dX5_add_84 : decode cX5_add 84 = .ok (.getfield 13, 3) := by decide +kernel
theorem dX5_add_87 : decode cX5_add 87 = .ok (.aload_n 0, 1) := by decide +kernel
theorem dX5_add_88 : decode cX5_add 88 = .ok (.getfield 69, 3) := by decide +kernel
theorem dX5_add_91 : decode cX5_add 91 = .ok (.iload_n 2, 1) := by decide +kernel
theorem dX5_add_92 : decode cX5_add 92 = .ok (.iastore, 1) := by decide +kernel
theorem dX5_add_93 : decode cX5_add 93 = .ok (.aload_n 0, 1) := by decide +kernel
theorem dX5_add_94 : decode cX5_add 94 = .ok (.getfield 16, 3) := by decide +kernel
theorem dX5_add_97 : decode cX5_add 97 = .ok (.aload_n 0, 1) := by decide +kernel
theorem dX5_add_98 : decode cX5_add 98 = .ok (.getfield 69, 3) := by decide +kernel
theorem dX5_add_101 : decode cX5_add 101 = .ok (.iload_n 3, 1) := by decide +kernel
theorem dX5_add_102 : decode cX5_add 102 = .ok (.iastore, 1) := by decide +kernel
theorem dX5_add_103 : decode cX5_add 103 = .ok (.aload_n 0, 1) := by decide +kernel
theorem dX5_add_104 : decode cX5_add 104 = .ok (.getfield 19, 3) := by decide +kernel
theorem dX5_add_107 : decode cX5_add 107 = .ok (.aload_n 0, 1) := by decide +kernel
theorem dX5_add_108 : decode cX5_add 108 = .ok (.getfield 69, 3) := by decide +kernel
theorem dX5_add_111 : decode cX5_add 111 = .ok (.iconst 1, 1) := by decide +kernel
theorem dX5_add_112 : decode cX5_add 112 = .ok (.bastore, 1) := by decide +kernel
theorem dX5_add_113 : decode cX5_add 113 = .ok (.aload_n 0, 1) := by decide +kernel
theorem dX5_add_114 : decode cX5_add 114 = .ok (.dup, 1) := by decide +kernel
theorem dX5_add_115 : decode cX5_add 115 = .ok (.getfield 69, 3) := by decide +kernel
theorem dX5_add_118 : decode cX5_add 118 = .ok (.iconst 1, 1) := by decide +kernel
theorem dX5_add_119 : decode cX5_add 119 = .ok (.iadd, 1) := by decide +kernel
theorem dX5_add_120 : decode cX5_add 120 = .ok (.putfield 69, 3) := by decide +kernel
theorem dX5_add_123 : decode cX5_add 123 = .ok (.aload_n 0, 1) := by decide +kernel
theorem dX5_add_124 : decode cX5_add 124 = .ok (.getfield 69, 3) := by decide +kernel
theorem dX5_add_127 : decode cX5_add 127 = .ok (.iconst 1, 1) := by decide +kernel
theorem dX5_add_128 : decode cX5_add 128 = .ok (.isub, 1) := by decide +kernel
theorem dX5_add_129 : decode cX5_add 129 = .ok (.ireturn, 1) := by decide +kernel
theorem dX5_remove_0 : decode cX5_remove 0 = .ok (.aload_n 0, 1) := by decide +kernel
theorem dX5_remove_1 : decode cX5_remove 1 = .ok (.aload_n 0, 1) := by decide +kernel
theorem dX5_remove_2 : decode cX5_remove 2 = .ok (.iload_n 1, 1) := by decide +kernel
theorem dX5_remove_3 : decode cX5_remove 3 = .ok (.invokevirtual 80, 3) := by decide +kernel
theorem dX5_remove_6 : decode cX5_remove 6 = .ok (.ifCond .eq 7, 3) := by decide +kernel
theorem dX5_remove_9 : decode cX5_remove 9 = .ok (.iconst 0, 1) := by decide +kernel
theorem dX5_remove_10 : decode cX5_remove 10 = .ok (.goto 4, 3) := by decide +kernel
theorem dX5_remove_13 : decode cX5_remove 13 = .ok (.iconst 1, 1) := by decide +kernel
theorem dX5_remove_14 : decode cX5_remove 14 = .ok (.invokevirtual 76, 3) := by decide +kernel
theorem dX5_remove_17 : decode cX5_remove 17 = .ok (.ifCond .ne 5, 3) := by decide +kernel
theorem dX5_remove_20 : decode cX5_remove 20 = .ok (.iconst 0, 1) := by decide +kernel
theorem dX5_remove_21 : decode cX5_remove 21 = .ok (.ireturn, 1) := by decide +kernel
theorem dX5_remove_22 : decode cX5_remove 22 = .ok (.aload_n 0, 1) := by decide +kernel
theorem dX5_remove_23 : decode cX5_remove 23 = .ok (.getfield 19, 3) := by decide +kernel
theorem dX5_remove_26 : decode cX5_remove 26 = .ok (.iload_n 1, 1) := by decide +kernel
theorem dX5_remove_27 : decode cX5_remove 27 = .ok (.iconst 0, 1) := by decide +kernel
theorem dX5_remove_28 : decode cX5_remove 28 = .ok (.bastore, 1) := by decide +kernel
theorem dX5_remove_29 : decode cX5_remove 29 = .ok (.aload_n 0, 1) := by decide +kernel
theorem dX5_remove_30 : decode cX5_remove 30 = .ok (.getfield 33, 3) := by decide +kernel
theorem dX5_remove_33 : decode cX5_remove 33 = .ok (.iload_n 1, 1) := by decide +kernel
theorem dX5_remove_34 : decode cX5_remove 34 = .ok (.iconst 0, 1) := by decide +kernel
theorem dX5_remove_35 : decode cX5_remove 35 = .ok (.bastore, 1) := by decide +kernel
theorem dX5_remove_36 : decode cX5_remove 36 = .ok (.aload_n 0, 1) := by decide +kernel
theorem dX5_remove_37 : decode cX5_remove 37 = .ok (.invokevirtual 83, 3) := by decide +kernel
theorem dX5_remove_40 : decode cX5_remove 40 = .ok (.ireturn, 1) := by decide +kernel
theorem dX5_move_0 : decode cX5_move 0 = .ok (.aload_n 0, 1) := by decide +kernel
theorem dX5_move_1 : decode cX5_move 1 = .ok (.iload_n 1, 1) := by decide +kernel
theorem dX5_move_2 : decode cX5_move 2 = .ok (.invokevirtual 80, 3) := by decide +kernel
theorem dX5_move_5 : decode cX5_move 5 = .ok (.ifCond .eq 19, 3) := by decide +kernel
theorem dX5_move_8 : decode cX5_move 8 = .ok (.aload_n 0, 1) := by decide +kernel
theorem dX5_move_9 : decode cX5_move 9 = .ok (.getfield 13, 3) := by decide +kernel
theorem dX5_move_12 : decode cX5_move 12 = .ok (.iload_n 1, 1) := by decide +kernel
theorem dX5_move_13 : decode cX5_move 13 = .ok (.iaload, 1) := by decide +kernel
theorem dX5_move_14 : decode cX5_move 14 = .ok (.aload_n 0, 1) := by decide +kernel
theorem dX5_move_15 : decode cX5_move 15 = .ok (.getfield 7, 3) := by decide +kernel
theorem dX5_move_18 : decode cX5_move 18 = .ok (.iload_n 1, 1) := by decide +kernel
theorem dX5_move_19 : decode cX5_move 19 = .ok (.iaload, 1) := by decide +kernel
theorem dX5_move_20 : decode cX5_move 20 = .ok (.isub, 1) := by decide +kernel
theorem dX5_move_21 : decode cX5_move 21 = .ok (.goto 4, 3) := by decide +kernel
theorem dX5_move_24 : decode cX5_move 24 = .ok (.iconst 0, 1) := by decide +kernel
theorem dX5_move_25 : decode cX5_move 25 = .ok (.istore_n 3, 1) := by decide +kernel
theorem dX5_move_26 : decode cX5_move 26 = .ok (.iload_n 2, 1) := by decide +kernel
theorem dX5_move_27 : decode cX5_move 27 = .ok (.iconst 0, 1) := by decide +kernel
theorem dX5_move_28 : decode cX5_move 28 = .ok (.sipush 999, 3) := by decide +kernel
theorem dX5_move_31 : decode cX5_move 31 = .ok (.invokestatic 72, 3) := by decide +kernel
theorem dX5_move_34 : decode cX5_move 34 = .ok (.ifCond .eq 16, 3) := by decide +kernel
theorem dX5_move_37 : decode cX5_move 37 = .ok (.iload_n 2, 1) := by decide +kernel
theorem dX5_move_38 : decode cX5_move 38 = .ok (.iload_n 3, 1) := by decide +kernel
theorem dX5_move_39 : decode cX5_move 39 = .ok (.iadd, 1) := by decide +kernel
theorem dX5_move_40 : decode cX5_move 40 = .ok (.sipush 1000, 3) := by decide +kernel
theorem dX5_move_43 : decode cX5_move 43 = .ok (.if_icmp .gt 7, 3) := by decide +kernel
theorem dX5_move_46 : decode cX5_move 46 = .ok (.iconst 1, 1) := by decide +kernel
theorem dX5_move_47 : decode cX5_move 47 = .ok (.goto 4, 3) := by decide +kernel
theorem dX5_move_50 : decode cX5_move 50 = .ok (.iconst 0, 1) := by decide +kernel
theorem dX5_move_51 : decode cX5_move 51 = .ok (.istore 4, 2) := by decide +kernel
theorem dX5_move_53 : decode cX5_move 53 = .ok (.aload_n 0, 1) := by decide +kernel
theorem dX5_move_54 : decode cX5_move 54 = .ok (.aload_n 0, 1) := by decide +kernel
theorem dX5_move_55 : decode cX5_move 55 = .ok (.iload_n 1, 1) := by decide +kernel
theorem dX5_move_56 : decode cX5_move 56 = .ok (.invokevirtual 80, 3) := by decide +kernel
theorem dX5_move_59 : decode cX5_move 59 = .ok (.ifCond .ne 7, 3) := by decide +kernel
theorem dX5_move_62 : decode cX5_move 62 = .ok (.iconst 1, 1) := by decide +kernel
theorem dX5_move_63 : decode cX5_move 63 = .ok (.goto 13, 3) := by decide +kernel
theorem dX5_move_66 : decode cX5_move 66 = .ok (.iload 4, 2) := by decide +kernel
theorem dX5_move_68 : decode cX5_move 68 = .ok (.ifCond .eq 7, 3) := by decide +kernel
theorem dX5_move_71 : decode cX5_move 71 = .ok (.iconst 0, 1) := by decide +kernel
theorem dX5_move_72 : decode cX5_move 72 = .ok (.goto 4, 3) := by decide +kernel
theorem dX5_move_75 : decode cX5_move 75 = .ok (.iconst 2, 1) := by decide +kernel
theorem dX5_move_76 : decode cX5_move 76 = .ok (.invokevirtual 76, 3) := by decide +kernel
theorem dX5_move_79 : decode cX5_move 79 = .ok (.ifCond .ne 5, 3) := by decide +kernel
theorem dX5_move_82 : decode cX5_move 82 = .ok (.iconst 0, 1) := by decide +kernel
theorem dX5_move_83 : decode cX5_move 83 = .ok (.ireturn, 1) := by decide +kernel
theorem dX5_move_84 : decode cX5_move 84 = .ok (.aload_n 0, 1) := by decide +kernel
theorem dX5_move_85 : decode cX5_move 85 = .ok (.getfield 7, 3) := by decide +kernel
theorem dX5_move_88 : decode cX5_move 88 = .ok (.iload_n 1, 1) := by decide +kernel
theorem dX5_move_89 : decode cX5_move 89 = .ok (.iaload, 1) := by decide +kernel
theorem dX5_move_90 : decode cX5_move 90 = .ok (.istore 5, 2) := by decide +kernel
theorem dX5_move_92 : decode cX5_move 92 = .ok (.aload_n 0, 1) := by decide +kernel
theorem dX5_move_93 : decode cX5_move 93 = .ok (.getfield 7, 3) := by decide +kernel
theorem dX5_move_96 : decode cX5_move 96 = .ok (.iload_n 1, 1) := by decide +kernel
theorem dX5_move_97 : decode cX5_move 97 = .ok (.iload_n 2, 1) := by decide +kernel
theorem dX5_move_98 : decode cX5_move 98 = .ok (.iastore, 1) := by decide +kernel
theorem dX5_move_99 : decode cX5_move 99 = .ok (.aload_n 0, 1) := by decide +kernel
theorem dX5_move_100 : decode cX5_move 100 = .ok (.getfield 13, 3) := by decide +kernel
theorem dX5_move_103 : decode cX5_move 103 = .ok (.iload_n 1, 1) := by decide +kernel
theorem dX5_move_104 : decode cX5_move 104 = .ok (.iload_n 2, 1) := by decide +kernel
theorem dX5_move_105 : decode cX5_move 105 = .ok (.iload_n 3, 1) := by decide +kernel
theorem dX5_move_106 : decode cX5_move 106 = .ok (.iadd, 1) := by decide +kernel
theorem dX5_move_107 : decode cX5_move 107 = .ok (.iastore, 1) := by decide +kernel
theorem dX5_move_108 : decode cX5_move 108 = .ok (.aload_n 0, 1) := by decide +kernel
theorem dX5_move_109 : decode cX5_move 109 = .ok (.getfield 33, 3) := by decide +kernel
theorem dX5_move_112 : decode cX5_move 112 = .ok (.iload_n 1, 1) := by decide +kernel
theorem dX5_move_113 : decode cX5_move 113 = .ok (.iconst 0, 1) := by decide +kernel
theorem dX5_move_114 : decode cX5_move 114 = .ok (.bastore, 1) := by decide +kernel
theorem dX5_move_115 : decode cX5_move 115 = .ok (.iload 5, 2) := by decide +kernel
theorem dX5_move_117 : decode cX5_move 117 = .ok (.ireturn, 1) := by decide +kernel
theorem dX5_intervals_0 : decode cX5_intervals 0 = .ok (.aload_n 0, 1) := by decide +kernel
theorem dX5_intervals_1 : decode cX5_intervals 1 = .ok (.iconst 0, 1) := by decide +kernel
theorem dX5_intervals_2 : decode cX5_intervals 2 = .ok (.putfield 66, 3) := by decide +kernel
theorem dX5_intervals_5 : decode cX5_intervals 5 = .ok (.aload_n 0, 1) := by decide +kernel
theorem dX5_intervals_6 : decode cX5_intervals 6 = .ok (.invokevirtual 83, 3) := by decide +kernel
theorem dX5_intervals_9 : decode cX5_intervals 9 = .ok (.ireturn, 1) := by decide +kernel
theorem dX5_present_0 : decode cX5_present 0 = .ok (.aload_n 0, 1) := by decide +kernel
theorem dX5_present_1 : decode cX5_present 1 = .ok (.iconst 0, 1) := by decide +kernel
theorem dX5_present_2 : decode cX5_present 2 = .ok (.putfield 66, 3) := by decide +kernel
theorem dX5_present_5 : decode cX5_present 5 = .ok (.lconst 0, 1) := by decide +kernel
theorem dX5_present_6 : decode cX5_present 6 = .ok (.lstore_n 1, 1) := by decide +kernel
theorem dX5_present_7 : decode cX5_present 7 = .ok (.iconst 0, 1) := by decide +kernel
theorem dX5_present_8 : decode cX5_present 8 = .ok (.istore_n 3, 1) := by decide +kernel
theorem dX5_present_9 : decode cX5_present 9 = .ok (.iload_n 3, 1) := by decide +kernel
theorem dX5_present_10 : decode cX5_present 10 = .ok (.aload_n 0, 1) := by decide +kernel
theorem dX5_present_11 : decode cX5_present 11 = .ok (.getfield 69, 3) := by decide +kernel
theorem dX5_present_14 : decode cX5_present 14 = .ok (.if_icmp .ge 28, 3) := by decide +kernel
theorem dX5_present_17 : decode cX5_present 17 = .ok (.lload_n 1, 1) := by decide +kernel
theorem dX5_present_18 : decode cX5_present 18 = .ok (.aload_n 0, 1) := by decide +kernel
theorem dX5_present_19 : decode cX5_present 19 = .ok (.getfield 19, 3) := by decide +kernel
theorem dX5_present_22 : decode cX5_present 22 = .ok (.iload_n 3, 1) := by decide +kernel
theorem dX5_present_23 : decode cX5_present 23 = .ok (.baload, 1) := by decide +kernel
theorem dX5_present_24 : decode cX5_present 24 = .ok (.ifCond .eq 9, 3) := by decide +kernel
theorem dX5_present_27 : decode cX5_present 27 = .ok (.lconst 1, 1) := by decide +kernel
theorem dX5_present_28 : decode cX5_present 28 = .ok (.iload_n 3, 1) := by decide +kernel
theorem dX5_present_29 : decode cX5_present 29 = .ok (.lshl, 1) := by decide +kernel
theorem dX5_present_30 : decode cX5_present 30 = .ok (.goto 4, 3) := by decide +kernel
theorem dX5_present_33 : decode cX5_present 33 = .ok (.lconst 0, 1) := by decide +kernel
theorem dX5_present_34 : decode cX5_present 34 = .ok (.lor, 1) := by decide +kernel
theorem dX5_present_35 : decode cX5_present 35 = .ok (.lstore_n 1, 1) := by decide +kernel
theorem dX5_present_36 : decode cX5_present 36 = .ok (.iinc 3 1, 3) := by decide +kernel
theorem dX5_present_39 : decode cX5_present 39 = .ok (.goto (-30), 3) := by decide +kernel
theorem dX5_present_42 : decode cX5_present 42 = .ok (.lload_n 1, 1) := by decide +kernel
theorem dX5_present_43 : decode cX5_present 43 = .ok (.lreturn, 1) := by decide +kernel
theorem dX5_overlap_0 : decode cX5_overlap 0 = .ok (.aload_n 0, 1) := by decide +kernel
theorem dX5_overlap_1 : decode cX5_overlap 1 = .ok (.getfield 7, 3) := by decide +kernel
theorem dX5_overlap_4 : decode cX5_overlap 4 = .ok (.iload_n 1, 1) := by decide +kernel
theorem dX5_overlap_5 : decode cX5_overlap 5 = .ok (.iaload, 1) := by decide +kernel
theorem dX5_overlap_6 : decode cX5_overlap 6 = .ok (.aload_n 0, 1) := by decide +kernel
theorem dX5_overlap_7 : decode cX5_overlap 7 = .ok (.getfield 13, 3) := by decide +kernel
theorem dX5_overlap_10 : decode cX5_overlap 10 = .ok (.iload_n 2, 1) := by decide +kernel
theorem dX5_overlap_11 : decode cX5_overlap 11 = .ok (.iaload, 1) := by decide +kernel
theorem dX5_overlap_12 : decode cX5_overlap 12 = .ok (.if_icmp .ge 22, 3) := by decide +kernel
theorem dX5_overlap_15 : decode cX5_overlap 15 = .ok (.aload_n 0, 1) := by decide +kernel
theorem dX5_overlap_16 : decode cX5_overlap 16 = .ok (.getfield 7, 3) := by decide +kernel
theorem dX5_overlap_19 : decode cX5_overlap 19 = .ok (.iload_n 2, 1) := by decide +kernel
theorem dX5_overlap_20 : decode cX5_overlap 20 = .ok (.iaload, 1) := by decide +kernel
theorem dX5_overlap_21 : decode cX5_overlap 21 = .ok (.aload_n 0, 1) := by decide +kernel
theorem dX5_overlap_22 : decode cX5_overlap 22 = .ok (.getfield 13, 3) := by decide +kernel
theorem dX5_overlap_25 : decode cX5_overlap 25 = .ok (.iload_n 1, 1) := by decide +kernel
theorem dX5_overlap_26 : decode cX5_overlap 26 = .ok (.iaload, 1) := by decide +kernel
theorem dX5_overlap_27 : decode cX5_overlap 27 = .ok (.if_icmp .ge 7, 3) := by decide +kernel
theorem dX5_overlap_30 : decode cX5_overlap 30 = .ok (.iconst 1, 1) := by decide +kernel
theorem dX5_overlap_31 : decode cX5_overlap 31 = .ok (.goto 4, 3) := by decide +kernel
theorem dX5_overlap_34 : decode cX5_overlap 34 = .ok (.iconst 0, 1) := by decide +kernel
theorem dX5_overlap_35 : decode cX5_overlap 35 = .ok (.ireturn, 1) := by decide +kernel
theorem dX5_overlapping_0 : decode cX5_overlapping 0 = .ok (.aload_n 0, 1) := by decide +kernel
theorem dX5_overlapping_1 : decode cX5_overlapping 1 = .ok (.aload_n 0, 1) := by decide +kernel
theorem dX5_overlapping_2 : decode cX5_overlapping 2 = .ok (.iload_n 1, 1) := by decide +kernel
theorem dX5_overlapping_3 : decode cX5_overlapping 3 = .ok (.invokevirtual 80, 3) := by decide +kernel
theorem dX5_overlapping_6 : decode cX5_overlapping 6 = .ok (.ifCond .eq 7, 3) := by decide +kernel
theorem dX5_overlapping_9 : decode cX5_overlapping 9 = .ok (.iconst 0, 1) := by decide +kernel
theorem dX5_overlapping_10 : decode cX5_overlapping 10 = .ok (.goto 4, 3) := by decide +kernel
theorem dX5_overlapping_13 : decode cX5_overlapping 13 = .ok (.iconst 1, 1) := by decide +kernel
theorem dX5_overlapping_14 : decode cX5_overlapping 14 = .ok (.invokevirtual 76, 3) := by decide +kernel
theorem dX5_overlapping_17 : decode cX5_overlapping 17 = .ok (.ifCond .ne 5, 3) := by decide +kernel
theorem dX5_overlapping_20 : decode cX5_overlapping 20 = .ok (.lconst 0, 1) := by decide +kernel
theorem dX5_overlapping_21 : decode cX5_overlapping 21 = .ok (.lreturn, 1) := by decide +kernel
theorem dX5_overlapping_22 : decode cX5_overlapping 22 = .ok (.lconst 0, 1) := by decide +kernel
theorem dX5_overlapping_23 : decode cX5_overlapping 23 = .ok (.lstore_n 2, 1) := by decide +kernel
theorem dX5_overlapping_24 : decode cX5_overlapping 24 = .ok (.iconst 0, 1) := by decide +kernel
theorem dX5_overlapping_25 : decode cX5_overlapping 25 = .ok (.istore 4, 2) := by decide +kernel
theorem dX5_overlapping_27 : decode cX5_overlapping 27 = .ok (.iload 4, 2) := by decide +kernel
theorem dX5_overlapping_29 : decode cX5_overlapping 29 = .ok (.aload_n 0, 1) := by decide +kernel
theorem dX5_overlapping_30 : decode cX5_overlapping 30 = .ok (.getfield 69, 3) := by decide +kernel
theorem dX5_overlapping_33 : decode cX5_overlapping 33 = .ok (.if_icmp .ge 46, 3) := by decide +kernel
theorem dX5_overlapping_36 : decode cX5_overlapping 36 = .ok (.lload_n 2, 1) := by decide +kernel
theorem dX5_overlapping_37 : decode cX5_overlapping 37 = .ok (.iload 4, 2) := by decide +kernel
theorem dX5_overlapping_39 : decode cX5_overlapping 39 = .ok (.iload_n 1, 1) := by decide +kernel
theorem dX5_overlapping_40 : decode cX5_overlapping 40 = .ok (.if_icmp .eq 30, 3) := by decide +kernel
theorem dX5_overlapping_43 : decode cX5_overlapping 43 = .ok (.aload_n 0, 1) := by decide +kernel
theorem dX5_overlapping_44 : decode cX5_overlapping 44 = .ok (.getfield 19, 3) := by decide +kernel
theorem dX5_overlapping_47 : decode cX5_overlapping 47 = .ok (.iload 4, 2) := by decide +kernel
theorem dX5_overlapping_49 : decode cX5_overlapping 49 = .ok (.baload, 1) := by decide +kernel
theorem dX5_overlapping_50 : decode cX5_overlapping 50 = .ok (.ifCond .eq 20, 3) := by decide +kernel
theorem dX5_overlapping_53 : decode cX5_overlapping 53 = .ok (.aload_n 0, 1) := by decide +kernel
theorem dX5_overlapping_54 : decode cX5_overlapping 54 = .ok (.iload 4, 2) := by decide +kernel
theorem dX5_overlapping_56 : decode cX5_overlapping 56 = .ok (.iload_n 1, 1) := by decide +kernel
theorem dX5_overlapping_57 : decode cX5_overlapping 57 = .ok (.invokevirtual 87, 3) := by decide +kernel
theorem dX5_overlapping_60 : decode cX5_overlapping 60 = .ok (.ifCond .eq 10, 3) := by decide +kernel
theorem dX5_overlapping_63 : decode cX5_overlapping 63 = .ok (.lconst 1, 1) := by decide +kernel
theorem dX5_overlapping_64 : decode cX5_overlapping 64 = .ok (.iload 4, 2) := by decide +kernel
theorem dX5_overlapping_66 : decode cX5_overlapping 66 = .ok (.lshl, 1) := by decide +kernel
theorem dX5_overlapping_67 : decode cX5_overlapping 67 = .ok (.goto 4, 3) := by decide +kernel
theorem dX5_overlapping_70 : decode cX5_overlapping 70 = .ok (.lconst 0, 1) := by decide +kernel
theorem dX5_overlapping_71 : decode cX5_overlapping 71 = .ok (.lor, 1) := by decide +kernel
theorem dX5_overlapping_72 : decode cX5_overlapping 72 = .ok (.lstore_n 2, 1) := by decide +kernel
theorem dX5_overlapping_73 : decode cX5_overlapping 73 = .ok (.iinc 4 1, 3) := by decide +kernel
theorem dX5_overlapping_76 : decode cX5_overlapping 76 = .ok (.goto (-49), 3) := by decide +kernel
theorem dX5_overlapping_79 : decode cX5_overlapping 79 = .ok (.lload_n 2, 1) := by decide +kernel
theorem dX5_overlapping_80 : decode cX5_overlapping 80 = .ok (.lreturn, 1) := by decide +kernel
theorem dX5_depthAt_0 : decode cX5_depthAt 0 = .ok (.iconst 0, 1) := by decide +kernel
theorem dX5_depthAt_1 : decode cX5_depthAt 1 = .ok (.istore_n 2, 1) := by decide +kernel
theorem dX5_depthAt_2 : decode cX5_depthAt 2 = .ok (.iconst 0, 1) := by decide +kernel
theorem dX5_depthAt_3 : decode cX5_depthAt 3 = .ok (.istore_n 3, 1) := by decide +kernel
theorem dX5_depthAt_4 : decode cX5_depthAt 4 = .ok (.iload_n 3, 1) := by decide +kernel
theorem dX5_depthAt_5 : decode cX5_depthAt 5 = .ok (.aload_n 0, 1) := by decide +kernel
theorem dX5_depthAt_6 : decode cX5_depthAt 6 = .ok (.getfield 69, 3) := by decide +kernel
theorem dX5_depthAt_9 : decode cX5_depthAt 9 = .ok (.if_icmp .ge 46, 3) := by decide +kernel
theorem dX5_depthAt_12 : decode cX5_depthAt 12 = .ok (.iload_n 2, 1) := by decide +kernel
theorem dX5_depthAt_13 : decode cX5_depthAt 13 = .ok (.aload_n 0, 1) := by decide +kernel
theorem dX5_depthAt_14 : decode cX5_depthAt 14 = .ok (.getfield 19, 3) := by decide +kernel
theorem dX5_depthAt_17 : decode cX5_depthAt 17 = .ok (.iload_n 3, 1) := by decide +kernel
theorem dX5_depthAt_18 : decode cX5_depthAt 18 = .ok (.baload, 1) := by decide +kernel
theorem dX5_depthAt_19 : decode cX5_depthAt 19 = .ok (.ifCond .eq 27, 3) := by decide +kernel
theorem dX5_depthAt_22 : decode cX5_depthAt 22 = .ok (.aload_n 0, 1) := by decide +kernel
theorem dX5_depthAt_23 : decode cX5_depthAt 23 = .ok (.getfield 7, 3) := by decide +kernel
theorem dX5_depthAt_26 : decode cX5_depthAt 26 = .ok (.iload_n 3, 1) := by decide +kernel
theorem dX5_depthAt_27 : decode cX5_depthAt 27 = .ok (.iaload, 1) := by decide +kernel
theorem dX5_depthAt_28 : decode cX5_depthAt 28 = .ok (.iload_n 1, 1) := by decide +kernel
theorem dX5_depthAt_29 : decode cX5_depthAt 29 = .ok (.if_icmp .gt 17, 3) := by decide +kernel
theorem dX5_depthAt_32 : decode cX5_depthAt 32 = .ok (.iload_n 1, 1) := by decide +kernel
theorem dX5_depthAt_33 : decode cX5_depthAt 33 = .ok (.aload_n 0, 1) := by decide +kernel
theorem dX5_depthAt_34 : decode cX5_depthAt 34 = .ok (.getfield 13, 3) := by decide +kernel
theorem dX5_depthAt_37 : decode cX5_depthAt 37 = .ok (.iload_n 3, 1) := by decide +kernel
theorem dX5_depthAt_38 : decode cX5_depthAt 38 = .ok (.iaload, 1) := by decide +kernel
theorem dX5_depthAt_39 : decode cX5_depthAt 39 = .ok (.if_icmp .ge 7, 3) := by decide +kernel
theorem dX5_depthAt_42 : decode cX5_depthAt 42 = .ok (.iconst 1, 1) := by decide +kernel
theorem dX5_depthAt_43 : decode cX5_depthAt 43 = .ok (.goto 4, 3) := by decide +kernel
theorem dX5_depthAt_46 : decode cX5_depthAt 46 = .ok (.iconst 0, 1) := by decide +kernel
theorem dX5_depthAt_47 : decode cX5_depthAt 47 = .ok (.iadd, 1) := by decide +kernel
theorem dX5_depthAt_48 : decode cX5_depthAt 48 = .ok (.istore_n 2, 1) := by decide +kernel
theorem dX5_depthAt_49 : decode cX5_depthAt 49 = .ok (.iinc 3 1, 3) := by decide +kernel
theorem dX5_depthAt_52 : decode cX5_depthAt 52 = .ok (.goto (-48), 3) := by decide +kernel
theorem dX5_depthAt_55 : decode cX5_depthAt 55 = .ok (.iload_n 2, 1) := by decide +kernel
theorem dX5_depthAt_56 : decode cX5_depthAt 56 = .ok (.ireturn, 1) := by decide +kernel
theorem dX5_deepest_0 : decode cX5_deepest 0 = .ok (.iconst 0, 1) := by decide +kernel
theorem dX5_deepest_1 : decode cX5_deepest 1 = .ok (.istore_n 1, 1) := by decide +kernel
theorem dX5_deepest_2 : decode cX5_deepest 2 = .ok (.iconst 1, 1) := by decide +kernel
theorem dX5_deepest_3 : decode cX5_deepest 3 = .ok (.istore_n 2, 1) := by decide +kernel
theorem dX5_deepest_4 : decode cX5_deepest 4 = .ok (.iload_n 2, 1) := by decide +kernel
theorem dX5_deepest_5 : decode cX5_deepest 5 = .ok (.sipush 1000, 3) := by decide +kernel
theorem dX5_deepest_8 : decode cX5_deepest 8 = .ok (.if_icmp .gt 28, 3) := by decide +kernel
theorem dX5_deepest_11 : decode cX5_deepest 11 = .ok (.aload_n 0, 1) := by decide +kernel
theorem dX5_deepest_12 : decode cX5_deepest 12 = .ok (.iload_n 2, 1) := by decide +kernel
theorem dX5_deepest_13 : decode cX5_deepest 13 = .ok (.invokevirtual 91, 3) := by decide +kernel
theorem dX5_deepest_16 : decode cX5_deepest 16 = .ok (.aload_n 0, 1) := by decide +kernel
theorem dX5_deepest_17 : decode cX5_deepest 17 = .ok (.iload_n 1, 1) := by decide +kernel
theorem dX5_deepest_18 : decode cX5_deepest 18 = .ok (.invokevirtual 91, 3) := by decide +kernel
theorem dX5_deepest_21 : decode cX5_deepest 21 = .ok (.if_icmp .le 7, 3) := by decide +kernel
theorem dX5_deepest_24 : decode cX5_deepest 24 = .ok (.iload_n 2, 1) := by decide +kernel
theorem dX5_deepest_25 : decode cX5_deepest 25 = .ok (.goto 4, 3) := by decide +kernel
theorem dX5_deepest_28 : decode cX5_deepest 28 = .ok (.iload_n 1, 1) := by decide +kernel
theorem dX5_deepest_29 : decode cX5_deepest 29 = .ok (.istore_n 1, 1) := by decide +kernel
theorem dX5_deepest_30 : decode cX5_deepest 30 = .ok (.iinc 2 1, 3) := by decide +kernel
theorem dX5_deepest_33 : decode cX5_deepest 33 = .ok (.goto (-29), 3) := by decide +kernel
theorem dX5_deepest_36 : decode cX5_deepest 36 = .ok (.iload_n 1, 1) := by decide +kernel
theorem dX5_deepest_37 : decode cX5_deepest 37 = .ok (.ireturn, 1) := by decide +kernel
theorem dX5_rooms_0 : decode cX5_rooms 0 = .ok (.aload_n 0, 1) := by decide +kernel
theorem dX5_rooms_1 : decode cX5_rooms 1 = .ok (.iconst 0, 1) := by decide +kernel
theorem dX5_rooms_2 : decode cX5_rooms 2 = .ok (.putfield 66, 3) := by decide +kernel
theorem dX5_rooms_5 : decode cX5_rooms 5 = .ok (.aload_n 0, 1) := by decide +kernel
theorem dX5_rooms_6 : decode cX5_rooms 6 = .ok (.aload_n 0, 1) := by decide +kernel
theorem dX5_rooms_7 : decode cX5_rooms 7 = .ok (.invokevirtual 95, 3) := by decide +kernel
theorem dX5_rooms_10 : decode cX5_rooms 10 = .ok (.invokevirtual 91, 3) := by decide +kernel
theorem dX5_rooms_13 : decode cX5_rooms 13 = .ok (.ireturn, 1) := by decide +kernel
theorem dX5_isFree_0 : decode cX5_isFree 0 = .ok (.iconst 1, 1) := by decide +kernel
theorem dX5_isFree_1 : decode cX5_isFree 1 = .ok (.istore_n 3, 1) := by decide +kernel
theorem dX5_isFree_2 : decode cX5_isFree 2 = .ok (.iconst 0, 1) := by decide +kernel
theorem dX5_isFree_3 : decode cX5_isFree 3 = .ok (.istore 4, 2) := by decide +kernel
theorem dX5_isFree_5 : decode cX5_isFree 5 = .ok (.iload 4, 2) := by decide +kernel
theorem dX5_isFree_7 : decode cX5_isFree 7 = .ok (.aload_n 0, 1) := by decide +kernel
theorem dX5_isFree_8 : decode cX5_isFree 8 = .ok (.getfield 69, 3) := by decide +kernel
theorem dX5_isFree_11 : decode cX5_isFree 11 = .ok (.if_icmp .ge 50, 3) := by decide +kernel
theorem dX5_isFree_14 : decode cX5_isFree 14 = .ok (.iload_n 3, 1) := by decide +kernel
theorem dX5_isFree_15 : decode cX5_isFree 15 = .ok (.ifCond .eq 38, 3) := by decide +kernel
theorem dX5_isFree_18 : decode cX5_isFree 18 = .ok (.aload_n 0, 1) := by decide +kernel
theorem dX5_isFree_19 : decode cX5_isFree 19 = .ok (.getfield 19, 3) := by decide +kernel
theorem dX5_isFree_22 : decode cX5_isFree 22 = .ok (.iload 4, 2) := by decide +kernel
theorem dX5_isFree_24 : decode cX5_isFree 24 = .ok (.baload, 1) := by decide +kernel
theorem dX5_isFree_25 : decode cX5_isFree 25 = .ok (.ifCond .eq 24, 3) := by decide +kernel
theorem dX5_isFree_28 : decode cX5_isFree 28 = .ok (.aload_n 0, 1) := by decide +kernel
theorem dX5_isFree_29 : decode cX5_isFree 29 = .ok (.getfield 23, 3) := by decide +kernel
theorem dX5_isFree_32 : decode cX5_isFree 32 = .ok (.iload 4, 2) := by decide +kernel
theorem dX5_isFree_34 : decode cX5_isFree 34 = .ok (.iaload, 1) := by decide +kernel
theorem dX5_isFree_35 : decode cX5_isFree 35 = .ok (.iload_n 1, 1) := by decide +kernel
theorem dX5_isFree_36 : decode cX5_isFree 36 = .ok (.if_icmp .ne 13, 3) := by decide +kernel
theorem dX5_isFree_39 : decode cX5_isFree 39 = .ok (.aload_n 0, 1) := by decide +kernel
theorem dX5_isFree_40 : decode cX5_isFree 40 = .ok (.iload 4, 2) := by decide +kernel
theorem dX5_isFree_42 : decode cX5_isFree 42 = .ok (.iload_n 2, 1) := by decide +kernel
theorem dX5_isFree_43 : decode cX5_isFree 43 = .ok (.invokevirtual 87, 3) := by decide +kernel
theorem dX5_isFree_46 : decode cX5_isFree 46 = .ok (.ifCond .ne 7, 3) := by decide +kernel
theorem dX5_isFree_49 : decode cX5_isFree 49 = .ok (.iconst 1, 1) := by decide +kernel
theorem dX5_isFree_50 : decode cX5_isFree 50 = .ok (.goto 4, 3) := by decide +kernel
theorem dX5_isFree_53 : decode cX5_isFree 53 = .ok (.iconst 0, 1) := by decide +kernel
theorem dX5_isFree_54 : decode cX5_isFree 54 = .ok (.istore_n 3, 1) := by decide +kernel
theorem dX5_isFree_55 : decode cX5_isFree 55 = .ok (.iinc 4 1, 3) := by decide +kernel
theorem dX5_isFree_58 : decode cX5_isFree 58 = .ok (.goto (-53), 3) := by decide +kernel
theorem dX5_isFree_61 : decode cX5_isFree 61 = .ok (.iload_n 3, 1) := by decide +kernel
theorem dX5_isFree_62 : decode cX5_isFree 62 = .ok (.ireturn, 1) := by decide +kernel
theorem dX5_roomOf_0 : decode cX5_roomOf 0 = .ok (.aload_n 0, 1) := by decide +kernel
theorem dX5_roomOf_1 : decode cX5_roomOf 1 = .ok (.aload_n 0, 1) := by decide +kernel
theorem dX5_roomOf_2 : decode cX5_roomOf 2 = .ok (.iload_n 1, 1) := by decide +kernel
theorem dX5_roomOf_3 : decode cX5_roomOf 3 = .ok (.invokevirtual 80, 3) := by decide +kernel
theorem dX5_roomOf_6 : decode cX5_roomOf 6 = .ok (.ifCond .eq 7, 3) := by decide +kernel
theorem dX5_roomOf_9 : decode cX5_roomOf 9 = .ok (.iconst 0, 1) := by decide +kernel
theorem dX5_roomOf_10 : decode cX5_roomOf 10 = .ok (.goto 4, 3) := by decide +kernel
theorem dX5_roomOf_13 : decode cX5_roomOf 13 = .ok (.iconst 1, 1) := by decide +kernel
theorem dX5_roomOf_14 : decode cX5_roomOf 14 = .ok (.invokevirtual 76, 3) := by decide +kernel
theorem dX5_roomOf_17 : decode cX5_roomOf 17 = .ok (.ifCond .ne 5, 3) := by decide +kernel
theorem dX5_roomOf_20 : decode cX5_roomOf 20 = .ok (.iconst 0, 1) := by decide +kernel
theorem dX5_roomOf_21 : decode cX5_roomOf 21 = .ok (.ireturn, 1) := by decide +kernel
theorem dX5_roomOf_22 : decode cX5_roomOf 22 = .ok (.iconst 0, 1) := by decide +kernel
theorem dX5_roomOf_23 : decode cX5_roomOf 23 = .ok (.istore_n 2, 1) := by decide +kernel
theorem dX5_roomOf_24 : decode cX5_roomOf 24 = .ok (.iload_n 2, 1) := by decide +kernel
theorem dX5_roomOf_25 : decode cX5_roomOf 25 = .ok (.aload_n 0, 1) := by decide +kernel
theorem dX5_roomOf_26 : decode cX5_roomOf 26 = .ok (.getfield 69, 3) := by decide +kernel
theorem dX5_roomOf_29 : decode cX5_roomOf 29 = .ok (.if_icmp .ge 16, 3) := by decide +kernel
theorem dX5_roomOf_32 : decode cX5_roomOf 32 = .ok (.aload_n 0, 1) := by decide +kernel
theorem dX5_roomOf_33 : decode cX5_roomOf 33 = .ok (.getfield 23, 3) := by decide +kernel
theorem dX5_roomOf_36 : decode cX5_roomOf 36 = .ok (.iload_n 2, 1) := by decide +kernel
theorem dX5_roomOf_37 : decode cX5_roomOf 37 = .ok (.iconst (-1), 1) := by decide +kernel
theorem dX5_roomOf_38 : decode cX5_roomOf 38 = .ok (.iastore, 1) := by decide +kernel
theorem dX5_roomOf_39 : decode cX5_roomOf 39 = .ok (.iinc 2 1, 3) := by decide +kernel
theorem dX5_roomOf_42 : decode cX5_roomOf 42 = .ok (.goto (-18), 3) := by decide +kernel
theorem dX5_roomOf_45 : decode cX5_roomOf 45 = .ok (.iconst 0, 1) := by decide +kernel
theorem dX5_roomOf_46 : decode cX5_roomOf 46 = .ok (.istore_n 2, 1) := by decide +kernel
theorem dX5_roomOf_47 : decode cX5_roomOf 47 = .ok (.iload_n 2, 1) := by decide +kernel
theorem dX5_roomOf_48 : decode cX5_roomOf 48 = .ok (.sipush 1000, 3) := by decide +kernel
theorem dX5_roomOf_51 : decode cX5_roomOf 51 = .ok (.if_icmp .ge 71, 3) := by decide +kernel
theorem dX5_roomOf_54 : decode cX5_roomOf 54 = .ok (.iconst 0, 1) := by decide +kernel
theorem dX5_roomOf_55 : decode cX5_roomOf 55 = .ok (.istore_n 3, 1) := by decide +kernel
theorem dX5_roomOf_56 : decode cX5_roomOf 56 = .ok (.iload_n 3, 1) := by decide +kernel
theorem dX5_roomOf_57 : decode cX5_roomOf 57 = .ok (.aload_n 0, 1) := by decide +kernel
theorem dX5_roomOf_58 : decode cX5_roomOf 58 = .ok (.getfield 69, 3) := by decide +kernel
theorem dX5_roomOf_61 : decode cX5_roomOf 61 = .ok (.if_icmp .ge 55, 3) := by decide +kernel
theorem dX5_roomOf_64 : decode cX5_roomOf 64 = .ok (.aload_n 0, 1) := by decide +kernel
theorem dX5_roomOf_65 : decode cX5_roomOf 65 = .ok (.getfield 19, 3) := by decide +kernel
theorem dX5_roomOf_68 : decode cX5_roomOf 68 = .ok (.iload_n 3, 1) := by decide +kernel
theorem dX5_roomOf_69 : decode cX5_roomOf 69 = .ok (.baload, 1) := by decide +kernel
theorem dX5_roomOf_70 : decode cX5_roomOf 70 = .ok (.ifCond .eq 40, 3) := by decide +kernel
theorem dX5_roomOf_73 : decode cX5_roomOf 73 = .ok (.aload_n 0, 1) := by decide +kernel
theorem dX5_roomOf_74 : decode cX5_roomOf 74 = .ok (.getfield 7, 3) := by decide +kernel
theorem dX5_roomOf_77 : decode cX5_roomOf 77 = .ok (.iload_n 3, 1) := by decide +kernel
theorem dX5_roomOf_78 : decode cX5_roomOf 78 = .ok (.iaload, 1) := by decide +kernel
theorem dX5_roomOf_79 : decode cX5_roomOf 79 = .ok (.iload_n 2, 1) := by decide +kernel
theorem dX5_roomOf_80 : decode cX5_roomOf 80 = .ok (.if_icmp .ne 30, 3) := by decide +kernel
theorem dX5_roomOf_83 : decode cX5_roomOf 83 = .ok (.iconst 0, 1) := by decide +kernel
theorem dX5_roomOf_84 : decode cX5_roomOf 84 = .ok (.istore 4, 2) := by decide +kernel
theorem dX5_roomOf_86 : decode cX5_roomOf 86 = .ok (.aload_n 0, 1) := by decide +kernel
theorem dX5_roomOf_87 : decode cX5_roomOf 87 = .ok (.iload 4, 2) := by decide +kernel
theorem dX5_roomOf_89 : decode cX5_roomOf 89 = .ok (.iload_n 3, 1) := by decide +kernel
theorem dX5_roomOf_90 : decode cX5_roomOf 90 = .ok (.invokevirtual 98, 3) := by decide +kernel
theorem dX5_roomOf_93 : decode cX5_roomOf 93 = .ok (.ifCond .ne 9, 3) := by decide +kernel
theorem dX5_roomOf_96 : decode cX5_roomOf 96 = .ok (.iinc 4 1, 3) := by decide +kernel
theorem dX5_roomOf_99 : decode cX5_roomOf 99 = .ok (.goto (-13), 3) := by decide +kernel
theorem dX5_roomOf_102 : decode cX5_roomOf 102 = .ok (.aload_n 0, 1) := by decide +kernel
theorem dX5_roomOf_103 : decode cX5_roomOf 103 = .ok (.getfield 23, 3) := by decide +kernel
theorem dX5_roomOf_106 : decode cX5_roomOf 106 = .ok (.iload_n 3, 1) := by decide +kernel
theorem dX5_roomOf_107 : decode cX5_roomOf 107 = .ok (.iload 4, 2) := by decide +kernel
theorem dX5_roomOf_109 : decode cX5_roomOf 109 = .ok (.iastore, 1) := by decide +kernel
theorem dX5_roomOf_110 : decode cX5_roomOf 110 = .ok (.iinc 3 1, 3) := by decide +kernel
theorem dX5_roomOf_113 : decode cX5_roomOf 113 = .ok (.goto (-57), 3) := by decide +kernel
theorem dX5_roomOf_116 : decode cX5_roomOf 116 = .ok (.iinc 2 1, 3) := by decide +kernel
theorem dX5_roomOf_119 : decode cX5_roomOf 119 = .ok (.goto (-72), 3) := by decide +kernel
theorem dX5_roomOf_122 : decode cX5_roomOf 122 = .ok (.aload_n 0, 1) := by decide +kernel
theorem dX5_roomOf_123 : decode cX5_roomOf 123 = .ok (.getfield 23, 3) := by decide +kernel
theorem dX5_roomOf_126 : decode cX5_roomOf 126 = .ok (.iload_n 1, 1) := by decide +kernel
theorem dX5_roomOf_127 : decode cX5_roomOf 127 = .ok (.iaload, 1) := by decide +kernel
theorem dX5_roomOf_128 : decode cX5_roomOf 128 = .ok (.ireturn, 1) := by decide +kernel
theorem dX5_depth_0 : decode cX5_depth 0 = .ok (.aload_n 0, 1) := by decide +kernel
theorem dX5_depth_1 : decode cX5_depth 1 = .ok (.iload_n 1, 1) := by decide +kernel
theorem dX5_depth_2 : decode cX5_depth 2 = .ok (.iconst 0, 1) := by decide +kernel
theorem dX5_depth_3 : decode cX5_depth 3 = .ok (.sipush 1000, 3) := by decide +kernel
theorem dX5_depth_6 : decode cX5_depth 6 = .ok (.invokestatic 72, 3) := by decide +kernel
theorem dX5_depth_9 : decode cX5_depth 9 = .ok (.ifCond .eq 7, 3) := by decide +kernel
theorem dX5_depth_12 : decode cX5_depth 12 = .ok (.iconst 0, 1) := by decide +kernel
theorem dX5_depth_13 : decode cX5_depth 13 = .ok (.goto 4, 3) := by decide +kernel
theorem dX5_depth_16 : decode cX5_depth 16 = .ok (.iconst 1, 1) := by decide +kernel
theorem dX5_depth_17 : decode cX5_depth 17 = .ok (.invokevirtual 76, 3) := by decide +kernel
theorem dX5_depth_20 : decode cX5_depth 20 = .ok (.ifCond .eq 11, 3) := by decide +kernel
theorem dX5_depth_23 : decode cX5_depth 23 = .ok (.aload_n 0, 1) := by decide +kernel
theorem dX5_depth_24 : decode cX5_depth 24 = .ok (.iload_n 1, 1) := by decide +kernel
theorem dX5_depth_25 : decode cX5_depth 25 = .ok (.invokevirtual 91, 3) := by decide +kernel
theorem dX5_depth_28 : decode cX5_depth 28 = .ok (.goto 4, 3) := by decide +kernel
theorem dX5_depth_31 : decode cX5_depth 31 = .ok (.iconst 0, 1) := by decide +kernel
theorem dX5_depth_32 : decode cX5_depth 32 = .ok (.ireturn, 1) := by decide +kernel
theorem dX5_busiest_0 : decode cX5_busiest 0 = .ok (.aload_n 0, 1) := by decide +kernel
theorem dX5_busiest_1 : decode cX5_busiest 1 = .ok (.iconst 0, 1) := by decide +kernel
theorem dX5_busiest_2 : decode cX5_busiest 2 = .ok (.putfield 66, 3) := by decide +kernel
theorem dX5_busiest_5 : decode cX5_busiest 5 = .ok (.aload_n 0, 1) := by decide +kernel
theorem dX5_busiest_6 : decode cX5_busiest 6 = .ok (.invokevirtual 83, 3) := by decide +kernel
theorem dX5_busiest_9 : decode cX5_busiest 9 = .ok (.ifCond .ne 7, 3) := by decide +kernel
theorem dX5_busiest_12 : decode cX5_busiest 12 = .ok (.iconst (-1), 1) := by decide +kernel
theorem dX5_busiest_13 : decode cX5_busiest 13 = .ok (.goto 7, 3) := by decide +kernel
theorem dX5_busiest_16 : decode cX5_busiest 16 = .ok (.aload_n 0, 1) := by decide +kernel
theorem dX5_busiest_17 : decode cX5_busiest 17 = .ok (.invokevirtual 95, 3) := by decide +kernel
theorem dX5_busiest_20 : decode cX5_busiest 20 = .ok (.ireturn, 1) := by decide +kernel
theorem dX5_earliest_0 : decode cX5_earliest 0 = .ok (.aload_n 0, 1) := by decide +kernel
theorem dX5_earliest_1 : decode cX5_earliest 1 = .ok (.iload_n 1, 1) := by decide +kernel
theorem dX5_earliest_2 : decode cX5_earliest 2 = .ok (.iconst 1, 1) := by decide +kernel
theorem dX5_earliest_3 : decode cX5_earliest 3 = .ok (.sipush 1000, 3) := by decide +kernel
theorem dX5_earliest_6 : decode cX5_earliest 6 = .ok (.invokestatic 72, 3) := by decide +kernel
theorem dX5_earliest_9 : decode cX5_earliest 9 = .ok (.ifCond .eq 17, 3) := by decide +kernel
theorem dX5_earliest_12 : decode cX5_earliest 12 = .ok (.iload_n 2, 1) := by decide +kernel
theorem dX5_earliest_13 : decode cX5_earliest 13 = .ok (.iconst 1, 1) := by decide +kernel
theorem dX5_earliest_14 : decode cX5_earliest 14 = .ok (.bipush 40, 2) := by decide +kernel
theorem dX5_earliest_16 : decode cX5_earliest 16 = .ok (.invokestatic 72, 3) := by decide +kernel
theorem dX5_earliest_19 : decode cX5_earliest 19 = .ok (.ifCond .eq 7, 3) := by decide +kernel
theorem dX5_earliest_22 : decode cX5_earliest 22 = .ok (.iconst 0, 1) := by decide +kernel
theorem dX5_earliest_23 : decode cX5_earliest 23 = .ok (.goto 4, 3) := by decide +kernel
theorem dX5_earliest_26 : decode cX5_earliest 26 = .ok (.iconst 1, 1) := by decide +kernel
theorem dX5_earliest_27 : decode cX5_earliest 27 = .ok (.invokevirtual 76, 3) := by decide +kernel
theorem dX5_earliest_30 : decode cX5_earliest 30 = .ok (.ifCond .ne 5, 3) := by decide +kernel
theorem dX5_earliest_33 : decode cX5_earliest 33 = .ok (.iconst 0, 1) := by decide +kernel
theorem dX5_earliest_34 : decode cX5_earliest 34 = .ok (.ireturn, 1) := by decide +kernel
theorem dX5_earliest_35 : decode cX5_earliest 35 = .ok (.iconst 0, 1) := by decide +kernel
theorem dX5_earliest_36 : decode cX5_earliest 36 = .ok (.istore_n 3, 1) := by decide +kernel
theorem dX5_earliest_37 : decode cX5_earliest 37 = .ok (.iconst 0, 1) := by decide +kernel
theorem dX5_earliest_38 : decode cX5_earliest 38 = .ok (.istore 4, 2) := by decide +kernel
theorem dX5_earliest_40 : decode cX5_earliest 40 = .ok (.iload 4, 2) := by decide +kernel
theorem dX5_earliest_42 : decode cX5_earliest 42 = .ok (.sipush 1000, 3) := by decide +kernel
theorem dX5_earliest_45 : decode cX5_earliest 45 = .ok (.if_icmp .ge 36, 3) := by decide +kernel
theorem dX5_earliest_48 : decode cX5_earliest 48 = .ok (.iload 4, 2) := by decide +kernel
theorem dX5_earliest_50 : decode cX5_earliest 50 = .ok (.iload_n 3, 1) := by decide +kernel
theorem dX5_earliest_51 : decode cX5_earliest 51 = .ok (.isub, 1) := by decide +kernel
theorem dX5_earliest_52 : decode cX5_earliest 52 = .ok (.iload_n 1, 1) := by decide +kernel
theorem dX5_earliest_53 : decode cX5_earliest 53 = .ok (.if_icmp .ge 28, 3) := by decide +kernel
theorem dX5_earliest_56 : decode cX5_earliest 56 = .ok (.aload_n 0, 1) := by decide +kernel
theorem dX5_earliest_57 : decode cX5_earliest 57 = .ok (.iload 4, 2) := by decide +kernel
theorem dX5_earliest_59 : decode cX5_earliest 59 = .ok (.invokevirtual 91, 3) := by decide +kernel
theorem dX5_earliest_62 : decode cX5_earliest 62 = .ok (.iload_n 2, 1) := by decide +kernel
theorem dX5_earliest_63 : decode cX5_earliest 63 = .ok (.if_icmp .ge 7, 3) := by decide +kernel
theorem dX5_earliest_66 : decode cX5_earliest 66 = .ok (.iload_n 3, 1) := by decide +kernel
theorem dX5_earliest_67 : decode cX5_earliest 67 = .ok (.goto 7, 3) := by decide +kernel
theorem dX5_earliest_70 : decode cX5_earliest 70 = .ok (.iload 4, 2) := by decide +kernel
theorem dX5_earliest_72 : decode cX5_earliest 72 = .ok (.iconst 1, 1) := by decide +kernel
theorem dX5_earliest_73 : decode cX5_earliest 73 = .ok (.iadd, 1) := by decide +kernel
theorem dX5_earliest_74 : decode cX5_earliest 74 = .ok (.istore_n 3, 1) := by decide +kernel
theorem dX5_earliest_75 : decode cX5_earliest 75 = .ok (.iinc 4 1, 3) := by decide +kernel
theorem dX5_earliest_78 : decode cX5_earliest 78 = .ok (.goto (-38), 3) := by decide +kernel
theorem dX5_earliest_81 : decode cX5_earliest 81 = .ok (.iload_n 3, 1) := by decide +kernel
theorem dX5_earliest_82 : decode cX5_earliest 82 = .ok (.iload_n 1, 1) := by decide +kernel
theorem dX5_earliest_83 : decode cX5_earliest 83 = .ok (.iadd, 1) := by decide +kernel
theorem dX5_earliest_84 : decode cX5_earliest 84 = .ok (.sipush 1000, 3) := by decide +kernel
theorem dX5_earliest_87 : decode cX5_earliest 87 = .ok (.if_icmp .gt 7, 3) := by decide +kernel
theorem dX5_earliest_90 : decode cX5_earliest 90 = .ok (.iload_n 3, 1) := by decide +kernel
theorem dX5_earliest_91 : decode cX5_earliest 91 = .ok (.goto 4, 3) := by decide +kernel
theorem dX5_earliest_94 : decode cX5_earliest 94 = .ok (.iconst (-1), 1) := by decide +kernel
theorem dX5_earliest_95 : decode cX5_earliest 95 = .ok (.ireturn, 1) := by decide +kernel
theorem dX5_plan_0 : decode cX5_plan 0 = .ok (.aload_n 0, 1) := by decide +kernel
theorem dX5_plan_1 : decode cX5_plan 1 = .ok (.getfield 36, 3) := by decide +kernel
theorem dX5_plan_4 : decode cX5_plan 4 = .ok (.iconst 0, 1) := by decide +kernel
theorem dX5_plan_5 : decode cX5_plan 5 = .ok (.iconst 0, 1) := by decide +kernel
theorem dX5_plan_6 : decode cX5_plan 6 = .ok (.iastore, 1) := by decide +kernel
theorem dX5_plan_7 : decode cX5_plan 7 = .ok (.iconst 1, 1) := by decide +kernel
theorem dX5_plan_8 : decode cX5_plan 8 = .ok (.istore_n 2, 1) := by decide +kernel
theorem dX5_plan_9 : decode cX5_plan 9 = .ok (.iload_n 2, 1) := by decide +kernel
theorem dX5_plan_10 : decode cX5_plan 10 = .ok (.iload_n 1, 1) := by decide +kernel
theorem dX5_plan_11 : decode cX5_plan 11 = .ok (.if_icmp .gt 109, 3) := by decide +kernel
theorem dX5_plan_14 : decode cX5_plan 14 = .ok (.aload_n 0, 1) := by decide +kernel
theorem dX5_plan_15 : decode cX5_plan 15 = .ok (.getfield 36, 3) := by decide +kernel
theorem dX5_plan_18 : decode cX5_plan 18 = .ok (.iload_n 2, 1) := by decide +kernel
theorem dX5_plan_19 : decode cX5_plan 19 = .ok (.aload_n 0, 1) := by decide +kernel
theorem dX5_plan_20 : decode cX5_plan 20 = .ok (.getfield 36, 3) := by decide +kernel
theorem dX5_plan_23 : decode cX5_plan 23 = .ok (.iload_n 2, 1) := by decide +kernel
theorem dX5_plan_24 : decode cX5_plan 24 = .ok (.iconst 1, 1) := by decide +kernel
theorem dX5_plan_25 : decode cX5_plan 25 = .ok (.isub, 1) := by decide +kernel
theorem dX5_plan_26 : decode cX5_plan 26 = .ok (.iaload, 1) := by decide +kernel
theorem dX5_plan_27 : decode cX5_plan 27 = .ok (.iastore, 1) := by decide +kernel
theorem dX5_plan_28 : decode cX5_plan 28 = .ok (.iconst 0, 1) := by decide +kernel
theorem dX5_plan_29 : decode cX5_plan 29 = .ok (.istore_n 3, 1) := by decide +kernel
theorem dX5_plan_30 : decode cX5_plan 30 = .ok (.iload_n 3, 1) := by decide +kernel
theorem dX5_plan_31 : decode cX5_plan 31 = .ok (.aload_n 0, 1) := by decide +kernel
theorem dX5_plan_32 : decode cX5_plan 32 = .ok (.getfield 69, 3) := by decide +kernel
theorem dX5_plan_35 : decode cX5_plan 35 = .ok (.if_icmp .ge 79, 3) := by decide +kernel
theorem dX5_plan_38 : decode cX5_plan 38 = .ok (.aload_n 0, 1) := by decide +kernel
theorem dX5_plan_39 : decode cX5_plan 39 = .ok (.getfield 48, 3) := by decide +kernel
theorem dX5_plan_42 : decode cX5_plan 42 = .ok (.iload_n 3, 1) := by decide +kernel
theorem dX5_plan_43 : decode cX5_plan 43 = .ok (.baload, 1) := by decide +kernel
theorem dX5_plan_44 : decode cX5_plan 44 = .ok (.ifCond .eq 64, 3) := by decide +kernel
theorem dX5_plan_47 : decode cX5_plan 47 = .ok (.aload_n 0, 1) := by decide +kernel
theorem dX5_plan_48 : decode cX5_plan 48 = .ok (.getfield 45, 3) := by decide +kernel
theorem dX5_plan_51 : decode cX5_plan 51 = .ok (.iload_n 3, 1) := by decide +kernel
theorem dX5_plan_52 : decode cX5_plan 52 = .ok (.iaload, 1) := by decide +kernel
theorem dX5_plan_53 : decode cX5_plan 53 = .ok (.iload_n 2, 1) := by decide +kernel
theorem dX5_plan_54 : decode cX5_plan 54 = .ok (.if_icmp .ne 54, 3) := by decide +kernel
theorem dX5_plan_57 : decode cX5_plan 57 = .ok (.aload_n 0, 1) := by decide +kernel
theorem dX5_plan_58 : decode cX5_plan 58 = .ok (.getfield 36, 3) := by decide +kernel
theorem dX5_plan_61 : decode cX5_plan 61 = .ok (.aload_n 0, 1) := by decide +kernel
theorem dX5_plan_62 : decode cX5_plan 62 = .ok (.getfield 42, 3) := by decide +kernel
theorem dX5_plan_65 : decode cX5_plan 65 = .ok (.iload_n 3, 1) := by decide +kernel
theorem dX5_plan_66 : decode cX5_plan 66 = .ok (.iaload, 1) := by decide +kernel
theorem dX5_plan_67 : decode cX5_plan 67 = .ok (.iaload, 1) := by decide +kernel
theorem dX5_plan_68 : decode cX5_plan 68 = .ok (.aload_n 0, 1) := by decide +kernel
theorem dX5_plan_69 : decode cX5_plan 69 = .ok (.getfield 16, 3) := by decide +kernel
theorem dX5_plan_72 : decode cX5_plan 72 = .ok (.iload_n 3, 1) := by decide +kernel
theorem dX5_plan_73 : decode cX5_plan 73 = .ok (.iaload, 1) := by decide +kernel
theorem dX5_plan_74 : decode cX5_plan 74 = .ok (.iadd, 1) := by decide +kernel
theorem dX5_plan_75 : decode cX5_plan 75 = .ok (.aload_n 0, 1) := by decide +kernel
theorem dX5_plan_76 : decode cX5_plan 76 = .ok (.getfield 36, 3) := by decide +kernel
theorem dX5_plan_79 : decode cX5_plan 79 = .ok (.iload_n 2, 1) := by decide +kernel
theorem dX5_plan_80 : decode cX5_plan 80 = .ok (.iaload, 1) := by decide +kernel
theorem dX5_plan_81 : decode cX5_plan 81 = .ok (.if_icmp .le 27, 3) := by decide +kernel
theorem dX5_plan_84 : decode cX5_plan 84 = .ok (.aload_n 0, 1) := by decide +kernel
theorem dX5_plan_85 : decode cX5_plan 85 = .ok (.getfield 36, 3) := by decide +kernel
theorem dX5_plan_88 : decode cX5_plan 88 = .ok (.iload_n 2, 1) := by decide +kernel
theorem dX5_plan_89 : decode cX5_plan 89 = .ok (.aload_n 0, 1) := by decide +kernel
theorem dX5_plan_90 : decode cX5_plan 90 = .ok (.getfield 36, 3) := by decide +kernel
theorem dX5_plan_93 : decode cX5_plan 93 = .ok (.aload_n 0, 1) := by decide +kernel
theorem dX5_plan_94 : decode cX5_plan 94 = .ok (.getfield 42, 3) := by decide +kernel
theorem dX5_plan_97 : decode cX5_plan 97 = .ok (.iload_n 3, 1) := by decide +kernel
theorem dX5_plan_98 : decode cX5_plan 98 = .ok (.iaload, 1) := by decide +kernel
theorem dX5_plan_99 : decode cX5_plan 99 = .ok (.iaload, 1) := by decide +kernel
theorem dX5_plan_100 : decode cX5_plan 100 = .ok (.aload_n 0, 1) := by decide +kernel
theorem dX5_plan_101 : decode cX5_plan 101 = .ok (.getfield 16, 3) := by decide +kernel
theorem dX5_plan_104 : decode cX5_plan 104 = .ok (.iload_n 3, 1) := by decide +kernel
theorem dX5_plan_105 : decode cX5_plan 105 = .ok (.iaload, 1) := by decide +kernel
theorem dX5_plan_106 : decode cX5_plan 106 = .ok (.iadd, 1) := by decide +kernel
theorem dX5_plan_107 : decode cX5_plan 107 = .ok (.iastore, 1) := by decide +kernel
theorem dX5_plan_108 : decode cX5_plan 108 = .ok (.iinc 3 1, 3) := by decide +kernel
theorem dX5_plan_111 : decode cX5_plan 111 = .ok (.goto (-81), 3) := by decide +kernel
theorem dX5_plan_114 : decode cX5_plan 114 = .ok (.iinc 2 1, 3) := by decide +kernel
theorem dX5_plan_117 : decode cX5_plan 117 = .ok (.goto (-108), 3) := by decide +kernel
theorem dX5_plan_120 : decode cX5_plan 120 = .ok (.aload_n 0, 1) := by decide +kernel
theorem dX5_plan_121 : decode cX5_plan 121 = .ok (.getfield 36, 3) := by decide +kernel
theorem dX5_plan_124 : decode cX5_plan 124 = .ok (.iload_n 1, 1) := by decide +kernel
theorem dX5_plan_125 : decode cX5_plan 125 = .ok (.iaload, 1) := by decide +kernel
theorem dX5_plan_126 : decode cX5_plan 126 = .ok (.ireturn, 1) := by decide +kernel
theorem dX5_planOf_0 : decode cX5_planOf 0 = .ok (.iconst 0, 1) := by decide +kernel
theorem dX5_planOf_1 : decode cX5_planOf 1 = .ok (.istore_n 2, 1) := by decide +kernel
theorem dX5_planOf_2 : decode cX5_planOf 2 = .ok (.iload_n 2, 1) := by decide +kernel
theorem dX5_planOf_3 : decode cX5_planOf 3 = .ok (.aload_n 0, 1) := by decide +kernel
theorem dX5_planOf_4 : decode cX5_planOf 4 = .ok (.getfield 69, 3) := by decide +kernel
theorem dX5_planOf_7 : decode cX5_planOf 7 = .ok (.if_icmp .ge 66, 3) := by decide +kernel
theorem dX5_planOf_10 : decode cX5_planOf 10 = .ok (.aload_n 0, 1) := by decide +kernel
theorem dX5_planOf_11 : decode cX5_planOf 11 = .ok (.getfield 48, 3) := by decide +kernel
theorem dX5_planOf_14 : decode cX5_planOf 14 = .ok (.iload_n 2, 1) := by decide +kernel
theorem dX5_planOf_15 : decode cX5_planOf 15 = .ok (.aload_n 0, 1) := by decide +kernel
theorem dX5_planOf_16 : decode cX5_planOf 16 = .ok (.getfield 19, 3) := by decide +kernel
theorem dX5_planOf_19 : decode cX5_planOf 19 = .ok (.iload_n 2, 1) := by decide +kernel
theorem dX5_planOf_20 : decode cX5_planOf 20 = .ok (.baload, 1) := by decide +kernel
theorem dX5_planOf_21 : decode cX5_planOf 21 = .ok (.ifCond .eq 20, 3) := by decide +kernel
theorem dX5_planOf_24 : decode cX5_planOf 24 = .ok (.iload_n 1, 1) := by decide +kernel
theorem dX5_planOf_25 : decode cX5_planOf 25 = .ok (.ifCond .eq 12, 3) := by decide +kernel
theorem dX5_planOf_28 : decode cX5_planOf 28 = .ok (.aload_n 0, 1) := by decide +kernel
theorem dX5_planOf_29 : decode cX5_planOf 29 = .ok (.getfield 30, 3) := by decide +kernel
theorem dX5_planOf_32 : decode cX5_planOf 32 = .ok (.iload_n 2, 1) := by decide +kernel
theorem dX5_planOf_33 : decode cX5_planOf 33 = .ok (.baload, 1) := by decide +kernel
theorem dX5_planOf_34 : decode cX5_planOf 34 = .ok (.ifCond .eq 7, 3) := by decide +kernel
theorem dX5_planOf_37 : decode cX5_planOf 37 = .ok (.iconst 1, 1) := by decide +kernel
theorem dX5_planOf_38 : decode cX5_planOf 38 = .ok (.goto 4, 3) := by decide +kernel
theorem dX5_planOf_41 : decode cX5_planOf 41 = .ok (.iconst 0, 1) := by decide +kernel
theorem dX5_planOf_42 : decode cX5_planOf 42 = .ok (.bastore, 1) := by decide +kernel
theorem dX5_planOf_43 : decode cX5_planOf 43 = .ok (.aload_n 0, 1) := by decide +kernel
theorem dX5_planOf_44 : decode cX5_planOf 44 = .ok (.getfield 42, 3) := by decide +kernel
theorem dX5_planOf_47 : decode cX5_planOf 47 = .ok (.iload_n 2, 1) := by decide +kernel
theorem dX5_planOf_48 : decode cX5_planOf 48 = .ok (.aload_n 0, 1) := by decide +kernel
theorem dX5_planOf_49 : decode cX5_planOf 49 = .ok (.getfield 7, 3) := by decide +kernel
theorem dX5_planOf_52 : decode cX5_planOf 52 = .ok (.iload_n 2, 1) := by decide +kernel
theorem dX5_planOf_53 : decode cX5_planOf 53 = .ok (.iaload, 1) := by decide +kernel
theorem dX5_planOf_54 : decode cX5_planOf 54 = .ok (.iastore, 1) := by decide +kernel
theorem dX5_planOf_55 : decode cX5_planOf 55 = .ok (.aload_n 0, 1) := by decide +kernel
theorem dX5_planOf_56 : decode cX5_planOf 56 = .ok (.getfield 45, 3) := by decide +kernel
theorem dX5_planOf_59 : decode cX5_planOf 59 = .ok (.iload_n 2, 1) := by decide +kernel
theorem dX5_planOf_60 : decode cX5_planOf 60 = .ok (.aload_n 0, 1) := by decide +kernel
theorem dX5_planOf_61 : decode cX5_planOf 61 = .ok (.getfield 13, 3) := by decide +kernel
theorem dX5_planOf_64 : decode cX5_planOf 64 = .ok (.iload_n 2, 1) := by decide +kernel
theorem dX5_planOf_65 : decode cX5_planOf 65 = .ok (.iaload, 1) := by decide +kernel
theorem dX5_planOf_66 : decode cX5_planOf 66 = .ok (.iastore, 1) := by decide +kernel
theorem dX5_planOf_67 : decode cX5_planOf 67 = .ok (.iinc 2 1, 3) := by decide +kernel
theorem dX5_planOf_70 : decode cX5_planOf 70 = .ok (.goto (-68), 3) := by decide +kernel
theorem dX5_planOf_73 : decode cX5_planOf 73 = .ok (.aload_n 0, 1) := by decide +kernel
theorem dX5_planOf_74 : decode cX5_planOf 74 = .ok (.sipush 1000, 3) := by decide +kernel
theorem dX5_planOf_77 : decode cX5_planOf 77 = .ok (.invokevirtual 101, 3) := by decide +kernel
theorem dX5_planOf_80 : decode cX5_planOf 80 = .ok (.ireturn, 1) := by decide +kernel
theorem dX5_heaviest_0 : decode cX5_heaviest 0 = .ok (.aload_n 0, 1) := by decide +kernel
theorem dX5_heaviest_1 : decode cX5_heaviest 1 = .ok (.iconst 0, 1) := by decide +kernel
theorem dX5_heaviest_2 : decode cX5_heaviest 2 = .ok (.putfield 66, 3) := by decide +kernel
theorem dX5_heaviest_5 : decode cX5_heaviest 5 = .ok (.aload_n 0, 1) := by decide +kernel
theorem dX5_heaviest_6 : decode cX5_heaviest 6 = .ok (.iconst 0, 1) := by decide +kernel
theorem dX5_heaviest_7 : decode cX5_heaviest 7 = .ok (.invokevirtual 104, 3) := by decide +kernel
theorem dX5_heaviest_10 : decode cX5_heaviest 10 = .ok (.ireturn, 1) := by decide +kernel
theorem dX5_layOrder_0 : decode cX5_layOrder 0 = .ok (.iconst 0, 1) := by decide +kernel
theorem dX5_layOrder_1 : decode cX5_layOrder 1 = .ok (.istore_n 1, 1) := by decide +kernel
theorem dX5_layOrder_2 : decode cX5_layOrder 2 = .ok (.iconst 1, 1) := by decide +kernel
theorem dX5_layOrder_3 : decode cX5_layOrder 3 = .ok (.istore_n 2, 1) := by decide +kernel
theorem dX5_layOrder_4 : decode cX5_layOrder 4 = .ok (.iload_n 2, 1) := by decide +kernel
theorem dX5_layOrder_5 : decode cX5_layOrder 5 = .ok (.sipush 1000, 3) := by decide +kernel
theorem dX5_layOrder_8 : decode cX5_layOrder 8 = .ok (.if_icmp .gt 54, 3) := by decide +kernel
theorem dX5_layOrder_11 : decode cX5_layOrder 11 = .ok (.iconst 0, 1) := by decide +kernel
theorem dX5_layOrder_12 : decode cX5_layOrder 12 = .ok (.istore_n 3, 1) := by decide +kernel
theorem dX5_layOrder_13 : decode cX5_layOrder 13 = .ok (.iload_n 3, 1) := by decide +kernel
theorem dX5_layOrder_14 : decode cX5_layOrder 14 = .ok (.aload_n 0, 1) := by decide +kernel
theorem dX5_layOrder_15 : decode cX5_layOrder 15 = .ok (.getfield 69, 3) := by decide +kernel
theorem dX5_layOrder_18 : decode cX5_layOrder 18 = .ok (.if_icmp .ge 38, 3) := by decide +kernel
theorem dX5_layOrder_21 : decode cX5_layOrder 21 = .ok (.aload_n 0, 1) := by decide +kernel
theorem dX5_layOrder_22 : decode cX5_layOrder 22 = .ok (.getfield 19, 3) := by decide +kernel
theorem dX5_layOrder_25 : decode cX5_layOrder 25 = .ok (.iload_n 3, 1) := by decide +kernel
theorem dX5_layOrder_26 : decode cX5_layOrder 26 = .ok (.baload, 1) := by decide +kernel
theorem dX5_layOrder_27 : decode cX5_layOrder 27 = .ok (.ifCond .eq 23, 3) := by decide +kernel
theorem dX5_layOrder_30 : decode cX5_layOrder 30 = .ok (.aload_n 0, 1) := by decide +kernel
theorem dX5_layOrder_31 : decode cX5_layOrder 31 = .ok (.getfield 13, 3) := by decide +kernel
theorem dX5_layOrder_34 : decode cX5_layOrder 34 = .ok (.iload_n 3, 1) := by decide +kernel
theorem dX5_layOrder_35 : decode cX5_layOrder 35 = .ok (.iaload, 1) := by decide +kernel
theorem dX5_layOrder_36 : decode cX5_layOrder 36 = .ok (.iload_n 2, 1) := by decide +kernel
theorem dX5_layOrder_37 : decode cX5_layOrder 37 = .ok (.if_icmp .ne 13, 3) := by decide +kernel
theorem dX5_layOrder_40 : decode cX5_layOrder 40 = .ok (.aload_n 0, 1) := by decide +kernel
theorem dX5_layOrder_41 : decode cX5_layOrder 41 = .ok (.getfield 39, 3) := by decide +kernel
theorem dX5_layOrder_44 : decode cX5_layOrder 44 = .ok (.iload_n 1, 1) := by decide +kernel
theorem dX5_layOrder_45 : decode cX5_layOrder 45 = .ok (.iload_n 3, 1) := by decide +kernel
theorem dX5_layOrder_46 : decode cX5_layOrder 46 = .ok (.iastore, 1) := by decide +kernel
theorem dX5_layOrder_47 : decode cX5_layOrder 47 = .ok (.iinc 1 1, 3) := by decide +kernel
theorem dX5_layOrder_50 : decode cX5_layOrder 50 = .ok (.iinc 3 1, 3) := by decide +kernel
theorem dX5_layOrder_53 : decode cX5_layOrder 53 = .ok (.goto (-40), 3) := by decide +kernel
theorem dX5_layOrder_56 : decode cX5_layOrder 56 = .ok (.iinc 2 1, 3) := by decide +kernel
theorem dX5_layOrder_59 : decode cX5_layOrder 59 = .ok (.goto (-55), 3) := by decide +kernel
theorem dX5_layOrder_62 : decode cX5_layOrder 62 = .ok (.iload_n 1, 1) := by decide +kernel
theorem dX5_layOrder_63 : decode cX5_layOrder 63 = .ok (.ireturn, 1) := by decide +kernel
theorem dX5_planOfFirst_0 : decode cX5_planOfFirst 0 = .ok (.iconst 0, 1) := by decide +kernel
theorem dX5_planOfFirst_1 : decode cX5_planOfFirst 1 = .ok (.istore_n 2, 1) := by decide +kernel
theorem dX5_planOfFirst_2 : decode cX5_planOfFirst 2 = .ok (.iload_n 2, 1) := by decide +kernel
theorem dX5_planOfFirst_3 : decode cX5_planOfFirst 3 = .ok (.aload_n 0, 1) := by decide +kernel
theorem dX5_planOfFirst_4 : decode cX5_planOfFirst 4 = .ok (.getfield 69, 3) := by decide +kernel
theorem dX5_planOfFirst_7 : decode cX5_planOfFirst 7 = .ok (.if_icmp .ge 16, 3) := by decide +kernel
theorem dX5_planOfFirst_10 : decode cX5_planOfFirst 10 = .ok (.aload_n 0, 1) := by decide +kernel
theorem dX5_planOfFirst_11 : decode cX5_planOfFirst 11 = .ok (.getfield 48, 3) := by decide +kernel
theorem dX5_planOfFirst_14 : decode cX5_planOfFirst 14 = .ok (.iload_n 2, 1) := by decide +kernel
theorem dX5_planOfFirst_15 : decode cX5_planOfFirst 15 = .ok (.iconst 0, 1) := by decide +kernel
theorem dX5_planOfFirst_16 : decode cX5_planOfFirst 16 = .ok (.bastore, 1) := by decide +kernel
theorem dX5_planOfFirst_17 : decode cX5_planOfFirst 17 = .ok (.iinc 2 1, 3) := by decide +kernel
theorem dX5_planOfFirst_20 : decode cX5_planOfFirst 20 = .ok (.goto (-18), 3) := by decide +kernel
theorem dX5_planOfFirst_23 : decode cX5_planOfFirst 23 = .ok (.iconst 0, 1) := by decide +kernel
theorem dX5_planOfFirst_24 : decode cX5_planOfFirst 24 = .ok (.istore_n 2, 1) := by decide +kernel
theorem dX5_planOfFirst_25 : decode cX5_planOfFirst 25 = .ok (.iload_n 2, 1) := by decide +kernel
theorem dX5_planOfFirst_26 : decode cX5_planOfFirst 26 = .ok (.iload_n 1, 1) := by decide +kernel
theorem dX5_planOfFirst_27 : decode cX5_planOfFirst 27 = .ok (.if_icmp .ge 65, 3) := by decide +kernel
theorem dX5_planOfFirst_30 : decode cX5_planOfFirst 30 = .ok (.aload_n 0, 1) := by decide +kernel
theorem dX5_planOfFirst_31 : decode cX5_planOfFirst 31 = .ok (.getfield 48, 3) := by decide +kernel
theorem dX5_planOfFirst_34 : decode cX5_planOfFirst 34 = .ok (.aload_n 0, 1) := by decide +kernel
theorem dX5_planOfFirst_35 : decode cX5_planOfFirst 35 = .ok (.getfield 39, 3) := by decide +kernel
theorem dX5_planOfFirst_38 : decode cX5_planOfFirst 38 = .ok (.iload_n 2, 1) := by decide +kernel
theorem dX5_planOfFirst_39 : decode cX5_planOfFirst 39 = .ok (.iaload, 1) := by decide +kernel
theorem dX5_planOfFirst_40 : decode cX5_planOfFirst 40 = .ok (.iconst 1, 1) := by decide +kernel
theorem dX5_planOfFirst_41 : decode cX5_planOfFirst 41 = .ok (.bastore, 1) := by decide +kernel
theorem dX5_planOfFirst_42 : decode cX5_planOfFirst 42 = .ok (.aload_n 0, 1) := by decide +kernel
theorem dX5_planOfFirst_43 : decode cX5_planOfFirst 43 = .ok (.getfield 42, 3) := by decide +kernel
theorem dX5_planOfFirst_46 : decode cX5_planOfFirst 46 = .ok (.aload_n 0, 1) := by decide +kernel
theorem dX5_planOfFirst_47 : decode cX5_planOfFirst 47 = .ok (.getfield 39, 3) := by decide +kernel
theorem dX5_planOfFirst_50 : decode cX5_planOfFirst 50 = .ok (.iload_n 2, 1) := by decide +kernel
theorem dX5_planOfFirst_51 : decode cX5_planOfFirst 51 = .ok (.iaload, 1) := by decide +kernel
theorem dX5_planOfFirst_52 : decode cX5_planOfFirst 52 = .ok (.aload_n 0, 1) := by decide +kernel
theorem dX5_planOfFirst_53 : decode cX5_planOfFirst 53 = .ok (.getfield 7, 3) := by decide +kernel
theorem dX5_planOfFirst_56 : decode cX5_planOfFirst 56 = .ok (.aload_n 0, 1) := by decide +kernel
theorem dX5_planOfFirst_57 : decode cX5_planOfFirst 57 = .ok (.getfield 39, 3) := by decide +kernel
theorem dX5_planOfFirst_60 : decode cX5_planOfFirst 60 = .ok (.iload_n 2, 1) := by decide +kernel
theorem dX5_planOfFirst_61 : decode cX5_planOfFirst 61 = .ok (.iaload, 1) := by decide +kernel
theorem dX5_planOfFirst_62 : decode cX5_planOfFirst 62 = .ok (.iaload, 1) := by decide +kernel
theorem dX5_planOfFirst_63 : decode cX5_planOfFirst 63 = .ok (.iastore, 1) := by decide +kernel
theorem dX5_planOfFirst_64 : decode cX5_planOfFirst 64 = .ok (.aload_n 0, 1) := by decide +kernel
theorem dX5_planOfFirst_65 : decode cX5_planOfFirst 65 = .ok (.getfield 45, 3) := by decide +kernel
theorem dX5_planOfFirst_68 : decode cX5_planOfFirst 68 = .ok (.aload_n 0, 1) := by decide +kernel
theorem dX5_planOfFirst_69 : decode cX5_planOfFirst 69 = .ok (.getfield 39, 3) := by decide +kernel
theorem dX5_planOfFirst_72 : decode cX5_planOfFirst 72 = .ok (.iload_n 2, 1) := by decide +kernel
theorem dX5_planOfFirst_73 : decode cX5_planOfFirst 73 = .ok (.iaload, 1) := by decide +kernel
theorem dX5_planOfFirst_74 : decode cX5_planOfFirst 74 = .ok (.aload_n 0, 1) := by decide +kernel
theorem dX5_planOfFirst_75 : decode cX5_planOfFirst 75 = .ok (.getfield 13, 3) := by decide +kernel
theorem dX5_planOfFirst_78 : decode cX5_planOfFirst 78 = .ok (.aload_n 0, 1) := by decide +kernel
theorem dX5_planOfFirst_79 : decode cX5_planOfFirst 79 = .ok (.getfield 39, 3) := by decide +kernel
theorem dX5_planOfFirst_82 : decode cX5_planOfFirst 82 = .ok (.iload_n 2, 1) := by decide +kernel
theorem dX5_planOfFirst_83 : decode cX5_planOfFirst 83 = .ok (.iaload, 1) := by decide +kernel
theorem dX5_planOfFirst_84 : decode cX5_planOfFirst 84 = .ok (.iaload, 1) := by decide +kernel
theorem dX5_planOfFirst_85 : decode cX5_planOfFirst 85 = .ok (.iastore, 1) := by decide +kernel
theorem dX5_planOfFirst_86 : decode cX5_planOfFirst 86 = .ok (.iinc 2 1, 3) := by decide +kernel
theorem dX5_planOfFirst_89 : decode cX5_planOfFirst 89 = .ok (.goto (-64), 3) := by decide +kernel
theorem dX5_planOfFirst_92 : decode cX5_planOfFirst 92 = .ok (.aload_n 0, 1) := by decide +kernel
theorem dX5_planOfFirst_93 : decode cX5_planOfFirst 93 = .ok (.sipush 1000, 3) := by decide +kernel
theorem dX5_planOfFirst_96 : decode cX5_planOfFirst 96 = .ok (.invokevirtual 101, 3) := by decide +kernel
theorem dX5_planOfFirst_99 : decode cX5_planOfFirst 99 = .ok (.ireturn, 1) := by decide +kernel
theorem dX5_chosen_0 : decode cX5_chosen 0 = .ok (.aload_n 0, 1) := by decide +kernel
theorem dX5_chosen_1 : decode cX5_chosen 1 = .ok (.iconst 0, 1) := by decide +kernel
theorem dX5_chosen_2 : decode cX5_chosen 2 = .ok (.putfield 66, 3) := by decide +kernel
theorem dX5_chosen_5 : decode cX5_chosen 5 = .ok (.aload_n 0, 1) := by decide +kernel
theorem dX5_chosen_6 : decode cX5_chosen 6 = .ok (.invokevirtual 108, 3) := by decide +kernel
theorem dX5_chosen_9 : decode cX5_chosen 9 = .ok (.istore_n 1, 1) := by decide +kernel
theorem dX5_chosen_10 : decode cX5_chosen 10 = .ok (.lconst 0, 1) := by decide +kernel
theorem dX5_chosen_11 : decode cX5_chosen 11 = .ok (.lstore_n 2, 1) := by decide +kernel
theorem dX5_chosen_12 : decode cX5_chosen 12 = .ok (.iload_n 1, 1) := by decide +kernel
theorem dX5_chosen_13 : decode cX5_chosen 13 = .ok (.ifCond .le 99, 3) := by decide +kernel
theorem dX5_chosen_16 : decode cX5_chosen 16 = .ok (.aload_n 0, 1) := by decide +kernel
theorem dX5_chosen_17 : decode cX5_chosen 17 = .ok (.getfield 39, 3) := by decide +kernel
theorem dX5_chosen_20 : decode cX5_chosen 20 = .ok (.iload_n 1, 1) := by decide +kernel
theorem dX5_chosen_21 : decode cX5_chosen 21 = .ok (.iconst 1, 1) := by decide +kernel
theorem dX5_chosen_22 : decode cX5_chosen 22 = .ok (.isub, 1) := by decide +kernel
theorem dX5_chosen_23 : decode cX5_chosen 23 = .ok (.iaload, 1) := by decide +kernel
theorem dX5_chosen_24 : decode cX5_chosen 24 = .ok (.istore 4, 2) := by decide +kernel
theorem dX5_chosen_26 : decode cX5_chosen 26 = .ok (.aload_n 0, 1) := by decide +kernel
theorem dX5_chosen_27 : decode cX5_chosen 27 = .ok (.iload_n 1, 1) := by decide +kernel
theorem dX5_chosen_28 : decode cX5_chosen 28 = .ok (.invokevirtual 111, 3) := by decide +kernel
theorem dX5_chosen_31 : decode cX5_chosen 31 = .ok (.aload_n 0, 1) := by decide +kernel
theorem dX5_chosen_32 : decode cX5_chosen 32 = .ok (.iload_n 1, 1) := by decide +kernel
theorem dX5_chosen_33 : decode cX5_chosen 33 = .ok (.iconst 1, 1) := by decide +kernel
theorem dX5_chosen_34 : decode cX5_chosen 34 = .ok (.isub, 1) := by decide +kernel
theorem dX5_chosen_35 : decode cX5_chosen 35 = .ok (.invokevirtual 111, 3) := by decide +kernel
theorem dX5_chosen_38 : decode cX5_chosen 38 = .ok (.if_icmp .ne 9, 3) := by decide +kernel
theorem dX5_chosen_41 : decode cX5_chosen 41 = .ok (.iinc 1 (-1), 3) := by decide +kernel
theorem dX5_chosen_44 : decode cX5_chosen 44 = .ok (.goto 65, 3) := by decide +kernel
theorem dX5_chosen_47 : decode cX5_chosen 47 = .ok (.lload_n 2, 1) := by decide +kernel
theorem dX5_chosen_48 : decode cX5_chosen 48 = .ok (.lconst 1, 1) := by decide +kernel
theorem dX5_chosen_49 : decode cX5_chosen 49 = .ok (.iload 4, 2) := by decide +kernel
theorem dX5_chosen_51 : decode cX5_chosen 51 = .ok (.lshl, 1) := by decide +kernel
theorem dX5_chosen_52 : decode cX5_chosen 52 = .ok (.lor, 1) := by decide +kernel
theorem dX5_chosen_53 : decode cX5_chosen 53 = .ok (.lstore_n 2, 1) := by decide +kernel
theorem dX5_chosen_54 : decode cX5_chosen 54 = .ok (.iconst 0, 1) := by decide +kernel
theorem dX5_chosen_55 : decode cX5_chosen 55 = .ok (.istore_n 1, 1) := by decide +kernel
theorem dX5_chosen_56 : decode cX5_chosen 56 = .ok (.iconst 0, 1) := by decide +kernel
theorem dX5_chosen_57 : decode cX5_chosen 57 = .ok (.istore 5, 2) := by decide +kernel
theorem dX5_chosen_59 : decode cX5_chosen 59 = .ok (.iload 5, 2) := by decide +kernel
theorem dX5_chosen_61 : decode cX5_chosen 61 = .ok (.aload_n 0, 1) := by decide +kernel
theorem dX5_chosen_62 : decode cX5_chosen 62 = .ok (.getfield 69, 3) := by decide +kernel
theorem dX5_chosen_65 : decode cX5_chosen 65 = .ok (.if_icmp .ge 44, 3) := by decide +kernel
theorem dX5_chosen_68 : decode cX5_chosen 68 = .ok (.iload_n 1, 1) := by decide +kernel
theorem dX5_chosen_69 : decode cX5_chosen 69 = .ok (.aload_n 0, 1) := by decide +kernel
theorem dX5_chosen_70 : decode cX5_chosen 70 = .ok (.getfield 19, 3) := by decide +kernel
theorem dX5_chosen_73 : decode cX5_chosen 73 = .ok (.iload 5, 2) := by decide +kernel
theorem dX5_chosen_75 : decode cX5_chosen 75 = .ok (.baload, 1) := by decide +kernel
theorem dX5_chosen_76 : decode cX5_chosen 76 = .ok (.ifCond .eq 24, 3) := by decide +kernel
theorem dX5_chosen_79 : decode cX5_chosen 79 = .ok (.aload_n 0, 1) := by decide +kernel
theorem dX5_chosen_80 : decode cX5_chosen 80 = .ok (.getfield 13, 3) := by decide +kernel
theorem dX5_chosen_83 : decode cX5_chosen 83 = .ok (.iload 5, 2) := by decide +kernel
theorem dX5_chosen_85 : decode cX5_chosen 85 = .ok (.iaload, 1) := by decide +kernel
theorem dX5_chosen_86 : decode cX5_chosen 86 = .ok (.aload_n 0, 1) := by decide +kernel
theorem dX5_chosen_87 : decode cX5_chosen 87 = .ok (.getfield 7, 3) := by decide +kernel
theorem dX5_chosen_90 : decode cX5_chosen 90 = .ok (.iload 4, 2) := by decide +kernel
theorem dX5_chosen_92 : decode cX5_chosen 92 = .ok (.iaload, 1) := by decide +kernel
theorem dX5_chosen_93 : decode cX5_chosen 93 = .ok (.if_icmp .gt 7, 3) := by decide +kernel
theorem dX5_chosen_96 : decode cX5_chosen 96 = .ok (.iconst 1, 1) := by decide +kernel
theorem dX5_chosen_97 : decode cX5_chosen 97 = .ok (.goto 4, 3) := by decide +kernel
theorem dX5_chosen_100 : decode cX5_chosen 100 = .ok (.iconst 0, 1) := by decide +kernel
theorem dX5_chosen_101 : decode cX5_chosen 101 = .ok (.iadd, 1) := by decide +kernel
theorem dX5_chosen_102 : decode cX5_chosen 102 = .ok (.istore_n 1, 1) := by decide +kernel
theorem dX5_chosen_103 : decode cX5_chosen 103 = .ok (.iinc 5 1, 3) := by decide +kernel
theorem dX5_chosen_106 : decode cX5_chosen 106 = .ok (.goto (-47), 3) := by decide +kernel
theorem dX5_chosen_109 : decode cX5_chosen 109 = .ok (.goto (-97), 3) := by decide +kernel
theorem dX5_chosen_112 : decode cX5_chosen 112 = .ok (.lload_n 2, 1) := by decide +kernel
theorem dX5_chosen_113 : decode cX5_chosen 113 = .ok (.lreturn, 1) := by decide +kernel
theorem dX5_most_0 : decode cX5_most 0 = .ok (.aload_n 0, 1) := by decide +kernel
theorem dX5_most_1 : decode cX5_most 1 = .ok (.iconst 0, 1) := by decide +kernel
theorem dX5_most_2 : decode cX5_most 2 = .ok (.putfield 66, 3) := by decide +kernel
theorem dX5_most_5 : decode cX5_most 5 = .ok (.aload_n 0, 1) := by decide +kernel
theorem dX5_most_6 : decode cX5_most 6 = .ok (.invokevirtual 108, 3) := by decide +kernel
theorem dX5_most_9 : decode cX5_most 9 = .ok (.istore_n 1, 1) := by decide +kernel
theorem dX5_most_10 : decode cX5_most 10 = .ok (.iconst 0, 1) := by decide +kernel
theorem dX5_most_11 : decode cX5_most 11 = .ok (.istore_n 2, 1) := by decide +kernel
theorem dX5_most_12 : decode cX5_most 12 = .ok (.iconst 0, 1) := by decide +kernel
theorem dX5_most_13 : decode cX5_most 13 = .ok (.istore_n 3, 1) := by decide +kernel
theorem dX5_most_14 : decode cX5_most 14 = .ok (.iconst 0, 1) := by decide +kernel
theorem dX5_most_15 : decode cX5_most 15 = .ok (.istore 4, 2) := by decide +kernel
theorem dX5_most_17 : decode cX5_most 17 = .ok (.iload 4, 2) := by decide +kernel
theorem dX5_most_19 : decode cX5_most 19 = .ok (.iload_n 1, 1) := by decide +kernel
theorem dX5_most_20 : decode cX5_most 20 = .ok (.if_icmp .ge 41, 3) := by decide +kernel
theorem dX5_most_23 : decode cX5_most 23 = .ok (.aload_n 0, 1) := by decide +kernel
theorem dX5_most_24 : decode cX5_most 24 = .ok (.getfield 7, 3) := by decide +kernel
theorem dX5_most_27 : decode cX5_most 27 = .ok (.aload_n 0, 1) := by decide +kernel
theorem dX5_most_28 : decode cX5_most 28 = .ok (.getfield 39, 3) := by decide +kernel
theorem dX5_most_31 : decode cX5_most 31 = .ok (.iload 4, 2) := by decide +kernel
theorem dX5_most_33 : decode cX5_most 33 = .ok (.iaload, 1) := by decide +kernel
theorem dX5_most_34 : decode cX5_most 34 = .ok (.iaload, 1) := by decide +kernel
theorem dX5_most_35 : decode cX5_most 35 = .ok (.iload_n 3, 1) := by decide +kernel
theorem dX5_most_36 : decode cX5_most 36 = .ok (.if_icmp .lt 19, 3) := by decide +kernel
theorem dX5_most_39 : decode cX5_most 39 = .ok (.aload_n 0, 1) := by decide +kernel
theorem dX5_most_40 : decode cX5_most 40 = .ok (.getfield 13, 3) := by decide +kernel
theorem dX5_most_43 : decode cX5_most 43 = .ok (.aload_n 0, 1) := by decide +kernel
theorem dX5_most_44 : decode cX5_most 44 = .ok (.getfield 39, 3) := by decide +kernel
theorem dX5_most_47 : decode cX5_most 47 = .ok (.iload 4, 2) := by decide +kernel
theorem dX5_most_49 : decode cX5_most 49 = .ok (.iaload, 1) := by decide +kernel
theorem dX5_most_50 : decode cX5_most 50 = .ok (.iaload, 1) := by decide +kernel
theorem dX5_most_51 : decode cX5_most 51 = .ok (.istore_n 3, 1) := by decide +kernel
theorem dX5_most_52 : decode cX5_most 52 = .ok (.iinc 2 1, 3) := by decide +kernel
theorem dX5_most_55 : decode cX5_most 55 = .ok (.iinc 4 1, 3) := by decide +kernel
theorem dX5_most_58 : decode cX5_most 58 = .ok (.goto (-41), 3) := by decide +kernel
theorem dX5_most_61 : decode cX5_most 61 = .ok (.iload_n 2, 1) := by decide +kernel
theorem dX5_most_62 : decode cX5_most 62 = .ok (.ireturn, 1) := by decide +kernel
theorem dX5_pointOf_0 : decode cX5_pointOf 0 = .ok (.iconst 0, 1) := by decide +kernel
theorem dX5_pointOf_1 : decode cX5_pointOf 1 = .ok (.istore_n 2, 1) := by decide +kernel
theorem dX5_pointOf_2 : decode cX5_pointOf 2 = .ok (.aload_n 0, 1) := by decide +kernel
theorem dX5_pointOf_3 : decode cX5_pointOf 3 = .ok (.getfield 51, 3) := by decide +kernel
theorem dX5_pointOf_6 : decode cX5_pointOf 6 = .ok (.iload_n 2, 1) := by decide +kernel
theorem dX5_pointOf_7 : decode cX5_pointOf 7 = .ok (.iaload, 1) := by decide +kernel
theorem dX5_pointOf_8 : decode cX5_pointOf 8 = .ok (.iload_n 1, 1) := by decide +kernel
theorem dX5_pointOf_9 : decode cX5_pointOf 9 = .ok (.if_icmp .eq 9, 3) := by decide +kernel
theorem dX5_pointOf_12 : decode cX5_pointOf 12 = .ok (.iinc 2 1, 3) := by decide +kernel
theorem dX5_pointOf_15 : decode cX5_pointOf 15 = .ok (.goto (-13), 3) := by decide +kernel
theorem dX5_pointOf_18 : decode cX5_pointOf 18 = .ok (.iload_n 2, 1) := by decide +kernel
theorem dX5_pointOf_19 : decode cX5_pointOf 19 = .ok (.ireturn, 1) := by decide +kernel
theorem dX5_layPoints_0 : decode cX5_layPoints 0 = .ok (.aload_n 0, 1) := by decide +kernel
theorem dX5_layPoints_1 : decode cX5_layPoints 1 = .ok (.iconst 0, 1) := by decide +kernel
theorem dX5_layPoints_2 : decode cX5_layPoints 2 = .ok (.putfield 114, 3) := by decide +kernel
