theorem dX5_layPoints_5 : decode cX5_layPoints 5 = .ok (.iconst 0, 1) := by decide +kernel
theorem dX5_layPoints_6 : decode cX5_layPoints 6 = .ok (.istore_n 1, 1) := by decide +kernel
theorem dX5_layPoints_7 : decode cX5_layPoints 7 = .ok (.iload_n 1, 1) := by decide +kernel
theorem dX5_layPoints_8 : decode cX5_layPoints 8 = .ok (.sipush 1000, 3) := by decide +kernel
theorem dX5_layPoints_11 : decode cX5_layPoints 11 = .ok (.if_icmp .gt 100, 3) := by decide +kernel
theorem dX5_layPoints_14 : decode cX5_layPoints 14 = .ok (.iconst 0, 1) := by decide +kernel
theorem dX5_layPoints_15 : decode cX5_layPoints 15 = .ok (.istore_n 2, 1) := by decide +kernel
theorem dX5_layPoints_16 : decode cX5_layPoints 16 = .ok (.iconst 0, 1) := by decide +kernel
theorem dX5_layPoints_17 : decode cX5_layPoints 17 = .ok (.istore_n 3, 1) := by decide +kernel
theorem dX5_layPoints_18 : decode cX5_layPoints 18 = .ok (.iload_n 3, 1) := by decide +kernel
theorem dX5_layPoints_19 : decode cX5_layPoints 19 = .ok (.aload_n 0, 1) := by decide +kernel
theorem dX5_layPoints_20 : decode cX5_layPoints 20 = .ok (.getfield 69, 3) := by decide +kernel
theorem dX5_layPoints_23 : decode cX5_layPoints 23 = .ok (.if_icmp .ge 48, 3) := by decide +kernel
theorem dX5_layPoints_26 : decode cX5_layPoints 26 = .ok (.iload_n 2, 1) := by decide +kernel
theorem dX5_layPoints_27 : decode cX5_layPoints 27 = .ok (.ifCond .ne 32, 3) := by decide +kernel
theorem dX5_layPoints_30 : decode cX5_layPoints 30 = .ok (.aload_n 0, 1) := by decide +kernel
theorem dX5_layPoints_31 : decode cX5_layPoints 31 = .ok (.getfield 19, 3) := by decide +kernel
theorem dX5_layPoints_34 : decode cX5_layPoints 34 = .ok (.iload_n 3, 1) := by decide +kernel
theorem dX5_layPoints_35 : decode cX5_layPoints 35 = .ok (.baload, 1) := by decide +kernel
theorem dX5_layPoints_36 : decode cX5_layPoints 36 = .ok (.ifCond .eq 27, 3) := by decide +kernel
theorem dX5_layPoints_39 : decode cX5_layPoints 39 = .ok (.aload_n 0, 1) := by decide +kernel
theorem dX5_layPoints_40 : decode cX5_layPoints 40 = .ok (.getfield 7, 3) := by decide +kernel
theorem dX5_layPoints_43 : decode cX5_layPoints 43 = .ok (.iload_n 3, 1) := by decide +kernel
theorem dX5_layPoints_44 : decode cX5_layPoints 44 = .ok (.iaload, 1) := by decide +kernel
theorem dX5_layPoints_45 : decode cX5_layPoints 45 = .ok (.iload_n 1, 1) := by decide +kernel
theorem dX5_layPoints_46 : decode cX5_layPoints 46 = .ok (.if_icmp .eq 13, 3) := by decide +kernel
theorem dX5_layPoints_49 : decode cX5_layPoints 49 = .ok (.aload_n 0, 1) := by decide +kernel
theorem dX5_layPoints_50 : decode cX5_layPoints 50 = .ok (.getfield 13, 3) := by decide +kernel
theorem dX5_layPoints_53 : decode cX5_layPoints 53 = .ok (.iload_n 3, 1) := by decide +kernel
theorem dX5_layPoints_54 : decode cX5_layPoints 54 = .ok (.iaload, 1) := by decide +kernel
theorem dX5_layPoints_55 : decode cX5_layPoints 55 = .ok (.iload_n 1, 1) := by decide +kernel
theorem dX5_layPoints_56 : decode cX5_layPoints 56 = .ok (.if_icmp .ne 7, 3) := by decide +kernel
theorem dX5_layPoints_59 : decode cX5_layPoints 59 = .ok (.iconst 1, 1) := by decide +kernel
theorem dX5_layPoints_60 : decode cX5_layPoints 60 = .ok (.goto 4, 3) := by decide +kernel
theorem dX5_layPoints_63 : decode cX5_layPoints 63 = .ok (.iconst 0, 1) := by decide +kernel
theorem dX5_layPoints_64 : decode cX5_layPoints 64 = .ok (.istore_n 2, 1) := by decide +kernel
theorem dX5_layPoints_65 : decode cX5_layPoints 65 = .ok (.iinc 3 1, 3) := by decide +kernel
theorem dX5_layPoints_68 : decode cX5_layPoints 68 = .ok (.goto (-50), 3) := by decide +kernel
theorem dX5_layPoints_71 : decode cX5_layPoints 71 = .ok (.iload_n 2, 1) := by decide +kernel
theorem dX5_layPoints_72 : decode cX5_layPoints 72 = .ok (.ifCond .eq 33, 3) := by decide +kernel
theorem dX5_layPoints_75 : decode cX5_layPoints 75 = .ok (.aload_n 0, 1) := by decide +kernel
theorem dX5_layPoints_76 : decode cX5_layPoints 76 = .ok (.getfield 51, 3) := by decide +kernel
theorem dX5_layPoints_79 : decode cX5_layPoints 79 = .ok (.aload_n 0, 1) := by decide +kernel
theorem dX5_layPoints_80 : decode cX5_layPoints 80 = .ok (.getfield 114, 3) := by decide +kernel
theorem dX5_layPoints_83 : decode cX5_layPoints 83 = .ok (.iload_n 1, 1) := by decide +kernel
theorem dX5_layPoints_84 : decode cX5_layPoints 84 = .ok (.iastore, 1) := by decide +kernel
theorem dX5_layPoints_85 : decode cX5_layPoints 85 = .ok (.aload_n 0, 1) := by decide +kernel
theorem dX5_layPoints_86 : decode cX5_layPoints 86 = .ok (.getfield 54, 3) := by decide +kernel
theorem dX5_layPoints_89 : decode cX5_layPoints 89 = .ok (.aload_n 0, 1) := by decide +kernel
theorem dX5_layPoints_90 : decode cX5_layPoints 90 = .ok (.getfield 114, 3) := by decide +kernel
theorem dX5_layPoints_93 : decode cX5_layPoints 93 = .ok (.iconst 0, 1) := by decide +kernel
theorem dX5_layPoints_94 : decode cX5_layPoints 94 = .ok (.iastore, 1) := by decide +kernel
theorem dX5_layPoints_95 : decode cX5_layPoints 95 = .ok (.aload_n 0, 1) := by decide +kernel
theorem dX5_layPoints_96 : decode cX5_layPoints 96 = .ok (.dup, 1) := by decide +kernel
theorem dX5_layPoints_97 : decode cX5_layPoints 97 = .ok (.getfield 114, 3) := by decide +kernel
theorem dX5_layPoints_100 : decode cX5_layPoints 100 = .ok (.iconst 1, 1) := by decide +kernel
theorem dX5_layPoints_101 : decode cX5_layPoints 101 = .ok (.iadd, 1) := by decide +kernel
theorem dX5_layPoints_102 : decode cX5_layPoints 102 = .ok (.putfield 114, 3) := by decide +kernel
theorem dX5_layPoints_105 : decode cX5_layPoints 105 = .ok (.iinc 1 1, 3) := by decide +kernel
theorem dX5_layPoints_108 : decode cX5_layPoints 108 = .ok (.goto (-101), 3) := by decide +kernel
theorem dX5_layPoints_111 : decode cX5_layPoints 111 = .ok (.iconst 0, 1) := by decide +kernel
theorem dX5_layPoints_112 : decode cX5_layPoints 112 = .ok (.istore_n 1, 1) := by decide +kernel
theorem dX5_layPoints_113 : decode cX5_layPoints 113 = .ok (.iload_n 1, 1) := by decide +kernel
theorem dX5_layPoints_114 : decode cX5_layPoints 114 = .ok (.aload_n 0, 1) := by decide +kernel
theorem dX5_layPoints_115 : decode cX5_layPoints 115 = .ok (.getfield 69, 3) := by decide +kernel
theorem dX5_layPoints_118 : decode cX5_layPoints 118 = .ok (.if_icmp .ge 16, 3) := by decide +kernel
theorem dX5_layPoints_121 : decode cX5_layPoints 121 = .ok (.aload_n 0, 1) := by decide +kernel
theorem dX5_layPoints_122 : decode cX5_layPoints 122 = .ok (.getfield 57, 3) := by decide +kernel
theorem dX5_layPoints_125 : decode cX5_layPoints 125 = .ok (.iload_n 1, 1) := by decide +kernel
theorem dX5_layPoints_126 : decode cX5_layPoints 126 = .ok (.iconst 0, 1) := by decide +kernel
theorem dX5_layPoints_127 : decode cX5_layPoints 127 = .ok (.bastore, 1) := by decide +kernel
theorem dX5_layPoints_128 : decode cX5_layPoints 128 = .ok (.iinc 1 1, 3) := by decide +kernel
theorem dX5_layPoints_131 : decode cX5_layPoints 131 = .ok (.goto (-18), 3) := by decide +kernel
theorem dX5_layPoints_134 : decode cX5_layPoints 134 = .ok (.return_, 1) := by decide +kernel
theorem dX5_steps_0 : decode cX5_steps 0 = .ok (.aload_n 0, 1) := by decide +kernel
theorem dX5_steps_1 : decode cX5_steps 1 = .ok (.getfield 60, 3) := by decide +kernel
theorem dX5_steps_4 : decode cX5_steps 4 = .ok (.iload_n 1, 1) := by decide +kernel
theorem dX5_steps_5 : decode cX5_steps 5 = .ok (.iaload, 1) := by decide +kernel
theorem dX5_steps_6 : decode cX5_steps 6 = .ok (.ldc 117, 2) := by decide +kernel
theorem dX5_steps_8 : decode cX5_steps 8 = .ok (.if_icmp .eq 20, 3) := by decide +kernel
theorem dX5_steps_11 : decode cX5_steps 11 = .ok (.aload_n 0, 1) := by decide +kernel
theorem dX5_steps_12 : decode cX5_steps 12 = .ok (.getfield 60, 3) := by decide +kernel
theorem dX5_steps_15 : decode cX5_steps 15 = .ok (.iload_n 1, 1) := by decide +kernel
theorem dX5_steps_16 : decode cX5_steps 16 = .ok (.iaload, 1) := by decide +kernel
theorem dX5_steps_17 : decode cX5_steps 17 = .ok (.iload_n 3, 1) := by decide +kernel
theorem dX5_steps_18 : decode cX5_steps 18 = .ok (.iadd, 1) := by decide +kernel
theorem dX5_steps_19 : decode cX5_steps 19 = .ok (.aload_n 0, 1) := by decide +kernel
theorem dX5_steps_20 : decode cX5_steps 20 = .ok (.getfield 60, 3) := by decide +kernel
theorem dX5_steps_23 : decode cX5_steps 23 = .ok (.iload_n 2, 1) := by decide +kernel
theorem dX5_steps_24 : decode cX5_steps 24 = .ok (.iaload, 1) := by decide +kernel
theorem dX5_steps_25 : decode cX5_steps 25 = .ok (.if_icmp .gt 5, 3) := by decide +kernel
theorem dX5_steps_28 : decode cX5_steps 28 = .ok (.iconst 0, 1) := by decide +kernel
theorem dX5_steps_29 : decode cX5_steps 29 = .ok (.ireturn, 1) := by decide +kernel
theorem dX5_steps_30 : decode cX5_steps 30 = .ok (.aload_n 0, 1) := by decide +kernel
theorem dX5_steps_31 : decode cX5_steps 31 = .ok (.getfield 60, 3) := by decide +kernel
theorem dX5_steps_34 : decode cX5_steps 34 = .ok (.iload_n 2, 1) := by decide +kernel
theorem dX5_steps_35 : decode cX5_steps 35 = .ok (.aload_n 0, 1) := by decide +kernel
theorem dX5_steps_36 : decode cX5_steps 36 = .ok (.getfield 60, 3) := by decide +kernel
theorem dX5_steps_39 : decode cX5_steps 39 = .ok (.iload_n 1, 1) := by decide +kernel
theorem dX5_steps_40 : decode cX5_steps 40 = .ok (.iaload, 1) := by decide +kernel
theorem dX5_steps_41 : decode cX5_steps 41 = .ok (.iload_n 3, 1) := by decide +kernel
theorem dX5_steps_42 : decode cX5_steps 42 = .ok (.iadd, 1) := by decide +kernel
theorem dX5_steps_43 : decode cX5_steps 43 = .ok (.iastore, 1) := by decide +kernel
theorem dX5_steps_44 : decode cX5_steps 44 = .ok (.aload_n 0, 1) := by decide +kernel
theorem dX5_steps_45 : decode cX5_steps 45 = .ok (.getfield 63, 3) := by decide +kernel
theorem dX5_steps_48 : decode cX5_steps 48 = .ok (.iload_n 2, 1) := by decide +kernel
theorem dX5_steps_49 : decode cX5_steps 49 = .ok (.iload 4, 2) := by decide +kernel
theorem dX5_steps_51 : decode cX5_steps 51 = .ok (.iastore, 1) := by decide +kernel
theorem dX5_steps_52 : decode cX5_steps 52 = .ok (.iconst 1, 1) := by decide +kernel
theorem dX5_steps_53 : decode cX5_steps 53 = .ok (.ireturn, 1) := by decide +kernel
theorem dX5_find_0 : decode cX5_find 0 = .ok (.iconst 0, 1) := by decide +kernel
theorem dX5_find_1 : decode cX5_find 1 = .ok (.istore_n 1, 1) := by decide +kernel
theorem dX5_find_2 : decode cX5_find 2 = .ok (.iload_n 1, 1) := by decide +kernel
theorem dX5_find_3 : decode cX5_find 3 = .ok (.aload_n 0, 1) := by decide +kernel
theorem dX5_find_4 : decode cX5_find 4 = .ok (.getfield 114, 3) := by decide +kernel
theorem dX5_find_7 : decode cX5_find 7 = .ok (.if_icmp .ge 25, 3) := by decide +kernel
theorem dX5_find_10 : decode cX5_find 10 = .ok (.aload_n 0, 1) := by decide +kernel
theorem dX5_find_11 : decode cX5_find 11 = .ok (.getfield 60, 3) := by decide +kernel
theorem dX5_find_14 : decode cX5_find 14 = .ok (.iload_n 1, 1) := by decide +kernel
theorem dX5_find_15 : decode cX5_find 15 = .ok (.iload_n 1, 1) := by decide +kernel
theorem dX5_find_16 : decode cX5_find 16 = .ok (.ifCond .ne 7, 3) := by decide +kernel
theorem dX5_find_19 : decode cX5_find 19 = .ok (.iconst 0, 1) := by decide +kernel
theorem dX5_find_20 : decode cX5_find 20 = .ok (.goto 5, 3) := by decide +kernel
theorem dX5_find_23 : decode cX5_find 23 = .ok (.ldc 117, 2) := by decide +kernel
theorem dX5_find_25 : decode cX5_find 25 = .ok (.iastore, 1) := by decide +kernel
theorem dX5_find_26 : decode cX5_find 26 = .ok (.iinc 1 1, 3) := by decide +kernel
theorem dX5_find_29 : decode cX5_find 29 = .ok (.goto (-27), 3) := by decide +kernel
theorem dX5_find_32 : decode cX5_find 32 = .ok (.iconst 1, 1) := by decide +kernel
theorem dX5_find_33 : decode cX5_find 33 = .ok (.istore_n 1, 1) := by decide +kernel
theorem dX5_find_34 : decode cX5_find 34 = .ok (.iload_n 1, 1) := by decide +kernel
theorem dX5_find_35 : decode cX5_find 35 = .ok (.ifCond .eq 197, 3) := by decide +kernel
theorem dX5_find_38 : decode cX5_find 38 = .ok (.iconst 0, 1) := by decide +kernel
theorem dX5_find_39 : decode cX5_find 39 = .ok (.istore_n 1, 1) := by decide +kernel
theorem dX5_find_40 : decode cX5_find 40 = .ok (.iconst 0, 1) := by decide +kernel
theorem dX5_find_41 : decode cX5_find 41 = .ok (.istore_n 2, 1) := by decide +kernel
theorem dX5_find_42 : decode cX5_find 42 = .ok (.iload_n 2, 1) := by decide +kernel
theorem dX5_find_43 : decode cX5_find 43 = .ok (.iconst 1, 1) := by decide +kernel
theorem dX5_find_44 : decode cX5_find 44 = .ok (.iadd, 1) := by decide +kernel
theorem dX5_find_45 : decode cX5_find 45 = .ok (.aload_n 0, 1) := by decide +kernel
theorem dX5_find_46 : decode cX5_find 46 = .ok (.getfield 114, 3) := by decide +kernel
theorem dX5_find_49 : decode cX5_find 49 = .ok (.if_icmp .ge 67, 3) := by decide +kernel
theorem dX5_find_52 : decode cX5_find 52 = .ok (.aload_n 0, 1) := by decide +kernel
theorem dX5_find_53 : decode cX5_find 53 = .ok (.iload_n 2, 1) := by decide +kernel
theorem dX5_find_54 : decode cX5_find 54 = .ok (.iload_n 2, 1) := by decide +kernel
theorem dX5_find_55 : decode cX5_find 55 = .ok (.iconst 1, 1) := by decide +kernel
theorem dX5_find_56 : decode cX5_find 56 = .ok (.iadd, 1) := by decide +kernel
theorem dX5_find_57 : decode cX5_find 57 = .ok (.iconst 0, 1) := by decide +kernel
theorem dX5_find_58 : decode cX5_find 58 = .ok (.iload_n 2, 1) := by decide +kernel
theorem dX5_find_59 : decode cX5_find 59 = .ok (.invokevirtual 118, 3) := by decide +kernel
theorem dX5_find_62 : decode cX5_find 62 = .ok (.ifCond .ne 7, 3) := by decide +kernel
theorem dX5_find_65 : decode cX5_find 65 = .ok (.iload_n 1, 1) := by decide +kernel
theorem dX5_find_66 : decode cX5_find 66 = .ok (.ifCond .eq 7, 3) := by decide +kernel
theorem dX5_find_69 : decode cX5_find 69 = .ok (.iconst 1, 1) := by decide +kernel
theorem dX5_find_70 : decode cX5_find 70 = .ok (.goto 4, 3) := by decide +kernel
theorem dX5_find_73 : decode cX5_find 73 = .ok (.iconst 0, 1) := by decide +kernel
theorem dX5_find_74 : decode cX5_find 74 = .ok (.istore_n 1, 1) := by decide +kernel
theorem dX5_find_75 : decode cX5_find 75 = .ok (.aload_n 0, 1) := by decide +kernel
theorem dX5_find_76 : decode cX5_find 76 = .ok (.getfield 54, 3) := by decide +kernel
theorem dX5_find_79 : decode cX5_find 79 = .ok (.iload_n 2, 1) := by decide +kernel
theorem dX5_find_80 : decode cX5_find 80 = .ok (.iaload, 1) := by decide +kernel
theorem dX5_find_81 : decode cX5_find 81 = .ok (.ifCond .le 19, 3) := by decide +kernel
theorem dX5_find_84 : decode cX5_find 84 = .ok (.aload_n 0, 1) := by decide +kernel
theorem dX5_find_85 : decode cX5_find 85 = .ok (.iload_n 2, 1) := by decide +kernel
theorem dX5_find_86 : decode cX5_find 86 = .ok (.iconst 1, 1) := by decide +kernel
theorem dX5_find_87 : decode cX5_find 87 = .ok (.iadd, 1) := by decide +kernel
theorem dX5_find_88 : decode cX5_find 88 = .ok (.iload_n 2, 1) := by decide +kernel
theorem dX5_find_89 : decode cX5_find 89 = .ok (.iconst 0, 1) := by decide +kernel
theorem dX5_find_90 : decode cX5_find 90 = .ok (.bipush 100, 2) := by decide +kernel
theorem dX5_find_92 : decode cX5_find 92 = .ok (.iload_n 2, 1) := by decide +kernel
theorem dX5_find_93 : decode cX5_find 93 = .ok (.iadd, 1) := by decide +kernel
theorem dX5_find_94 : decode cX5_find 94 = .ok (.invokevirtual 118, 3) := by decide +kernel
theorem dX5_find_97 : decode cX5_find 97 = .ok (.ifCond .ne 7, 3) := by decide +kernel
theorem dX5_find_100 : decode cX5_find 100 = .ok (.iload_n 1, 1) := by decide +kernel
theorem dX5_find_101 : decode cX5_find 101 = .ok (.ifCond .eq 7, 3) := by decide +kernel
theorem dX5_find_104 : decode cX5_find 104 = .ok (.iconst 1, 1) := by decide +kernel
theorem dX5_find_105 : decode cX5_find 105 = .ok (.goto 4, 3) := by decide +kernel
theorem dX5_find_108 : decode cX5_find 108 = .ok (.iconst 0, 1) := by decide +kernel
theorem dX5_find_109 : decode cX5_find 109 = .ok (.istore_n 1, 1) := by decide +kernel
theorem dX5_find_110 : decode cX5_find 110 = .ok (.iinc 2 1, 3) := by decide +kernel
theorem dX5_find_113 : decode cX5_find 113 = .ok (.goto (-71), 3) := by decide +kernel
theorem dX5_find_116 : decode cX5_find 116 = .ok (.iconst 0, 1) := by decide +kernel
theorem dX5_find_117 : decode cX5_find 117 = .ok (.istore_n 2, 1) := by decide +kernel
theorem dX5_find_118 : decode cX5_find 118 = .ok (.iload_n 2, 1) := by decide +kernel
theorem dX5_find_119 : decode cX5_find 119 = .ok (.aload_n 0, 1) := by decide +kernel
theorem dX5_find_120 : decode cX5_find 120 = .ok (.getfield 69, 3) := by decide +kernel
theorem dX5_find_123 : decode cX5_find 123 = .ok (.if_icmp .ge 106, 3) := by decide +kernel
theorem dX5_find_126 : decode cX5_find 126 = .ok (.aload_n 0, 1) := by decide +kernel
theorem dX5_find_127 : decode cX5_find 127 = .ok (.getfield 48, 3) := by decide +kernel
theorem dX5_find_130 : decode cX5_find 130 = .ok (.iload_n 2, 1) := by decide +kernel
theorem dX5_find_131 : decode cX5_find 131 = .ok (.baload, 1) := by decide +kernel
theorem dX5_find_132 : decode cX5_find 132 = .ok (.ifCond .eq 91, 3) := by decide +kernel
theorem dX5_find_135 : decode cX5_find 135 = .ok (.aload_n 0, 1) := by decide +kernel
theorem dX5_find_136 : decode cX5_find 136 = .ok (.aload_n 0, 1) := by decide +kernel
theorem dX5_find_137 : decode cX5_find 137 = .ok (.getfield 7, 3) := by decide +kernel
theorem dX5_find_140 : decode cX5_find 140 = .ok (.iload_n 2, 1) := by decide +kernel
theorem dX5_find_141 : decode cX5_find 141 = .ok (.iaload, 1) := by decide +kernel
theorem dX5_find_142 : decode cX5_find 142 = .ok (.invokevirtual 122, 3) := by decide +kernel
theorem dX5_find_145 : decode cX5_find 145 = .ok (.istore_n 3, 1) := by decide +kernel
theorem dX5_find_146 : decode cX5_find 146 = .ok (.aload_n 0, 1) := by decide +kernel
theorem dX5_find_147 : decode cX5_find 147 = .ok (.aload_n 0, 1) := by decide +kernel
theorem dX5_find_148 : decode cX5_find 148 = .ok (.getfield 13, 3) := by decide +kernel
theorem dX5_find_151 : decode cX5_find 151 = .ok (.iload_n 2, 1) := by decide +kernel
theorem dX5_find_152 : decode cX5_find 152 = .ok (.iaload, 1) := by decide +kernel
theorem dX5_find_153 : decode cX5_find 153 = .ok (.invokevirtual 122, 3) := by decide +kernel
theorem dX5_find_156 : decode cX5_find 156 = .ok (.istore 4, 2) := by decide +kernel
theorem dX5_find_158 : decode cX5_find 158 = .ok (.aload_n 0, 1) := by decide +kernel
theorem dX5_find_159 : decode cX5_find 159 = .ok (.getfield 57, 3) := by decide +kernel
theorem dX5_find_162 : decode cX5_find 162 = .ok (.iload_n 2, 1) := by decide +kernel
theorem dX5_find_163 : decode cX5_find 163 = .ok (.baload, 1) := by decide +kernel
theorem dX5_find_164 : decode cX5_find 164 = .ok (.ifCond .eq 28, 3) := by decide +kernel
theorem dX5_find_167 : decode cX5_find 167 = .ok (.aload_n 0, 1) := by decide +kernel
theorem dX5_find_168 : decode cX5_find 168 = .ok (.iload 4, 2) := by decide +kernel
theorem dX5_find_170 : decode cX5_find 170 = .ok (.iload_n 3, 1) := by decide +kernel
theorem dX5_find_171 : decode cX5_find 171 = .ok (.aload_n 0, 1) := by decide +kernel
theorem dX5_find_172 : decode cX5_find 172 = .ok (.getfield 16, 3) := by decide +kernel
theorem dX5_find_175 : decode cX5_find 175 = .ok (.iload_n 2, 1) := by decide +kernel
theorem dX5_find_176 : decode cX5_find 176 = .ok (.iaload, 1) := by decide +kernel
theorem dX5_find_177 : decode cX5_find 177 = .ok (.ineg, 1) := by decide +kernel
theorem dX5_find_178 : decode cX5_find 178 = .ok (.sipush 300, 3) := by decide +kernel
theorem dX5_find_181 : decode cX5_find 181 = .ok (.iload_n 2, 1) := by decide +kernel
theorem dX5_find_182 : decode cX5_find 182 = .ok (.iadd, 1) := by decide +kernel
theorem dX5_find_183 : decode cX5_find 183 = .ok (.invokevirtual 118, 3) := by decide +kernel
theorem dX5_find_186 : decode cX5_find 186 = .ok (.ifCond .eq 27, 3) := by decide +kernel
theorem dX5_find_189 : decode cX5_find 189 = .ok (.goto 28, 3) := by decide +kernel
theorem dX5_find_192 : decode cX5_find 192 = .ok (.aload_n 0, 1) := by decide +kernel
theorem dX5_find_193 : decode cX5_find 193 = .ok (.iload_n 3, 1) := by decide +kernel
theorem dX5_find_194 : decode cX5_find 194 = .ok (.iload 4, 2) := by decide +kernel
theorem dX5_find_196 : decode cX5_find 196 = .ok (.aload_n 0, 1) := by decide +kernel
theorem dX5_find_197 : decode cX5_find 197 = .ok (.getfield 16, 3) := by decide +kernel
theorem dX5_find_200 : decode cX5_find 200 = .ok (.iload_n 2, 1) := by decide +kernel
theorem dX5_find_201 : decode cX5_find 201 = .ok (.iaload, 1) := by decide +kernel
theorem dX5_find_202 : decode cX5_find 202 = .ok (.sipush 200, 3) := by decide +kernel
theorem dX5_find_205 : decode cX5_find 205 = .ok (.iload_n 2, 1) := by decide +kernel
theorem dX5_find_206 : decode cX5_find 206 = .ok (.iadd, 1) := by decide +kernel
theorem dX5_find_207 : decode cX5_find 207 = .ok (.invokevirtual 118, 3) := by decide +kernel
theorem dX5_find_210 : decode cX5_find 210 = .ok (.ifCond .ne 7, 3) := by decide +kernel
theorem dX5_find_213 : decode cX5_find 213 = .ok (.iload_n 1, 1) := by decide +kernel
theorem dX5_find_214 : decode cX5_find 214 = .ok (.ifCond .eq 7, 3) := by decide +kernel
theorem dX5_find_217 : decode cX5_find 217 = .ok (.iconst 1, 1) := by decide +kernel
theorem dX5_find_218 : decode cX5_find 218 = .ok (.goto 4, 3) := by decide +kernel
theorem dX5_find_221 : decode cX5_find 221 = .ok (.iconst 0, 1) := by decide +kernel
theorem dX5_find_222 : decode cX5_find 222 = .ok (.istore_n 1, 1) := by decide +kernel
theorem dX5_find_223 : decode cX5_find 223 = .ok (.iinc 2 1, 3) := by decide +kernel
theorem dX5_find_226 : decode cX5_find 226 = .ok (.goto (-108), 3) := by decide +kernel
theorem dX5_find_229 : decode cX5_find 229 = .ok (.goto (-195), 3) := by decide +kernel
theorem dX5_find_232 : decode cX5_find 232 = .ok (.return_, 1) := by decide +kernel
theorem dX5_send_0 : decode cX5_send 0 = .ok (.aload_n 0, 1) := by decide +kernel
theorem dX5_send_1 : decode cX5_send 1 = .ok (.getfield 114, 3) := by decide +kernel
theorem dX5_send_4 : decode cX5_send 4 = .ok (.iconst 1, 1) := by decide +kernel
theorem dX5_send_5 : decode cX5_send 5 = .ok (.isub, 1) := by decide +kernel
theorem dX5_send_6 : decode cX5_send 6 = .ok (.istore_n 1, 1) := by decide +kernel
theorem dX5_send_7 : decode cX5_send 7 = .ok (.iload_n 1, 1) := by decide +kernel
theorem dX5_send_8 : decode cX5_send 8 = .ok (.ifCond .le 108, 3) := by decide +kernel
theorem dX5_send_11 : decode cX5_send 11 = .ok (.aload_n 0, 1) := by decide +kernel
theorem dX5_send_12 : decode cX5_send 12 = .ok (.getfield 63, 3) := by decide +kernel
theorem dX5_send_15 : decode cX5_send 15 = .ok (.iload_n 1, 1) := by decide +kernel
theorem dX5_send_16 : decode cX5_send 16 = .ok (.iaload, 1) := by decide +kernel
theorem dX5_send_17 : decode cX5_send 17 = .ok (.istore_n 2, 1) := by decide +kernel
theorem dX5_send_18 : decode cX5_send 18 = .ok (.iload_n 2, 1) := by decide +kernel
theorem dX5_send_19 : decode cX5_send 19 = .ok (.bipush 100, 2) := by decide +kernel
theorem dX5_send_21 : decode cX5_send 21 = .ok (.irem, 1) := by decide +kernel
theorem dX5_send_22 : decode cX5_send 22 = .ok (.istore_n 3, 1) := by decide +kernel
theorem dX5_send_23 : decode cX5_send 23 = .ok (.iload_n 2, 1) := by decide +kernel
theorem dX5_send_24 : decode cX5_send 24 = .ok (.bipush 100, 2) := by decide +kernel
theorem dX5_send_26 : decode cX5_send 26 = .ok (.if_icmp .ge 18, 3) := by decide +kernel
theorem dX5_send_29 : decode cX5_send 29 = .ok (.aload_n 0, 1) := by decide +kernel
theorem dX5_send_30 : decode cX5_send 30 = .ok (.getfield 54, 3) := by decide +kernel
theorem dX5_send_33 : decode cX5_send 33 = .ok (.iload_n 3, 1) := by decide +kernel
theorem dX5_send_34 : decode cX5_send 34 = .ok (.dup2, 1) := by decide +kernel
theorem dX5_send_35 : decode cX5_send 35 = .ok (.iaload, 1) := by decide +kernel
theorem dX5_send_36 : decode cX5_send 36 = .ok (.iconst 1, 1) := by decide +kernel
theorem dX5_send_37 : decode cX5_send 37 = .ok (.iadd, 1) := by decide +kernel
theorem dX5_send_38 : decode cX5_send 38 = .ok (.iastore, 1) := by decide +kernel
theorem dX5_send_39 : decode cX5_send 39 = .ok (.iload_n 3, 1) := by decide +kernel
theorem dX5_send_40 : decode cX5_send 40 = .ok (.istore_n 1, 1) := by decide +kernel
theorem dX5_send_41 : decode cX5_send 41 = .ok (.goto 72, 3) := by decide +kernel
theorem dX5_send_44 : decode cX5_send 44 = .ok (.iload_n 2, 1) := by decide +kernel
theorem dX5_send_45 : decode cX5_send 45 = .ok (.sipush 200, 3) := by decide +kernel
theorem dX5_send_48 : decode cX5_send 48 = .ok (.if_icmp .ge 20, 3) := by decide +kernel
theorem dX5_send_51 : decode cX5_send 51 = .ok (.aload_n 0, 1) := by decide +kernel
theorem dX5_send_52 : decode cX5_send 52 = .ok (.getfield 54, 3) := by decide +kernel
theorem dX5_send_55 : decode cX5_send 55 = .ok (.iload_n 3, 1) := by decide +kernel
theorem dX5_send_56 : decode cX5_send 56 = .ok (.dup2, 1) := by decide +kernel
theorem dX5_send_57 : decode cX5_send 57 = .ok (.iaload, 1) := by decide +kernel
theorem dX5_send_58 : decode cX5_send 58 = .ok (.iconst 1, 1) := by decide +kernel
theorem dX5_send_59 : decode cX5_send 59 = .ok (.isub, 1) := by decide +kernel
theorem dX5_send_60 : decode cX5_send 60 = .ok (.iastore, 1) := by decide +kernel
theorem dX5_send_61 : decode cX5_send 61 = .ok (.iload_n 3, 1) := by decide +kernel
theorem dX5_send_62 : decode cX5_send 62 = .ok (.iconst 1, 1) := by decide +kernel
theorem dX5_send_63 : decode cX5_send 63 = .ok (.iadd, 1) := by decide +kernel
theorem dX5_send_64 : decode cX5_send 64 = .ok (.istore_n 1, 1) := by decide +kernel
theorem dX5_send_65 : decode cX5_send 65 = .ok (.goto 48, 3) := by decide +kernel
theorem dX5_send_68 : decode cX5_send 68 = .ok (.aload_n 0, 1) := by decide +kernel
theorem dX5_send_69 : decode cX5_send 69 = .ok (.getfield 57, 3) := by decide +kernel
theorem dX5_send_72 : decode cX5_send 72 = .ok (.iload_n 3, 1) := by decide +kernel
theorem dX5_send_73 : decode cX5_send 73 = .ok (.iload_n 2, 1) := by decide +kernel
theorem dX5_send_74 : decode cX5_send 74 = .ok (.sipush 300, 3) := by decide +kernel
theorem dX5_send_77 : decode cX5_send 77 = .ok (.if_icmp .ge 7, 3) := by decide +kernel
theorem dX5_send_80 : decode cX5_send 80 = .ok (.iconst 1, 1) := by decide +kernel
theorem dX5_send_81 : decode cX5_send 81 = .ok (.goto 4, 3) := by decide +kernel
theorem dX5_send_84 : decode cX5_send 84 = .ok (.iconst 0, 1) := by decide +kernel
theorem dX5_send_85 : decode cX5_send 85 = .ok (.bastore, 1) := by decide +kernel
theorem dX5_send_86 : decode cX5_send 86 = .ok (.aload_n 0, 1) := by decide +kernel
theorem dX5_send_87 : decode cX5_send 87 = .ok (.iload_n 2, 1) := by decide +kernel
theorem dX5_send_88 : decode cX5_send 88 = .ok (.sipush 300, 3) := by decide +kernel
theorem dX5_send_91 : decode cX5_send 91 = .ok (.if_icmp .ge 12, 3) := by decide +kernel
theorem dX5_send_94 : decode cX5_send 94 = .ok (.aload_n 0, 1) := by decide +kernel
theorem dX5_send_95 : decode cX5_send 95 = .ok (.getfield 7, 3) := by decide +kernel
theorem dX5_send_98 : decode cX5_send 98 = .ok (.iload_n 3, 1) := by decide +kernel
theorem dX5_send_99 : decode cX5_send 99 = .ok (.iaload, 1) := by decide +kernel
theorem dX5_send_100 : decode cX5_send 100 = .ok (.goto 9, 3) := by decide +kernel
theorem dX5_send_103 : decode cX5_send 103 = .ok (.aload_n 0, 1) := by decide +kernel
theorem dX5_send_104 : decode cX5_send 104 = .ok (.getfield 13, 3) := by decide +kernel
theorem dX5_send_107 : decode cX5_send 107 = .ok (.iload_n 3, 1) := by decide +kernel
theorem dX5_send_108 : decode cX5_send 108 = .ok (.iaload, 1) := by decide +kernel
theorem dX5_send_109 : decode cX5_send 109 = .ok (.invokevirtual 122, 3) := by decide +kernel
theorem dX5_send_112 : decode cX5_send 112 = .ok (.istore_n 1, 1) := by decide +kernel
theorem dX5_send_113 : decode cX5_send 113 = .ok (.goto (-106), 3) := by decide +kernel
theorem dX5_send_116 : decode cX5_send 116 = .ok (.return_, 1) := by decide +kernel
theorem dX5_planIn_0 : decode cX5_planIn 0 = .ok (.aload_n 0, 1) := by decide +kernel
theorem dX5_planIn_1 : decode cX5_planIn 1 = .ok (.invokevirtual 125, 3) := by decide +kernel
theorem dX5_planIn_4 : decode cX5_planIn 4 = .ok (.iconst 0, 1) := by decide +kernel
theorem dX5_planIn_5 : decode cX5_planIn 5 = .ok (.istore_n 3, 1) := by decide +kernel
theorem dX5_planIn_6 : decode cX5_planIn 6 = .ok (.iload_n 3, 1) := by decide +kernel
theorem dX5_planIn_7 : decode cX5_planIn 7 = .ok (.aload_n 0, 1) := by decide +kernel
theorem dX5_planIn_8 : decode cX5_planIn 8 = .ok (.getfield 69, 3) := by decide +kernel
theorem dX5_planIn_11 : decode cX5_planIn 11 = .ok (.if_icmp .ge 34, 3) := by decide +kernel
theorem dX5_planIn_14 : decode cX5_planIn 14 = .ok (.aload_n 0, 1) := by decide +kernel
theorem dX5_planIn_15 : decode cX5_planIn 15 = .ok (.getfield 48, 3) := by decide +kernel
theorem dX5_planIn_18 : decode cX5_planIn 18 = .ok (.iload_n 3, 1) := by decide +kernel
theorem dX5_planIn_19 : decode cX5_planIn 19 = .ok (.aload_n 0, 1) := by decide +kernel
theorem dX5_planIn_20 : decode cX5_planIn 20 = .ok (.getfield 19, 3) := by decide +kernel
theorem dX5_planIn_23 : decode cX5_planIn 23 = .ok (.iload_n 3, 1) := by decide +kernel
theorem dX5_planIn_24 : decode cX5_planIn 24 = .ok (.baload, 1) := by decide +kernel
theorem dX5_planIn_25 : decode cX5_planIn 25 = .ok (.ifCond .eq 12, 3) := by decide +kernel
theorem dX5_planIn_28 : decode cX5_planIn 28 = .ok (.iload_n 3, 1) := by decide +kernel
theorem dX5_planIn_29 : decode cX5_planIn 29 = .ok (.iload_n 2, 1) := by decide +kernel
theorem dX5_planIn_30 : decode cX5_planIn 30 = .ok (.if_icmp .eq 7, 3) := by decide +kernel
theorem dX5_planIn_33 : decode cX5_planIn 33 = .ok (.iconst 1, 1) := by decide +kernel
theorem dX5_planIn_34 : decode cX5_planIn 34 = .ok (.goto 4, 3) := by decide +kernel
theorem dX5_planIn_37 : decode cX5_planIn 37 = .ok (.iconst 0, 1) := by decide +kernel
theorem dX5_planIn_38 : decode cX5_planIn 38 = .ok (.bastore, 1) := by decide +kernel
theorem dX5_planIn_39 : decode cX5_planIn 39 = .ok (.iinc 3 1, 3) := by decide +kernel
theorem dX5_planIn_42 : decode cX5_planIn 42 = .ok (.goto (-36), 3) := by decide +kernel
theorem dX5_planIn_45 : decode cX5_planIn 45 = .ok (.iconst 0, 1) := by decide +kernel
theorem dX5_planIn_46 : decode cX5_planIn 46 = .ok (.istore_n 3, 1) := by decide +kernel
theorem dX5_planIn_47 : decode cX5_planIn 47 = .ok (.iconst 0, 1) := by decide +kernel
theorem dX5_planIn_48 : decode cX5_planIn 48 = .ok (.istore 4, 2) := by decide +kernel
theorem dX5_planIn_50 : decode cX5_planIn 50 = .ok (.iload 4, 2) := by decide +kernel
theorem dX5_planIn_52 : decode cX5_planIn 52 = .ok (.iload_n 1, 1) := by decide +kernel
theorem dX5_planIn_53 : decode cX5_planIn 53 = .ok (.if_icmp .ge 38, 3) := by decide +kernel
theorem dX5_planIn_56 : decode cX5_planIn 56 = .ok (.aload_n 0, 1) := by decide +kernel
theorem dX5_planIn_57 : decode cX5_planIn 57 = .ok (.getfield 114, 3) := by decide +kernel
theorem dX5_planIn_60 : decode cX5_planIn 60 = .ok (.ifCond .le 31, 3) := by decide +kernel
theorem dX5_planIn_63 : decode cX5_planIn 63 = .ok (.aload_n 0, 1) := by decide +kernel
theorem dX5_planIn_64 : decode cX5_planIn 64 = .ok (.invokevirtual 128, 3) := by decide +kernel
theorem dX5_planIn_67 : decode cX5_planIn 67 = .ok (.iload_n 3, 1) := by decide +kernel
theorem dX5_planIn_68 : decode cX5_planIn 68 = .ok (.aload_n 0, 1) := by decide +kernel
theorem dX5_planIn_69 : decode cX5_planIn 69 = .ok (.getfield 60, 3) := by decide +kernel
theorem dX5_planIn_72 : decode cX5_planIn 72 = .ok (.aload_n 0, 1) := by decide +kernel
theorem dX5_planIn_73 : decode cX5_planIn 73 = .ok (.getfield 114, 3) := by decide +kernel
theorem dX5_planIn_76 : decode cX5_planIn 76 = .ok (.iconst 1, 1) := by decide +kernel
theorem dX5_planIn_77 : decode cX5_planIn 77 = .ok (.isub, 1) := by decide +kernel
theorem dX5_planIn_78 : decode cX5_planIn 78 = .ok (.iaload, 1) := by decide +kernel
theorem dX5_planIn_79 : decode cX5_planIn 79 = .ok (.iadd, 1) := by decide +kernel
theorem dX5_planIn_80 : decode cX5_planIn 80 = .ok (.istore_n 3, 1) := by decide +kernel
theorem dX5_planIn_81 : decode cX5_planIn 81 = .ok (.aload_n 0, 1) := by decide +kernel
theorem dX5_planIn_82 : decode cX5_planIn 82 = .ok (.invokevirtual 131, 3) := by decide +kernel
theorem dX5_planIn_85 : decode cX5_planIn 85 = .ok (.iinc 4 1, 3) := by decide +kernel
theorem dX5_planIn_88 : decode cX5_planIn 88 = .ok (.goto (-38), 3) := by decide +kernel
theorem dX5_planIn_91 : decode cX5_planIn 91 = .ok (.iload_n 3, 1) := by decide +kernel
theorem dX5_planIn_92 : decode cX5_planIn 92 = .ok (.ireturn, 1) := by decide +kernel
theorem dX5_heaviestIn_0 : decode cX5_heaviestIn 0 = .ok (.aload_n 0, 1) := by decide +kernel
theorem dX5_heaviestIn_1 : decode cX5_heaviestIn 1 = .ok (.iload_n 1, 1) := by decide +kernel
theorem dX5_heaviestIn_2 : decode cX5_heaviestIn 2 = .ok (.iconst 1, 1) := by decide +kernel
theorem dX5_heaviestIn_3 : decode cX5_heaviestIn 3 = .ok (.bipush 6, 2) := by decide +kernel
theorem dX5_heaviestIn_5 : decode cX5_heaviestIn 5 = .ok (.invokestatic 72, 3) := by decide +kernel
theorem dX5_heaviestIn_8 : decode cX5_heaviestIn 8 = .ok (.ifCond .eq 7, 3) := by decide +kernel
theorem dX5_heaviestIn_11 : decode cX5_heaviestIn 11 = .ok (.iconst 0, 1) := by decide +kernel
theorem dX5_heaviestIn_12 : decode cX5_heaviestIn 12 = .ok (.goto 4, 3) := by decide +kernel
theorem dX5_heaviestIn_15 : decode cX5_heaviestIn 15 = .ok (.iconst 1, 1) := by decide +kernel
theorem dX5_heaviestIn_16 : decode cX5_heaviestIn 16 = .ok (.invokevirtual 76, 3) := by decide +kernel
theorem dX5_heaviestIn_19 : decode cX5_heaviestIn 19 = .ok (.ifCond .eq 12, 3) := by decide +kernel
theorem dX5_heaviestIn_22 : decode cX5_heaviestIn 22 = .ok (.aload_n 0, 1) := by decide +kernel
theorem dX5_heaviestIn_23 : decode cX5_heaviestIn 23 = .ok (.iload_n 1, 1) := by decide +kernel
theorem dX5_heaviestIn_24 : decode cX5_heaviestIn 24 = .ok (.iconst (-1), 1) := by decide +kernel
theorem dX5_heaviestIn_25 : decode cX5_heaviestIn 25 = .ok (.invokevirtual 134, 3) := by decide +kernel
theorem dX5_heaviestIn_28 : decode cX5_heaviestIn 28 = .ok (.goto 4, 3) := by decide +kernel
theorem dX5_heaviestIn_31 : decode cX5_heaviestIn 31 = .ok (.iconst 0, 1) := by decide +kernel
theorem dX5_heaviestIn_32 : decode cX5_heaviestIn 32 = .ok (.ireturn, 1) := by decide +kernel
theorem dX5_lossWithout_0 : decode cX5_lossWithout 0 = .ok (.aload_n 0, 1) := by decide +kernel
theorem dX5_lossWithout_1 : decode cX5_lossWithout 1 = .ok (.aload_n 0, 1) := by decide +kernel
theorem dX5_lossWithout_2 : decode cX5_lossWithout 2 = .ok (.iload_n 1, 1) := by decide +kernel
theorem dX5_lossWithout_3 : decode cX5_lossWithout 3 = .ok (.invokevirtual 80, 3) := by decide +kernel
theorem dX5_lossWithout_6 : decode cX5_lossWithout 6 = .ok (.ifCond .ne 7, 3) := by decide +kernel
theorem dX5_lossWithout_9 : decode cX5_lossWithout 9 = .ok (.iconst 1, 1) := by decide +kernel
theorem dX5_lossWithout_10 : decode cX5_lossWithout 10 = .ok (.goto 18, 3) := by decide +kernel
theorem dX5_lossWithout_13 : decode cX5_lossWithout 13 = .ok (.iload_n 2, 1) := by decide +kernel
theorem dX5_lossWithout_14 : decode cX5_lossWithout 14 = .ok (.iconst 1, 1) := by decide +kernel
theorem dX5_lossWithout_15 : decode cX5_lossWithout 15 = .ok (.bipush 6, 2) := by decide +kernel
theorem dX5_lossWithout_17 : decode cX5_lossWithout 17 = .ok (.invokestatic 72, 3) := by decide +kernel
theorem dX5_lossWithout_20 : decode cX5_lossWithout 20 = .ok (.ifCond .eq 7, 3) := by decide +kernel
theorem dX5_lossWithout_23 : decode cX5_lossWithout 23 = .ok (.iconst 0, 1) := by decide +kernel
theorem dX5_lossWithout_24 : decode cX5_lossWithout 24 = .ok (.goto 4, 3) := by decide +kernel
theorem dX5_lossWithout_27 : decode cX5_lossWithout 27 = .ok (.iconst 2, 1) := by decide +kernel
theorem dX5_lossWithout_28 : decode cX5_lossWithout 28 = .ok (.invokevirtual 76, 3) := by decide +kernel
theorem dX5_lossWithout_31 : decode cX5_lossWithout 31 = .ok (.ifCond .eq 19, 3) := by decide +kernel
theorem dX5_lossWithout_34 : decode cX5_lossWithout 34 = .ok (.aload_n 0, 1) := by decide +kernel
theorem dX5_lossWithout_35 : decode cX5_lossWithout 35 = .ok (.iload_n 2, 1) := by decide +kernel
theorem dX5_lossWithout_36 : decode cX5_lossWithout 36 = .ok (.iconst (-1), 1) := by decide +kernel
theorem dX5_lossWithout_37 : decode cX5_lossWithout 37 = .ok (.invokevirtual 134, 3) := by decide +kernel
theorem dX5_lossWithout_40 : decode cX5_lossWithout 40 = .ok (.aload_n 0, 1) := by decide +kernel
theorem dX5_lossWithout_41 : decode cX5_lossWithout 41 = .ok (.iload_n 2, 1) := by decide +kernel
theorem dX5_lossWithout_42 : decode cX5_lossWithout 42 = .ok (.iload_n 1, 1) := by decide +kernel
theorem dX5_lossWithout_43 : decode cX5_lossWithout 43 = .ok (.invokevirtual 134, 3) := by decide +kernel
theorem dX5_lossWithout_46 : decode cX5_lossWithout 46 = .ok (.isub, 1) := by decide +kernel
theorem dX5_lossWithout_47 : decode cX5_lossWithout 47 = .ok (.goto 4, 3) := by decide +kernel
theorem dX5_lossWithout_50 : decode cX5_lossWithout 50 = .ok (.iconst 0, 1) := by decide +kernel
theorem dX5_lossWithout_51 : decode cX5_lossWithout 51 = .ok (.ireturn, 1) := by decide +kernel
theorem dX5_weightAccepted_0 : decode cX5_weightAccepted 0 = .ok (.iconst 0, 1) := by decide +kernel
theorem dX5_weightAccepted_1 : decode cX5_weightAccepted 1 = .ok (.istore_n 1, 1) := by decide +kernel
theorem dX5_weightAccepted_2 : decode cX5_weightAccepted 2 = .ok (.iconst 0, 1) := by decide +kernel
theorem dX5_weightAccepted_3 : decode cX5_weightAccepted 3 = .ok (.istore_n 2, 1) := by decide +kernel
theorem dX5_weightAccepted_4 : decode cX5_weightAccepted 4 = .ok (.iload_n 2, 1) := by decide +kernel
theorem dX5_weightAccepted_5 : decode cX5_weightAccepted 5 = .ok (.aload_n 0, 1) := by decide +kernel
theorem dX5_weightAccepted_6 : decode cX5_weightAccepted 6 = .ok (.getfield 69, 3) := by decide +kernel
theorem dX5_weightAccepted_9 : decode cX5_weightAccepted 9 = .ok (.if_icmp .ge 31, 3) := by decide +kernel
theorem dX5_weightAccepted_12 : decode cX5_weightAccepted 12 = .ok (.iload_n 1, 1) := by decide +kernel
theorem dX5_weightAccepted_13 : decode cX5_weightAccepted 13 = .ok (.aload_n 0, 1) := by decide +kernel
theorem dX5_weightAccepted_14 : decode cX5_weightAccepted 14 = .ok (.getfield 33, 3) := by decide +kernel
theorem dX5_weightAccepted_17 : decode cX5_weightAccepted 17 = .ok (.iload_n 2, 1) := by decide +kernel
theorem dX5_weightAccepted_18 : decode cX5_weightAccepted 18 = .ok (.baload, 1) := by decide +kernel
theorem dX5_weightAccepted_19 : decode cX5_weightAccepted 19 = .ok (.ifCond .eq 12, 3) := by decide +kernel
theorem dX5_weightAccepted_22 : decode cX5_weightAccepted 22 = .ok (.aload_n 0, 1) := by decide +kernel
theorem dX5_weightAccepted_23 : decode cX5_weightAccepted 23 = .ok (.getfield 16, 3) := by decide +kernel
theorem dX5_weightAccepted_26 : decode cX5_weightAccepted 26 = .ok (.iload_n 2, 1) := by decide +kernel
theorem dX5_weightAccepted_27 : decode cX5_weightAccepted 27 = .ok (.iaload, 1) := by decide +kernel
theorem dX5_weightAccepted_28 : decode cX5_weightAccepted 28 = .ok (.goto 4, 3) := by decide +kernel
theorem dX5_weightAccepted_31 : decode cX5_weightAccepted 31 = .ok (.iconst 0, 1) := by decide +kernel
theorem dX5_weightAccepted_32 : decode cX5_weightAccepted 32 = .ok (.iadd, 1) := by decide +kernel
theorem dX5_weightAccepted_33 : decode cX5_weightAccepted 33 = .ok (.istore_n 1, 1) := by decide +kernel
theorem dX5_weightAccepted_34 : decode cX5_weightAccepted 34 = .ok (.iinc 2 1, 3) := by decide +kernel
theorem dX5_weightAccepted_37 : decode cX5_weightAccepted 37 = .ok (.goto (-33), 3) := by decide +kernel
theorem dX5_weightAccepted_40 : decode cX5_weightAccepted 40 = .ok (.iload_n 1, 1) := by decide +kernel
theorem dX5_weightAccepted_41 : decode cX5_weightAccepted 41 = .ok (.ireturn, 1) := by decide +kernel
theorem dX5_openDesk_0 : decode cX5_openDesk 0 = .ok (.aload_n 0, 1) := by decide +kernel
theorem dX5_openDesk_1 : decode cX5_openDesk 1 = .ok (.iload_n 1, 1) := by decide +kernel
theorem dX5_openDesk_2 : decode cX5_openDesk 2 = .ok (.bipush 100, 2) := by decide +kernel
theorem dX5_openDesk_4 : decode cX5_openDesk 4 = .ok (.sipush 400, 3) := by decide +kernel
theorem dX5_openDesk_7 : decode cX5_openDesk 7 = .ok (.invokestatic 72, 3) := by decide +kernel
theorem dX5_openDesk_10 : decode cX5_openDesk 10 = .ok (.ifCond .eq 7, 3) := by decide +kernel
theorem dX5_openDesk_13 : decode cX5_openDesk 13 = .ok (.iconst 0, 1) := by decide +kernel
theorem dX5_openDesk_14 : decode cX5_openDesk 14 = .ok (.goto 4, 3) := by decide +kernel
theorem dX5_openDesk_17 : decode cX5_openDesk 17 = .ok (.iconst 1, 1) := by decide +kernel
theorem dX5_openDesk_18 : decode cX5_openDesk 18 = .ok (.invokevirtual 76, 3) := by decide +kernel
theorem dX5_openDesk_21 : decode cX5_openDesk 21 = .ok (.ifCond .ne 5, 3) := by decide +kernel
theorem dX5_openDesk_24 : decode cX5_openDesk 24 = .ok (.iconst 0, 1) := by decide +kernel
theorem dX5_openDesk_25 : decode cX5_openDesk 25 = .ok (.ireturn, 1) := by decide +kernel
theorem dX5_openDesk_26 : decode cX5_openDesk 26 = .ok (.aload_n 0, 1) := by decide +kernel
theorem dX5_openDesk_27 : decode cX5_openDesk 27 = .ok (.invokevirtual 138, 3) := by decide +kernel
theorem dX5_openDesk_30 : decode cX5_openDesk 30 = .ok (.istore_n 2, 1) := by decide +kernel
theorem dX5_openDesk_31 : decode cX5_openDesk 31 = .ok (.aload_n 0, 1) := by decide +kernel
theorem dX5_openDesk_32 : decode cX5_openDesk 32 = .ok (.iload_n 1, 1) := by decide +kernel
theorem dX5_openDesk_33 : decode cX5_openDesk 33 = .ok (.putfield 26, 3) := by decide +kernel
theorem dX5_openDesk_36 : decode cX5_openDesk 36 = .ok (.aload_n 0, 1) := by decide +kernel
theorem dX5_openDesk_37 : decode cX5_openDesk 37 = .ok (.iconst 0, 1) := by decide +kernel
theorem dX5_openDesk_38 : decode cX5_openDesk 38 = .ok (.putfield 141, 3) := by decide +kernel
theorem dX5_openDesk_41 : decode cX5_openDesk 41 = .ok (.iconst 0, 1) := by decide +kernel
theorem dX5_openDesk_42 : decode cX5_openDesk 42 = .ok (.istore_n 3, 1) := by decide +kernel
theorem dX5_openDesk_43 : decode cX5_openDesk 43 = .ok (.iload_n 3, 1) := by decide +kernel
theorem dX5_openDesk_44 : decode cX5_openDesk 44 = .ok (.bipush 40, 2) := by decide +kernel
theorem dX5_openDesk_46 : decode cX5_openDesk 46 = .ok (.if_icmp .ge 23, 3) := by decide +kernel
theorem dX5_openDesk_49 : decode cX5_openDesk 49 = .ok (.aload_n 0, 1) := by decide +kernel
theorem dX5_openDesk_50 : decode cX5_openDesk 50 = .ok (.getfield 33, 3) := by decide +kernel
theorem dX5_openDesk_53 : decode cX5_openDesk 53 = .ok (.iload_n 3, 1) := by decide +kernel
theorem dX5_openDesk_54 : decode cX5_openDesk 54 = .ok (.iconst 0, 1) := by decide +kernel
theorem dX5_openDesk_55 : decode cX5_openDesk 55 = .ok (.bastore, 1) := by decide +kernel
theorem dX5_openDesk_56 : decode cX5_openDesk 56 = .ok (.aload_n 0, 1) := by decide +kernel
theorem dX5_openDesk_57 : decode cX5_openDesk 57 = .ok (.getfield 30, 3) := by decide +kernel
theorem dX5_openDesk_60 : decode cX5_openDesk 60 = .ok (.iload_n 3, 1) := by decide +kernel
theorem dX5_openDesk_61 : decode cX5_openDesk 61 = .ok (.iconst 0, 1) := by decide +kernel
theorem dX5_openDesk_62 : decode cX5_openDesk 62 = .ok (.bastore, 1) := by decide +kernel
theorem dX5_openDesk_63 : decode cX5_openDesk 63 = .ok (.iinc 3 1, 3) := by decide +kernel
theorem dX5_openDesk_66 : decode cX5_openDesk 66 = .ok (.goto (-23), 3) := by decide +kernel
theorem dX5_openDesk_69 : decode cX5_openDesk 69 = .ok (.iload_n 2, 1) := by decide +kernel
theorem dX5_openDesk_70 : decode cX5_openDesk 70 = .ok (.ireturn, 1) := by decide +kernel
theorem dX5_offer_0 : decode cX5_offer 0 = .ok (.aload_n 0, 1) := by decide +kernel
theorem dX5_offer_1 : decode cX5_offer 1 = .ok (.aload_n 0, 1) := by decide +kernel
theorem dX5_offer_2 : decode cX5_offer 2 = .ok (.iload_n 1, 1) := by decide +kernel
theorem dX5_offer_3 : decode cX5_offer 3 = .ok (.invokevirtual 80, 3) := by decide +kernel
theorem dX5_offer_6 : decode cX5_offer 6 = .ok (.ifCond .ne 7, 3) := by decide +kernel
theorem dX5_offer_9 : decode cX5_offer 9 = .ok (.iconst 1, 1) := by decide +kernel
theorem dX5_offer_10 : decode cX5_offer 10 = .ok (.goto 17, 3) := by decide +kernel
theorem dX5_offer_13 : decode cX5_offer 13 = .ok (.aload_n 0, 1) := by decide +kernel
theorem dX5_offer_14 : decode cX5_offer 14 = .ok (.getfield 30, 3) := by decide +kernel
theorem dX5_offer_17 : decode cX5_offer 17 = .ok (.iload_n 1, 1) := by decide +kernel
theorem dX5_offer_18 : decode cX5_offer 18 = .ok (.baload, 1) := by decide +kernel
theorem dX5_offer_19 : decode cX5_offer 19 = .ok (.ifCond .eq 7, 3) := by decide +kernel
theorem dX5_offer_22 : decode cX5_offer 22 = .ok (.iconst 2, 1) := by decide +kernel
theorem dX5_offer_23 : decode cX5_offer 23 = .ok (.goto 4, 3) := by decide +kernel
theorem dX5_offer_26 : decode cX5_offer 26 = .ok (.iconst 0, 1) := by decide +kernel
theorem dX5_offer_27 : decode cX5_offer 27 = .ok (.invokevirtual 76, 3) := by decide +kernel
theorem dX5_offer_30 : decode cX5_offer 30 = .ok (.ifCond .ne 5, 3) := by decide +kernel
theorem dX5_offer_33 : decode cX5_offer 33 = .ok (.iconst 0, 1) := by decide +kernel
theorem dX5_offer_34 : decode cX5_offer 34 = .ok (.ireturn, 1) := by decide +kernel
theorem dX5_offer_35 : decode cX5_offer 35 = .ok (.aload_n 0, 1) := by decide +kernel
theorem dX5_offer_36 : decode cX5_offer 36 = .ok (.getfield 30, 3) := by decide +kernel
theorem dX5_offer_39 : decode cX5_offer 39 = .ok (.iload_n 1, 1) := by decide +kernel
theorem dX5_offer_40 : decode cX5_offer 40 = .ok (.iconst 1, 1) := by decide +kernel
theorem dX5_offer_41 : decode cX5_offer 41 = .ok (.bastore, 1) := by decide +kernel
theorem dX5_offer_42 : decode cX5_offer 42 = .ok (.iconst 0, 1) := by decide +kernel
theorem dX5_offer_43 : decode cX5_offer 43 = .ok (.istore_n 2, 1) := by decide +kernel
theorem dX5_offer_44 : decode cX5_offer 44 = .ok (.iconst 0, 1) := by decide +kernel
theorem dX5_offer_45 : decode cX5_offer 45 = .ok (.istore_n 3, 1) := by decide +kernel
theorem dX5_offer_46 : decode cX5_offer 46 = .ok (.iload_n 3, 1) := by decide +kernel
theorem dX5_offer_47 : decode cX5_offer 47 = .ok (.aload_n 0, 1) := by decide +kernel
theorem dX5_offer_48 : decode cX5_offer 48 = .ok (.getfield 69, 3) := by decide +kernel
theorem dX5_offer_51 : decode cX5_offer 51 = .ok (.if_icmp .ge 40, 3) := by decide +kernel
theorem dX5_offer_54 : decode cX5_offer 54 = .ok (.iload_n 2, 1) := by decide +kernel
theorem dX5_offer_55 : decode cX5_offer 55 = .ok (.aload_n 0, 1) := by decide +kernel
theorem dX5_offer_56 : decode cX5_offer 56 = .ok (.getfield 33, 3) := by decide +kernel
theorem dX5_offer_59 : decode cX5_offer 59 = .ok (.iload_n 3, 1) := by decide +kernel
theorem dX5_offer_60 : decode cX5_offer 60 = .ok (.baload, 1) := by decide +kernel
theorem dX5_offer_61 : decode cX5_offer 61 = .ok (.ifCond .eq 21, 3) := by decide +kernel
theorem dX5_offer_64 : decode cX5_offer 64 = .ok (.aload_n 0, 1) := by decide +kernel
theorem dX5_offer_65 : decode cX5_offer 65 = .ok (.iload_n 3, 1) := by decide +kernel
theorem dX5_offer_66 : decode cX5_offer 66 = .ok (.iload_n 1, 1) := by decide +kernel
theorem dX5_offer_67 : decode cX5_offer 67 = .ok (.invokevirtual 87, 3) := by decide +kernel
theorem dX5_offer_70 : decode cX5_offer 70 = .ok (.ifCond .eq 12, 3) := by decide +kernel
theorem dX5_offer_73 : decode cX5_offer 73 = .ok (.aload_n 0, 1) := by decide +kernel
theorem dX5_offer_74 : decode cX5_offer 74 = .ok (.getfield 16, 3) := by decide +kernel
theorem dX5_offer_77 : decode cX5_offer 77 = .ok (.iload_n 3, 1) := by decide +kernel
theorem dX5_offer_78 : decode cX5_offer 78 = .ok (.iaload, 1) := by decide +kernel
theorem dX5_offer_79 : decode cX5_offer 79 = .ok (.goto 4, 3) := by decide +kernel
theorem dX5_offer_82 : decode cX5_offer 82 = .ok (.iconst 0, 1) := by decide +kernel
theorem dX5_offer_83 : decode cX5_offer 83 = .ok (.iadd, 1) := by decide +kernel
theorem dX5_offer_84 : decode cX5_offer 84 = .ok (.istore_n 2, 1) := by decide +kernel
theorem dX5_offer_85 : decode cX5_offer 85 = .ok (.iinc 3 1, 3) := by decide +kernel
theorem dX5_offer_88 : decode cX5_offer 88 = .ok (.goto (-42), 3) := by decide +kernel
theorem dX5_offer_91 : decode cX5_offer 91 = .ok (.bipush 100, 2) := by decide +kernel
theorem dX5_offer_93 : decode cX5_offer 93 = .ok (.aload_n 0, 1) := by decide +kernel
theorem dX5_offer_94 : decode cX5_offer 94 = .ok (.getfield 16, 3) := by decide +kernel
theorem dX5_offer_97 : decode cX5_offer 97 = .ok (.iload_n 1, 1) := by decide +kernel
theorem dX5_offer_98 : decode cX5_offer 98 = .ok (.iaload, 1) := by decide +kernel
theorem dX5_offer_99 : decode cX5_offer 99 = .ok (.imul, 1) := by decide +kernel
theorem dX5_offer_100 : decode cX5_offer 100 = .ok (.aload_n 0, 1) := by decide +kernel
theorem dX5_offer_101 : decode cX5_offer 101 = .ok (.getfield 26, 3) := by decide +kernel
theorem dX5_offer_104 : decode cX5_offer 104 = .ok (.iload_n 2, 1) := by decide +kernel
theorem dX5_offer_105 : decode cX5_offer 105 = .ok (.imul, 1) := by decide +kernel
theorem dX5_offer_106 : decode cX5_offer 106 = .ok (.if_icmp .gt 5, 3) := by decide +kernel
theorem dX5_offer_109 : decode cX5_offer 109 = .ok (.iconst (-1), 1) := by decide +kernel
theorem dX5_offer_110 : decode cX5_offer 110 = .ok (.ireturn, 1) := by decide +kernel
theorem dX5_offer_111 : decode cX5_offer 111 = .ok (.iconst 0, 1) := by decide +kernel
theorem dX5_offer_112 : decode cX5_offer 112 = .ok (.istore_n 3, 1) := by decide +kernel
theorem dX5_offer_113 : decode cX5_offer 113 = .ok (.iload_n 3, 1) := by decide +kernel
theorem dX5_offer_114 : decode cX5_offer 114 = .ok (.aload_n 0, 1) := by decide +kernel
theorem dX5_offer_115 : decode cX5_offer 115 = .ok (.getfield 69, 3) := by decide +kernel
theorem dX5_offer_118 : decode cX5_offer 118 = .ok (.if_icmp .ge 38, 3) := by decide +kernel
theorem dX5_offer_121 : decode cX5_offer 121 = .ok (.aload_n 0, 1) := by decide +kernel
theorem dX5_offer_122 : decode cX5_offer 122 = .ok (.getfield 33, 3) := by decide +kernel
theorem dX5_offer_125 : decode cX5_offer 125 = .ok (.iload_n 3, 1) := by decide +kernel
theorem dX5_offer_126 : decode cX5_offer 126 = .ok (.aload_n 0, 1) := by decide +kernel
theorem dX5_offer_127 : decode cX5_offer 127 = .ok (.getfield 33, 3) := by decide +kernel
theorem dX5_offer_130 : decode cX5_offer 130 = .ok (.iload_n 3, 1) := by decide +kernel
theorem dX5_offer_131 : decode cX5_offer 131 = .ok (.baload, 1) := by decide +kernel
theorem dX5_offer_132 : decode cX5_offer 132 = .ok (.ifCond .eq 16, 3) := by decide +kernel
theorem dX5_offer_135 : decode cX5_offer 135 = .ok (.aload_n 0, 1) := by decide +kernel
theorem dX5_offer_136 : decode cX5_offer 136 = .ok (.iload_n 3, 1) := by decide +kernel
theorem dX5_offer_137 : decode cX5_offer 137 = .ok (.iload_n 1, 1) := by decide +kernel
theorem dX5_offer_138 : decode cX5_offer 138 = .ok (.invokevirtual 87, 3) := by decide +kernel
theorem dX5_offer_141 : decode cX5_offer 141 = .ok (.ifCond .ne 7, 3) := by decide +kernel
theorem dX5_offer_144 : decode cX5_offer 144 = .ok (.iconst 1, 1) := by decide +kernel
theorem dX5_offer_145 : decode cX5_offer 145 = .ok (.goto 4, 3) := by decide +kernel
theorem dX5_offer_148 : decode cX5_offer 148 = .ok (.iconst 0, 1) := by decide +kernel
theorem dX5_offer_149 : decode cX5_offer 149 = .ok (.bastore, 1) := by decide +kernel
theorem dX5_offer_150 : decode cX5_offer 150 = .ok (.iinc 3 1, 3) := by decide +kernel
theorem dX5_offer_153 : decode cX5_offer 153 = .ok (.goto (-40), 3) := by decide +kernel
theorem dX5_offer_156 : decode cX5_offer 156 = .ok (.aload_n 0, 1) := by decide +kernel
theorem dX5_offer_157 : decode cX5_offer 157 = .ok (.getfield 33, 3) := by decide +kernel
theorem dX5_offer_160 : decode cX5_offer 160 = .ok (.iload_n 1, 1) := by decide +kernel
theorem dX5_offer_161 : decode cX5_offer 161 = .ok (.iconst 1, 1) := by decide +kernel
theorem dX5_offer_162 : decode cX5_offer 162 = .ok (.bastore, 1) := by decide +kernel
theorem dX5_offer_163 : decode cX5_offer 163 = .ok (.aload_n 0, 1) := by decide +kernel
theorem dX5_offer_164 : decode cX5_offer 164 = .ok (.dup, 1) := by decide +kernel
theorem dX5_offer_165 : decode cX5_offer 165 = .ok (.getfield 141, 3) := by decide +kernel
theorem dX5_offer_168 : decode cX5_offer 168 = .ok (.iload_n 2, 1) := by decide +kernel
theorem dX5_offer_169 : decode cX5_offer 169 = .ok (.iadd, 1) := by decide +kernel
theorem dX5_offer_170 : decode cX5_offer 170 = .ok (.putfield 141, 3) := by decide +kernel
theorem dX5_offer_173 : decode cX5_offer 173 = .ok (.iload_n 2, 1) := by decide +kernel
theorem dX5_offer_174 : decode cX5_offer 174 = .ok (.ireturn, 1) := by decide +kernel
theorem dX5_accepted_0 : decode cX5_accepted 0 = .ok (.aload_n 0, 1) := by decide +kernel
theorem dX5_accepted_1 : decode cX5_accepted 1 = .ok (.iconst 0, 1) := by decide +kernel
theorem dX5_accepted_2 : decode cX5_accepted 2 = .ok (.putfield 66, 3) := by decide +kernel
theorem dX5_accepted_5 : decode cX5_accepted 5 = .ok (.lconst 0, 1) := by decide +kernel
theorem dX5_accepted_6 : decode cX5_accepted 6 = .ok (.lstore_n 1, 1) := by decide +kernel
theorem dX5_accepted_7 : decode cX5_accepted 7 = .ok (.iconst 0, 1) := by decide +kernel
theorem dX5_accepted_8 : decode cX5_accepted 8 = .ok (.istore_n 3, 1) := by decide +kernel
theorem dX5_accepted_9 : decode cX5_accepted 9 = .ok (.iload_n 3, 1) := by decide +kernel
theorem dX5_accepted_10 : decode cX5_accepted 10 = .ok (.aload_n 0, 1) := by decide +kernel
theorem dX5_accepted_11 : decode cX5_accepted 11 = .ok (.getfield 69, 3) := by decide +kernel
theorem dX5_accepted_14 : decode cX5_accepted 14 = .ok (.if_icmp .ge 28, 3) := by decide +kernel
theorem dX5_accepted_17 : decode cX5_accepted 17 = .ok (.lload_n 1, 1) := by decide +kernel
theorem dX5_accepted_18 : decode cX5_accepted 18 = .ok (.aload_n 0, 1) := by decide +kernel
theorem dX5_accepted_19 : decode cX5_accepted 19 = .ok (.getfield 33, 3) := by decide +kernel
theorem dX5_accepted_22 : decode cX5_accepted 22 = .ok (.iload_n 3, 1) := by decide +kernel
theorem dX5_accepted_23 : decode cX5_accepted 23 = .ok (.baload, 1) := by decide +kernel
theorem dX5_accepted_24 : decode cX5_accepted 24 = .ok (.ifCond .eq 9, 3) := by decide +kernel
theorem dX5_accepted_27 : decode cX5_accepted 27 = .ok (.lconst 1, 1) := by decide +kernel
theorem dX5_accepted_28 : decode cX5_accepted 28 = .ok (.iload_n 3, 1) := by decide +kernel
theorem dX5_accepted_29 : decode cX5_accepted 29 = .ok (.lshl, 1) := by decide +kernel
theorem dX5_accepted_30 : decode cX5_accepted 30 = .ok (.goto 4, 3) := by decide +kernel
theorem dX5_accepted_33 : decode cX5_accepted 33 = .ok (.lconst 0, 1) := by decide +kernel
theorem dX5_accepted_34 : decode cX5_accepted 34 = .ok (.lor, 1) := by decide +kernel
theorem dX5_accepted_35 : decode cX5_accepted 35 = .ok (.lstore_n 1, 1) := by decide +kernel
theorem dX5_accepted_36 : decode cX5_accepted 36 = .ok (.iinc 3 1, 3) := by decide +kernel
theorem dX5_accepted_39 : decode cX5_accepted 39 = .ok (.goto (-30), 3) := by decide +kernel
theorem dX5_accepted_42 : decode cX5_accepted 42 = .ok (.lload_n 1, 1) := by decide +kernel
theorem dX5_accepted_43 : decode cX5_accepted 43 = .ok (.lreturn, 1) := by decide +kernel
theorem dX5_acceptedWeight_0 : decode cX5_acceptedWeight 0 = .ok (.aload_n 0, 1) := by decide +kernel
theorem dX5_acceptedWeight_1 : decode cX5_acceptedWeight 1 = .ok (.iconst 0, 1) := by decide +kernel
theorem dX5_acceptedWeight_2 : decode cX5_acceptedWeight 2 = .ok (.putfield 66, 3) := by decide +kernel
theorem dX5_acceptedWeight_5 : decode cX5_acceptedWeight 5 = .ok (.aload_n 0, 1) := by decide +kernel
theorem dX5_acceptedWeight_6 : decode cX5_acceptedWeight 6 = .ok (.invokevirtual 138, 3) := by decide +kernel
theorem dX5_acceptedWeight_9 : decode cX5_acceptedWeight 9 = .ok (.ireturn, 1) := by decide +kernel
theorem dX5_droppedWeight_0 : decode cX5_droppedWeight 0 = .ok (.aload_n 0, 1) := by decide +kernel
theorem dX5_droppedWeight_1 : decode cX5_droppedWeight 1 = .ok (.iconst 0, 1) := by decide +kernel
theorem dX5_droppedWeight_2 : decode cX5_droppedWeight 2 = .ok (.putfield 66, 3) := by decide +kernel
theorem dX5_droppedWeight_5 : decode cX5_droppedWeight 5 = .ok (.aload_n 0, 1) := by decide +kernel
theorem dX5_droppedWeight_6 : decode cX5_droppedWeight 6 = .ok (.getfield 141, 3) := by decide +kernel
theorem dX5_droppedWeight_9 : decode cX5_droppedWeight 9 = .ok (.ireturn, 1) := by decide +kernel
theorem dX5_bestOfOffered_0 : decode cX5_bestOfOffered 0 = .ok (.aload_n 0, 1) := by decide +kernel
theorem dX5_bestOfOffered_1 : decode cX5_bestOfOffered 1 = .ok (.iconst 0, 1) := by decide +kernel
theorem dX5_bestOfOffered_2 : decode cX5_bestOfOffered 2 = .ok (.putfield 66, 3) := by decide +kernel
theorem dX5_bestOfOffered_5 : decode cX5_bestOfOffered 5 = .ok (.aload_n 0, 1) := by decide +kernel
theorem dX5_bestOfOffered_6 : decode cX5_bestOfOffered 6 = .ok (.iconst 1, 1) := by decide +kernel
theorem dX5_bestOfOffered_7 : decode cX5_bestOfOffered 7 = .ok (.invokevirtual 104, 3) := by decide +kernel
theorem dX5_bestOfOffered_10 : decode cX5_bestOfOffered 10 = .ok (.ireturn, 1) := by decide +kernel
theorem dX5_faultRound_0 : decode cX5_faultRound 0 = .ok (.iconst 1, 1) := by decide +kernel
theorem dX5_faultRound_1 : decode cX5_faultRound 1 = .ok (.istore_n 2, 1) := by decide +kernel
theorem dX5_faultRound_2 : decode cX5_faultRound 2 = .ok (.iconst 0, 1) := by decide +kernel
theorem dX5_faultRound_3 : decode cX5_faultRound 3 = .ok (.istore_n 3, 1) := by decide +kernel
theorem dX5_faultRound_4 : decode cX5_faultRound 4 = .ok (.iload_n 3, 1) := by decide +kernel
theorem dX5_faultRound_5 : decode cX5_faultRound 5 = .ok (.aload_n 0, 1) := by decide +kernel
theorem dX5_faultRound_6 : decode cX5_faultRound 6 = .ok (.getfield 69, 3) := by decide +kernel
theorem dX5_faultRound_9 : decode cX5_faultRound 9 = .ok (.if_icmp .ge 45, 3) := by decide +kernel
theorem dX5_faultRound_12 : decode cX5_faultRound 12 = .ok (.iload_n 2, 1) := by decide +kernel
theorem dX5_faultRound_13 : decode cX5_faultRound 13 = .ok (.ifCond .eq 33, 3) := by decide +kernel
theorem dX5_faultRound_16 : decode cX5_faultRound 16 = .ok (.aload_n 0, 1) := by decide +kernel
theorem dX5_faultRound_17 : decode cX5_faultRound 17 = .ok (.getfield 19, 3) := by decide +kernel
theorem dX5_faultRound_20 : decode cX5_faultRound 20 = .ok (.iload_n 3, 1) := by decide +kernel
theorem dX5_faultRound_21 : decode cX5_faultRound 21 = .ok (.baload, 1) := by decide +kernel
theorem dX5_faultRound_22 : decode cX5_faultRound 22 = .ok (.ifCond .eq 20, 3) := by decide +kernel
theorem dX5_faultRound_25 : decode cX5_faultRound 25 = .ok (.aload_n 0, 1) := by decide +kernel
theorem dX5_faultRound_26 : decode cX5_faultRound 26 = .ok (.getfield 13, 3) := by decide +kernel
theorem dX5_faultRound_29 : decode cX5_faultRound 29 = .ok (.iload_n 3, 1) := by decide +kernel
theorem dX5_faultRound_30 : decode cX5_faultRound 30 = .ok (.iaload, 1) := by decide +kernel
theorem dX5_faultRound_31 : decode cX5_faultRound 31 = .ok (.aload_n 0, 1) := by decide +kernel
theorem dX5_faultRound_32 : decode cX5_faultRound 32 = .ok (.getfield 7, 3) := by decide +kernel
theorem dX5_faultRound_35 : decode cX5_faultRound 35 = .ok (.iload_n 3, 1) := by decide +kernel
theorem dX5_faultRound_36 : decode cX5_faultRound 36 = .ok (.iaload, 1) := by decide +kernel
theorem dX5_faultRound_37 : decode cX5_faultRound 37 = .ok (.isub, 1) := by decide +kernel
theorem dX5_faultRound_38 : decode cX5_faultRound 38 = .ok (.iload_n 1, 1) := by decide +kernel
theorem dX5_faultRound_39 : decode cX5_faultRound 39 = .ok (.if_icmp .gt 7, 3) := by decide +kernel
theorem dX5_faultRound_42 : decode cX5_faultRound 42 = .ok (.iconst 1, 1) := by decide +kernel
theorem dX5_faultRound_43 : decode cX5_faultRound 43 = .ok (.goto 4, 3) := by decide +kernel
theorem dX5_faultRound_46 : decode cX5_faultRound 46 = .ok (.iconst 0, 1) := by decide +kernel
theorem dX5_faultRound_47 : decode cX5_faultRound 47 = .ok (.istore_n 2, 1) := by decide +kernel
theorem dX5_faultRound_48 : decode cX5_faultRound 48 = .ok (.iinc 3 1, 3) := by decide +kernel
theorem dX5_faultRound_51 : decode cX5_faultRound 51 = .ok (.goto (-47), 3) := by decide +kernel
theorem dX5_faultRound_54 : decode cX5_faultRound 54 = .ok (.iload_n 1, 1) := by decide +kernel
theorem dX5_faultRound_55 : decode cX5_faultRound 55 = .ok (.iconst 1, 1) := by decide +kernel
theorem dX5_faultRound_56 : decode cX5_faultRound 56 = .ok (.sipush 1000, 3) := by decide +kernel
theorem dX5_faultRound_59 : decode cX5_faultRound 59 = .ok (.invokestatic 72, 3) := by decide +kernel
theorem dX5_faultRound_62 : decode cX5_faultRound 62 = .ok (.ifCond .ne 7, 3) := by decide +kernel
theorem dX5_faultRound_65 : decode cX5_faultRound 65 = .ok (.iconst 1, 1) := by decide +kernel
theorem dX5_faultRound_66 : decode cX5_faultRound 66 = .ok (.goto 12, 3) := by decide +kernel
theorem dX5_faultRound_69 : decode cX5_faultRound 69 = .ok (.iload_n 2, 1) := by decide +kernel
theorem dX5_faultRound_70 : decode cX5_faultRound 70 = .ok (.ifCond .eq 7, 3) := by decide +kernel
theorem dX5_faultRound_73 : decode cX5_faultRound 73 = .ok (.iconst 0, 1) := by decide +kernel
theorem dX5_faultRound_74 : decode cX5_faultRound 74 = .ok (.goto 4, 3) := by decide +kernel
theorem dX5_faultRound_77 : decode cX5_faultRound 77 = .ok (.iconst 2, 1) := by decide +kernel
theorem dX5_faultRound_78 : decode cX5_faultRound 78 = .ok (.ireturn, 1) := by decide +kernel
theorem dX5_takes_0 : decode cX5_takes 0 = .ok (.aload_n 0, 1) := by decide +kernel
theorem dX5_takes_1 : decode cX5_takes 1 = .ok (.getfield 7, 3) := by decide +kernel
theorem dX5_takes_4 : decode cX5_takes 4 = .ok (.iload_n 1, 1) := by decide +kernel
theorem dX5_takes_5 : decode cX5_takes 5 = .ok (.iaload, 1) := by decide +kernel
theorem dX5_takes_6 : decode cX5_takes 6 = .ok (.iload_n 3, 1) := by decide +kernel
theorem dX5_takes_7 : decode cX5_takes 7 = .ok (.irem, 1) := by decide +kernel
theorem dX5_takes_8 : decode cX5_takes 8 = .ok (.istore 4, 2) := by decide +kernel
theorem dX5_takes_10 : decode cX5_takes 10 = .ok (.iload_n 2, 1) := by decide +kernel
theorem dX5_takes_11 : decode cX5_takes 11 = .ok (.iload 4, 2) := by decide +kernel
theorem dX5_takes_13 : decode cX5_takes 13 = .ok (.if_icmp .lt 10, 3) := by decide +kernel
theorem dX5_takes_16 : decode cX5_takes 16 = .ok (.iload_n 2, 1) := by decide +kernel
theorem dX5_takes_17 : decode cX5_takes 17 = .ok (.iload 4, 2) := by decide +kernel
theorem dX5_takes_19 : decode cX5_takes 19 = .ok (.isub, 1) := by decide +kernel
theorem dX5_takes_20 : decode cX5_takes 20 = .ok (.goto 9, 3) := by decide +kernel
theorem dX5_takes_23 : decode cX5_takes 23 = .ok (.iload_n 2, 1) := by decide +kernel
theorem dX5_takes_24 : decode cX5_takes 24 = .ok (.iload_n 3, 1) := by decide +kernel
theorem dX5_takes_25 : decode cX5_takes 25 = .ok (.iadd, 1) := by decide +kernel
theorem dX5_takes_26 : decode cX5_takes 26 = .ok (.iload 4, 2) := by decide +kernel
theorem dX5_takes_28 : decode cX5_takes 28 = .ok (.isub, 1) := by decide +kernel
theorem dX5_takes_29 : decode cX5_takes 29 = .ok (.istore 5, 2) := by decide +kernel
theorem dX5_takes_31 : decode cX5_takes 31 = .ok (.iload 5, 2) := by decide +kernel
theorem dX5_takes_33 : decode cX5_takes 33 = .ok (.aload_n 0, 1) := by decide +kernel
theorem dX5_takes_34 : decode cX5_takes 34 = .ok (.getfield 13, 3) := by decide +kernel
theorem dX5_takes_37 : decode cX5_takes 37 = .ok (.iload_n 1, 1) := by decide +kernel
theorem dX5_takes_38 : decode cX5_takes 38 = .ok (.iaload, 1) := by decide +kernel
theorem dX5_takes_39 : decode cX5_takes 39 = .ok (.aload_n 0, 1) := by decide +kernel
theorem dX5_takes_40 : decode cX5_takes 40 = .ok (.getfield 7, 3) := by decide +kernel
theorem dX5_takes_43 : decode cX5_takes 43 = .ok (.iload_n 1, 1) := by decide +kernel
theorem dX5_takes_44 : decode cX5_takes 44 = .ok (.iaload, 1) := by decide +kernel
theorem dX5_takes_45 : decode cX5_takes 45 = .ok (.isub, 1) := by decide +kernel
theorem dX5_takes_46 : decode cX5_takes 46 = .ok (.if_icmp .ge 7, 3) := by decide +kernel
theorem dX5_takes_49 : decode cX5_takes 49 = .ok (.iconst 1, 1) := by decide +kernel
theorem dX5_takes_50 : decode cX5_takes 50 = .ok (.goto 4, 3) := by decide +kernel
theorem dX5_takes_53 : decode cX5_takes 53 = .ok (.iconst 0, 1) := by decide +kernel
theorem dX5_takes_54 : decode cX5_takes 54 = .ok (.ireturn, 1) := by decide +kernel
theorem dX5_depthRound_0 : decode cX5_depthRound 0 = .ok (.aload_n 0, 1) := by decide +kernel
theorem dX5_depthRound_1 : decode cX5_depthRound 1 = .ok (.aload_n 0, 1) := by decide +kernel
theorem dX5_depthRound_2 : decode cX5_depthRound 2 = .ok (.iload_n 1, 1) := by decide +kernel
theorem dX5_depthRound_3 : decode cX5_depthRound 3 = .ok (.invokevirtual 144, 3) := by decide +kernel
theorem dX5_depthRound_6 : decode cX5_depthRound 6 = .ok (.invokevirtual 76, 3) := by decide +kernel
theorem dX5_depthRound_9 : decode cX5_depthRound 9 = .ok (.ifCond .ne 5, 3) := by decide +kernel
theorem dX5_depthRound_12 : decode cX5_depthRound 12 = .ok (.iconst 0, 1) := by decide +kernel
theorem dX5_depthRound_13 : decode cX5_depthRound 13 = .ok (.ireturn, 1) := by decide +kernel
theorem dX5_depthRound_14 : decode cX5_depthRound 14 = .ok (.iconst 0, 1) := by decide +kernel
theorem dX5_depthRound_15 : decode cX5_depthRound 15 = .ok (.istore_n 2, 1) := by decide +kernel
theorem dX5_depthRound_16 : decode cX5_depthRound 16 = .ok (.iconst 0, 1) := by decide +kernel
theorem dX5_depthRound_17 : decode cX5_depthRound 17 = .ok (.istore_n 3, 1) := by decide +kernel
theorem dX5_depthRound_18 : decode cX5_depthRound 18 = .ok (.iload_n 3, 1) := by decide +kernel
theorem dX5_depthRound_19 : decode cX5_depthRound 19 = .ok (.iload_n 1, 1) := by decide +kernel
theorem dX5_depthRound_20 : decode cX5_depthRound 20 = .ok (.if_icmp .ge 74, 3) := by decide +kernel
theorem dX5_depthRound_23 : decode cX5_depthRound 23 = .ok (.iconst 0, 1) := by decide +kernel
theorem dX5_depthRound_24 : decode cX5_depthRound 24 = .ok (.istore 4, 2) := by decide +kernel
theorem dX5_depthRound_26 : decode cX5_depthRound 26 = .ok (.iconst 0, 1) := by decide +kernel
theorem dX5_depthRound_27 : decode cX5_depthRound 27 = .ok (.istore 5, 2) := by decide +kernel
theorem dX5_depthRound_29 : decode cX5_depthRound 29 = .ok (.iload 5, 2) := by decide +kernel
theorem dX5_depthRound_31 : decode cX5_depthRound 31 = .ok (.aload_n 0, 1) := by decide +kernel
theorem dX5_depthRound_32 : decode cX5_depthRound 32 = .ok (.getfield 69, 3) := by decide +kernel
theorem dX5_depthRound_35 : decode cX5_depthRound 35 = .ok (.if_icmp .ge 40, 3) := by decide +kernel
theorem dX5_depthRound_38 : decode cX5_depthRound 38 = .ok (.iload 4, 2) := by decide +kernel
theorem dX5_depthRound_40 : decode cX5_depthRound 40 = .ok (.aload_n 0, 1) := by decide +kernel
theorem dX5_depthRound_41 : decode cX5_depthRound 41 = .ok (.getfield 19, 3) := by decide +kernel
theorem dX5_depthRound_44 : decode cX5_depthRound 44 = .ok (.iload 5, 2) := by decide +kernel
theorem dX5_depthRound_46 : decode cX5_depthRound 46 = .ok (.baload, 1) := by decide +kernel
theorem dX5_depthRound_47 : decode cX5_depthRound 47 = .ok (.ifCond .eq 18, 3) := by decide +kernel
theorem dX5_depthRound_50 : decode cX5_depthRound 50 = .ok (.aload_n 0, 1) := by decide +kernel
theorem dX5_depthRound_51 : decode cX5_depthRound 51 = .ok (.iload 5, 2) := by decide +kernel
theorem dX5_depthRound_53 : decode cX5_depthRound 53 = .ok (.iload_n 3, 1) := by decide +kernel
theorem dX5_depthRound_54 : decode cX5_depthRound 54 = .ok (.iload_n 1, 1) := by decide +kernel
theorem dX5_depthRound_55 : decode cX5_depthRound 55 = .ok (.invokevirtual 147, 3) := by decide +kernel
theorem dX5_depthRound_58 : decode cX5_depthRound 58 = .ok (.ifCond .eq 7, 3) := by decide +kernel
theorem dX5_depthRound_61 : decode cX5_depthRound 61 = .ok (.iconst 1, 1) := by decide +kernel
theorem dX5_depthRound_62 : decode cX5_depthRound 62 = .ok (.goto 4, 3) := by decide +kernel
theorem dX5_depthRound_65 : decode cX5_depthRound 65 = .ok (.iconst 0, 1) := by decide +kernel
theorem dX5_depthRound_66 : decode cX5_depthRound 66 = .ok (.iadd, 1) := by decide +kernel
theorem dX5_depthRound_67 : decode cX5_depthRound 67 = .ok (.istore 4, 2) := by decide +kernel
theorem dX5_depthRound_69 : decode cX5_depthRound 69 = .ok (.iinc 5 1, 3) := by decide +kernel
theorem dX5_depthRound_72 : decode cX5_depthRound 72 = .ok (.goto (-43), 3) := by decide +kernel
theorem dX5_depthRound_75 : decode cX5_depthRound 75 = .ok (.iload 4, 2) := by decide +kernel
theorem dX5_depthRound_77 : decode cX5_depthRound 77 = .ok (.iload_n 2, 1) := by decide +kernel
theorem dX5_depthRound_78 : decode cX5_depthRound 78 = .ok (.if_icmp .le 8, 3) := by decide +kernel
theorem dX5_depthRound_81 : decode cX5_depthRound 81 = .ok (.iload 4, 2) := by decide +kernel
theorem dX5_depthRound_83 : decode cX5_depthRound 83 = .ok (.goto 4, 3) := by decide +kernel
theorem dX5_depthRound_86 : decode cX5_depthRound 86 = .ok (.iload_n 2, 1) := by decide +kernel
theorem dX5_depthRound_87 : decode cX5_depthRound 87 = .ok (.istore_n 2, 1) := by decide +kernel
theorem dX5_depthRound_88 : decode cX5_depthRound 88 = .ok (.iinc 3 1, 3) := by decide +kernel
theorem dX5_depthRound_91 : decode cX5_depthRound 91 = .ok (.goto (-73), 3) := by decide +kernel
theorem dX5_depthRound_94 : decode cX5_depthRound 94 = .ok (.iload_n 2, 1) := by decide +kernel
theorem dX5_depthRound_95 : decode cX5_depthRound 95 = .ok (.ireturn, 1) := by decide +kernel
theorem dX5_planBeside_0 : decode cX5_planBeside 0 = .ok (.iconst 0, 1) := by decide +kernel
theorem dX5_planBeside_1 : decode cX5_planBeside 1 = .ok (.istore_n 3, 1) := by decide +kernel
theorem dX5_planBeside_2 : decode cX5_planBeside 2 = .ok (.iload_n 3, 1) := by decide +kernel
theorem dX5_planBeside_3 : decode cX5_planBeside 3 = .ok (.aload_n 0, 1) := by decide +kernel
theorem dX5_planBeside_4 : decode cX5_planBeside 4 = .ok (.getfield 69, 3) := by decide +kernel
theorem dX5_planBeside_7 : decode cX5_planBeside 7 = .ok (.if_icmp .ge 141, 3) := by decide +kernel
theorem dX5_planBeside_10 : decode cX5_planBeside 10 = .ok (.aload_n 0, 1) := by decide +kernel
theorem dX5_planBeside_11 : decode cX5_planBeside 11 = .ok (.getfield 42, 3) := by decide +kernel
theorem dX5_planBeside_14 : decode cX5_planBeside 14 = .ok (.iload_n 3, 1) := by decide +kernel
theorem dX5_planBeside_15 : decode cX5_planBeside 15 = .ok (.aload_n 0, 1) := by decide +kernel
theorem dX5_planBeside_16 : decode cX5_planBeside 16 = .ok (.getfield 7, 3) := by decide +kernel
theorem dX5_planBeside_19 : decode cX5_planBeside 19 = .ok (.iload_n 3, 1) := by decide +kernel
theorem dX5_planBeside_20 : decode cX5_planBeside 20 = .ok (.iaload, 1) := by decide +kernel
theorem dX5_planBeside_21 : decode cX5_planBeside 21 = .ok (.iload_n 2, 1) := by decide +kernel
theorem dX5_planBeside_22 : decode cX5_planBeside 22 = .ok (.irem, 1) := by decide +kernel
theorem dX5_planBeside_23 : decode cX5_planBeside 23 = .ok (.iastore, 1) := by decide +kernel
theorem dX5_planBeside_24 : decode cX5_planBeside 24 = .ok (.aload_n 0, 1) := by decide +kernel
theorem dX5_planBeside_25 : decode cX5_planBeside 25 = .ok (.getfield 45, 3) := by decide +kernel
theorem dX5_planBeside_28 : decode cX5_planBeside 28 = .ok (.iload_n 3, 1) := by decide +kernel
theorem dX5_planBeside_29 : decode cX5_planBeside 29 = .ok (.aload_n 0, 1) := by decide +kernel
theorem dX5_planBeside_30 : decode cX5_planBeside 30 = .ok (.getfield 42, 3) := by decide +kernel
theorem dX5_planBeside_33 : decode cX5_planBeside 33 = .ok (.iload_n 3, 1) := by decide +kernel
theorem dX5_planBeside_34 : decode cX5_planBeside 34 = .ok (.iaload, 1) := by decide +kernel
theorem dX5_planBeside_35 : decode cX5_planBeside 35 = .ok (.aload_n 0, 1) := by decide +kernel
theorem dX5_planBeside_36 : decode cX5_planBeside 36 = .ok (.getfield 13, 3) := by decide +kernel
theorem dX5_planBeside_39 : decode cX5_planBeside 39 = .ok (.iload_n 3, 1) := by decide +kernel
theorem dX5_planBeside_40 : decode cX5_planBeside 40 = .ok (.iaload, 1) := by decide +kernel
theorem dX5_planBeside_41 : decode cX5_planBeside 41 = .ok (.iadd, 1) := by decide +kernel
theorem dX5_planBeside_42 : decode cX5_planBeside 42 = .ok (.aload_n 0, 1) := by decide +kernel
theorem dX5_planBeside_43 : decode cX5_planBeside 43 = .ok (.getfield 7, 3) := by decide +kernel
theorem dX5_planBeside_46 : decode cX5_planBeside 46 = .ok (.iload_n 3, 1) := by decide +kernel
theorem dX5_planBeside_47 : decode cX5_planBeside 47 = .ok (.iaload, 1) := by decide +kernel
theorem dX5_planBeside_48 : decode cX5_planBeside 48 = .ok (.isub, 1) := by decide +kernel
theorem dX5_planBeside_49 : decode cX5_planBeside 49 = .ok (.iastore, 1) := by decide +kernel
theorem dX5_planBeside_50 : decode cX5_planBeside 50 = .ok (.aload_n 0, 1) := by decide +kernel
theorem dX5_planBeside_51 : decode cX5_planBeside 51 = .ok (.getfield 48, 3) := by decide +kernel
theorem dX5_planBeside_54 : decode cX5_planBeside 54 = .ok (.iload_n 3, 1) := by decide +kernel
theorem dX5_planBeside_55 : decode cX5_planBeside 55 = .ok (.aload_n 0, 1) := by decide +kernel
theorem dX5_planBeside_56 : decode cX5_planBeside 56 = .ok (.getfield 19, 3) := by decide +kernel
theorem dX5_planBeside_59 : decode cX5_planBeside 59 = .ok (.iload_n 3, 1) := by decide +kernel
theorem dX5_planBeside_60 : decode cX5_planBeside 60 = .ok (.baload, 1) := by decide +kernel
theorem dX5_planBeside_61 : decode cX5_planBeside 61 = .ok (.ifCond .eq 17, 3) := by decide +kernel
theorem dX5_planBeside_64 : decode cX5_planBeside 64 = .ok (.aload_n 0, 1) := by decide +kernel
theorem dX5_planBeside_65 : decode cX5_planBeside 65 = .ok (.iload_n 3, 1) := by decide +kernel
theorem dX5_planBeside_66 : decode cX5_planBeside 66 = .ok (.iconst 0, 1) := by decide +kernel
theorem dX5_planBeside_67 : decode cX5_planBeside 67 = .ok (.iload_n 2, 1) := by decide +kernel
theorem dX5_planBeside_68 : decode cX5_planBeside 68 = .ok (.invokevirtual 147, 3) := by decide +kernel
theorem dX5_planBeside_71 : decode cX5_planBeside 71 = .ok (.ifCond .ne 7, 3) := by decide +kernel
theorem dX5_planBeside_74 : decode cX5_planBeside 74 = .ok (.iconst 1, 1) := by decide +kernel
theorem dX5_planBeside_75 : decode cX5_planBeside 75 = .ok (.goto 4, 3) := by decide +kernel
theorem dX5_planBeside_78 : decode cX5_planBeside 78 = .ok (.iconst 0, 1) := by decide +kernel
theorem dX5_planBeside_79 : decode cX5_planBeside 79 = .ok (.bastore, 1) := by decide +kernel
theorem dX5_planBeside_80 : decode cX5_planBeside 80 = .ok (.iconst 0, 1) := by decide +kernel
theorem dX5_planBeside_81 : decode cX5_planBeside 81 = .ok (.istore 4, 2) := by decide +kernel
theorem dX5_planBeside_83 : decode cX5_planBeside 83 = .ok (.iload 4, 2) := by decide +kernel
theorem dX5_planBeside_85 : decode cX5_planBeside 85 = .ok (.iload_n 2, 1) := by decide +kernel
theorem dX5_planBeside_86 : decode cX5_planBeside 86 = .ok (.if_icmp .ge 56, 3) := by decide +kernel
theorem dX5_planBeside_89 : decode cX5_planBeside 89 = .ok (.aload_n 0, 1) := by decide +kernel
theorem dX5_planBeside_90 : decode cX5_planBeside 90 = .ok (.getfield 48, 3) := by decide +kernel
theorem dX5_planBeside_93 : decode cX5_planBeside 93 = .ok (.iload_n 3, 1) := by decide +kernel
theorem dX5_planBeside_94 : decode cX5_planBeside 94 = .ok (.baload, 1) := by decide +kernel
theorem dX5_planBeside_95 : decode cX5_planBeside 95 = .ok (.ifCond .eq 47, 3) := by decide +kernel
theorem dX5_planBeside_98 : decode cX5_planBeside 98 = .ok (.iload_n 1, 1) := by decide +kernel
theorem dX5_planBeside_99 : decode cX5_planBeside 99 = .ok (.iconst (-1), 1) := by decide +kernel
theorem dX5_planBeside_100 : decode cX5_planBeside 100 = .ok (.if_icmp .eq 42, 3) := by decide +kernel
theorem dX5_planBeside_103 : decode cX5_planBeside 103 = .ok (.aload_n 0, 1) := by decide +kernel
theorem dX5_planBeside_104 : decode cX5_planBeside 104 = .ok (.getfield 48, 3) := by decide +kernel
theorem dX5_planBeside_107 : decode cX5_planBeside 107 = .ok (.iload_n 3, 1) := by decide +kernel
theorem dX5_planBeside_108 : decode cX5_planBeside 108 = .ok (.aload_n 0, 1) := by decide +kernel
theorem dX5_planBeside_109 : decode cX5_planBeside 109 = .ok (.iload_n 3, 1) := by decide +kernel
theorem dX5_planBeside_110 : decode cX5_planBeside 110 = .ok (.iload 4, 2) := by decide +kernel
theorem dX5_planBeside_112 : decode cX5_planBeside 112 = .ok (.iload_n 2, 1) := by decide +kernel
theorem dX5_planBeside_113 : decode cX5_planBeside 113 = .ok (.invokevirtual 147, 3) := by decide +kernel
theorem dX5_planBeside_116 : decode cX5_planBeside 116 = .ok (.ifCond .eq 14, 3) := by decide +kernel
theorem dX5_planBeside_119 : decode cX5_planBeside 119 = .ok (.aload_n 0, 1) := by decide +kernel
theorem dX5_planBeside_120 : decode cX5_planBeside 120 = .ok (.iload_n 1, 1) := by decide +kernel
theorem dX5_planBeside_121 : decode cX5_planBeside 121 = .ok (.iload 4, 2) := by decide +kernel
theorem dX5_planBeside_123 : decode cX5_planBeside 123 = .ok (.iload_n 2, 1) := by decide +kernel
theorem dX5_planBeside_124 : decode cX5_planBeside 124 = .ok (.invokevirtual 147, 3) := by decide +kernel
theorem dX5_planBeside_127 : decode cX5_planBeside 127 = .ok (.ifCond .ne 7, 3) := by decide +kernel
theorem dX5_planBeside_130 : decode cX5_planBeside 130 = .ok (.iconst 1, 1) := by decide +kernel
theorem dX5_planBeside_131 : decode cX5_planBeside 131 = .ok (.goto 4, 3) := by decide +kernel
theorem dX5_planBeside_134 : decode cX5_planBeside 134 = .ok (.iconst 0, 1) := by decide +kernel
theorem dX5_planBeside_135 : decode cX5_planBeside 135 = .ok (.bastore, 1) := by decide +kernel
theorem dX5_planBeside_136 : decode cX5_planBeside 136 = .ok (.iinc 4 1, 3) := by decide +kernel
theorem dX5_planBeside_139 : decode cX5_planBeside 139 = .ok (.goto (-56), 3) := by decide +kernel
theorem dX5_planBeside_142 : decode cX5_planBeside 142 = .ok (.iinc 3 1, 3) := by decide +kernel
theorem dX5_planBeside_145 : decode cX5_planBeside 145 = .ok (.goto (-143), 3) := by decide +kernel
theorem dX5_planBeside_148 : decode cX5_planBeside 148 = .ok (.aload_n 0, 1) := by decide +kernel
theorem dX5_planBeside_149 : decode cX5_planBeside 149 = .ok (.iload_n 2, 1) := by decide +kernel
theorem dX5_planBeside_150 : decode cX5_planBeside 150 = .ok (.invokevirtual 101, 3) := by decide +kernel
theorem dX5_planBeside_153 : decode cX5_planBeside 153 = .ok (.iload_n 1, 1) := by decide +kernel
theorem dX5_planBeside_154 : decode cX5_planBeside 154 = .ok (.iconst (-1), 1) := by decide +kernel
theorem dX5_planBeside_155 : decode cX5_planBeside 155 = .ok (.if_icmp .ne 7, 3) := by decide +kernel
theorem dX5_planBeside_158 : decode cX5_planBeside 158 = .ok (.iconst 0, 1) := by decide +kernel
theorem dX5_planBeside_159 : decode cX5_planBeside 159 = .ok (.goto 9, 3) := by decide +kernel
theorem dX5_planBeside_162 : decode cX5_planBeside 162 = .ok (.aload_n 0, 1) := by decide +kernel
theorem dX5_planBeside_163 : decode cX5_planBeside 163 = .ok (.getfield 16, 3) := by decide +kernel
theorem dX5_planBeside_166 : decode cX5_planBeside 166 = .ok (.iload_n 1, 1) := by decide +kernel
theorem dX5_planBeside_167 : decode cX5_planBeside 167 = .ok (.iaload, 1) := by decide +kernel
theorem dX5_planBeside_168 : decode cX5_planBeside 168 = .ok (.iadd, 1) := by decide +kernel
theorem dX5_planBeside_169 : decode cX5_planBeside 169 = .ok (.ireturn, 1) := by decide +kernel
theorem dX5_heaviestRound_0 : decode cX5_heaviestRound 0 = .ok (.aload_n 0, 1) := by decide +kernel
theorem dX5_heaviestRound_1 : decode cX5_heaviestRound 1 = .ok (.aload_n 0, 1) := by decide +kernel
theorem dX5_heaviestRound_2 : decode cX5_heaviestRound 2 = .ok (.iload_n 1, 1) := by decide +kernel
theorem dX5_heaviestRound_3 : decode cX5_heaviestRound 3 = .ok (.invokevirtual 144, 3) := by decide +kernel
theorem dX5_heaviestRound_6 : decode cX5_heaviestRound 6 = .ok (.invokevirtual 76, 3) := by decide +kernel
theorem dX5_heaviestRound_9 : decode cX5_heaviestRound 9 = .ok (.ifCond .ne 5, 3) := by decide +kernel
theorem dX5_heaviestRound_12 : decode cX5_heaviestRound 12 = .ok (.iconst 0, 1) := by decide +kernel
theorem dX5_heaviestRound_13 : decode cX5_heaviestRound 13 = .ok (.ireturn, 1) := by decide +kernel
theorem dX5_heaviestRound_14 : decode cX5_heaviestRound 14 = .ok (.aload_n 0, 1) := by decide +kernel
theorem dX5_heaviestRound_15 : decode cX5_heaviestRound 15 = .ok (.iconst (-1), 1) := by decide +kernel
theorem dX5_heaviestRound_16 : decode cX5_heaviestRound 16 = .ok (.iload_n 1, 1) := by decide +kernel
theorem dX5_heaviestRound_17 : decode cX5_heaviestRound 17 = .ok (.invokevirtual 150, 3) := by decide +kernel
theorem dX5_heaviestRound_20 : decode cX5_heaviestRound 20 = .ok (.istore_n 2, 1) := by decide +kernel
theorem dX5_heaviestRound_21 : decode cX5_heaviestRound 21 = .ok (.iconst 0, 1) := by decide +kernel
theorem dX5_heaviestRound_22 : decode cX5_heaviestRound 22 = .ok (.istore_n 3, 1) := by decide +kernel
theorem dX5_heaviestRound_23 : decode cX5_heaviestRound 23 = .ok (.iload_n 3, 1) := by decide +kernel
theorem dX5_heaviestRound_24 : decode cX5_heaviestRound 24 = .ok (.aload_n 0, 1) := by decide +kernel
theorem dX5_heaviestRound_25 : decode cX5_heaviestRound 25 = .ok (.getfield 69, 3) := by decide +kernel
theorem dX5_heaviestRound_28 : decode cX5_heaviestRound 28 = .ok (.if_icmp .ge 53, 3) := by decide +kernel
theorem dX5_heaviestRound_31 : decode cX5_heaviestRound 31 = .ok (.aload_n 0, 1) := by decide +kernel
theorem dX5_heaviestRound_32 : decode cX5_heaviestRound 32 = .ok (.getfield 19, 3) := by decide +kernel
theorem dX5_heaviestRound_35 : decode cX5_heaviestRound 35 = .ok (.iload_n 3, 1) := by decide +kernel
theorem dX5_heaviestRound_36 : decode cX5_heaviestRound 36 = .ok (.baload, 1) := by decide +kernel
theorem dX5_heaviestRound_37 : decode cX5_heaviestRound 37 = .ok (.ifCond .eq 22, 3) := by decide +kernel
theorem dX5_heaviestRound_40 : decode cX5_heaviestRound 40 = .ok (.aload_n 0, 1) := by decide +kernel
theorem dX5_heaviestRound_41 : decode cX5_heaviestRound 41 = .ok (.iload_n 3, 1) := by decide +kernel
theorem dX5_heaviestRound_42 : decode cX5_heaviestRound 42 = .ok (.iconst 0, 1) := by decide +kernel
theorem dX5_heaviestRound_43 : decode cX5_heaviestRound 43 = .ok (.iload_n 1, 1) := by decide +kernel
theorem dX5_heaviestRound_44 : decode cX5_heaviestRound 44 = .ok (.invokevirtual 147, 3) := by decide +kernel
theorem dX5_heaviestRound_47 : decode cX5_heaviestRound 47 = .ok (.ifCond .eq 12, 3) := by decide +kernel
theorem dX5_heaviestRound_50 : decode cX5_heaviestRound 50 = .ok (.aload_n 0, 1) := by decide +kernel
theorem dX5_heaviestRound_51 : decode cX5_heaviestRound 51 = .ok (.iload_n 3, 1) := by decide +kernel
theorem dX5_heaviestRound_52 : decode cX5_heaviestRound 52 = .ok (.iload_n 1, 1) := by decide +kernel
theorem dX5_heaviestRound_53 : decode cX5_heaviestRound 53 = .ok (.invokevirtual 150, 3) := by decide +kernel
theorem dX5_heaviestRound_56 : decode cX5_heaviestRound 56 = .ok (.goto 4, 3) := by decide +kernel
theorem dX5_heaviestRound_59 : decode cX5_heaviestRound 59 = .ok (.iconst 0, 1) := by decide +kernel
theorem dX5_heaviestRound_60 : decode cX5_heaviestRound 60 = .ok (.istore 4, 2) := by decide +kernel
theorem dX5_heaviestRound_62 : decode cX5_heaviestRound 62 = .ok (.iload 4, 2) := by decide +kernel
theorem dX5_heaviestRound_64 : decode cX5_heaviestRound 64 = .ok (.iload_n 2, 1) := by decide +kernel
theorem dX5_heaviestRound_65 : decode cX5_heaviestRound 65 = .ok (.if_icmp .le 8, 3) := by decide +kernel
theorem dX5_heaviestRound_68 : decode cX5_heaviestRound 68 = .ok (.iload 4, 2) := by decide +kernel
theorem dX5_heaviestRound_70 : decode cX5_heaviestRound 70 = .ok (.goto 4, 3) := by decide +kernel
theorem dX5_heaviestRound_73 : decode cX5_heaviestRound 73 = .ok (.iload_n 2, 1) := by decide +kernel
theorem dX5_heaviestRound_74 : decode cX5_heaviestRound 74 = .ok (.istore_n 2, 1) := by decide +kernel
theorem dX5_heaviestRound_75 : decode cX5_heaviestRound 75 = .ok (.iinc 3 1, 3) := by decide +kernel
theorem dX5_heaviestRound_78 : decode cX5_heaviestRound 78 = .ok (.goto (-55), 3) := by decide +kernel
theorem dX5_heaviestRound_81 : decode cX5_heaviestRound 81 = .ok (.iload_n 2, 1) := by decide +kernel
theorem dX5_heaviestRound_82 : decode cX5_heaviestRound 82 = .ok (.ireturn, 1) := by decide +kernel
