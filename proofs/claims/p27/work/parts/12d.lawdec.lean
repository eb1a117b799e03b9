theorem dL_arePlansSo_98 : decode cL_arePlansSo 98 = .ok (.if_icmp .ne 21, 3) := by decide +kernel
theorem dL_arePlansSo_101 : decode cL_arePlansSo 101 = .ok (.aload_n 0, 1) := by decide +kernel
theorem dL_arePlansSo_102 : decode cL_arePlansSo 102 = .ok (.sipush 1000, 3) := by decide +kernel
theorem dL_arePlansSo_105 : decode cL_arePlansSo 105 = .ok (.invokevirtual 119, 3) := by decide +kernel
theorem dL_arePlansSo_108 : decode cL_arePlansSo 108 = .ok (.aload_n 0, 1) := by decide +kernel
theorem dL_arePlansSo_109 : decode cL_arePlansSo 109 = .ok (.invokevirtual 71, 3) := by decide +kernel
theorem dL_arePlansSo_112 : decode cL_arePlansSo 112 = .ok (.if_icmp .ne 7, 3) := by decide +kernel
theorem dL_arePlansSo_115 : decode cL_arePlansSo 115 = .ok (.iconst 1, 1) := by decide +kernel
theorem dL_arePlansSo_116 : decode cL_arePlansSo 116 = .ok (.goto 4, 3) := by decide +kernel
theorem dL_arePlansSo_119 : decode cL_arePlansSo 119 = .ok (.iconst 0, 1) := by decide +kernel
theorem dL_arePlansSo_120 : decode cL_arePlansSo 120 = .ok (.istore_n 3, 1) := by decide +kernel
theorem dL_arePlansSo_121 : decode cL_arePlansSo 121 = .ok (.iload_n 3, 1) := by decide +kernel
theorem dL_arePlansSo_122 : decode cL_arePlansSo 122 = .ok (.ifCond .eq 63, 3) := by decide +kernel
theorem dL_arePlansSo_125 : decode cL_arePlansSo 125 = .ok (.aload_n 0, 1) := by decide +kernel
theorem dL_arePlansSo_126 : decode cL_arePlansSo 126 = .ok (.invokevirtual 71, 3) := by decide +kernel
theorem dL_arePlansSo_129 : decode cL_arePlansSo 129 = .ok (.bipush 6, 2) := by decide +kernel
theorem dL_arePlansSo_131 : decode cL_arePlansSo 131 = .ok (.if_icmp .gt 22, 3) := by decide +kernel
theorem dL_arePlansSo_134 : decode cL_arePlansSo 134 = .ok (.aload_n 0, 1) := by decide +kernel
theorem dL_arePlansSo_135 : decode cL_arePlansSo 135 = .ok (.invokevirtual 71, 3) := by decide +kernel
theorem dL_arePlansSo_138 : decode cL_arePlansSo 138 = .ok (.ifCond .eq 15, 3) := by decide +kernel
theorem dL_arePlansSo_141 : decode cL_arePlansSo 141 = .ok (.aload_n 0, 1) := by decide +kernel
theorem dL_arePlansSo_142 : decode cL_arePlansSo 142 = .ok (.aload_n 0, 1) := by decide +kernel
theorem dL_arePlansSo_143 : decode cL_arePlansSo 143 = .ok (.invokevirtual 71, 3) := by decide +kernel
theorem dL_arePlansSo_146 : decode cL_arePlansSo 146 = .ok (.invokevirtual 103, 3) := by decide +kernel
theorem dL_arePlansSo_149 : decode cL_arePlansSo 149 = .ok (.iload_n 1, 1) := by decide +kernel
theorem dL_arePlansSo_150 : decode cL_arePlansSo 150 = .ok (.if_icmp .ne 35, 3) := by decide +kernel
theorem dL_arePlansSo_153 : decode cL_arePlansSo 153 = .ok (.aload_n 0, 1) := by decide +kernel
theorem dL_arePlansSo_154 : decode cL_arePlansSo 154 = .ok (.sipush 500, 3) := by decide +kernel
theorem dL_arePlansSo_157 : decode cL_arePlansSo 157 = .ok (.invokevirtual 119, 3) := by decide +kernel
theorem dL_arePlansSo_160 : decode cL_arePlansSo 160 = .ok (.aload_n 0, 1) := by decide +kernel
theorem dL_arePlansSo_161 : decode cL_arePlansSo 161 = .ok (.invokevirtual 71, 3) := by decide +kernel
theorem dL_arePlansSo_164 : decode cL_arePlansSo 164 = .ok (.if_icmp .lt 21, 3) := by decide +kernel
theorem dL_arePlansSo_167 : decode cL_arePlansSo 167 = .ok (.aload_n 0, 1) := by decide +kernel
theorem dL_arePlansSo_168 : decode cL_arePlansSo 168 = .ok (.sipush 500, 3) := by decide +kernel
theorem dL_arePlansSo_171 : decode cL_arePlansSo 171 = .ok (.invokevirtual 116, 3) := by decide +kernel
theorem dL_arePlansSo_174 : decode cL_arePlansSo 174 = .ok (.aload_n 0, 1) := by decide +kernel
theorem dL_arePlansSo_175 : decode cL_arePlansSo 175 = .ok (.invokevirtual 74, 3) := by decide +kernel
theorem dL_arePlansSo_178 : decode cL_arePlansSo 178 = .ok (.if_icmp .gt 7, 3) := by decide +kernel
theorem dL_arePlansSo_181 : decode cL_arePlansSo 181 = .ok (.iconst 1, 1) := by decide +kernel
theorem dL_arePlansSo_182 : decode cL_arePlansSo 182 = .ok (.goto 4, 3) := by decide +kernel
theorem dL_arePlansSo_185 : decode cL_arePlansSo 185 = .ok (.iconst 0, 1) := by decide +kernel
theorem dL_arePlansSo_186 : decode cL_arePlansSo 186 = .ok (.ireturn, 1) := by decide +kernel
theorem dL_law_0 : decode cL_law 0 = .ok (.new 9, 3) := by decide +kernel
theorem dL_law_3 : decode cL_law 3 = .ok (.dup, 1) := by decide +kernel
theorem dL_law_4 : decode cL_law 4 = .ok (.invokespecial 122, 3) := by decide +kernel
theorem dL_law_7 : decode cL_law 7 = .ok (.astore_n 1, 1) := by decide +kernel
theorem dL_law_8 : decode cL_law 8 = .ok (.new 9, 3) := by decide +kernel
theorem dL_law_11 : decode cL_law 11 = .ok (.dup, 1) := by decide +kernel
theorem dL_law_12 : decode cL_law 12 = .ok (.invokespecial 122, 3) := by decide +kernel
theorem dL_law_15 : decode cL_law 15 = .ok (.astore_n 2, 1) := by decide +kernel
theorem dL_law_16 : decode cL_law 16 = .ok (.iconst 0, 1) := by decide +kernel
theorem dL_law_17 : decode cL_law 17 = .ok (.istore_n 3, 1) := by decide +kernel
theorem dL_law_18 : decode cL_law 18 = .ok (.iload_n 3, 1) := by decide +kernel
theorem dL_law_19 : decode cL_law 19 = .ok (.bipush 40, 2) := by decide +kernel
theorem dL_law_21 : decode cL_law 21 = .ok (.if_icmp .ge 139, 3) := by decide +kernel
theorem dL_law_24 : decode cL_law 24 = .ok (.aload_n 0, 1) := by decide +kernel
theorem dL_law_25 : decode cL_law 25 = .ok (.iload_n 3, 1) := by decide +kernel
theorem dL_law_26 : decode cL_law 26 = .ok (.invokestatic 123, 3) := by decide +kernel
theorem dL_law_29 : decode cL_law 29 = .ok (.istore 4, 2) := by decide +kernel
theorem dL_law_31 : decode cL_law 31 = .ok (.aload_n 1, 1) := by decide +kernel
theorem dL_law_32 : decode cL_law 32 = .ok (.iload 4, 2) := by decide +kernel
theorem dL_law_34 : decode cL_law 34 = .ok (.invokestatic 127, 3) := by decide +kernel
theorem dL_law_37 : decode cL_law 37 = .ok (.istore 5, 2) := by decide +kernel
theorem dL_law_39 : decode cL_law 39 = .ok (.iload 5, 2) := by decide +kernel
theorem dL_law_41 : decode cL_law 41 = .ok (.ldc 16, 2) := by decide +kernel
theorem dL_law_43 : decode cL_law 43 = .ok (.if_icmp .eq 14, 3) := by decide +kernel
theorem dL_law_46 : decode cL_law 46 = .ok (.aload_n 2, 1) := by decide +kernel
theorem dL_law_47 : decode cL_law 47 = .ok (.iload 4, 2) := by decide +kernel
theorem dL_law_49 : decode cL_law 49 = .ok (.invokestatic 127, 3) := by decide +kernel
theorem dL_law_52 : decode cL_law 52 = .ok (.iload 5, 2) := by decide +kernel
theorem dL_law_54 : decode cL_law 54 = .ok (.if_icmp .ne 44, 3) := by decide +kernel
theorem dL_law_57 : decode cL_law 57 = .ok (.aload_n 1, 1) := by decide +kernel
theorem dL_law_58 : decode cL_law 58 = .ok (.aload_n 2, 1) := by decide +kernel
theorem dL_law_59 : decode cL_law 59 = .ok (.invokestatic 130, 3) := by decide +kernel
theorem dL_law_62 : decode cL_law 62 = .ok (.ifCond .eq 36, 3) := by decide +kernel
theorem dL_law_65 : decode cL_law 65 = .ok (.aload_n 1, 1) := by decide +kernel
theorem dL_law_66 : decode cL_law 66 = .ok (.aload_n 1, 1) := by decide +kernel
theorem dL_law_67 : decode cL_law 67 = .ok (.invokevirtual 58, 3) := by decide +kernel
theorem dL_law_70 : decode cL_law 70 = .ok (.invokestatic 109, 3) := by decide +kernel
theorem dL_law_73 : decode cL_law 73 = .ok (.ifCond .eq 25, 3) := by decide +kernel
theorem dL_law_76 : decode cL_law 76 = .ok (.aload_n 1, 1) := by decide +kernel
theorem dL_law_77 : decode cL_law 77 = .ok (.invokevirtual 68, 3) := by decide +kernel
theorem dL_law_80 : decode cL_law 80 = .ok (.aload_n 1, 1) := by decide +kernel
theorem dL_law_81 : decode cL_law 81 = .ok (.invokevirtual 61, 3) := by decide +kernel
theorem dL_law_84 : decode cL_law 84 = .ok (.if_icmp .lt 14, 3) := by decide +kernel
theorem dL_law_87 : decode cL_law 87 = .ok (.aload_n 1, 1) := by decide +kernel
theorem dL_law_88 : decode cL_law 88 = .ok (.invokevirtual 68, 3) := by decide +kernel
theorem dL_law_91 : decode cL_law 91 = .ok (.aload_n 1, 1) := by decide +kernel
theorem dL_law_92 : decode cL_law 92 = .ok (.invokevirtual 74, 3) := by decide +kernel
theorem dL_law_95 : decode cL_law 95 = .ok (.if_icmp .le 5, 3) := by decide +kernel
theorem dL_law_98 : decode cL_law 98 = .ok (.iconst 0, 1) := by decide +kernel
theorem dL_law_99 : decode cL_law 99 = .ok (.ireturn, 1) := by decide +kernel
theorem dL_law_100 : decode cL_law 100 = .ok (.iload_n 3, 1) := by decide +kernel
theorem dL_law_101 : decode cL_law 101 = .ok (.bipush 10, 2) := by decide +kernel
theorem dL_law_103 : decode cL_law 103 = .ok (.irem, 1) := by decide +kernel
theorem dL_law_104 : decode cL_law 104 = .ok (.bipush 9, 2) := by decide +kernel
theorem dL_law_106 : decode cL_law 106 = .ok (.if_icmp .ne 48, 3) := by decide +kernel
theorem dL_law_109 : decode cL_law 109 = .ok (.aload_n 1, 1) := by decide +kernel
theorem dL_law_110 : decode cL_law 110 = .ok (.invokestatic 134, 3) := by decide +kernel
theorem dL_law_113 : decode cL_law 113 = .ok (.ifCond .eq 39, 3) := by decide +kernel
theorem dL_law_116 : decode cL_law 116 = .ok (.aload_n 1, 1) := by decide +kernel
theorem dL_law_117 : decode cL_law 117 = .ok (.invokestatic 138, 3) := by decide +kernel
theorem dL_law_120 : decode cL_law 120 = .ok (.ifCond .eq 32, 3) := by decide +kernel
theorem dL_law_123 : decode cL_law 123 = .ok (.aload_n 1, 1) := by decide +kernel
theorem dL_law_124 : decode cL_law 124 = .ok (.iconst 1, 1) := by decide +kernel
theorem dL_law_125 : decode cL_law 125 = .ok (.iload 4, 2) := by decide +kernel
theorem dL_law_127 : decode cL_law 127 = .ok (.iconst 5, 1) := by decide +kernel
theorem dL_law_128 : decode cL_law 128 = .ok (.ishr, 1) := by decide +kernel
theorem dL_law_129 : decode cL_law 129 = .ok (.bipush 20, 2) := by decide +kernel
theorem dL_law_131 : decode cL_law 131 = .ok (.invokestatic 35, 3) := by decide +kernel
theorem dL_law_134 : decode cL_law 134 = .ok (.iadd, 1) := by decide +kernel
theorem dL_law_135 : decode cL_law 135 = .ok (.iconst 1, 1) := by decide +kernel
theorem dL_law_136 : decode cL_law 136 = .ok (.iload 4, 2) := by decide +kernel
theorem dL_law_138 : decode cL_law 138 = .ok (.bipush 10, 2) := by decide +kernel
theorem dL_law_140 : decode cL_law 140 = .ok (.ishr, 1) := by decide +kernel
theorem dL_law_141 : decode cL_law 141 = .ok (.iconst 4, 1) := by decide +kernel
theorem dL_law_142 : decode cL_law 142 = .ok (.invokestatic 35, 3) := by decide +kernel
theorem dL_law_145 : decode cL_law 145 = .ok (.iadd, 1) := by decide +kernel
theorem dL_law_146 : decode cL_law 146 = .ok (.invokestatic 141, 3) := by decide +kernel
theorem dL_law_149 : decode cL_law 149 = .ok (.ifCond .ne 5, 3) := by decide +kernel
theorem dL_law_152 : decode cL_law 152 = .ok (.iconst 0, 1) := by decide +kernel
theorem dL_law_153 : decode cL_law 153 = .ok (.ireturn, 1) := by decide +kernel
theorem dL_law_154 : decode cL_law 154 = .ok (.iinc 3 1, 3) := by decide +kernel
theorem dL_law_157 : decode cL_law 157 = .ok (.goto (-139), 3) := by decide +kernel
theorem dL_law_160 : decode cL_law 160 = .ok (.iconst 1, 1) := by decide +kernel
theorem dL_law_161 : decode cL_law 161 = .ok (.ireturn, 1) := by decide +kernel
