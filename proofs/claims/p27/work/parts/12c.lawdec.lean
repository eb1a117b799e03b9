theorem dL_areRoomsSo_124 : decode cL_areRoomsSo 124 = .ok (.lsub, 1) := by decide +kernel
theorem dL_areRoomsSo_125 : decode cL_areRoomsSo 125 = .ok (.lcmp, 1) := by decide +kernel
theorem dL_areRoomsSo_126 : decode cL_areRoomsSo 126 = .ok (.ifCond .ne 46, 3) := by decide +kernel
theorem dL_areRoomsSo_129 : decode cL_areRoomsSo 129 = .ok (.iload 4, 2) := by decide +kernel
theorem dL_areRoomsSo_131 : decode cL_areRoomsSo 131 = .ok (.ifCond .ge 7, 3) := by decide +kernel
theorem dL_areRoomsSo_134 : decode cL_areRoomsSo 134 = .ok (.iconst 1, 1) := by decide +kernel
theorem dL_areRoomsSo_135 : decode cL_areRoomsSo 135 = .ok (.goto 4, 3) := by decide +kernel
theorem dL_areRoomsSo_138 : decode cL_areRoomsSo 138 = .ok (.iconst 0, 1) := by decide +kernel
theorem dL_areRoomsSo_139 : decode cL_areRoomsSo 139 = .ok (.aload_n 0, 1) := by decide +kernel
theorem dL_areRoomsSo_140 : decode cL_areRoomsSo 140 = .ok (.invokevirtual 89, 3) := by decide +kernel
theorem dL_areRoomsSo_143 : decode cL_areRoomsSo 143 = .ok (.ifCond .ne 7, 3) := by decide +kernel
theorem dL_areRoomsSo_146 : decode cL_areRoomsSo 146 = .ok (.iconst 1, 1) := by decide +kernel
theorem dL_areRoomsSo_147 : decode cL_areRoomsSo 147 = .ok (.goto 4, 3) := by decide +kernel
theorem dL_areRoomsSo_150 : decode cL_areRoomsSo 150 = .ok (.iconst 0, 1) := by decide +kernel
theorem dL_areRoomsSo_151 : decode cL_areRoomsSo 151 = .ok (.if_icmp .ne 21, 3) := by decide +kernel
theorem dL_areRoomsSo_154 : decode cL_areRoomsSo 154 = .ok (.aload_n 0, 1) := by decide +kernel
theorem dL_areRoomsSo_155 : decode cL_areRoomsSo 155 = .ok (.invokevirtual 54, 3) := by decide +kernel
theorem dL_areRoomsSo_158 : decode cL_areRoomsSo 158 = .ok (.invokestatic 92, 3) := by decide +kernel
theorem dL_areRoomsSo_161 : decode cL_areRoomsSo 161 = .ok (.aload_n 0, 1) := by decide +kernel
theorem dL_areRoomsSo_162 : decode cL_areRoomsSo 162 = .ok (.invokevirtual 89, 3) := by decide +kernel
theorem dL_areRoomsSo_165 : decode cL_areRoomsSo 165 = .ok (.if_icmp .ne 7, 3) := by decide +kernel
theorem dL_areRoomsSo_168 : decode cL_areRoomsSo 168 = .ok (.iconst 1, 1) := by decide +kernel
theorem dL_areRoomsSo_169 : decode cL_areRoomsSo 169 = .ok (.goto 4, 3) := by decide +kernel
theorem dL_areRoomsSo_172 : decode cL_areRoomsSo 172 = .ok (.iconst 0, 1) := by decide +kernel
theorem dL_areRoomsSo_173 : decode cL_areRoomsSo 173 = .ok (.istore 5, 2) := by decide +kernel
theorem dL_areRoomsSo_175 : decode cL_areRoomsSo 175 = .ok (.iconst 0, 1) := by decide +kernel
theorem dL_areRoomsSo_176 : decode cL_areRoomsSo 176 = .ok (.istore 6, 2) := by decide +kernel
theorem dL_areRoomsSo_178 : decode cL_areRoomsSo 178 = .ok (.iload 6, 2) := by decide +kernel
theorem dL_areRoomsSo_180 : decode cL_areRoomsSo 180 = .ok (.bipush 100, 2) := by decide +kernel
theorem dL_areRoomsSo_182 : decode cL_areRoomsSo 182 = .ok (.if_icmp .gt 48, 3) := by decide +kernel
theorem dL_areRoomsSo_185 : decode cL_areRoomsSo 185 = .ok (.iload 5, 2) := by decide +kernel
theorem dL_areRoomsSo_187 : decode cL_areRoomsSo 187 = .ok (.ifCond .eq 43, 3) := by decide +kernel
theorem dL_areRoomsSo_190 : decode cL_areRoomsSo 190 = .ok (.aload_n 0, 1) := by decide +kernel
theorem dL_areRoomsSo_191 : decode cL_areRoomsSo 191 = .ok (.iload 6, 2) := by decide +kernel
theorem dL_areRoomsSo_193 : decode cL_areRoomsSo 193 = .ok (.invokevirtual 96, 3) := by decide +kernel
theorem dL_areRoomsSo_196 : decode cL_areRoomsSo 196 = .ok (.iload_n 1, 1) := by decide +kernel
theorem dL_areRoomsSo_197 : decode cL_areRoomsSo 197 = .ok (.if_icmp .gt 24, 3) := by decide +kernel
theorem dL_areRoomsSo_200 : decode cL_areRoomsSo 200 = .ok (.iload 6, 2) := by decide +kernel
theorem dL_areRoomsSo_202 : decode cL_areRoomsSo 202 = .ok (.iload 4, 2) := by decide +kernel
theorem dL_areRoomsSo_204 : decode cL_areRoomsSo 204 = .ok (.if_icmp .ge 13, 3) := by decide +kernel
theorem dL_areRoomsSo_207 : decode cL_areRoomsSo 207 = .ok (.aload_n 0, 1) := by decide +kernel
theorem dL_areRoomsSo_208 : decode cL_areRoomsSo 208 = .ok (.iload 6, 2) := by decide +kernel
theorem dL_areRoomsSo_210 : decode cL_areRoomsSo 210 = .ok (.invokevirtual 96, 3) := by decide +kernel
theorem dL_areRoomsSo_213 : decode cL_areRoomsSo 213 = .ok (.iload_n 1, 1) := by decide +kernel
theorem dL_areRoomsSo_214 : decode cL_areRoomsSo 214 = .ok (.if_icmp .ge 7, 3) := by decide +kernel
theorem dL_areRoomsSo_217 : decode cL_areRoomsSo 217 = .ok (.iconst 1, 1) := by decide +kernel
theorem dL_areRoomsSo_218 : decode cL_areRoomsSo 218 = .ok (.goto 4, 3) := by decide +kernel
theorem dL_areRoomsSo_221 : decode cL_areRoomsSo 221 = .ok (.iconst 0, 1) := by decide +kernel
theorem dL_areRoomsSo_222 : decode cL_areRoomsSo 222 = .ok (.istore 5, 2) := by decide +kernel
theorem dL_areRoomsSo_224 : decode cL_areRoomsSo 224 = .ok (.iinc 6 1, 3) := by decide +kernel
theorem dL_areRoomsSo_227 : decode cL_areRoomsSo 227 = .ok (.goto (-49), 3) := by decide +kernel
theorem dL_areRoomsSo_230 : decode cL_areRoomsSo 230 = .ok (.iload 5, 2) := by decide +kernel
theorem dL_areRoomsSo_232 : decode cL_areRoomsSo 232 = .ok (.ifCond .eq 22, 3) := by decide +kernel
theorem dL_areRoomsSo_235 : decode cL_areRoomsSo 235 = .ok (.iload 4, 2) := by decide +kernel
theorem dL_areRoomsSo_237 : decode cL_areRoomsSo 237 = .ok (.ifCond .lt 13, 3) := by decide +kernel
theorem dL_areRoomsSo_240 : decode cL_areRoomsSo 240 = .ok (.aload_n 0, 1) := by decide +kernel
theorem dL_areRoomsSo_241 : decode cL_areRoomsSo 241 = .ok (.iload 4, 2) := by decide +kernel
theorem dL_areRoomsSo_243 : decode cL_areRoomsSo 243 = .ok (.invokevirtual 96, 3) := by decide +kernel
theorem dL_areRoomsSo_246 : decode cL_areRoomsSo 246 = .ok (.iload_n 1, 1) := by decide +kernel
theorem dL_areRoomsSo_247 : decode cL_areRoomsSo 247 = .ok (.if_icmp .ne 7, 3) := by decide +kernel
theorem dL_areRoomsSo_250 : decode cL_areRoomsSo 250 = .ok (.iconst 1, 1) := by decide +kernel
theorem dL_areRoomsSo_251 : decode cL_areRoomsSo 251 = .ok (.goto 4, 3) := by decide +kernel
theorem dL_areRoomsSo_254 : decode cL_areRoomsSo 254 = .ok (.iconst 0, 1) := by decide +kernel
theorem dL_areRoomsSo_255 : decode cL_areRoomsSo 255 = .ok (.ireturn, 1) := by decide +kernel
theorem dL_isEarliest_0 : decode cL_isEarliest 0 = .ok (.aload_n 0, 1) := by decide +kernel
theorem dL_isEarliest_1 : decode cL_isEarliest 1 = .ok (.iload_n 1, 1) := by decide +kernel
theorem dL_isEarliest_2 : decode cL_isEarliest 2 = .ok (.iload_n 2, 1) := by decide +kernel
theorem dL_isEarliest_3 : decode cL_isEarliest 3 = .ok (.invokevirtual 99, 3) := by decide +kernel
theorem dL_isEarliest_6 : decode cL_isEarliest 6 = .ok (.istore_n 3, 1) := by decide +kernel
theorem dL_isEarliest_7 : decode cL_isEarliest 7 = .ok (.iload_n 3, 1) := by decide +kernel
theorem dL_isEarliest_8 : decode cL_isEarliest 8 = .ok (.ifCond .lt 12, 3) := by decide +kernel
theorem dL_isEarliest_11 : decode cL_isEarliest 11 = .ok (.iload_n 3, 1) := by decide +kernel
theorem dL_isEarliest_12 : decode cL_isEarliest 12 = .ok (.iload_n 1, 1) := by decide +kernel
theorem dL_isEarliest_13 : decode cL_isEarliest 13 = .ok (.iadd, 1) := by decide +kernel
theorem dL_isEarliest_14 : decode cL_isEarliest 14 = .ok (.sipush 1000, 3) := by decide +kernel
theorem dL_isEarliest_17 : decode cL_isEarliest 17 = .ok (.if_icmp .gt 7, 3) := by decide +kernel
theorem dL_isEarliest_20 : decode cL_isEarliest 20 = .ok (.iconst 1, 1) := by decide +kernel
theorem dL_isEarliest_21 : decode cL_isEarliest 21 = .ok (.goto 4, 3) := by decide +kernel
theorem dL_isEarliest_24 : decode cL_isEarliest 24 = .ok (.iconst 0, 1) := by decide +kernel
theorem dL_isEarliest_25 : decode cL_isEarliest 25 = .ok (.istore 4, 2) := by decide +kernel
theorem dL_isEarliest_27 : decode cL_isEarliest 27 = .ok (.iload_n 3, 1) := by decide +kernel
theorem dL_isEarliest_28 : decode cL_isEarliest 28 = .ok (.istore 5, 2) := by decide +kernel
theorem dL_isEarliest_30 : decode cL_isEarliest 30 = .ok (.iload_n 3, 1) := by decide +kernel
theorem dL_isEarliest_31 : decode cL_isEarliest 31 = .ok (.ifCond .lt 39, 3) := by decide +kernel
theorem dL_isEarliest_34 : decode cL_isEarliest 34 = .ok (.iload 5, 2) := by decide +kernel
theorem dL_isEarliest_36 : decode cL_isEarliest 36 = .ok (.iload_n 3, 1) := by decide +kernel
theorem dL_isEarliest_37 : decode cL_isEarliest 37 = .ok (.iload_n 1, 1) := by decide +kernel
theorem dL_isEarliest_38 : decode cL_isEarliest 38 = .ok (.iadd, 1) := by decide +kernel
theorem dL_isEarliest_39 : decode cL_isEarliest 39 = .ok (.if_icmp .ge 31, 3) := by decide +kernel
theorem dL_isEarliest_42 : decode cL_isEarliest 42 = .ok (.iload 4, 2) := by decide +kernel
theorem dL_isEarliest_44 : decode cL_isEarliest 44 = .ok (.ifCond .eq 17, 3) := by decide +kernel
theorem dL_isEarliest_47 : decode cL_isEarliest 47 = .ok (.aload_n 0, 1) := by decide +kernel
theorem dL_isEarliest_48 : decode cL_isEarliest 48 = .ok (.iload 5, 2) := by decide +kernel
theorem dL_isEarliest_50 : decode cL_isEarliest 50 = .ok (.invokevirtual 96, 3) := by decide +kernel
theorem dL_isEarliest_53 : decode cL_isEarliest 53 = .ok (.iload_n 2, 1) := by decide +kernel
theorem dL_isEarliest_54 : decode cL_isEarliest 54 = .ok (.if_icmp .ge 7, 3) := by decide +kernel
theorem dL_isEarliest_57 : decode cL_isEarliest 57 = .ok (.iconst 1, 1) := by decide +kernel
theorem dL_isEarliest_58 : decode cL_isEarliest 58 = .ok (.goto 4, 3) := by decide +kernel
theorem dL_isEarliest_61 : decode cL_isEarliest 61 = .ok (.iconst 0, 1) := by decide +kernel
theorem dL_isEarliest_62 : decode cL_isEarliest 62 = .ok (.istore 4, 2) := by decide +kernel
theorem dL_isEarliest_64 : decode cL_isEarliest 64 = .ok (.iinc 5 1, 3) := by decide +kernel
theorem dL_isEarliest_67 : decode cL_isEarliest 67 = .ok (.goto (-37), 3) := by decide +kernel
theorem dL_isEarliest_70 : decode cL_isEarliest 70 = .ok (.iload 4, 2) := by decide +kernel
theorem dL_isEarliest_72 : decode cL_isEarliest 72 = .ok (.ifCond .eq 22, 3) := by decide +kernel
theorem dL_isEarliest_75 : decode cL_isEarliest 75 = .ok (.iload_n 3, 1) := by decide +kernel
theorem dL_isEarliest_76 : decode cL_isEarliest 76 = .ok (.ifCond .le 14, 3) := by decide +kernel
theorem dL_isEarliest_79 : decode cL_isEarliest 79 = .ok (.aload_n 0, 1) := by decide +kernel
theorem dL_isEarliest_80 : decode cL_isEarliest 80 = .ok (.iload_n 3, 1) := by decide +kernel
theorem dL_isEarliest_81 : decode cL_isEarliest 81 = .ok (.iconst 1, 1) := by decide +kernel
theorem dL_isEarliest_82 : decode cL_isEarliest 82 = .ok (.isub, 1) := by decide +kernel
theorem dL_isEarliest_83 : decode cL_isEarliest 83 = .ok (.invokevirtual 96, 3) := by decide +kernel
theorem dL_isEarliest_86 : decode cL_isEarliest 86 = .ok (.iload_n 2, 1) := by decide +kernel
theorem dL_isEarliest_87 : decode cL_isEarliest 87 = .ok (.if_icmp .lt 7, 3) := by decide +kernel
theorem dL_isEarliest_90 : decode cL_isEarliest 90 = .ok (.iconst 1, 1) := by decide +kernel
theorem dL_isEarliest_91 : decode cL_isEarliest 91 = .ok (.goto 4, 3) := by decide +kernel
theorem dL_isEarliest_94 : decode cL_isEarliest 94 = .ok (.iconst 0, 1) := by decide +kernel
theorem dL_isEarliest_95 : decode cL_isEarliest 95 = .ok (.ireturn, 1) := by decide +kernel
theorem dL_arePlansSo_0 : decode cL_arePlansSo 0 = .ok (.iconst 0, 1) := by decide +kernel
theorem dL_arePlansSo_1 : decode cL_arePlansSo 1 = .ok (.istore_n 1, 1) := by decide +kernel
theorem dL_arePlansSo_2 : decode cL_arePlansSo 2 = .ok (.ldc 102, 2) := by decide +kernel
theorem dL_arePlansSo_4 : decode cL_arePlansSo 4 = .ok (.istore_n 2, 1) := by decide +kernel
theorem dL_arePlansSo_5 : decode cL_arePlansSo 5 = .ok (.iconst 1, 1) := by decide +kernel
theorem dL_arePlansSo_6 : decode cL_arePlansSo 6 = .ok (.istore_n 3, 1) := by decide +kernel
theorem dL_arePlansSo_7 : decode cL_arePlansSo 7 = .ok (.iload_n 3, 1) := by decide +kernel
theorem dL_arePlansSo_8 : decode cL_arePlansSo 8 = .ok (.bipush 6, 2) := by decide +kernel
theorem dL_arePlansSo_10 : decode cL_arePlansSo 10 = .ok (.if_icmp .gt 40, 3) := by decide +kernel
theorem dL_arePlansSo_13 : decode cL_arePlansSo 13 = .ok (.aload_n 0, 1) := by decide +kernel
theorem dL_arePlansSo_14 : decode cL_arePlansSo 14 = .ok (.iload_n 3, 1) := by decide +kernel
theorem dL_arePlansSo_15 : decode cL_arePlansSo 15 = .ok (.invokevirtual 103, 3) := by decide +kernel
theorem dL_arePlansSo_18 : decode cL_arePlansSo 18 = .ok (.istore 4, 2) := by decide +kernel
theorem dL_arePlansSo_20 : decode cL_arePlansSo 20 = .ok (.iload 4, 2) := by decide +kernel
theorem dL_arePlansSo_22 : decode cL_arePlansSo 22 = .ok (.iload_n 1, 1) := by decide +kernel
theorem dL_arePlansSo_23 : decode cL_arePlansSo 23 = .ok (.if_icmp .lt 11, 3) := by decide +kernel
theorem dL_arePlansSo_26 : decode cL_arePlansSo 26 = .ok (.iload 4, 2) := by decide +kernel
theorem dL_arePlansSo_28 : decode cL_arePlansSo 28 = .ok (.iload_n 1, 1) := by decide +kernel
theorem dL_arePlansSo_29 : decode cL_arePlansSo 29 = .ok (.isub, 1) := by decide +kernel
theorem dL_arePlansSo_30 : decode cL_arePlansSo 30 = .ok (.iload_n 2, 1) := by decide +kernel
theorem dL_arePlansSo_31 : decode cL_arePlansSo 31 = .ok (.if_icmp .le 5, 3) := by decide +kernel
theorem dL_arePlansSo_34 : decode cL_arePlansSo 34 = .ok (.iconst 0, 1) := by decide +kernel
theorem dL_arePlansSo_35 : decode cL_arePlansSo 35 = .ok (.ireturn, 1) := by decide +kernel
theorem dL_arePlansSo_36 : decode cL_arePlansSo 36 = .ok (.iload 4, 2) := by decide +kernel
theorem dL_arePlansSo_38 : decode cL_arePlansSo 38 = .ok (.iload_n 1, 1) := by decide +kernel
theorem dL_arePlansSo_39 : decode cL_arePlansSo 39 = .ok (.isub, 1) := by decide +kernel
theorem dL_arePlansSo_40 : decode cL_arePlansSo 40 = .ok (.istore_n 2, 1) := by decide +kernel
theorem dL_arePlansSo_41 : decode cL_arePlansSo 41 = .ok (.iload 4, 2) := by decide +kernel
theorem dL_arePlansSo_43 : decode cL_arePlansSo 43 = .ok (.istore_n 1, 1) := by decide +kernel
theorem dL_arePlansSo_44 : decode cL_arePlansSo 44 = .ok (.iinc 3 1, 3) := by decide +kernel
theorem dL_arePlansSo_47 : decode cL_arePlansSo 47 = .ok (.goto (-40), 3) := by decide +kernel
theorem dL_arePlansSo_50 : decode cL_arePlansSo 50 = .ok (.aload_n 0, 1) := by decide +kernel
theorem dL_arePlansSo_51 : decode cL_arePlansSo 51 = .ok (.iconst 1, 1) := by decide +kernel
theorem dL_arePlansSo_52 : decode cL_arePlansSo 52 = .ok (.invokevirtual 103, 3) := by decide +kernel
theorem dL_arePlansSo_55 : decode cL_arePlansSo 55 = .ok (.aload_n 0, 1) := by decide +kernel
theorem dL_arePlansSo_56 : decode cL_arePlansSo 56 = .ok (.invokevirtual 74, 3) := by decide +kernel
theorem dL_arePlansSo_59 : decode cL_arePlansSo 59 = .ok (.if_icmp .ne 60, 3) := by decide +kernel
theorem dL_arePlansSo_62 : decode cL_arePlansSo 62 = .ok (.aload_n 0, 1) := by decide +kernel
theorem dL_arePlansSo_63 : decode cL_arePlansSo 63 = .ok (.aload_n 0, 1) := by decide +kernel
theorem dL_arePlansSo_64 : decode cL_arePlansSo 64 = .ok (.invokevirtual 106, 3) := by decide +kernel
theorem dL_arePlansSo_67 : decode cL_arePlansSo 67 = .ok (.invokestatic 109, 3) := by decide +kernel
theorem dL_arePlansSo_70 : decode cL_arePlansSo 70 = .ok (.ifCond .eq 49, 3) := by decide +kernel
theorem dL_arePlansSo_73 : decode cL_arePlansSo 73 = .ok (.aload_n 0, 1) := by decide +kernel
theorem dL_arePlansSo_74 : decode cL_arePlansSo 74 = .ok (.invokevirtual 113, 3) := by decide +kernel
theorem dL_arePlansSo_77 : decode cL_arePlansSo 77 = .ok (.aload_n 0, 1) := by decide +kernel
theorem dL_arePlansSo_78 : decode cL_arePlansSo 78 = .ok (.invokevirtual 106, 3) := by decide +kernel
theorem dL_arePlansSo_81 : decode cL_arePlansSo 81 = .ok (.invokestatic 92, 3) := by decide +kernel
theorem dL_arePlansSo_84 : decode cL_arePlansSo 84 = .ok (.if_icmp .lt 35, 3) := by decide +kernel
theorem dL_arePlansSo_87 : decode cL_arePlansSo 87 = .ok (.aload_n 0, 1) := by decide +kernel
theorem dL_arePlansSo_88 : decode cL_arePlansSo 88 = .ok (.sipush 1000, 3) := by decide +kernel
theorem dL_arePlansSo_91 : decode cL_arePlansSo 91 = .ok (.invokevirtual 116, 3) := by decide +kernel
theorem dL_arePlansSo_94 : decode cL_arePlansSo 94 = .ok (.aload_n 0, 1) := by decide +kernel
theorem dL_arePlansSo_95 : decode cL_arePlansSo 95 = .ok (.invokevirtual 74, 3) := by decide +kernel
