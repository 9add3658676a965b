theorem dX9_middle_17 : decode cX9_middle 17 = .ok (.ireturn, 1) := by decide +kernel
theorem dX9_middle_18 : decode cX9_middle 18 = .ok (.aload_n 0, 1) := by decide +kernel
theorem dX9_middle_19 : decode cX9_middle 19 = .ok (.invokevirtual 153, 3) := by decide +kernel
theorem dX9_middle_22 : decode cX9_middle 22 = .ok (.aload_n 0, 1) := by decide +kernel
theorem dX9_middle_23 : decode cX9_middle 23 = .ok (.aload_n 0, 1) := by decide +kernel
theorem dX9_middle_24 : decode cX9_middle 24 = .ok (.getfield 45, 3) := by decide +kernel
theorem dX9_middle_27 : decode cX9_middle 27 = .ok (.iload_n 1, 1) := by decide +kernel
theorem dX9_middle_28 : decode cX9_middle 28 = .ok (.invokevirtual 159, 3) := by decide +kernel
theorem dX9_middle_31 : decode cX9_middle 31 = .ok (.istore_n 2, 1) := by decide +kernel
theorem dX9_middle_32 : decode cX9_middle 32 = .ok (.iconst 0, 1) := by decide +kernel
theorem dX9_middle_33 : decode cX9_middle 33 = .ok (.istore_n 3, 1) := by decide +kernel
theorem dX9_middle_34 : decode cX9_middle 34 = .ok (.iconst 0, 1) := by decide +kernel
theorem dX9_middle_35 : decode cX9_middle 35 = .ok (.istore 4, 2) := by decide +kernel
theorem dX9_middle_37 : decode cX9_middle 37 = .ok (.iload 4, 2) := by decide +kernel
theorem dX9_middle_39 : decode cX9_middle 39 = .ok (.bipush 81, 2) := by decide +kernel
theorem dX9_middle_41 : decode cX9_middle 41 = .ok (.if_icmp .ge 17, 3) := by decide +kernel
theorem dX9_middle_44 : decode cX9_middle 44 = .ok (.aload_n 0, 1) := by decide +kernel
theorem dX9_middle_45 : decode cX9_middle 45 = .ok (.getfield 61, 3) := by decide +kernel
theorem dX9_middle_48 : decode cX9_middle 48 = .ok (.iload 4, 2) := by decide +kernel
theorem dX9_middle_50 : decode cX9_middle 50 = .ok (.iconst 0, 1) := by decide +kernel
theorem dX9_middle_51 : decode cX9_middle 51 = .ok (.bastore, 1) := by decide +kernel
theorem dX9_middle_52 : decode cX9_middle 52 = .ok (.iinc 4 1, 3) := by decide +kernel
theorem dX9_middle_55 : decode cX9_middle 55 = .ok (.goto (-18), 3) := by decide +kernel
theorem dX9_middle_58 : decode cX9_middle 58 = .ok (.iconst 0, 1) := by decide +kernel
theorem dX9_middle_59 : decode cX9_middle 59 = .ok (.istore 4, 2) := by decide +kernel
theorem dX9_middle_61 : decode cX9_middle 61 = .ok (.iload 4, 2) := by decide +kernel
theorem dX9_middle_63 : decode cX9_middle 63 = .ok (.aload_n 0, 1) := by decide +kernel
theorem dX9_middle_64 : decode cX9_middle 64 = .ok (.getfield 7, 3) := by decide +kernel
theorem dX9_middle_67 : decode cX9_middle 67 = .ok (.if_icmp .ge 163, 3) := by decide +kernel
theorem dX9_middle_70 : decode cX9_middle 70 = .ok (.iconst 0, 1) := by decide +kernel
theorem dX9_middle_71 : decode cX9_middle 71 = .ok (.istore 5, 2) := by decide +kernel
theorem dX9_middle_73 : decode cX9_middle 73 = .ok (.iload 5, 2) := by decide +kernel
theorem dX9_middle_75 : decode cX9_middle 75 = .ok (.aload_n 0, 1) := by decide +kernel
theorem dX9_middle_76 : decode cX9_middle 76 = .ok (.getfield 19, 3) := by decide +kernel
theorem dX9_middle_79 : decode cX9_middle 79 = .ok (.iload_n 1, 1) := by decide +kernel
theorem dX9_middle_80 : decode cX9_middle 80 = .ok (.iconst 1, 1) := by decide +kernel
theorem dX9_middle_81 : decode cX9_middle 81 = .ok (.iadd, 1) := by decide +kernel
theorem dX9_middle_82 : decode cX9_middle 82 = .ok (.iaload, 1) := by decide +kernel
theorem dX9_middle_83 : decode cX9_middle 83 = .ok (.if_icmp .ge 141, 3) := by decide +kernel
theorem dX9_middle_86 : decode cX9_middle 86 = .ok (.aload_n 0, 1) := by decide +kernel
theorem dX9_middle_87 : decode cX9_middle 87 = .ok (.getfield 45, 3) := by decide +kernel
theorem dX9_middle_90 : decode cX9_middle 90 = .ok (.aload_n 0, 1) := by decide +kernel
theorem dX9_middle_91 : decode cX9_middle 91 = .ok (.getfield 23, 3) := by decide +kernel
theorem dX9_middle_94 : decode cX9_middle 94 = .ok (.iload_n 1, 1) := by decide +kernel
theorem dX9_middle_95 : decode cX9_middle 95 = .ok (.iconst 1, 1) := by decide +kernel
theorem dX9_middle_96 : decode cX9_middle 96 = .ok (.iadd, 1) := by decide +kernel
theorem dX9_middle_97 : decode cX9_middle 97 = .ok (.iaload, 1) := by decide +kernel
theorem dX9_middle_98 : decode cX9_middle 98 = .ok (.iload 5, 2) := by decide +kernel
theorem dX9_middle_100 : decode cX9_middle 100 = .ok (.iadd, 1) := by decide +kernel
theorem dX9_middle_101 : decode cX9_middle 101 = .ok (.baload, 1) := by decide +kernel
theorem dX9_middle_102 : decode cX9_middle 102 = .ok (.ifCond .ne 116, 3) := by decide +kernel
theorem dX9_middle_105 : decode cX9_middle 105 = .ok (.aload_n 0, 1) := by decide +kernel
theorem dX9_middle_106 : decode cX9_middle 106 = .ok (.invokevirtual 137, 3) := by decide +kernel
theorem dX9_middle_109 : decode cX9_middle 109 = .ok (.iconst 0, 1) := by decide +kernel
theorem dX9_middle_110 : decode cX9_middle 110 = .ok (.istore 6, 2) := by decide +kernel
theorem dX9_middle_112 : decode cX9_middle 112 = .ok (.iconst 0, 1) := by decide +kernel
theorem dX9_middle_113 : decode cX9_middle 113 = .ok (.istore 7, 2) := by decide +kernel
theorem dX9_middle_115 : decode cX9_middle 115 = .ok (.iload 7, 2) := by decide +kernel
theorem dX9_middle_117 : decode cX9_middle 117 = .ok (.aload_n 0, 1) := by decide +kernel
theorem dX9_middle_118 : decode cX9_middle 118 = .ok (.getfield 19, 3) := by decide +kernel
theorem dX9_middle_121 : decode cX9_middle 121 = .ok (.iload_n 1, 1) := by decide +kernel
theorem dX9_middle_122 : decode cX9_middle 122 = .ok (.iaload, 1) := by decide +kernel
theorem dX9_middle_123 : decode cX9_middle 123 = .ok (.if_icmp .ge 87, 3) := by decide +kernel
theorem dX9_middle_126 : decode cX9_middle 126 = .ok (.aload_n 0, 1) := by decide +kernel
theorem dX9_middle_127 : decode cX9_middle 127 = .ok (.getfield 45, 3) := by decide +kernel
theorem dX9_middle_130 : decode cX9_middle 130 = .ok (.aload_n 0, 1) := by decide +kernel
theorem dX9_middle_131 : decode cX9_middle 131 = .ok (.getfield 23, 3) := by decide +kernel
theorem dX9_middle_134 : decode cX9_middle 134 = .ok (.iload_n 1, 1) := by decide +kernel
theorem dX9_middle_135 : decode cX9_middle 135 = .ok (.iaload, 1) := by decide +kernel
theorem dX9_middle_136 : decode cX9_middle 136 = .ok (.iload 7, 2) := by decide +kernel
theorem dX9_middle_138 : decode cX9_middle 138 = .ok (.iadd, 1) := by decide +kernel
theorem dX9_middle_139 : decode cX9_middle 139 = .ok (.baload, 1) := by decide +kernel
theorem dX9_middle_140 : decode cX9_middle 140 = .ok (.ifCond .ne 64, 3) := by decide +kernel
theorem dX9_middle_143 : decode cX9_middle 143 = .ok (.aload_n 0, 1) := by decide +kernel
theorem dX9_middle_144 : decode cX9_middle 144 = .ok (.getfield 55, 3) := by decide +kernel
theorem dX9_middle_147 : decode cX9_middle 147 = .ok (.iload 6, 2) := by decide +kernel
theorem dX9_middle_149 : decode cX9_middle 149 = .ok (.aload_n 0, 1) := by decide +kernel
theorem dX9_middle_150 : decode cX9_middle 150 = .ok (.iload_n 1, 1) := by decide +kernel
theorem dX9_middle_151 : decode cX9_middle 151 = .ok (.iconst 1, 1) := by decide +kernel
theorem dX9_middle_152 : decode cX9_middle 152 = .ok (.iadd, 1) := by decide +kernel
theorem dX9_middle_153 : decode cX9_middle 153 = .ok (.iload 5, 2) := by decide +kernel
theorem dX9_middle_155 : decode cX9_middle 155 = .ok (.iload 4, 2) := by decide +kernel
theorem dX9_middle_157 : decode cX9_middle 157 = .ok (.aload_n 0, 1) := by decide +kernel
theorem dX9_middle_158 : decode cX9_middle 158 = .ok (.getfield 19, 3) := by decide +kernel
theorem dX9_middle_161 : decode cX9_middle 161 = .ok (.iload_n 1, 1) := by decide +kernel
theorem dX9_middle_162 : decode cX9_middle 162 = .ok (.iaload, 1) := by decide +kernel
theorem dX9_middle_163 : decode cX9_middle 163 = .ok (.imul, 1) := by decide +kernel
theorem dX9_middle_164 : decode cX9_middle 164 = .ok (.iload 7, 2) := by decide +kernel
theorem dX9_middle_166 : decode cX9_middle 166 = .ok (.iadd, 1) := by decide +kernel
theorem dX9_middle_167 : decode cX9_middle 167 = .ok (.invokevirtual 171, 3) := by decide +kernel
theorem dX9_middle_170 : decode cX9_middle 170 = .ok (.aload_n 0, 1) := by decide +kernel
theorem dX9_middle_171 : decode cX9_middle 171 = .ok (.getfield 13, 3) := by decide +kernel
theorem dX9_middle_174 : decode cX9_middle 174 = .ok (.iadd, 1) := by decide +kernel
theorem dX9_middle_175 : decode cX9_middle 175 = .ok (.aload_n 0, 1) := by decide +kernel
theorem dX9_middle_176 : decode cX9_middle 176 = .ok (.iload_n 1, 1) := by decide +kernel
theorem dX9_middle_177 : decode cX9_middle 177 = .ok (.iconst 1, 1) := by decide +kernel
theorem dX9_middle_178 : decode cX9_middle 178 = .ok (.iadd, 1) := by decide +kernel
theorem dX9_middle_179 : decode cX9_middle 179 = .ok (.iload 5, 2) := by decide +kernel
theorem dX9_middle_181 : decode cX9_middle 181 = .ok (.aload_n 0, 1) := by decide +kernel
theorem dX9_middle_182 : decode cX9_middle 182 = .ok (.getfield 7, 3) := by decide +kernel
theorem dX9_middle_185 : decode cX9_middle 185 = .ok (.iload 7, 2) := by decide +kernel
theorem dX9_middle_187 : decode cX9_middle 187 = .ok (.imul, 1) := by decide +kernel
theorem dX9_middle_188 : decode cX9_middle 188 = .ok (.iload 4, 2) := by decide +kernel
theorem dX9_middle_190 : decode cX9_middle 190 = .ok (.iadd, 1) := by decide +kernel
theorem dX9_middle_191 : decode cX9_middle 191 = .ok (.invokevirtual 171, 3) := by decide +kernel
theorem dX9_middle_194 : decode cX9_middle 194 = .ok (.isub, 1) := by decide +kernel
theorem dX9_middle_195 : decode cX9_middle 195 = .ok (.aload_n 0, 1) := by decide +kernel
theorem dX9_middle_196 : decode cX9_middle 196 = .ok (.getfield 13, 3) := by decide +kernel
theorem dX9_middle_199 : decode cX9_middle 199 = .ok (.irem, 1) := by decide +kernel
theorem dX9_middle_200 : decode cX9_middle 200 = .ok (.iastore, 1) := by decide +kernel
theorem dX9_middle_201 : decode cX9_middle 201 = .ok (.iinc 6 1, 3) := by decide +kernel
theorem dX9_middle_204 : decode cX9_middle 204 = .ok (.iinc 7 1, 3) := by decide +kernel
theorem dX9_middle_207 : decode cX9_middle 207 = .ok (.goto (-92), 3) := by decide +kernel
theorem dX9_middle_210 : decode cX9_middle 210 = .ok (.iload_n 3, 1) := by decide +kernel
theorem dX9_middle_211 : decode cX9_middle 211 = .ok (.aload_n 0, 1) := by decide +kernel
theorem dX9_middle_212 : decode cX9_middle 212 = .ok (.iload_n 2, 1) := by decide +kernel
theorem dX9_middle_213 : decode cX9_middle 213 = .ok (.invokevirtual 182, 3) := by decide +kernel
theorem dX9_middle_216 : decode cX9_middle 216 = .ok (.iadd, 1) := by decide +kernel
theorem dX9_middle_217 : decode cX9_middle 217 = .ok (.istore_n 3, 1) := by decide +kernel
theorem dX9_middle_218 : decode cX9_middle 218 = .ok (.iinc 5 1, 3) := by decide +kernel
theorem dX9_middle_221 : decode cX9_middle 221 = .ok (.goto (-148), 3) := by decide +kernel
theorem dX9_middle_224 : decode cX9_middle 224 = .ok (.iinc 4 1, 3) := by decide +kernel
theorem dX9_middle_227 : decode cX9_middle 227 = .ok (.goto (-166), 3) := by decide +kernel
theorem dX9_middle_230 : decode cX9_middle 230 = .ok (.iload_n 2, 1) := by decide +kernel
theorem dX9_middle_231 : decode cX9_middle 231 = .ok (.iload_n 3, 1) := by decide +kernel
theorem dX9_middle_232 : decode cX9_middle 232 = .ok (.isub, 1) := by decide +kernel
theorem dX9_middle_233 : decode cX9_middle 233 = .ok (.ireturn, 1) := by decide +kernel
theorem dX9_next_0 : decode cX9_next 0 = .ok (.aload_n 0, 1) := by decide +kernel
theorem dX9_next_1 : decode cX9_next 1 = .ok (.getfield 107, 3) := by decide +kernel
theorem dX9_next_4 : decode cX9_next 4 = .ok (.aload_n 0, 1) := by decide +kernel
theorem dX9_next_5 : decode cX9_next 5 = .ok (.getfield 104, 3) := by decide +kernel
theorem dX9_next_8 : decode cX9_next 8 = .ok (.if_icmp .ge 30, 3) := by decide +kernel
theorem dX9_next_11 : decode cX9_next 11 = .ok (.aload_n 0, 1) := by decide +kernel
theorem dX9_next_12 : decode cX9_next 12 = .ok (.getfield 38, 3) := by decide +kernel
theorem dX9_next_15 : decode cX9_next 15 = .ok (.aload_n 0, 1) := by decide +kernel
theorem dX9_next_16 : decode cX9_next 16 = .ok (.getfield 107, 3) := by decide +kernel
theorem dX9_next_19 : decode cX9_next 19 = .ok (.iaload, 1) := by decide +kernel
theorem dX9_next_20 : decode cX9_next 20 = .ok (.bipush 32, 2) := by decide +kernel
theorem dX9_next_22 : decode cX9_next 22 = .ok (.if_icmp .ne 16, 3) := by decide +kernel
theorem dX9_next_25 : decode cX9_next 25 = .ok (.aload_n 0, 1) := by decide +kernel
theorem dX9_next_26 : decode cX9_next 26 = .ok (.dup, 1) := by decide +kernel
theorem dX9_next_27 : decode cX9_next 27 = .ok (.getfield 107, 3) := by decide +kernel
theorem dX9_next_30 : decode cX9_next 30 = .ok (.iconst 1, 1) := by decide +kernel
theorem dX9_next_31 : decode cX9_next 31 = .ok (.iadd, 1) := by decide +kernel
theorem dX9_next_32 : decode cX9_next 32 = .ok (.putfield 107, 3) := by decide +kernel
theorem dX9_next_35 : decode cX9_next 35 = .ok (.goto (-35), 3) := by decide +kernel
theorem dX9_next_38 : decode cX9_next 38 = .ok (.aload_n 0, 1) := by decide +kernel
theorem dX9_next_39 : decode cX9_next 39 = .ok (.getfield 107, 3) := by decide +kernel
theorem dX9_next_42 : decode cX9_next 42 = .ok (.aload_n 0, 1) := by decide +kernel
theorem dX9_next_43 : decode cX9_next 43 = .ok (.getfield 104, 3) := by decide +kernel
theorem dX9_next_46 : decode cX9_next 46 = .ok (.if_icmp .ge 15, 3) := by decide +kernel
theorem dX9_next_49 : decode cX9_next 49 = .ok (.aload_n 0, 1) := by decide +kernel
theorem dX9_next_50 : decode cX9_next 50 = .ok (.getfield 38, 3) := by decide +kernel
theorem dX9_next_53 : decode cX9_next 53 = .ok (.aload_n 0, 1) := by decide +kernel
theorem dX9_next_54 : decode cX9_next 54 = .ok (.getfield 107, 3) := by decide +kernel
theorem dX9_next_57 : decode cX9_next 57 = .ok (.iaload, 1) := by decide +kernel
theorem dX9_next_58 : decode cX9_next 58 = .ok (.goto 4, 3) := by decide +kernel
theorem dX9_next_61 : decode cX9_next 61 = .ok (.iconst (-1), 1) := by decide +kernel
theorem dX9_next_62 : decode cX9_next 62 = .ok (.ireturn, 1) := by decide +kernel
theorem dX9_normal_0 : decode cX9_normal 0 = .ok (.aload_n 0, 1) := by decide +kernel
theorem dX9_normal_1 : decode cX9_normal 1 = .ok (.iload_n 1, 1) := by decide +kernel
theorem dX9_normal_2 : decode cX9_normal 2 = .ok (.invokevirtual 156, 3) := by decide +kernel
theorem dX9_normal_5 : decode cX9_normal 5 = .ok (.ifCond .ne 5, 3) := by decide +kernel
theorem dX9_normal_8 : decode cX9_normal 8 = .ok (.iconst (-1), 1) := by decide +kernel
theorem dX9_normal_9 : decode cX9_normal 9 = .ok (.ireturn, 1) := by decide +kernel
theorem dX9_normal_10 : decode cX9_normal 10 = .ok (.aload_n 0, 1) := by decide +kernel
theorem dX9_normal_11 : decode cX9_normal 11 = .ok (.invokevirtual 153, 3) := by decide +kernel
theorem dX9_normal_14 : decode cX9_normal 14 = .ok (.aload_n 0, 1) := by decide +kernel
theorem dX9_normal_15 : decode cX9_normal 15 = .ok (.aload_n 0, 1) := by decide +kernel
theorem dX9_normal_16 : decode cX9_normal 16 = .ok (.getfield 45, 3) := by decide +kernel
theorem dX9_normal_19 : decode cX9_normal 19 = .ok (.iload_n 1, 1) := by decide +kernel
theorem dX9_normal_20 : decode cX9_normal 20 = .ok (.invokevirtual 159, 3) := by decide +kernel
theorem dX9_normal_23 : decode cX9_normal 23 = .ok (.ireturn, 1) := by decide +kernel
theorem dX9_normalIn_0 : decode cX9_normalIn 0 = .ok (.iconst 0, 1) := by decide +kernel
theorem dX9_normalIn_1 : decode cX9_normalIn 1 = .ok (.istore_n 3, 1) := by decide +kernel
theorem dX9_normalIn_2 : decode cX9_normalIn 2 = .ok (.iconst 0, 1) := by decide +kernel
theorem dX9_normalIn_3 : decode cX9_normalIn 3 = .ok (.istore 4, 2) := by decide +kernel
theorem dX9_normalIn_5 : decode cX9_normalIn 5 = .ok (.iload 4, 2) := by decide +kernel
theorem dX9_normalIn_7 : decode cX9_normalIn 7 = .ok (.aload_n 0, 1) := by decide +kernel
theorem dX9_normalIn_8 : decode cX9_normalIn 8 = .ok (.getfield 19, 3) := by decide +kernel
theorem dX9_normalIn_11 : decode cX9_normalIn 11 = .ok (.iload_n 2, 1) := by decide +kernel
theorem dX9_normalIn_12 : decode cX9_normalIn 12 = .ok (.iaload, 1) := by decide +kernel
theorem dX9_normalIn_13 : decode cX9_normalIn 13 = .ok (.if_icmp .ge 31, 3) := by decide +kernel
theorem dX9_normalIn_16 : decode cX9_normalIn 16 = .ok (.iload_n 3, 1) := by decide +kernel
theorem dX9_normalIn_17 : decode cX9_normalIn 17 = .ok (.aload_n 1, 1) := by decide +kernel
theorem dX9_normalIn_18 : decode cX9_normalIn 18 = .ok (.aload_n 0, 1) := by decide +kernel
theorem dX9_normalIn_19 : decode cX9_normalIn 19 = .ok (.getfield 23, 3) := by decide +kernel
theorem dX9_normalIn_22 : decode cX9_normalIn 22 = .ok (.iload_n 2, 1) := by decide +kernel
theorem dX9_normalIn_23 : decode cX9_normalIn 23 = .ok (.iaload, 1) := by decide +kernel
theorem dX9_normalIn_24 : decode cX9_normalIn 24 = .ok (.iload 4, 2) := by decide +kernel
theorem dX9_normalIn_26 : decode cX9_normalIn 26 = .ok (.iadd, 1) := by decide +kernel
theorem dX9_normalIn_27 : decode cX9_normalIn 27 = .ok (.baload, 1) := by decide +kernel
theorem dX9_normalIn_28 : decode cX9_normalIn 28 = .ok (.ifCond .eq 7, 3) := by decide +kernel
theorem dX9_normalIn_31 : decode cX9_normalIn 31 = .ok (.iconst 0, 1) := by decide +kernel
theorem dX9_normalIn_32 : decode cX9_normalIn 32 = .ok (.goto 4, 3) := by decide +kernel
theorem dX9_normalIn_35 : decode cX9_normalIn 35 = .ok (.iconst 1, 1) := by decide +kernel
theorem dX9_normalIn_36 : decode cX9_normalIn 36 = .ok (.iadd, 1) := by decide +kernel
theorem dX9_normalIn_37 : decode cX9_normalIn 37 = .ok (.istore_n 3, 1) := by decide +kernel
theorem dX9_normalIn_38 : decode cX9_normalIn 38 = .ok (.iinc 4 1, 3) := by decide +kernel
theorem dX9_normalIn_41 : decode cX9_normalIn 41 = .ok (.goto (-36), 3) := by decide +kernel
theorem dX9_normalIn_44 : decode cX9_normalIn 44 = .ok (.iload_n 3, 1) := by decide +kernel
theorem dX9_normalIn_45 : decode cX9_normalIn 45 = .ok (.ireturn, 1) := by decide +kernel
theorem dX9_other_0 : decode cX9_other 0 = .ok (.aload_n 0, 1) := by decide +kernel
theorem dX9_other_1 : decode cX9_other 1 = .ok (.iload_n 1, 1) := by decide +kernel
theorem dX9_other_2 : decode cX9_other 2 = .ok (.invokevirtual 156, 3) := by decide +kernel
theorem dX9_other_5 : decode cX9_other 5 = .ok (.ifCond .ne 5, 3) := by decide +kernel
theorem dX9_other_8 : decode cX9_other 8 = .ok (.iconst (-1), 1) := by decide +kernel
theorem dX9_other_9 : decode cX9_other 9 = .ok (.ireturn, 1) := by decide +kernel
theorem dX9_other_10 : decode cX9_other 10 = .ok (.aload_n 0, 1) := by decide +kernel
theorem dX9_other_11 : decode cX9_other 11 = .ok (.invokevirtual 185, 3) := by decide +kernel
theorem dX9_other_14 : decode cX9_other 14 = .ok (.ifCond .ne 6, 3) := by decide +kernel
theorem dX9_other_17 : decode cX9_other 17 = .ok (.bipush (-2), 2) := by decide +kernel
theorem dX9_other_19 : decode cX9_other 19 = .ok (.ireturn, 1) := by decide +kernel
theorem dX9_other_20 : decode cX9_other 20 = .ok (.aload_n 0, 1) := by decide +kernel
theorem dX9_other_21 : decode cX9_other 21 = .ok (.invokevirtual 188, 3) := by decide +kernel
theorem dX9_other_24 : decode cX9_other 24 = .ok (.aload_n 0, 1) := by decide +kernel
theorem dX9_other_25 : decode cX9_other 25 = .ok (.aload_n 0, 1) := by decide +kernel
theorem dX9_other_26 : decode cX9_other 26 = .ok (.getfield 52, 3) := by decide +kernel
theorem dX9_other_29 : decode cX9_other 29 = .ok (.iload_n 1, 1) := by decide +kernel
theorem dX9_other_30 : decode cX9_other 30 = .ok (.invokevirtual 159, 3) := by decide +kernel
theorem dX9_other_33 : decode cX9_other 33 = .ok (.ireturn, 1) := by decide +kernel
theorem dX9_part_0 : decode cX9_part 0 = .ok (.aload_n 0, 1) := by decide +kernel
theorem dX9_part_1 : decode cX9_part 1 = .ok (.iload_n 1, 1) := by decide +kernel
theorem dX9_part_2 : decode cX9_part 2 = .ok (.iload_n 2, 1) := by decide +kernel
theorem dX9_part_3 : decode cX9_part 3 = .ok (.invokevirtual 163, 3) := by decide +kernel
theorem dX9_part_6 : decode cX9_part 6 = .ok (.ifCond .eq 19, 3) := by decide +kernel
theorem dX9_part_9 : decode cX9_part 9 = .ok (.aload_n 0, 1) := by decide +kernel
theorem dX9_part_10 : decode cX9_part 10 = .ok (.getfield 64, 3) := by decide +kernel
theorem dX9_part_13 : decode cX9_part 13 = .ok (.aload_n 0, 1) := by decide +kernel
theorem dX9_part_14 : decode cX9_part 14 = .ok (.getfield 23, 3) := by decide +kernel
theorem dX9_part_17 : decode cX9_part 17 = .ok (.iload_n 1, 1) := by decide +kernel
theorem dX9_part_18 : decode cX9_part 18 = .ok (.iaload, 1) := by decide +kernel
theorem dX9_part_19 : decode cX9_part 19 = .ok (.iload_n 2, 1) := by decide +kernel
theorem dX9_part_20 : decode cX9_part 20 = .ok (.iadd, 1) := by decide +kernel
theorem dX9_part_21 : decode cX9_part 21 = .ok (.iaload, 1) := by decide +kernel
theorem dX9_part_22 : decode cX9_part 22 = .ok (.goto 4, 3) := by decide +kernel
theorem dX9_part_25 : decode cX9_part 25 = .ok (.iconst (-1), 1) := by decide +kernel
theorem dX9_part_26 : decode cX9_part 26 = .ok (.ireturn, 1) := by decide +kernel
theorem dX9_plain_0 : decode cX9_plain 0 = .ok (.aload_n 0, 1) := by decide +kernel
theorem dX9_plain_1 : decode cX9_plain 1 = .ok (.iload_n 1, 1) := by decide +kernel
theorem dX9_plain_2 : decode cX9_plain 2 = .ok (.iload_n 2, 1) := by decide +kernel
theorem dX9_plain_3 : decode cX9_plain 3 = .ok (.invokevirtual 163, 3) := by decide +kernel
theorem dX9_plain_6 : decode cX9_plain 6 = .ok (.ifCond .eq 12, 3) := by decide +kernel
theorem dX9_plain_9 : decode cX9_plain 9 = .ok (.aload_n 0, 1) := by decide +kernel
theorem dX9_plain_10 : decode cX9_plain 10 = .ok (.iload_n 1, 1) := by decide +kernel
theorem dX9_plain_11 : decode cX9_plain 11 = .ok (.iload_n 3, 1) := by decide +kernel
theorem dX9_plain_12 : decode cX9_plain 12 = .ok (.invokevirtual 163, 3) := by decide +kernel
theorem dX9_plain_15 : decode cX9_plain 15 = .ok (.ifCond .ne 5, 3) := by decide +kernel
theorem dX9_plain_18 : decode cX9_plain 18 = .ok (.iconst (-1), 1) := by decide +kernel
theorem dX9_plain_19 : decode cX9_plain 19 = .ok (.ireturn, 1) := by decide +kernel
theorem dX9_plain_20 : decode cX9_plain 20 = .ok (.aload_n 0, 1) := by decide +kernel
theorem dX9_plain_21 : decode cX9_plain 21 = .ok (.invokevirtual 153, 3) := by decide +kernel
theorem dX9_plain_24 : decode cX9_plain 24 = .ok (.aload_n 0, 1) := by decide +kernel
theorem dX9_plain_25 : decode cX9_plain 25 = .ok (.iload_n 1, 1) := by decide +kernel
theorem dX9_plain_26 : decode cX9_plain 26 = .ok (.iload_n 2, 1) := by decide +kernel
theorem dX9_plain_27 : decode cX9_plain 27 = .ok (.iload_n 3, 1) := by decide +kernel
theorem dX9_plain_28 : decode cX9_plain 28 = .ok (.invokevirtual 171, 3) := by decide +kernel
theorem dX9_plain_31 : decode cX9_plain 31 = .ok (.ireturn, 1) := by decide +kernel
theorem dX9_plainOf_0 : decode cX9_plainOf 0 = .ok (.aload_n 0, 1) := by decide +kernel
theorem dX9_plainOf_1 : decode cX9_plainOf 1 = .ok (.getfield 45, 3) := by decide +kernel
theorem dX9_plainOf_4 : decode cX9_plainOf 4 = .ok (.aload_n 0, 1) := by decide +kernel
theorem dX9_plainOf_5 : decode cX9_plainOf 5 = .ok (.getfield 23, 3) := by decide +kernel
theorem dX9_plainOf_8 : decode cX9_plainOf 8 = .ok (.iload_n 1, 1) := by decide +kernel
theorem dX9_plainOf_9 : decode cX9_plainOf 9 = .ok (.iaload, 1) := by decide +kernel
theorem dX9_plainOf_10 : decode cX9_plainOf 10 = .ok (.iload_n 3, 1) := by decide +kernel
theorem dX9_plainOf_11 : decode cX9_plainOf 11 = .ok (.iadd, 1) := by decide +kernel
theorem dX9_plainOf_12 : decode cX9_plainOf 12 = .ok (.baload, 1) := by decide +kernel
theorem dX9_plainOf_13 : decode cX9_plainOf 13 = .ok (.ifCond .ne 14, 3) := by decide +kernel
theorem dX9_plainOf_16 : decode cX9_plainOf 16 = .ok (.iload_n 2, 1) := by decide +kernel
theorem dX9_plainOf_17 : decode cX9_plainOf 17 = .ok (.iload_n 3, 1) := by decide +kernel
theorem dX9_plainOf_18 : decode cX9_plainOf 18 = .ok (.if_icmp .ne 7, 3) := by decide +kernel
theorem dX9_plainOf_21 : decode cX9_plainOf 21 = .ok (.iconst 1, 1) := by decide +kernel
theorem dX9_plainOf_22 : decode cX9_plainOf 22 = .ok (.goto 4, 3) := by decide +kernel
theorem dX9_plainOf_25 : decode cX9_plainOf 25 = .ok (.iconst 0, 1) := by decide +kernel
theorem dX9_plainOf_26 : decode cX9_plainOf 26 = .ok (.ireturn, 1) := by decide +kernel
theorem dX9_plainOf_27 : decode cX9_plainOf 27 = .ok (.iload_n 2, 1) := by decide +kernel
theorem dX9_plainOf_28 : decode cX9_plainOf 28 = .ok (.iload_n 3, 1) := by decide +kernel
theorem dX9_plainOf_29 : decode cX9_plainOf 29 = .ok (.if_icmp .ne 7, 3) := by decide +kernel
theorem dX9_plainOf_32 : decode cX9_plainOf 32 = .ok (.iconst 0, 1) := by decide +kernel
theorem dX9_plainOf_33 : decode cX9_plainOf 33 = .ok (.goto 35, 3) := by decide +kernel
theorem dX9_plainOf_36 : decode cX9_plainOf 36 = .ok (.aload_n 0, 1) := by decide +kernel
theorem dX9_plainOf_37 : decode cX9_plainOf 37 = .ok (.getfield 13, 3) := by decide +kernel
theorem dX9_plainOf_40 : decode cX9_plainOf 40 = .ok (.aload_n 0, 1) := by decide +kernel
theorem dX9_plainOf_41 : decode cX9_plainOf 41 = .ok (.getfield 42, 3) := by decide +kernel
theorem dX9_plainOf_44 : decode cX9_plainOf 44 = .ok (.aload_n 0, 1) := by decide +kernel
theorem dX9_plainOf_45 : decode cX9_plainOf 45 = .ok (.getfield 26, 3) := by decide +kernel
theorem dX9_plainOf_48 : decode cX9_plainOf 48 = .ok (.iload_n 1, 1) := by decide +kernel
theorem dX9_plainOf_49 : decode cX9_plainOf 49 = .ok (.iaload, 1) := by decide +kernel
theorem dX9_plainOf_50 : decode cX9_plainOf 50 = .ok (.iload_n 3, 1) := by decide +kernel
theorem dX9_plainOf_51 : decode cX9_plainOf 51 = .ok (.aload_n 0, 1) := by decide +kernel
theorem dX9_plainOf_52 : decode cX9_plainOf 52 = .ok (.getfield 19, 3) := by decide +kernel
theorem dX9_plainOf_55 : decode cX9_plainOf 55 = .ok (.iload_n 1, 1) := by decide +kernel
theorem dX9_plainOf_56 : decode cX9_plainOf 56 = .ok (.iaload, 1) := by decide +kernel
theorem dX9_plainOf_57 : decode cX9_plainOf 57 = .ok (.imul, 1) := by decide +kernel
theorem dX9_plainOf_58 : decode cX9_plainOf 58 = .ok (.iadd, 1) := by decide +kernel
theorem dX9_plainOf_59 : decode cX9_plainOf 59 = .ok (.iload_n 2, 1) := by decide +kernel
theorem dX9_plainOf_60 : decode cX9_plainOf 60 = .ok (.iadd, 1) := by decide +kernel
theorem dX9_plainOf_61 : decode cX9_plainOf 61 = .ok (.iaload, 1) := by decide +kernel
theorem dX9_plainOf_62 : decode cX9_plainOf 62 = .ok (.isub, 1) := by decide +kernel
theorem dX9_plainOf_63 : decode cX9_plainOf 63 = .ok (.aload_n 0, 1) := by decide +kernel
theorem dX9_plainOf_64 : decode cX9_plainOf 64 = .ok (.getfield 13, 3) := by decide +kernel
theorem dX9_plainOf_67 : decode cX9_plainOf 67 = .ok (.irem, 1) := by decide +kernel
theorem dX9_plainOf_68 : decode cX9_plainOf 68 = .ok (.ireturn, 1) := by decide +kernel
theorem dX9_product_0 : decode cX9_product 0 = .ok (.aload_n 0, 1) := by decide +kernel
theorem dX9_product_1 : decode cX9_product 1 = .ok (.iload_n 1, 1) := by decide +kernel
theorem dX9_product_2 : decode cX9_product 2 = .ok (.invokevirtual 156, 3) := by decide +kernel
theorem dX9_product_5 : decode cX9_product 5 = .ok (.ifCond .eq 42, 3) := by decide +kernel
theorem dX9_product_8 : decode cX9_product 8 = .ok (.aload_n 0, 1) := by decide +kernel
theorem dX9_product_9 : decode cX9_product 9 = .ok (.iload_n 3, 1) := by decide +kernel
theorem dX9_product_10 : decode cX9_product 10 = .ok (.invokevirtual 156, 3) := by decide +kernel
theorem dX9_product_13 : decode cX9_product 13 = .ok (.ifCond .eq 34, 3) := by decide +kernel
theorem dX9_product_16 : decode cX9_product 16 = .ok (.iload_n 1, 1) := by decide +kernel
theorem dX9_product_17 : decode cX9_product 17 = .ok (.iload_n 3, 1) := by decide +kernel
theorem dX9_product_18 : decode cX9_product 18 = .ok (.iadd, 1) := by decide +kernel
theorem dX9_product_19 : decode cX9_product 19 = .ok (.aload_n 0, 1) := by decide +kernel
theorem dX9_product_20 : decode cX9_product 20 = .ok (.getfield 16, 3) := by decide +kernel
theorem dX9_product_23 : decode cX9_product 23 = .ok (.if_icmp .gt 24, 3) := by decide +kernel
theorem dX9_product_26 : decode cX9_product 26 = .ok (.iload_n 2, 1) := by decide +kernel
theorem dX9_product_27 : decode cX9_product 27 = .ok (.ifCond .lt 20, 3) := by decide +kernel
theorem dX9_product_30 : decode cX9_product 30 = .ok (.iload 4, 2) := by decide +kernel
theorem dX9_product_32 : decode cX9_product 32 = .ok (.ifCond .lt 15, 3) := by decide +kernel
theorem dX9_product_35 : decode cX9_product 35 = .ok (.aload_n 0, 1) := by decide +kernel
theorem dX9_product_36 : decode cX9_product 36 = .ok (.iload_n 1, 1) := by decide +kernel
theorem dX9_product_37 : decode cX9_product 37 = .ok (.iload_n 3, 1) := by decide +kernel
theorem dX9_product_38 : decode cX9_product 38 = .ok (.iadd, 1) := by decide +kernel
theorem dX9_product_39 : decode cX9_product 39 = .ok (.iload 5, 2) := by decide +kernel
theorem dX9_product_41 : decode cX9_product 41 = .ok (.invokevirtual 163, 3) := by decide +kernel
theorem dX9_product_44 : decode cX9_product 44 = .ok (.ifCond .ne 5, 3) := by decide +kernel
theorem dX9_product_47 : decode cX9_product 47 = .ok (.iconst (-1), 1) := by decide +kernel
theorem dX9_product_48 : decode cX9_product 48 = .ok (.ireturn, 1) := by decide +kernel
theorem dX9_product_49 : decode cX9_product 49 = .ok (.aload_n 0, 1) := by decide +kernel
theorem dX9_product_50 : decode cX9_product 50 = .ok (.invokevirtual 153, 3) := by decide +kernel
theorem dX9_product_53 : decode cX9_product 53 = .ok (.aload_n 0, 1) := by decide +kernel
theorem dX9_product_54 : decode cX9_product 54 = .ok (.iload_n 1, 1) := by decide +kernel
theorem dX9_product_55 : decode cX9_product 55 = .ok (.iload_n 2, 1) := by decide +kernel
theorem dX9_product_56 : decode cX9_product 56 = .ok (.invokevirtual 167, 3) := by decide +kernel
theorem dX9_product_59 : decode cX9_product 59 = .ok (.istore 6, 2) := by decide +kernel
theorem dX9_product_61 : decode cX9_product 61 = .ok (.aload_n 0, 1) := by decide +kernel
theorem dX9_product_62 : decode cX9_product 62 = .ok (.iload_n 3, 1) := by decide +kernel
theorem dX9_product_63 : decode cX9_product 63 = .ok (.iload 4, 2) := by decide +kernel
theorem dX9_product_65 : decode cX9_product 65 = .ok (.invokevirtual 167, 3) := by decide +kernel
theorem dX9_product_68 : decode cX9_product 68 = .ok (.istore 7, 2) := by decide +kernel
theorem dX9_product_70 : decode cX9_product 70 = .ok (.iload 6, 2) := by decide +kernel
theorem dX9_product_72 : decode cX9_product 72 = .ok (.ifCond .lt 8, 3) := by decide +kernel
theorem dX9_product_75 : decode cX9_product 75 = .ok (.iload 7, 2) := by decide +kernel
theorem dX9_product_77 : decode cX9_product 77 = .ok (.ifCond .ge 7, 3) := by decide +kernel
theorem dX9_product_80 : decode cX9_product 80 = .ok (.iconst (-1), 1) := by decide +kernel
theorem dX9_product_81 : decode cX9_product 81 = .ok (.goto 24, 3) := by decide +kernel
theorem dX9_product_84 : decode cX9_product 84 = .ok (.aload_n 0, 1) := by decide +kernel
theorem dX9_product_85 : decode cX9_product 85 = .ok (.iload_n 1, 1) := by decide +kernel
theorem dX9_product_86 : decode cX9_product 86 = .ok (.iload_n 3, 1) := by decide +kernel
theorem dX9_product_87 : decode cX9_product 87 = .ok (.iadd, 1) := by decide +kernel
theorem dX9_product_88 : decode cX9_product 88 = .ok (.iload 5, 2) := by decide +kernel
theorem dX9_product_90 : decode cX9_product 90 = .ok (.iload 6, 2) := by decide +kernel
theorem dX9_product_92 : decode cX9_product 92 = .ok (.aload_n 0, 1) := by decide +kernel
theorem dX9_product_93 : decode cX9_product 93 = .ok (.getfield 19, 3) := by decide +kernel
theorem dX9_product_96 : decode cX9_product 96 = .ok (.iload_n 3, 1) := by decide +kernel
theorem dX9_product_97 : decode cX9_product 97 = .ok (.iaload, 1) := by decide +kernel
theorem dX9_product_98 : decode cX9_product 98 = .ok (.imul, 1) := by decide +kernel
theorem dX9_product_99 : decode cX9_product 99 = .ok (.iload 7, 2) := by decide +kernel
theorem dX9_product_101 : decode cX9_product 101 = .ok (.iadd, 1) := by decide +kernel
theorem dX9_product_102 : decode cX9_product 102 = .ok (.invokevirtual 171, 3) := by decide +kernel
theorem dX9_product_105 : decode cX9_product 105 = .ok (.ireturn, 1) := by decide +kernel
theorem dX9_put_0 : decode cX9_put 0 = .ok (.iload_n 1, 1) := by decide +kernel
theorem dX9_put_1 : decode cX9_put 1 = .ok (.i2l, 1) := by decide +kernel
theorem dX9_put_2 : decode cX9_put 2 = .ok (.lconst 0, 1) := by decide +kernel
theorem dX9_put_3 : decode cX9_put 3 = .ok (.lconst 1, 1) := by decide +kernel
theorem dX9_put_4 : decode cX9_put 4 = .ok (.invokestatic 90, 3) := by decide +kernel
theorem dX9_put_7 : decode cX9_put 7 = .ok (.ifCond .eq 19, 3) := by decide +kernel
theorem dX9_put_10 : decode cX9_put 10 = .ok (.iload_n 2, 1) := by decide +kernel
theorem dX9_put_11 : decode cX9_put 11 = .ok (.i2l, 1) := by decide +kernel
theorem dX9_put_12 : decode cX9_put 12 = .ok (.lconst 0, 1) := by decide +kernel
theorem dX9_put_13 : decode cX9_put 13 = .ok (.aload_n 0, 1) := by decide +kernel
theorem dX9_put_14 : decode cX9_put 14 = .ok (.getfield 7, 3) := by decide +kernel
theorem dX9_put_17 : decode cX9_put 17 = .ok (.iconst 1, 1) := by decide +kernel
theorem dX9_put_18 : decode cX9_put 18 = .ok (.isub, 1) := by decide +kernel
theorem dX9_put_19 : decode cX9_put 19 = .ok (.i2l, 1) := by decide +kernel
theorem dX9_put_20 : decode cX9_put 20 = .ok (.invokestatic 90, 3) := by decide +kernel
theorem dX9_put_23 : decode cX9_put 23 = .ok (.ifCond .ne 5, 3) := by decide +kernel
theorem dX9_put_26 : decode cX9_put 26 = .ok (.iconst (-1), 1) := by decide +kernel
theorem dX9_put_27 : decode cX9_put 27 = .ok (.ireturn, 1) := by decide +kernel
theorem dX9_put_28 : decode cX9_put 28 = .ok (.aload_n 0, 1) := by decide +kernel
theorem dX9_put_29 : decode cX9_put 29 = .ok (.getfield 64, 3) := by decide +kernel
theorem dX9_put_32 : decode cX9_put 32 = .ok (.aload_n 0, 1) := by decide +kernel
theorem dX9_put_33 : decode cX9_put 33 = .ok (.getfield 23, 3) := by decide +kernel
theorem dX9_put_36 : decode cX9_put 36 = .ok (.aload_n 0, 1) := by decide +kernel
theorem dX9_put_37 : decode cX9_put 37 = .ok (.getfield 16, 3) := by decide +kernel
theorem dX9_put_40 : decode cX9_put 40 = .ok (.iaload, 1) := by decide +kernel
theorem dX9_put_41 : decode cX9_put 41 = .ok (.aload_n 0, 1) := by decide +kernel
theorem dX9_put_42 : decode cX9_put 42 = .ok (.getfield 19, 3) := by decide +kernel
theorem dX9_put_45 : decode cX9_put 45 = .ok (.aload_n 0, 1) := by decide +kernel
theorem dX9_put_46 : decode cX9_put 46 = .ok (.getfield 16, 3) := by decide +kernel
theorem dX9_put_49 : decode cX9_put 49 = .ok (.iaload, 1) := by decide +kernel
theorem dX9_put_50 : decode cX9_put 50 = .ok (.invokestatic 178, 3) := by decide +kernel
theorem dX9_put_53 : decode cX9_put 53 = .ok (.ifCond .le 6, 3) := by decide +kernel
theorem dX9_put_56 : decode cX9_put 56 = .ok (.bipush (-3), 2) := by decide +kernel
theorem dX9_put_58 : decode cX9_put 58 = .ok (.ireturn, 1) := by decide +kernel
theorem dX9_put_59 : decode cX9_put 59 = .ok (.aload_n 0, 1) := by decide +kernel
theorem dX9_put_60 : decode cX9_put 60 = .ok (.getfield 16, 3) := by decide +kernel
theorem dX9_put_63 : decode cX9_put 63 = .ok (.istore_n 3, 1) := by decide +kernel
theorem dX9_put_64 : decode cX9_put 64 = .ok (.iload_n 3, 1) := by decide +kernel
theorem dX9_put_65 : decode cX9_put 65 = .ok (.ifCond .lt 131, 3) := by decide +kernel
theorem dX9_put_68 : decode cX9_put 68 = .ok (.iconst 0, 1) := by decide +kernel
theorem dX9_put_69 : decode cX9_put 69 = .ok (.istore 4, 2) := by decide +kernel
theorem dX9_put_71 : decode cX9_put 71 = .ok (.iload 4, 2) := by decide +kernel
theorem dX9_put_73 : decode cX9_put 73 = .ok (.aload_n 0, 1) := by decide +kernel
theorem dX9_put_74 : decode cX9_put 74 = .ok (.getfield 19, 3) := by decide +kernel
theorem dX9_put_77 : decode cX9_put 77 = .ok (.iload_n 3, 1) := by decide +kernel
theorem dX9_put_78 : decode cX9_put 78 = .ok (.iaload, 1) := by decide +kernel
theorem dX9_put_79 : decode cX9_put 79 = .ok (.if_icmp .ge 111, 3) := by decide +kernel
theorem dX9_put_82 : decode cX9_put 82 = .ok (.iload_n 3, 1) := by decide +kernel
theorem dX9_put_83 : decode cX9_put 83 = .ok (.ifCond .le 36, 3) := by decide +kernel
theorem dX9_put_86 : decode cX9_put 86 = .ok (.iload_n 1, 1) := by decide +kernel
theorem dX9_put_87 : decode cX9_put 87 = .ok (.ifCond .ne 17, 3) := by decide +kernel
theorem dX9_put_90 : decode cX9_put 90 = .ok (.iload 4, 2) := by decide +kernel
theorem dX9_put_92 : decode cX9_put 92 = .ok (.aload_n 0, 1) := by decide +kernel
theorem dX9_put_93 : decode cX9_put 93 = .ok (.getfield 19, 3) := by decide +kernel
theorem dX9_put_96 : decode cX9_put 96 = .ok (.iload_n 3, 1) := by decide +kernel
theorem dX9_put_97 : decode cX9_put 97 = .ok (.iconst 1, 1) := by decide +kernel
theorem dX9_put_98 : decode cX9_put 98 = .ok (.isub, 1) := by decide +kernel
theorem dX9_put_99 : decode cX9_put 99 = .ok (.iaload, 1) := by decide +kernel
theorem dX9_put_100 : decode cX9_put 100 = .ok (.idiv, 1) := by decide +kernel
theorem dX9_put_101 : decode cX9_put 101 = .ok (.goto 10, 3) := by decide +kernel
theorem dX9_put_104 : decode cX9_put 104 = .ok (.iload 4, 2) := by decide +kernel
theorem dX9_put_106 : decode cX9_put 106 = .ok (.aload_n 0, 1) := by decide +kernel
theorem dX9_put_107 : decode cX9_put 107 = .ok (.getfield 7, 3) := by decide +kernel
theorem dX9_put_110 : decode cX9_put 110 = .ok (.irem, 1) := by decide +kernel
theorem dX9_put_111 : decode cX9_put 111 = .ok (.iload_n 2, 1) := by decide +kernel
theorem dX9_put_112 : decode cX9_put 112 = .ok (.if_icmp .ne 7, 3) := by decide +kernel
theorem dX9_put_115 : decode cX9_put 115 = .ok (.iconst 1, 1) := by decide +kernel
theorem dX9_put_116 : decode cX9_put 116 = .ok (.goto 4, 3) := by decide +kernel
theorem dX9_put_119 : decode cX9_put 119 = .ok (.iconst 0, 1) := by decide +kernel
theorem dX9_put_120 : decode cX9_put 120 = .ok (.istore 5, 2) := by decide +kernel
theorem dX9_put_122 : decode cX9_put 122 = .ok (.aload_n 0, 1) := by decide +kernel
theorem dX9_put_123 : decode cX9_put 123 = .ok (.getfield 64, 3) := by decide +kernel
theorem dX9_put_126 : decode cX9_put 126 = .ok (.aload_n 0, 1) := by decide +kernel
theorem dX9_put_127 : decode cX9_put 127 = .ok (.getfield 23, 3) := by decide +kernel
theorem dX9_put_130 : decode cX9_put 130 = .ok (.iload_n 3, 1) := by decide +kernel
theorem dX9_put_131 : decode cX9_put 131 = .ok (.iaload, 1) := by decide +kernel
theorem dX9_put_132 : decode cX9_put 132 = .ok (.iload 4, 2) := by decide +kernel
theorem dX9_put_134 : decode cX9_put 134 = .ok (.iadd, 1) := by decide +kernel
theorem dX9_put_135 : decode cX9_put 135 = .ok (.iload 5, 2) := by decide +kernel
theorem dX9_put_137 : decode cX9_put 137 = .ok (.ifCond .eq 45, 3) := by decide +kernel
theorem dX9_put_140 : decode cX9_put 140 = .ok (.aload_n 0, 1) := by decide +kernel
theorem dX9_put_141 : decode cX9_put 141 = .ok (.getfield 64, 3) := by decide +kernel
theorem dX9_put_144 : decode cX9_put 144 = .ok (.aload_n 0, 1) := by decide +kernel
theorem dX9_put_145 : decode cX9_put 145 = .ok (.getfield 23, 3) := by decide +kernel
theorem dX9_put_148 : decode cX9_put 148 = .ok (.iload_n 3, 1) := by decide +kernel
theorem dX9_put_149 : decode cX9_put 149 = .ok (.iconst 1, 1) := by decide +kernel
theorem dX9_put_150 : decode cX9_put 150 = .ok (.isub, 1) := by decide +kernel
theorem dX9_put_151 : decode cX9_put 151 = .ok (.iaload, 1) := by decide +kernel
theorem dX9_put_152 : decode cX9_put 152 = .ok (.iload_n 1, 1) := by decide +kernel
theorem dX9_put_153 : decode cX9_put 153 = .ok (.ifCond .ne 17, 3) := by decide +kernel
theorem dX9_put_156 : decode cX9_put 156 = .ok (.iload 4, 2) := by decide +kernel
theorem dX9_put_158 : decode cX9_put 158 = .ok (.aload_n 0, 1) := by decide +kernel
theorem dX9_put_159 : decode cX9_put 159 = .ok (.getfield 19, 3) := by decide +kernel
theorem dX9_put_162 : decode cX9_put 162 = .ok (.iload_n 3, 1) := by decide +kernel
theorem dX9_put_163 : decode cX9_put 163 = .ok (.iconst 1, 1) := by decide +kernel
theorem dX9_put_164 : decode cX9_put 164 = .ok (.isub, 1) := by decide +kernel
theorem dX9_put_165 : decode cX9_put 165 = .ok (.iaload, 1) := by decide +kernel
theorem dX9_put_166 : decode cX9_put 166 = .ok (.irem, 1) := by decide +kernel
theorem dX9_put_167 : decode cX9_put 167 = .ok (.goto 10, 3) := by decide +kernel
theorem dX9_put_170 : decode cX9_put 170 = .ok (.iload 4, 2) := by decide +kernel
theorem dX9_put_172 : decode cX9_put 172 = .ok (.aload_n 0, 1) := by decide +kernel
theorem dX9_put_173 : decode cX9_put 173 = .ok (.getfield 7, 3) := by decide +kernel
theorem dX9_put_176 : decode cX9_put 176 = .ok (.idiv, 1) := by decide +kernel
theorem dX9_put_177 : decode cX9_put 177 = .ok (.iadd, 1) := by decide +kernel
theorem dX9_put_178 : decode cX9_put 178 = .ok (.iaload, 1) := by decide +kernel
theorem dX9_put_179 : decode cX9_put 179 = .ok (.goto 4, 3) := by decide +kernel
theorem dX9_put_182 : decode cX9_put 182 = .ok (.iconst 0, 1) := by decide +kernel
theorem dX9_put_183 : decode cX9_put 183 = .ok (.iastore, 1) := by decide +kernel
theorem dX9_put_184 : decode cX9_put 184 = .ok (.iinc 4 1, 3) := by decide +kernel
theorem dX9_put_187 : decode cX9_put 187 = .ok (.goto (-116), 3) := by decide +kernel
theorem dX9_put_190 : decode cX9_put 190 = .ok (.iinc 3 (-1), 3) := by decide +kernel
theorem dX9_put_193 : decode cX9_put 193 = .ok (.goto (-129), 3) := by decide +kernel
theorem dX9_put_196 : decode cX9_put 196 = .ok (.aload_n 0, 1) := by decide +kernel
theorem dX9_put_197 : decode cX9_put 197 = .ok (.getfield 64, 3) := by decide +kernel
theorem dX9_put_200 : decode cX9_put 200 = .ok (.iconst 0, 1) := by decide +kernel
theorem dX9_put_201 : decode cX9_put 201 = .ok (.sipush 400, 3) := by decide +kernel
theorem dX9_put_204 : decode cX9_put 204 = .ok (.invokestatic 178, 3) := by decide +kernel
theorem dX9_put_207 : decode cX9_put 207 = .ok (.ireturn, 1) := by decide +kernel
theorem dX9_readSum_0 : decode cX9_readSum 0 = .ok (.aload_n 0, 1) := by decide +kernel
theorem dX9_readSum_1 : decode cX9_readSum 1 = .ok (.iconst 0, 1) := by decide +kernel
theorem dX9_readSum_2 : decode cX9_readSum 2 = .ok (.putfield 107, 3) := by decide +kernel
theorem dX9_readSum_5 : decode cX9_readSum 5 = .ok (.iconst 0, 1) := by decide +kernel
theorem dX9_readSum_6 : decode cX9_readSum 6 = .ok (.istore_n 1, 1) := by decide +kernel
theorem dX9_readSum_7 : decode cX9_readSum 7 = .ok (.iload_n 1, 1) := by decide +kernel
theorem dX9_readSum_8 : decode cX9_readSum 8 = .ok (.sipush 400, 3) := by decide +kernel
theorem dX9_readSum_11 : decode cX9_readSum 11 = .ok (.if_icmp .ge 16, 3) := by decide +kernel
theorem dX9_readSum_14 : decode cX9_readSum 14 = .ok (.aload_n 0, 1) := by decide +kernel
theorem dX9_readSum_15 : decode cX9_readSum 15 = .ok (.getfield 35, 3) := by decide +kernel
theorem dX9_readSum_18 : decode cX9_readSum 18 = .ok (.iload_n 1, 1) := by decide +kernel
theorem dX9_readSum_19 : decode cX9_readSum 19 = .ok (.iconst 0, 1) := by decide +kernel
theorem dX9_readSum_20 : decode cX9_readSum 20 = .ok (.iastore, 1) := by decide +kernel
theorem dX9_readSum_21 : decode cX9_readSum 21 = .ok (.iinc 1 1, 3) := by decide +kernel
theorem dX9_readSum_24 : decode cX9_readSum 24 = .ok (.goto (-17), 3) := by decide +kernel
theorem dX9_readSum_27 : decode cX9_readSum 27 = .ok (.aload_n 0, 1) := by decide +kernel
theorem dX9_readSum_28 : decode cX9_readSum 28 = .ok (.invokevirtual 110, 3) := by decide +kernel
theorem dX9_readSum_31 : decode cX9_readSum 31 = .ok (.istore_n 1, 1) := by decide +kernel
theorem dX9_readSum_32 : decode cX9_readSum 32 = .ok (.aload_n 0, 1) := by decide +kernel
theorem dX9_readSum_33 : decode cX9_readSum 33 = .ok (.dup, 1) := by decide +kernel
theorem dX9_readSum_34 : decode cX9_readSum 34 = .ok (.getfield 107, 3) := by decide +kernel
theorem dX9_readSum_37 : decode cX9_readSum 37 = .ok (.iload_n 1, 1) := by decide +kernel
theorem dX9_readSum_38 : decode cX9_readSum 38 = .ok (.bipush 45, 2) := by decide +kernel
theorem dX9_readSum_40 : decode cX9_readSum 40 = .ok (.if_icmp .ne 7, 3) := by decide +kernel
theorem dX9_readSum_43 : decode cX9_readSum 43 = .ok (.iconst 1, 1) := by decide +kernel
theorem dX9_readSum_44 : decode cX9_readSum 44 = .ok (.goto 4, 3) := by decide +kernel
theorem dX9_readSum_47 : decode cX9_readSum 47 = .ok (.iconst 0, 1) := by decide +kernel
theorem dX9_readSum_48 : decode cX9_readSum 48 = .ok (.iadd, 1) := by decide +kernel
theorem dX9_readSum_49 : decode cX9_readSum 49 = .ok (.putfield 107, 3) := by decide +kernel
theorem dX9_readSum_52 : decode cX9_readSum 52 = .ok (.aload_n 0, 1) := by decide +kernel
theorem dX9_readSum_53 : decode cX9_readSum 53 = .ok (.iload_n 1, 1) := by decide +kernel
theorem dX9_readSum_54 : decode cX9_readSum 54 = .ok (.bipush 45, 2) := by decide +kernel
theorem dX9_readSum_56 : decode cX9_readSum 56 = .ok (.if_icmp .ne 7, 3) := by decide +kernel
theorem dX9_readSum_59 : decode cX9_readSum 59 = .ok (.iconst (-1), 1) := by decide +kernel
theorem dX9_readSum_60 : decode cX9_readSum 60 = .ok (.goto 4, 3) := by decide +kernel
theorem dX9_readSum_63 : decode cX9_readSum 63 = .ok (.iconst 1, 1) := by decide +kernel
theorem dX9_readSum_64 : decode cX9_readSum 64 = .ok (.invokevirtual 118, 3) := by decide +kernel
theorem dX9_readSum_67 : decode cX9_readSum 67 = .ok (.istore_n 2, 1) := by decide +kernel
theorem dX9_readSum_68 : decode cX9_readSum 68 = .ok (.aload_n 0, 1) := by decide +kernel
theorem dX9_readSum_69 : decode cX9_readSum 69 = .ok (.invokevirtual 110, 3) := by decide +kernel
theorem dX9_readSum_72 : decode cX9_readSum 72 = .ok (.istore_n 1, 1) := by decide +kernel
theorem dX9_readSum_73 : decode cX9_readSum 73 = .ok (.iload_n 2, 1) := by decide +kernel
theorem dX9_readSum_74 : decode cX9_readSum 74 = .ok (.ifCond .eq 63, 3) := by decide +kernel
theorem dX9_readSum_77 : decode cX9_readSum 77 = .ok (.iload_n 1, 1) := by decide +kernel
theorem dX9_readSum_78 : decode cX9_readSum 78 = .ok (.ifCond .lt 59, 3) := by decide +kernel
theorem dX9_readSum_81 : decode cX9_readSum 81 = .ok (.iload_n 1, 1) := by decide +kernel
theorem dX9_readSum_82 : decode cX9_readSum 82 = .ok (.bipush 43, 2) := by decide +kernel
theorem dX9_readSum_84 : decode cX9_readSum 84 = .ok (.if_icmp .eq 11, 3) := by decide +kernel
theorem dX9_readSum_87 : decode cX9_readSum 87 = .ok (.iload_n 1, 1) := by decide +kernel
theorem dX9_readSum_88 : decode cX9_readSum 88 = .ok (.bipush 45, 2) := by decide +kernel
theorem dX9_readSum_90 : decode cX9_readSum 90 = .ok (.if_icmp .eq 5, 3) := by decide +kernel
theorem dX9_readSum_93 : decode cX9_readSum 93 = .ok (.iconst 0, 1) := by decide +kernel
theorem dX9_readSum_94 : decode cX9_readSum 94 = .ok (.ireturn, 1) := by decide +kernel
theorem dX9_readSum_95 : decode cX9_readSum 95 = .ok (.aload_n 0, 1) := by decide +kernel
theorem dX9_readSum_96 : decode cX9_readSum 96 = .ok (.dup, 1) := by decide +kernel
theorem dX9_readSum_97 : decode cX9_readSum 97 = .ok (.getfield 107, 3) := by decide +kernel
theorem dX9_readSum_100 : decode cX9_readSum 100 = .ok (.iconst 1, 1) := by decide +kernel
theorem dX9_readSum_101 : decode cX9_readSum 101 = .ok (.iadd, 1) := by decide +kernel
theorem dX9_readSum_102 : decode cX9_readSum 102 = .ok (.putfield 107, 3) := by decide +kernel
theorem dX9_readSum_105 : decode cX9_readSum 105 = .ok (.aload_n 0, 1) := by decide +kernel
theorem dX9_readSum_106 : decode cX9_readSum 106 = .ok (.iload_n 1, 1) := by decide +kernel
theorem dX9_readSum_107 : decode cX9_readSum 107 = .ok (.bipush 45, 2) := by decide +kernel
theorem dX9_readSum_109 : decode cX9_readSum 109 = .ok (.if_icmp .ne 7, 3) := by decide +kernel
theorem dX9_readSum_112 : decode cX9_readSum 112 = .ok (.iconst (-1), 1) := by decide +kernel
theorem dX9_readSum_113 : decode cX9_readSum 113 = .ok (.goto 4, 3) := by decide +kernel
theorem dX9_readSum_116 : decode cX9_readSum 116 = .ok (.iconst 1, 1) := by decide +kernel
theorem dX9_readSum_117 : decode cX9_readSum 117 = .ok (.invokevirtual 118, 3) := by decide +kernel
theorem dX9_readSum_120 : decode cX9_readSum 120 = .ok (.istore_n 2, 1) := by decide +kernel
theorem dX9_readSum_121 : decode cX9_readSum 121 = .ok (.iload_n 2, 1) := by decide +kernel
theorem dX9_readSum_122 : decode cX9_readSum 122 = .ok (.ifCond .eq 10, 3) := by decide +kernel
theorem dX9_readSum_125 : decode cX9_readSum 125 = .ok (.aload_n 0, 1) := by decide +kernel
theorem dX9_readSum_126 : decode cX9_readSum 126 = .ok (.invokevirtual 110, 3) := by decide +kernel
theorem dX9_readSum_129 : decode cX9_readSum 129 = .ok (.goto 4, 3) := by decide +kernel
theorem dX9_readSum_132 : decode cX9_readSum 132 = .ok (.iload_n 1, 1) := by decide +kernel
theorem dX9_readSum_133 : decode cX9_readSum 133 = .ok (.istore_n 1, 1) := by decide +kernel
theorem dX9_readSum_134 : decode cX9_readSum 134 = .ok (.goto (-61), 3) := by decide +kernel
theorem dX9_readSum_137 : decode cX9_readSum 137 = .ok (.iload_n 2, 1) := by decide +kernel
theorem dX9_readSum_138 : decode cX9_readSum 138 = .ok (.ireturn, 1) := by decide +kernel
theorem dX9_readTerm_0 : decode cX9_readTerm 0 = .ok (.aload_n 0, 1) := by decide +kernel
theorem dX9_readTerm_1 : decode cX9_readTerm 1 = .ok (.invokevirtual 110, 3) := by decide +kernel
theorem dX9_readTerm_4 : decode cX9_readTerm 4 = .ok (.istore_n 2, 1) := by decide +kernel
theorem dX9_readTerm_5 : decode cX9_readTerm 5 = .ok (.aload_n 0, 1) := by decide +kernel
theorem dX9_readTerm_6 : decode cX9_readTerm 6 = .ok (.getfield 107, 3) := by decide +kernel
theorem dX9_readTerm_9 : decode cX9_readTerm 9 = .ok (.istore_n 3, 1) := by decide +kernel
theorem dX9_readTerm_10 : decode cX9_readTerm 10 = .ok (.iload_n 2, 1) := by decide +kernel
theorem dX9_readTerm_11 : decode cX9_readTerm 11 = .ok (.i2l, 1) := by decide +kernel
theorem dX9_readTerm_12 : decode cX9_readTerm 12 = .ok (.ldc2_w 114, 3) := by decide +kernel
theorem dX9_readTerm_15 : decode cX9_readTerm 15 = .ok (.ldc2_w 116, 3) := by decide +kernel
theorem dX9_readTerm_18 : decode cX9_readTerm 18 = .ok (.invokestatic 90, 3) := by decide +kernel
theorem dX9_readTerm_21 : decode cX9_readTerm 21 = .ok (.istore 4, 2) := by decide +kernel
theorem dX9_readTerm_23 : decode cX9_readTerm 23 = .ok (.iload 4, 2) := by decide +kernel
theorem dX9_readTerm_25 : decode cX9_readTerm 25 = .ok (.ifCond .eq 7, 3) := by decide +kernel
theorem dX9_readTerm_28 : decode cX9_readTerm 28 = .ok (.iconst 0, 1) := by decide +kernel
theorem dX9_readTerm_29 : decode cX9_readTerm 29 = .ok (.goto 4, 3) := by decide +kernel
theorem dX9_readTerm_32 : decode cX9_readTerm 32 = .ok (.iconst 1, 1) := by decide +kernel
theorem dX9_readTerm_33 : decode cX9_readTerm 33 = .ok (.istore 5, 2) := by decide +kernel
theorem dX9_readTerm_35 : decode cX9_readTerm 35 = .ok (.aload_n 0, 1) := by decide +kernel
theorem dX9_readTerm_36 : decode cX9_readTerm 36 = .ok (.getfield 107, 3) := by decide +kernel
theorem dX9_readTerm_39 : decode cX9_readTerm 39 = .ok (.aload_n 0, 1) := by decide +kernel
theorem dX9_readTerm_40 : decode cX9_readTerm 40 = .ok (.getfield 104, 3) := by decide +kernel
theorem dX9_readTerm_43 : decode cX9_readTerm 43 = .ok (.if_icmp .ge 71, 3) := by decide +kernel
theorem dX9_readTerm_46 : decode cX9_readTerm 46 = .ok (.aload_n 0, 1) := by decide +kernel
theorem dX9_readTerm_47 : decode cX9_readTerm 47 = .ok (.getfield 38, 3) := by decide +kernel
theorem dX9_readTerm_50 : decode cX9_readTerm 50 = .ok (.aload_n 0, 1) := by decide +kernel
theorem dX9_readTerm_51 : decode cX9_readTerm 51 = .ok (.getfield 107, 3) := by decide +kernel
theorem dX9_readTerm_54 : decode cX9_readTerm 54 = .ok (.iaload, 1) := by decide +kernel
theorem dX9_readTerm_55 : decode cX9_readTerm 55 = .ok (.i2l, 1) := by decide +kernel
theorem dX9_readTerm_56 : decode cX9_readTerm 56 = .ok (.ldc2_w 114, 3) := by decide +kernel
theorem dX9_readTerm_59 : decode cX9_readTerm 59 = .ok (.ldc2_w 116, 3) := by decide +kernel
theorem dX9_readTerm_62 : decode cX9_readTerm 62 = .ok (.invokestatic 90, 3) := by decide +kernel
theorem dX9_readTerm_65 : decode cX9_readTerm 65 = .ok (.ifCond .eq 49, 3) := by decide +kernel
theorem dX9_readTerm_68 : decode cX9_readTerm 68 = .ok (.iload 5, 2) := by decide +kernel
theorem dX9_readTerm_70 : decode cX9_readTerm 70 = .ok (.sipush 999, 3) := by decide +kernel
theorem dX9_readTerm_73 : decode cX9_readTerm 73 = .ok (.if_icmp .le 8, 3) := by decide +kernel
theorem dX9_readTerm_76 : decode cX9_readTerm 76 = .ok (.iload 5, 2) := by decide +kernel
theorem dX9_readTerm_78 : decode cX9_readTerm 78 = .ok (.goto 21, 3) := by decide +kernel
theorem dX9_readTerm_81 : decode cX9_readTerm 81 = .ok (.bipush 10, 2) := by decide +kernel
theorem dX9_readTerm_83 : decode cX9_readTerm 83 = .ok (.iload 5, 2) := by decide +kernel
theorem dX9_readTerm_85 : decode cX9_readTerm 85 = .ok (.imul, 1) := by decide +kernel
theorem dX9_readTerm_86 : decode cX9_readTerm 86 = .ok (.aload_n 0, 1) := by decide +kernel
theorem dX9_readTerm_87 : decode cX9_readTerm 87 = .ok (.getfield 38, 3) := by decide +kernel
theorem dX9_readTerm_90 : decode cX9_readTerm 90 = .ok (.aload_n 0, 1) := by decide +kernel
theorem dX9_readTerm_91 : decode cX9_readTerm 91 = .ok (.getfield 107, 3) := by decide +kernel
theorem dX9_readTerm_94 : decode cX9_readTerm 94 = .ok (.iaload, 1) := by decide +kernel
theorem dX9_readTerm_95 : decode cX9_readTerm 95 = .ok (.iadd, 1) := by decide +kernel
theorem dX9_readTerm_96 : decode cX9_readTerm 96 = .ok (.bipush 48, 2) := by decide +kernel
theorem dX9_readTerm_98 : decode cX9_readTerm 98 = .ok (.isub, 1) := by decide +kernel
theorem dX9_readTerm_99 : decode cX9_readTerm 99 = .ok (.istore 5, 2) := by decide +kernel
theorem dX9_readTerm_101 : decode cX9_readTerm 101 = .ok (.aload_n 0, 1) := by decide +kernel
theorem dX9_readTerm_102 : decode cX9_readTerm 102 = .ok (.dup, 1) := by decide +kernel
theorem dX9_readTerm_103 : decode cX9_readTerm 103 = .ok (.getfield 107, 3) := by decide +kernel
theorem dX9_readTerm_106 : decode cX9_readTerm 106 = .ok (.iconst 1, 1) := by decide +kernel
theorem dX9_readTerm_107 : decode cX9_readTerm 107 = .ok (.iadd, 1) := by decide +kernel
theorem dX9_readTerm_108 : decode cX9_readTerm 108 = .ok (.putfield 107, 3) := by decide +kernel
theorem dX9_readTerm_111 : decode cX9_readTerm 111 = .ok (.goto (-76), 3) := by decide +kernel
theorem dX9_readTerm_114 : decode cX9_readTerm 114 = .ok (.iload 5, 2) := by decide +kernel
theorem dX9_readTerm_116 : decode cX9_readTerm 116 = .ok (.sipush 999, 3) := by decide +kernel
theorem dX9_readTerm_119 : decode cX9_readTerm 119 = .ok (.if_icmp .le 10, 3) := by decide +kernel
theorem dX9_readTerm_122 : decode cX9_readTerm 122 = .ok (.aload_n 0, 1) := by decide +kernel
theorem dX9_readTerm_123 : decode cX9_readTerm 123 = .ok (.iload_n 3, 1) := by decide +kernel
theorem dX9_readTerm_124 : decode cX9_readTerm 124 = .ok (.putfield 107, 3) := by decide +kernel
theorem dX9_readTerm_127 : decode cX9_readTerm 127 = .ok (.iconst 0, 1) := by decide +kernel
theorem dX9_readTerm_128 : decode cX9_readTerm 128 = .ok (.ireturn, 1) := by decide +kernel
theorem dX9_readTerm_129 : decode cX9_readTerm 129 = .ok (.iconst 0, 1) := by decide +kernel
theorem dX9_readTerm_130 : decode cX9_readTerm 130 = .ok (.istore 6, 2) := by decide +kernel
theorem dX9_readTerm_132 : decode cX9_readTerm 132 = .ok (.iconst 0, 1) := by decide +kernel
theorem dX9_readTerm_133 : decode cX9_readTerm 133 = .ok (.istore 7, 2) := by decide +kernel
theorem dX9_readTerm_135 : decode cX9_readTerm 135 = .ok (.aload_n 0, 1) := by decide +kernel
theorem dX9_readTerm_136 : decode cX9_readTerm 136 = .ok (.invokevirtual 110, 3) := by decide +kernel
theorem dX9_readTerm_139 : decode cX9_readTerm 139 = .ok (.istore_n 2, 1) := by decide +kernel
theorem dX9_readTerm_140 : decode cX9_readTerm 140 = .ok (.iload_n 2, 1) := by decide +kernel
theorem dX9_readTerm_141 : decode cX9_readTerm 141 = .ok (.i2l, 1) := by decide +kernel
theorem dX9_readTerm_142 : decode cX9_readTerm 142 = .ok (.ldc2_w 88, 3) := by decide +kernel
theorem dX9_readTerm_145 : decode cX9_readTerm 145 = .ok (.bipush 97, 2) := by decide +kernel
theorem dX9_readTerm_147 : decode cX9_readTerm 147 = .ok (.aload_n 0, 1) := by decide +kernel
theorem dX9_readTerm_148 : decode cX9_readTerm 148 = .ok (.getfield 7, 3) := by decide +kernel
theorem dX9_readTerm_151 : decode cX9_readTerm 151 = .ok (.iadd, 1) := by decide +kernel
theorem dX9_readTerm_152 : decode cX9_readTerm 152 = .ok (.iconst 1, 1) := by decide +kernel
theorem dX9_readTerm_153 : decode cX9_readTerm 153 = .ok (.isub, 1) := by decide +kernel
theorem dX9_readTerm_154 : decode cX9_readTerm 154 = .ok (.i2l, 1) := by decide +kernel
theorem dX9_readTerm_155 : decode cX9_readTerm 155 = .ok (.invokestatic 90, 3) := by decide +kernel
theorem dX9_readTerm_158 : decode cX9_readTerm 158 = .ok (.ifCond .eq 49, 3) := by decide +kernel
theorem dX9_readTerm_161 : decode cX9_readTerm 161 = .ok (.iload 6, 2) := by decide +kernel
theorem dX9_readTerm_163 : decode cX9_readTerm 163 = .ok (.aload_n 0, 1) := by decide +kernel
theorem dX9_readTerm_164 : decode cX9_readTerm 164 = .ok (.getfield 16, 3) := by decide +kernel
theorem dX9_readTerm_167 : decode cX9_readTerm 167 = .ok (.if_icmp .ne 5, 3) := by decide +kernel
theorem dX9_readTerm_170 : decode cX9_readTerm 170 = .ok (.iconst 0, 1) := by decide +kernel
theorem dX9_readTerm_171 : decode cX9_readTerm 171 = .ok (.ireturn, 1) := by decide +kernel
theorem dX9_readTerm_172 : decode cX9_readTerm 172 = .ok (.aload_n 0, 1) := by decide +kernel
theorem dX9_readTerm_173 : decode cX9_readTerm 173 = .ok (.getfield 7, 3) := by decide +kernel
theorem dX9_readTerm_176 : decode cX9_readTerm 176 = .ok (.iload 7, 2) := by decide +kernel
theorem dX9_readTerm_178 : decode cX9_readTerm 178 = .ok (.imul, 1) := by decide +kernel
theorem dX9_readTerm_179 : decode cX9_readTerm 179 = .ok (.iload_n 2, 1) := by decide +kernel
theorem dX9_readTerm_180 : decode cX9_readTerm 180 = .ok (.iadd, 1) := by decide +kernel
theorem dX9_readTerm_181 : decode cX9_readTerm 181 = .ok (.bipush 97, 2) := by decide +kernel
theorem dX9_readTerm_183 : decode cX9_readTerm 183 = .ok (.isub, 1) := by decide +kernel
theorem dX9_readTerm_184 : decode cX9_readTerm 184 = .ok (.istore 7, 2) := by decide +kernel
theorem dX9_readTerm_186 : decode cX9_readTerm 186 = .ok (.iinc 6 1, 3) := by decide +kernel
theorem dX9_readTerm_189 : decode cX9_readTerm 189 = .ok (.aload_n 0, 1) := by decide +kernel
theorem dX9_readTerm_190 : decode cX9_readTerm 190 = .ok (.dup, 1) := by decide +kernel
theorem dX9_readTerm_191 : decode cX9_readTerm 191 = .ok (.getfield 107, 3) := by decide +kernel
theorem dX9_readTerm_194 : decode cX9_readTerm 194 = .ok (.iconst 1, 1) := by decide +kernel
theorem dX9_readTerm_195 : decode cX9_readTerm 195 = .ok (.iadd, 1) := by decide +kernel
theorem dX9_readTerm_196 : decode cX9_readTerm 196 = .ok (.putfield 107, 3) := by decide +kernel
theorem dX9_readTerm_199 : decode cX9_readTerm 199 = .ok (.aload_n 0, 1) := by decide +kernel
theorem dX9_readTerm_200 : decode cX9_readTerm 200 = .ok (.invokevirtual 110, 3) := by decide +kernel
theorem dX9_readTerm_203 : decode cX9_readTerm 203 = .ok (.istore_n 2, 1) := by decide +kernel
theorem dX9_readTerm_204 : decode cX9_readTerm 204 = .ok (.goto (-64), 3) := by decide +kernel
theorem dX9_readTerm_207 : decode cX9_readTerm 207 = .ok (.iload 4, 2) := by decide +kernel
theorem dX9_readTerm_209 : decode cX9_readTerm 209 = .ok (.ifCond .ne 10, 3) := by decide +kernel
theorem dX9_readTerm_212 : decode cX9_readTerm 212 = .ok (.iload 6, 2) := by decide +kernel
theorem dX9_readTerm_214 : decode cX9_readTerm 214 = .ok (.ifCond .ne 5, 3) := by decide +kernel
theorem dX9_readTerm_217 : decode cX9_readTerm 217 = .ok (.iconst 0, 1) := by decide +kernel
theorem dX9_readTerm_218 : decode cX9_readTerm 218 = .ok (.ireturn, 1) := by decide +kernel
theorem dX9_readTerm_219 : decode cX9_readTerm 219 = .ok (.aload_n 0, 1) := by decide +kernel
theorem dX9_readTerm_220 : decode cX9_readTerm 220 = .ok (.getfield 23, 3) := by decide +kernel
theorem dX9_readTerm_223 : decode cX9_readTerm 223 = .ok (.iload 6, 2) := by decide +kernel
theorem dX9_readTerm_225 : decode cX9_readTerm 225 = .ok (.iaload, 1) := by decide +kernel
theorem dX9_readTerm_226 : decode cX9_readTerm 226 = .ok (.iload 7, 2) := by decide +kernel
theorem dX9_readTerm_228 : decode cX9_readTerm 228 = .ok (.iadd, 1) := by decide +kernel
theorem dX9_readTerm_229 : decode cX9_readTerm 229 = .ok (.istore 8, 2) := by decide +kernel
theorem dX9_readTerm_231 : decode cX9_readTerm 231 = .ok (.aload_n 0, 1) := by decide +kernel
theorem dX9_readTerm_232 : decode cX9_readTerm 232 = .ok (.getfield 35, 3) := by decide +kernel
theorem dX9_readTerm_235 : decode cX9_readTerm 235 = .ok (.iload 8, 2) := by decide +kernel
theorem dX9_readTerm_237 : decode cX9_readTerm 237 = .ok (.aload_n 0, 1) := by decide +kernel
theorem dX9_readTerm_238 : decode cX9_readTerm 238 = .ok (.getfield 35, 3) := by decide +kernel
theorem dX9_readTerm_241 : decode cX9_readTerm 241 = .ok (.iload 8, 2) := by decide +kernel
theorem dX9_readTerm_243 : decode cX9_readTerm 243 = .ok (.iaload, 1) := by decide +kernel
theorem dX9_readTerm_244 : decode cX9_readTerm 244 = .ok (.iload_n 1, 1) := by decide +kernel
theorem dX9_readTerm_245 : decode cX9_readTerm 245 = .ok (.iload 5, 2) := by decide +kernel
theorem dX9_readTerm_247 : decode cX9_readTerm 247 = .ok (.aload_n 0, 1) := by decide +kernel
theorem dX9_readTerm_248 : decode cX9_readTerm 248 = .ok (.getfield 13, 3) := by decide +kernel
theorem dX9_readTerm_251 : decode cX9_readTerm 251 = .ok (.irem, 1) := by decide +kernel
theorem dX9_readTerm_252 : decode cX9_readTerm 252 = .ok (.imul, 1) := by decide +kernel
theorem dX9_readTerm_253 : decode cX9_readTerm 253 = .ok (.iadd, 1) := by decide +kernel
theorem dX9_readTerm_254 : decode cX9_readTerm 254 = .ok (.aload_n 0, 1) := by decide +kernel
theorem dX9_readTerm_255 : decode cX9_readTerm 255 = .ok (.getfield 13, 3) := by decide +kernel
theorem dX9_readTerm_258 : decode cX9_readTerm 258 = .ok (.iadd, 1) := by decide +kernel
theorem dX9_readTerm_259 : decode cX9_readTerm 259 = .ok (.aload_n 0, 1) := by decide +kernel
theorem dX9_readTerm_260 : decode cX9_readTerm 260 = .ok (.getfield 13, 3) := by decide +kernel
theorem dX9_readTerm_263 : decode cX9_readTerm 263 = .ok (.irem, 1) := by decide +kernel
theorem dX9_readTerm_264 : decode cX9_readTerm 264 = .ok (.iastore, 1) := by decide +kernel
theorem dX9_readTerm_265 : decode cX9_readTerm 265 = .ok (.iconst 1, 1) := by decide +kernel
theorem dX9_readTerm_266 : decode cX9_readTerm 266 = .ok (.ireturn, 1) := by decide +kernel
theorem dX9_reduce_0 : decode cX9_reduce 0 = .ok (.aload_n 0, 1) := by decide +kernel
theorem dX9_reduce_1 : decode cX9_reduce 1 = .ok (.invokevirtual 153, 3) := by decide +kernel
theorem dX9_reduce_4 : decode cX9_reduce 4 = .ok (.iconst 2, 1) := by decide +kernel
theorem dX9_reduce_5 : decode cX9_reduce 5 = .ok (.istore_n 1, 1) := by decide +kernel
theorem dX9_reduce_6 : decode cX9_reduce 6 = .ok (.iload_n 1, 1) := by decide +kernel
theorem dX9_reduce_7 : decode cX9_reduce 7 = .ok (.aload_n 0, 1) := by decide +kernel
theorem dX9_reduce_8 : decode cX9_reduce 8 = .ok (.getfield 16, 3) := by decide +kernel
theorem dX9_reduce_11 : decode cX9_reduce 11 = .ok (.if_icmp .gt 146, 3) := by decide +kernel
theorem dX9_reduce_14 : decode cX9_reduce 14 = .ok (.iconst 0, 1) := by decide +kernel
theorem dX9_reduce_15 : decode cX9_reduce 15 = .ok (.istore_n 2, 1) := by decide +kernel
theorem dX9_reduce_16 : decode cX9_reduce 16 = .ok (.iload_n 2, 1) := by decide +kernel
theorem dX9_reduce_17 : decode cX9_reduce 17 = .ok (.aload_n 0, 1) := by decide +kernel
theorem dX9_reduce_18 : decode cX9_reduce 18 = .ok (.getfield 19, 3) := by decide +kernel
theorem dX9_reduce_21 : decode cX9_reduce 21 = .ok (.iload_n 1, 1) := by decide +kernel
theorem dX9_reduce_22 : decode cX9_reduce 22 = .ok (.iaload, 1) := by decide +kernel
theorem dX9_reduce_23 : decode cX9_reduce 23 = .ok (.if_icmp .ge 128, 3) := by decide +kernel
theorem dX9_reduce_26 : decode cX9_reduce 26 = .ok (.aload_n 0, 1) := by decide +kernel
theorem dX9_reduce_27 : decode cX9_reduce 27 = .ok (.getfield 64, 3) := by decide +kernel
theorem dX9_reduce_30 : decode cX9_reduce 30 = .ok (.aload_n 0, 1) := by decide +kernel
theorem dX9_reduce_31 : decode cX9_reduce 31 = .ok (.getfield 23, 3) := by decide +kernel
theorem dX9_reduce_34 : decode cX9_reduce 34 = .ok (.iload_n 1, 1) := by decide +kernel
theorem dX9_reduce_35 : decode cX9_reduce 35 = .ok (.iaload, 1) := by decide +kernel
theorem dX9_reduce_36 : decode cX9_reduce 36 = .ok (.iload_n 2, 1) := by decide +kernel
theorem dX9_reduce_37 : decode cX9_reduce 37 = .ok (.iadd, 1) := by decide +kernel
theorem dX9_reduce_38 : decode cX9_reduce 38 = .ok (.iaload, 1) := by decide +kernel
theorem dX9_reduce_39 : decode cX9_reduce 39 = .ok (.istore_n 3, 1) := by decide +kernel
theorem dX9_reduce_40 : decode cX9_reduce 40 = .ok (.iload_n 3, 1) := by decide +kernel
theorem dX9_reduce_41 : decode cX9_reduce 41 = .ok (.ifCond .eq 104, 3) := by decide +kernel
theorem dX9_reduce_44 : decode cX9_reduce 44 = .ok (.aload_n 0, 1) := by decide +kernel
theorem dX9_reduce_45 : decode cX9_reduce 45 = .ok (.getfield 45, 3) := by decide +kernel
theorem dX9_reduce_48 : decode cX9_reduce 48 = .ok (.aload_n 0, 1) := by decide +kernel
theorem dX9_reduce_49 : decode cX9_reduce 49 = .ok (.getfield 23, 3) := by decide +kernel
theorem dX9_reduce_52 : decode cX9_reduce 52 = .ok (.iload_n 1, 1) := by decide +kernel
theorem dX9_reduce_53 : decode cX9_reduce 53 = .ok (.iaload, 1) := by decide +kernel
theorem dX9_reduce_54 : decode cX9_reduce 54 = .ok (.iload_n 2, 1) := by decide +kernel
theorem dX9_reduce_55 : decode cX9_reduce 55 = .ok (.iadd, 1) := by decide +kernel
theorem dX9_reduce_56 : decode cX9_reduce 56 = .ok (.baload, 1) := by decide +kernel
theorem dX9_reduce_57 : decode cX9_reduce 57 = .ok (.ifCond .eq 88, 3) := by decide +kernel
theorem dX9_reduce_60 : decode cX9_reduce 60 = .ok (.aload_n 0, 1) := by decide +kernel
theorem dX9_reduce_61 : decode cX9_reduce 61 = .ok (.getfield 26, 3) := by decide +kernel
theorem dX9_reduce_64 : decode cX9_reduce 64 = .ok (.iload_n 1, 1) := by decide +kernel
theorem dX9_reduce_65 : decode cX9_reduce 65 = .ok (.iaload, 1) := by decide +kernel
theorem dX9_reduce_66 : decode cX9_reduce 66 = .ok (.iload_n 2, 1) := by decide +kernel
theorem dX9_reduce_67 : decode cX9_reduce 67 = .ok (.aload_n 0, 1) := by decide +kernel
theorem dX9_reduce_68 : decode cX9_reduce 68 = .ok (.getfield 19, 3) := by decide +kernel
theorem dX9_reduce_71 : decode cX9_reduce 71 = .ok (.iload_n 1, 1) := by decide +kernel
theorem dX9_reduce_72 : decode cX9_reduce 72 = .ok (.iaload, 1) := by decide +kernel
theorem dX9_reduce_73 : decode cX9_reduce 73 = .ok (.imul, 1) := by decide +kernel
theorem dX9_reduce_74 : decode cX9_reduce 74 = .ok (.iadd, 1) := by decide +kernel
theorem dX9_reduce_75 : decode cX9_reduce 75 = .ok (.istore 4, 2) := by decide +kernel
theorem dX9_reduce_77 : decode cX9_reduce 77 = .ok (.iconst 0, 1) := by decide +kernel
theorem dX9_reduce_78 : decode cX9_reduce 78 = .ok (.istore 5, 2) := by decide +kernel
theorem dX9_reduce_80 : decode cX9_reduce 80 = .ok (.iload 5, 2) := by decide +kernel
theorem dX9_reduce_82 : decode cX9_reduce 82 = .ok (.aload_n 0, 1) := by decide +kernel
theorem dX9_reduce_83 : decode cX9_reduce 83 = .ok (.getfield 19, 3) := by decide +kernel
theorem dX9_reduce_86 : decode cX9_reduce 86 = .ok (.iload_n 1, 1) := by decide +kernel
theorem dX9_reduce_87 : decode cX9_reduce 87 = .ok (.iaload, 1) := by decide +kernel
theorem dX9_reduce_88 : decode cX9_reduce 88 = .ok (.if_icmp .ge 57, 3) := by decide +kernel
theorem dX9_reduce_91 : decode cX9_reduce 91 = .ok (.aload_n 0, 1) := by decide +kernel
theorem dX9_reduce_92 : decode cX9_reduce 92 = .ok (.getfield 23, 3) := by decide +kernel
theorem dX9_reduce_95 : decode cX9_reduce 95 = .ok (.iload_n 1, 1) := by decide +kernel
theorem dX9_reduce_96 : decode cX9_reduce 96 = .ok (.iaload, 1) := by decide +kernel
theorem dX9_reduce_97 : decode cX9_reduce 97 = .ok (.iload 5, 2) := by decide +kernel
theorem dX9_reduce_99 : decode cX9_reduce 99 = .ok (.iadd, 1) := by decide +kernel
theorem dX9_reduce_100 : decode cX9_reduce 100 = .ok (.istore 6, 2) := by decide +kernel
theorem dX9_reduce_102 : decode cX9_reduce 102 = .ok (.aload_n 0, 1) := by decide +kernel
theorem dX9_reduce_103 : decode cX9_reduce 103 = .ok (.getfield 64, 3) := by decide +kernel
theorem dX9_reduce_106 : decode cX9_reduce 106 = .ok (.iload 6, 2) := by decide +kernel
theorem dX9_reduce_108 : decode cX9_reduce 108 = .ok (.aload_n 0, 1) := by decide +kernel
theorem dX9_reduce_109 : decode cX9_reduce 109 = .ok (.getfield 64, 3) := by decide +kernel
theorem dX9_reduce_112 : decode cX9_reduce 112 = .ok (.iload 6, 2) := by decide +kernel
theorem dX9_reduce_114 : decode cX9_reduce 114 = .ok (.iaload, 1) := by decide +kernel
theorem dX9_reduce_115 : decode cX9_reduce 115 = .ok (.aload_n 0, 1) := by decide +kernel
theorem dX9_reduce_116 : decode cX9_reduce 116 = .ok (.getfield 13, 3) := by decide +kernel
theorem dX9_reduce_119 : decode cX9_reduce 119 = .ok (.iload_n 3, 1) := by decide +kernel
theorem dX9_reduce_120 : decode cX9_reduce 120 = .ok (.isub, 1) := by decide +kernel
theorem dX9_reduce_121 : decode cX9_reduce 121 = .ok (.aload_n 0, 1) := by decide +kernel
theorem dX9_reduce_122 : decode cX9_reduce 122 = .ok (.getfield 42, 3) := by decide +kernel
theorem dX9_reduce_125 : decode cX9_reduce 125 = .ok (.iload 4, 2) := by decide +kernel
theorem dX9_reduce_127 : decode cX9_reduce 127 = .ok (.iload 5, 2) := by decide +kernel
theorem dX9_reduce_129 : decode cX9_reduce 129 = .ok (.iadd, 1) := by decide +kernel
theorem dX9_reduce_130 : decode cX9_reduce 130 = .ok (.iaload, 1) := by decide +kernel
theorem dX9_reduce_131 : decode cX9_reduce 131 = .ok (.imul, 1) := by decide +kernel
theorem dX9_reduce_132 : decode cX9_reduce 132 = .ok (.iadd, 1) := by decide +kernel
theorem dX9_reduce_133 : decode cX9_reduce 133 = .ok (.aload_n 0, 1) := by decide +kernel
theorem dX9_reduce_134 : decode cX9_reduce 134 = .ok (.getfield 13, 3) := by decide +kernel
theorem dX9_reduce_137 : decode cX9_reduce 137 = .ok (.irem, 1) := by decide +kernel
theorem dX9_reduce_138 : decode cX9_reduce 138 = .ok (.iastore, 1) := by decide +kernel
theorem dX9_reduce_139 : decode cX9_reduce 139 = .ok (.iinc 5 1, 3) := by decide +kernel
theorem dX9_reduce_142 : decode cX9_reduce 142 = .ok (.goto (-62), 3) := by decide +kernel
theorem dX9_reduce_145 : decode cX9_reduce 145 = .ok (.iinc 2 1, 3) := by decide +kernel
theorem dX9_reduce_148 : decode cX9_reduce 148 = .ok (.goto (-132), 3) := by decide +kernel
theorem dX9_reduce_151 : decode cX9_reduce 151 = .ok (.iinc 1 1, 3) := by decide +kernel
theorem dX9_reduce_154 : decode cX9_reduce 154 = .ok (.goto (-148), 3) := by decide +kernel
theorem dX9_reduce_157 : decode cX9_reduce 157 = .ok (.aload_n 0, 1) := by decide +kernel
theorem dX9_reduce_158 : decode cX9_reduce 158 = .ok (.getfield 64, 3) := by decide +kernel
theorem dX9_reduce_161 : decode cX9_reduce 161 = .ok (.iconst 0, 1) := by decide +kernel
theorem dX9_reduce_162 : decode cX9_reduce 162 = .ok (.sipush 400, 3) := by decide +kernel
theorem dX9_reduce_165 : decode cX9_reduce 165 = .ok (.invokestatic 178, 3) := by decide +kernel
theorem dX9_reduce_168 : decode cX9_reduce 168 = .ok (.ireturn, 1) := by decide +kernel
theorem dX9_sheet_0 : decode cX9_sheet 0 = .ok (.iload_n 1, 1) := by decide +kernel
theorem dX9_sheet_1 : decode cX9_sheet 1 = .ok (.iload_n 2, 1) := by decide +kernel
theorem dX9_sheet_2 : decode cX9_sheet 2 = .ok (.invokestatic 196, 3) := by decide +kernel
theorem dX9_sheet_5 : decode cX9_sheet 5 = .ok (.ifCond .eq 9, 3) := by decide +kernel
theorem dX9_sheet_8 : decode cX9_sheet 8 = .ok (.iload_n 3, 1) := by decide +kernel
theorem dX9_sheet_9 : decode cX9_sheet 9 = .ok (.bipush 90, 2) := by decide +kernel
theorem dX9_sheet_11 : decode cX9_sheet 11 = .ok (.if_icmp .le 5, 3) := by decide +kernel
theorem dX9_sheet_14 : decode cX9_sheet 14 = .ok (.iconst (-1), 1) := by decide +kernel
theorem dX9_sheet_15 : decode cX9_sheet 15 = .ok (.ireturn, 1) := by decide +kernel
theorem dX9_sheet_16 : decode cX9_sheet 16 = .ok (.iload_n 3, 1) := by decide +kernel
theorem dX9_sheet_17 : decode cX9_sheet 17 = .ok (.ifCond .ge 6, 3) := by decide +kernel
theorem dX9_sheet_20 : decode cX9_sheet 20 = .ok (.bipush (-14), 2) := by decide +kernel
theorem dX9_sheet_22 : decode cX9_sheet 22 = .ok (.ireturn, 1) := by decide +kernel
theorem dX9_sheet_23 : decode cX9_sheet 23 = .ok (.aload_n 0, 1) := by decide +kernel
theorem dX9_sheet_24 : decode cX9_sheet 24 = .ok (.getfield 67, 3) := by decide +kernel
theorem dX9_sheet_27 : decode cX9_sheet 27 = .ok (.iload_n 1, 1) := by decide +kernel
theorem dX9_sheet_28 : decode cX9_sheet 28 = .ok (.iload_n 2, 1) := by decide +kernel
theorem dX9_sheet_29 : decode cX9_sheet 29 = .ok (.iastore, 1) := by decide +kernel
theorem dX9_sheet_30 : decode cX9_sheet 30 = .ok (.aload_n 0, 1) := by decide +kernel
theorem dX9_sheet_31 : decode cX9_sheet 31 = .ok (.getfield 70, 3) := by decide +kernel
theorem dX9_sheet_34 : decode cX9_sheet 34 = .ok (.iload_n 1, 1) := by decide +kernel
theorem dX9_sheet_35 : decode cX9_sheet 35 = .ok (.iload_n 3, 1) := by decide +kernel
theorem dX9_sheet_36 : decode cX9_sheet 36 = .ok (.iastore, 1) := by decide +kernel
theorem dX9_sheet_37 : decode cX9_sheet 37 = .ok (.iconst 0, 1) := by decide +kernel
theorem dX9_sheet_38 : decode cX9_sheet 38 = .ok (.istore 4, 2) := by decide +kernel
theorem dX9_sheet_40 : decode cX9_sheet 40 = .ok (.iload 4, 2) := by decide +kernel
theorem dX9_sheet_42 : decode cX9_sheet 42 = .ok (.bipush 90, 2) := by decide +kernel
theorem dX9_sheet_44 : decode cX9_sheet 44 = .ok (.if_icmp .ge 22, 3) := by decide +kernel
theorem dX9_sheet_47 : decode cX9_sheet 47 = .ok (.aload_n 0, 1) := by decide +kernel
theorem dX9_sheet_48 : decode cX9_sheet 48 = .ok (.getfield 73, 3) := by decide +kernel
theorem dX9_sheet_51 : decode cX9_sheet 51 = .ok (.bipush 90, 2) := by decide +kernel
theorem dX9_sheet_53 : decode cX9_sheet 53 = .ok (.iload_n 1, 1) := by decide +kernel
theorem dX9_sheet_54 : decode cX9_sheet 54 = .ok (.imul, 1) := by decide +kernel
theorem dX9_sheet_55 : decode cX9_sheet 55 = .ok (.iload 4, 2) := by decide +kernel
theorem dX9_sheet_57 : decode cX9_sheet 57 = .ok (.iadd, 1) := by decide +kernel
theorem dX9_sheet_58 : decode cX9_sheet 58 = .ok (.iconst 0, 1) := by decide +kernel
theorem dX9_sheet_59 : decode cX9_sheet 59 = .ok (.iastore, 1) := by decide +kernel
theorem dX9_sheet_60 : decode cX9_sheet 60 = .ok (.iinc 4 1, 3) := by decide +kernel
theorem dX9_sheet_63 : decode cX9_sheet 63 = .ok (.goto (-23), 3) := by decide +kernel
theorem dX9_sheet_66 : decode cX9_sheet 66 = .ok (.iload_n 3, 1) := by decide +kernel
theorem dX9_sheet_67 : decode cX9_sheet 67 = .ok (.ireturn, 1) := by decide +kernel
theorem dX9_start_0 : decode cX9_start 0 = .ok (.aload_n 0, 1) := by decide +kernel
theorem dX9_start_1 : decode cX9_start 1 = .ok (.aload_n 0, 1) := by decide +kernel
theorem dX9_start_2 : decode cX9_start 2 = .ok (.getfield 7, 3) := by decide +kernel
theorem dX9_start_5 : decode cX9_start 5 = .ok (.iconst 1, 1) := by decide +kernel
theorem dX9_start_6 : decode cX9_start 6 = .ok (.if_icmp .ne 8, 3) := by decide +kernel
theorem dX9_start_9 : decode cX9_start 9 = .ok (.bipush 8, 2) := by decide +kernel
theorem dX9_start_11 : decode cX9_start 11 = .ok (.goto 17, 3) := by decide +kernel
theorem dX9_start_14 : decode cX9_start 14 = .ok (.aload_n 0, 1) := by decide +kernel
theorem dX9_start_15 : decode cX9_start 15 = .ok (.getfield 7, 3) := by decide +kernel
theorem dX9_start_18 : decode cX9_start 18 = .ok (.iconst 2, 1) := by decide +kernel
theorem dX9_start_19 : decode cX9_start 19 = .ok (.if_icmp .ne 8, 3) := by decide +kernel
theorem dX9_start_22 : decode cX9_start 22 = .ok (.bipush 7, 2) := by decide +kernel
theorem dX9_start_24 : decode cX9_start 24 = .ok (.goto 4, 3) := by decide +kernel
theorem dX9_start_27 : decode cX9_start 27 = .ok (.iconst 5, 1) := by decide +kernel
theorem dX9_start_28 : decode cX9_start 28 = .ok (.putfield 16, 3) := by decide +kernel
theorem dX9_start_31 : decode cX9_start 31 = .ok (.aload_n 0, 1) := by decide +kernel
theorem dX9_start_32 : decode cX9_start 32 = .ok (.getfield 19, 3) := by decide +kernel
theorem dX9_start_35 : decode cX9_start 35 = .ok (.iconst 0, 1) := by decide +kernel
theorem dX9_start_36 : decode cX9_start 36 = .ok (.iconst 1, 1) := by decide +kernel
theorem dX9_start_37 : decode cX9_start 37 = .ok (.iastore, 1) := by decide +kernel
theorem dX9_start_38 : decode cX9_start 38 = .ok (.aload_n 0, 1) := by decide +kernel
theorem dX9_start_39 : decode cX9_start 39 = .ok (.getfield 23, 3) := by decide +kernel
theorem dX9_start_42 : decode cX9_start 42 = .ok (.iconst 0, 1) := by decide +kernel
theorem dX9_start_43 : decode cX9_start 43 = .ok (.iconst 0, 1) := by decide +kernel
theorem dX9_start_44 : decode cX9_start 44 = .ok (.iastore, 1) := by decide +kernel
theorem dX9_start_45 : decode cX9_start 45 = .ok (.aload_n 0, 1) := by decide +kernel
theorem dX9_start_46 : decode cX9_start 46 = .ok (.getfield 26, 3) := by decide +kernel
theorem dX9_start_49 : decode cX9_start 49 = .ok (.iconst 0, 1) := by decide +kernel
theorem dX9_start_50 : decode cX9_start 50 = .ok (.iconst 0, 1) := by decide +kernel
theorem dX9_start_51 : decode cX9_start 51 = .ok (.iastore, 1) := by decide +kernel
theorem dX9_start_52 : decode cX9_start 52 = .ok (.iconst 0, 1) := by decide +kernel
theorem dX9_start_53 : decode cX9_start 53 = .ok (.istore_n 1, 1) := by decide +kernel
theorem dX9_start_54 : decode cX9_start 54 = .ok (.iload_n 1, 1) := by decide +kernel
theorem dX9_start_55 : decode cX9_start 55 = .ok (.aload_n 0, 1) := by decide +kernel
theorem dX9_start_56 : decode cX9_start 56 = .ok (.getfield 16, 3) := by decide +kernel
theorem dX9_start_59 : decode cX9_start 59 = .ok (.if_icmp .gt 77, 3) := by decide +kernel
theorem dX9_start_62 : decode cX9_start 62 = .ok (.aload_n 0, 1) := by decide +kernel
theorem dX9_start_63 : decode cX9_start 63 = .ok (.getfield 19, 3) := by decide +kernel
theorem dX9_start_66 : decode cX9_start 66 = .ok (.iload_n 1, 1) := by decide +kernel
theorem dX9_start_67 : decode cX9_start 67 = .ok (.iconst 1, 1) := by decide +kernel
theorem dX9_start_68 : decode cX9_start 68 = .ok (.iadd, 1) := by decide +kernel
theorem dX9_start_69 : decode cX9_start 69 = .ok (.aload_n 0, 1) := by decide +kernel
theorem dX9_start_70 : decode cX9_start 70 = .ok (.getfield 7, 3) := by decide +kernel
theorem dX9_start_73 : decode cX9_start 73 = .ok (.aload_n 0, 1) := by decide +kernel
theorem dX9_start_74 : decode cX9_start 74 = .ok (.getfield 19, 3) := by decide +kernel
theorem dX9_start_77 : decode cX9_start 77 = .ok (.iload_n 1, 1) := by decide +kernel
theorem dX9_start_78 : decode cX9_start 78 = .ok (.iaload, 1) := by decide +kernel
theorem dX9_start_79 : decode cX9_start 79 = .ok (.imul, 1) := by decide +kernel
theorem dX9_start_80 : decode cX9_start 80 = .ok (.iastore, 1) := by decide +kernel
theorem dX9_start_81 : decode cX9_start 81 = .ok (.aload_n 0, 1) := by decide +kernel
theorem dX9_start_82 : decode cX9_start 82 = .ok (.getfield 23, 3) := by decide +kernel
theorem dX9_start_85 : decode cX9_start 85 = .ok (.iload_n 1, 1) := by decide +kernel
theorem dX9_start_86 : decode cX9_start 86 = .ok (.iconst 1, 1) := by decide +kernel
theorem dX9_start_87 : decode cX9_start 87 = .ok (.iadd, 1) := by decide +kernel
theorem dX9_start_88 : decode cX9_start 88 = .ok (.aload_n 0, 1) := by decide +kernel
theorem dX9_start_89 : decode cX9_start 89 = .ok (.getfield 23, 3) := by decide +kernel
theorem dX9_start_92 : decode cX9_start 92 = .ok (.iload_n 1, 1) := by decide +kernel
theorem dX9_start_93 : decode cX9_start 93 = .ok (.iaload, 1) := by decide +kernel
theorem dX9_start_94 : decode cX9_start 94 = .ok (.aload_n 0, 1) := by decide +kernel
theorem dX9_start_95 : decode cX9_start 95 = .ok (.getfield 19, 3) := by decide +kernel
theorem dX9_start_98 : decode cX9_start 98 = .ok (.iload_n 1, 1) := by decide +kernel
theorem dX9_start_99 : decode cX9_start 99 = .ok (.iaload, 1) := by decide +kernel
theorem dX9_start_100 : decode cX9_start 100 = .ok (.iadd, 1) := by decide +kernel
theorem dX9_start_101 : decode cX9_start 101 = .ok (.iastore, 1) := by decide +kernel
theorem dX9_start_102 : decode cX9_start 102 = .ok (.aload_n 0, 1) := by decide +kernel
theorem dX9_start_103 : decode cX9_start 103 = .ok (.getfield 26, 3) := by decide +kernel
theorem dX9_start_106 : decode cX9_start 106 = .ok (.iload_n 1, 1) := by decide +kernel
theorem dX9_start_107 : decode cX9_start 107 = .ok (.iconst 1, 1) := by decide +kernel
theorem dX9_start_108 : decode cX9_start 108 = .ok (.iadd, 1) := by decide +kernel
theorem dX9_start_109 : decode cX9_start 109 = .ok (.aload_n 0, 1) := by decide +kernel
theorem dX9_start_110 : decode cX9_start 110 = .ok (.getfield 26, 3) := by decide +kernel
theorem dX9_start_113 : decode cX9_start 113 = .ok (.iload_n 1, 1) := by decide +kernel
theorem dX9_start_114 : decode cX9_start 114 = .ok (.iaload, 1) := by decide +kernel
theorem dX9_start_115 : decode cX9_start 115 = .ok (.aload_n 0, 1) := by decide +kernel
theorem dX9_start_116 : decode cX9_start 116 = .ok (.getfield 19, 3) := by decide +kernel
theorem dX9_start_119 : decode cX9_start 119 = .ok (.iload_n 1, 1) := by decide +kernel
theorem dX9_start_120 : decode cX9_start 120 = .ok (.iaload, 1) := by decide +kernel
theorem dX9_start_121 : decode cX9_start 121 = .ok (.aload_n 0, 1) := by decide +kernel
theorem dX9_start_122 : decode cX9_start 122 = .ok (.getfield 19, 3) := by decide +kernel
theorem dX9_start_125 : decode cX9_start 125 = .ok (.iload_n 1, 1) := by decide +kernel
theorem dX9_start_126 : decode cX9_start 126 = .ok (.iaload, 1) := by decide +kernel
theorem dX9_start_127 : decode cX9_start 127 = .ok (.imul, 1) := by decide +kernel
theorem dX9_start_128 : decode cX9_start 128 = .ok (.iadd, 1) := by decide +kernel
theorem dX9_start_129 : decode cX9_start 129 = .ok (.iastore, 1) := by decide +kernel
theorem dX9_start_130 : decode cX9_start 130 = .ok (.iinc 1 1, 3) := by decide +kernel
theorem dX9_start_133 : decode cX9_start 133 = .ok (.goto (-79), 3) := by decide +kernel
theorem dX9_start_136 : decode cX9_start 136 = .ok (.aload_n 0, 1) := by decide +kernel
theorem dX9_start_137 : decode cX9_start 137 = .ok (.iconst 0, 1) := by decide +kernel
theorem dX9_start_138 : decode cX9_start 138 = .ok (.putfield 79, 3) := by decide +kernel
theorem dX9_start_141 : decode cX9_start 141 = .ok (.iconst 0, 1) := by decide +kernel
theorem dX9_start_142 : decode cX9_start 142 = .ok (.istore_n 1, 1) := by decide +kernel
theorem dX9_start_143 : decode cX9_start 143 = .ok (.iload_n 1, 1) := by decide +kernel
theorem dX9_start_144 : decode cX9_start 144 = .ok (.sipush 400, 3) := by decide +kernel
theorem dX9_start_147 : decode cX9_start 147 = .ok (.if_icmp .ge 16, 3) := by decide +kernel
theorem dX9_start_150 : decode cX9_start 150 = .ok (.aload_n 0, 1) := by decide +kernel
theorem dX9_start_151 : decode cX9_start 151 = .ok (.getfield 64, 3) := by decide +kernel
theorem dX9_start_154 : decode cX9_start 154 = .ok (.iload_n 1, 1) := by decide +kernel
theorem dX9_start_155 : decode cX9_start 155 = .ok (.iconst 0, 1) := by decide +kernel
theorem dX9_start_156 : decode cX9_start 156 = .ok (.iastore, 1) := by decide +kernel
theorem dX9_start_157 : decode cX9_start 157 = .ok (.iinc 1 1, 3) := by decide +kernel
theorem dX9_start_160 : decode cX9_start 160 = .ok (.goto (-17), 3) := by decide +kernel
theorem dX9_start_163 : decode cX9_start 163 = .ok (.aload_n 0, 1) := by decide +kernel
theorem dX9_start_164 : decode cX9_start 164 = .ok (.iconst 0, 1) := by decide +kernel
theorem dX9_start_165 : decode cX9_start 165 = .ok (.putfield 82, 3) := by decide +kernel
theorem dX9_start_168 : decode cX9_start 168 = .ok (.return_, 1) := by decide +kernel
theorem dX9_sum_0 : decode cX9_sum 0 = .ok (.aload_n 0, 1) := by decide +kernel
theorem dX9_sum_1 : decode cX9_sum 1 = .ok (.invokevirtual 122, 3) := by decide +kernel
theorem dX9_sum_4 : decode cX9_sum 4 = .ok (.istore_n 1, 1) := by decide +kernel
theorem dX9_sum_5 : decode cX9_sum 5 = .ok (.aload_n 0, 1) := by decide +kernel
theorem dX9_sum_6 : decode cX9_sum 6 = .ok (.iconst 0, 1) := by decide +kernel
theorem dX9_sum_7 : decode cX9_sum 7 = .ok (.putfield 104, 3) := by decide +kernel
theorem dX9_sum_10 : decode cX9_sum 10 = .ok (.iload_n 1, 1) := by decide +kernel
theorem dX9_sum_11 : decode cX9_sum 11 = .ok (.ifCond .ne 11, 3) := by decide +kernel
theorem dX9_sum_14 : decode cX9_sum 14 = .ok (.bipush (-20), 2) := by decide +kernel
theorem dX9_sum_16 : decode cX9_sum 16 = .ok (.aload_n 0, 1) := by decide +kernel
theorem dX9_sum_17 : decode cX9_sum 17 = .ok (.getfield 107, 3) := by decide +kernel
theorem dX9_sum_20 : decode cX9_sum 20 = .ok (.isub, 1) := by decide +kernel
theorem dX9_sum_21 : decode cX9_sum 21 = .ok (.ireturn, 1) := by decide +kernel
theorem dX9_sum_22 : decode cX9_sum 22 = .ok (.iconst 0, 1) := by decide +kernel
theorem dX9_sum_23 : decode cX9_sum 23 = .ok (.istore_n 2, 1) := by decide +kernel
theorem dX9_sum_24 : decode cX9_sum 24 = .ok (.iload_n 2, 1) := by decide +kernel
theorem dX9_sum_25 : decode cX9_sum 25 = .ok (.sipush 400, 3) := by decide +kernel
theorem dX9_sum_28 : decode cX9_sum 28 = .ok (.if_icmp .ge 21, 3) := by decide +kernel
theorem dX9_sum_31 : decode cX9_sum 31 = .ok (.aload_n 0, 1) := by decide +kernel
theorem dX9_sum_32 : decode cX9_sum 32 = .ok (.getfield 64, 3) := by decide +kernel
theorem dX9_sum_35 : decode cX9_sum 35 = .ok (.iload_n 2, 1) := by decide +kernel
theorem dX9_sum_36 : decode cX9_sum 36 = .ok (.aload_n 0, 1) := by decide +kernel
theorem dX9_sum_37 : decode cX9_sum 37 = .ok (.getfield 35, 3) := by decide +kernel
theorem dX9_sum_40 : decode cX9_sum 40 = .ok (.iload_n 2, 1) := by decide +kernel
theorem dX9_sum_41 : decode cX9_sum 41 = .ok (.iaload, 1) := by decide +kernel
theorem dX9_sum_42 : decode cX9_sum 42 = .ok (.iastore, 1) := by decide +kernel
theorem dX9_sum_43 : decode cX9_sum 43 = .ok (.iinc 2 1, 3) := by decide +kernel
theorem dX9_sum_46 : decode cX9_sum 46 = .ok (.goto (-22), 3) := by decide +kernel
theorem dX9_sum_49 : decode cX9_sum 49 = .ok (.aload_n 0, 1) := by decide +kernel
theorem dX9_sum_50 : decode cX9_sum 50 = .ok (.getfield 64, 3) := by decide +kernel
theorem dX9_sum_53 : decode cX9_sum 53 = .ok (.iconst 0, 1) := by decide +kernel
theorem dX9_sum_54 : decode cX9_sum 54 = .ok (.sipush 400, 3) := by decide +kernel
theorem dX9_sum_57 : decode cX9_sum 57 = .ok (.invokestatic 178, 3) := by decide +kernel
theorem dX9_sum_60 : decode cX9_sum 60 = .ok (.ireturn, 1) := by decide +kernel
theorem dX9_tell_0 : decode cX9_tell 0 = .ok (.iconst 0, 1) := by decide +kernel
theorem dX9_tell_1 : decode cX9_tell 1 = .ok (.istore_n 2, 1) := by decide +kernel
theorem dX9_tell_2 : decode cX9_tell 2 = .ok (.iload_n 2, 1) := by decide +kernel
theorem dX9_tell_3 : decode cX9_tell 3 = .ok (.iload_n 1, 1) := by decide +kernel
theorem dX9_tell_4 : decode cX9_tell 4 = .ok (.if_icmp .ge 155, 3) := by decide +kernel
theorem dX9_tell_7 : decode cX9_tell 7 = .ok (.aload_n 0, 1) := by decide +kernel
theorem dX9_tell_8 : decode cX9_tell 8 = .ok (.getfield 55, 3) := by decide +kernel
theorem dX9_tell_11 : decode cX9_tell 11 = .ok (.iload_n 2, 1) := by decide +kernel
theorem dX9_tell_12 : decode cX9_tell 12 = .ok (.iaload, 1) := by decide +kernel
theorem dX9_tell_13 : decode cX9_tell 13 = .ok (.ifCond .ne 6, 3) := by decide +kernel
theorem dX9_tell_16 : decode cX9_tell 16 = .ok (.goto 137, 3) := by decide +kernel
theorem dX9_tell_19 : decode cX9_tell 19 = .ok (.bipush 81, 2) := by decide +kernel
theorem dX9_tell_21 : decode cX9_tell 21 = .ok (.iload_n 2, 1) := by decide +kernel
theorem dX9_tell_22 : decode cX9_tell 22 = .ok (.imul, 1) := by decide +kernel
theorem dX9_tell_23 : decode cX9_tell 23 = .ok (.istore_n 3, 1) := by decide +kernel
theorem dX9_tell_24 : decode cX9_tell 24 = .ok (.aload_n 0, 1) := by decide +kernel
theorem dX9_tell_25 : decode cX9_tell 25 = .ok (.getfield 61, 3) := by decide +kernel
theorem dX9_tell_28 : decode cX9_tell 28 = .ok (.iload_n 2, 1) := by decide +kernel
theorem dX9_tell_29 : decode cX9_tell 29 = .ok (.baload, 1) := by decide +kernel
theorem dX9_tell_30 : decode cX9_tell 30 = .ok (.ifCond .ne 63, 3) := by decide +kernel
theorem dX9_tell_33 : decode cX9_tell 33 = .ok (.aload_n 0, 1) := by decide +kernel
theorem dX9_tell_34 : decode cX9_tell 34 = .ok (.aload_n 0, 1) := by decide +kernel
theorem dX9_tell_35 : decode cX9_tell 35 = .ok (.getfield 55, 3) := by decide +kernel
theorem dX9_tell_38 : decode cX9_tell 38 = .ok (.iload_n 2, 1) := by decide +kernel
theorem dX9_tell_39 : decode cX9_tell 39 = .ok (.iaload, 1) := by decide +kernel
theorem dX9_tell_40 : decode cX9_tell 40 = .ok (.invokevirtual 134, 3) := by decide +kernel
theorem dX9_tell_43 : decode cX9_tell 43 = .ok (.istore 4, 2) := by decide +kernel
theorem dX9_tell_45 : decode cX9_tell 45 = .ok (.iconst 0, 1) := by decide +kernel
theorem dX9_tell_46 : decode cX9_tell 46 = .ok (.istore 5, 2) := by decide +kernel
theorem dX9_tell_48 : decode cX9_tell 48 = .ok (.iload 5, 2) := by decide +kernel
theorem dX9_tell_50 : decode cX9_tell 50 = .ok (.iload_n 1, 1) := by decide +kernel
theorem dX9_tell_51 : decode cX9_tell 51 = .ok (.if_icmp .ge 33, 3) := by decide +kernel
theorem dX9_tell_54 : decode cX9_tell 54 = .ok (.aload_n 0, 1) := by decide +kernel
theorem dX9_tell_55 : decode cX9_tell 55 = .ok (.getfield 58, 3) := by decide +kernel
theorem dX9_tell_58 : decode cX9_tell 58 = .ok (.iload_n 3, 1) := by decide +kernel
theorem dX9_tell_59 : decode cX9_tell 59 = .ok (.iload 5, 2) := by decide +kernel
theorem dX9_tell_61 : decode cX9_tell 61 = .ok (.iadd, 1) := by decide +kernel
theorem dX9_tell_62 : decode cX9_tell 62 = .ok (.aload_n 0, 1) := by decide +kernel
theorem dX9_tell_63 : decode cX9_tell 63 = .ok (.getfield 55, 3) := by decide +kernel
theorem dX9_tell_66 : decode cX9_tell 66 = .ok (.iload 5, 2) := by decide +kernel
theorem dX9_tell_68 : decode cX9_tell 68 = .ok (.iaload, 1) := by decide +kernel
theorem dX9_tell_69 : decode cX9_tell 69 = .ok (.iload 4, 2) := by decide +kernel
theorem dX9_tell_71 : decode cX9_tell 71 = .ok (.imul, 1) := by decide +kernel
theorem dX9_tell_72 : decode cX9_tell 72 = .ok (.aload_n 0, 1) := by decide +kernel
theorem dX9_tell_73 : decode cX9_tell 73 = .ok (.getfield 13, 3) := by decide +kernel
theorem dX9_tell_76 : decode cX9_tell 76 = .ok (.irem, 1) := by decide +kernel
theorem dX9_tell_77 : decode cX9_tell 77 = .ok (.iastore, 1) := by decide +kernel
theorem dX9_tell_78 : decode cX9_tell 78 = .ok (.iinc 5 1, 3) := by decide +kernel
theorem dX9_tell_81 : decode cX9_tell 81 = .ok (.goto (-33), 3) := by decide +kernel
theorem dX9_tell_84 : decode cX9_tell 84 = .ok (.aload_n 0, 1) := by decide +kernel
theorem dX9_tell_85 : decode cX9_tell 85 = .ok (.getfield 61, 3) := by decide +kernel
theorem dX9_tell_88 : decode cX9_tell 88 = .ok (.iload_n 2, 1) := by decide +kernel
theorem dX9_tell_89 : decode cX9_tell 89 = .ok (.iconst 1, 1) := by decide +kernel
theorem dX9_tell_90 : decode cX9_tell 90 = .ok (.bastore, 1) := by decide +kernel
theorem dX9_tell_91 : decode cX9_tell 91 = .ok (.iconst 1, 1) := by decide +kernel
theorem dX9_tell_92 : decode cX9_tell 92 = .ok (.ireturn, 1) := by decide +kernel
theorem dX9_tell_93 : decode cX9_tell 93 = .ok (.aload_n 0, 1) := by decide +kernel
theorem dX9_tell_94 : decode cX9_tell 94 = .ok (.getfield 55, 3) := by decide +kernel
theorem dX9_tell_97 : decode cX9_tell 97 = .ok (.iload_n 2, 1) := by decide +kernel
theorem dX9_tell_98 : decode cX9_tell 98 = .ok (.iaload, 1) := by decide +kernel
theorem dX9_tell_99 : decode cX9_tell 99 = .ok (.istore 4, 2) := by decide +kernel
theorem dX9_tell_101 : decode cX9_tell 101 = .ok (.iload_n 2, 1) := by decide +kernel
theorem dX9_tell_102 : decode cX9_tell 102 = .ok (.istore 5, 2) := by decide +kernel
theorem dX9_tell_104 : decode cX9_tell 104 = .ok (.iload 5, 2) := by decide +kernel
theorem dX9_tell_106 : decode cX9_tell 106 = .ok (.iload_n 1, 1) := by decide +kernel
theorem dX9_tell_107 : decode cX9_tell 107 = .ok (.if_icmp .ge 46, 3) := by decide +kernel
theorem dX9_tell_110 : decode cX9_tell 110 = .ok (.aload_n 0, 1) := by decide +kernel
theorem dX9_tell_111 : decode cX9_tell 111 = .ok (.getfield 55, 3) := by decide +kernel
theorem dX9_tell_114 : decode cX9_tell 114 = .ok (.iload 5, 2) := by decide +kernel
theorem dX9_tell_116 : decode cX9_tell 116 = .ok (.aload_n 0, 1) := by decide +kernel
theorem dX9_tell_117 : decode cX9_tell 117 = .ok (.getfield 55, 3) := by decide +kernel
theorem dX9_tell_120 : decode cX9_tell 120 = .ok (.iload 5, 2) := by decide +kernel
theorem dX9_tell_122 : decode cX9_tell 122 = .ok (.iaload, 1) := by decide +kernel
theorem dX9_tell_123 : decode cX9_tell 123 = .ok (.aload_n 0, 1) := by decide +kernel
theorem dX9_tell_124 : decode cX9_tell 124 = .ok (.getfield 13, 3) := by decide +kernel
theorem dX9_tell_127 : decode cX9_tell 127 = .ok (.iload 4, 2) := by decide +kernel
theorem dX9_tell_129 : decode cX9_tell 129 = .ok (.isub, 1) := by decide +kernel
theorem dX9_tell_130 : decode cX9_tell 130 = .ok (.aload_n 0, 1) := by decide +kernel
theorem dX9_tell_131 : decode cX9_tell 131 = .ok (.getfield 58, 3) := by decide +kernel
theorem dX9_tell_134 : decode cX9_tell 134 = .ok (.iload_n 3, 1) := by decide +kernel
theorem dX9_tell_135 : decode cX9_tell 135 = .ok (.iload 5, 2) := by decide +kernel
theorem dX9_tell_137 : decode cX9_tell 137 = .ok (.iadd, 1) := by decide +kernel
theorem dX9_tell_138 : decode cX9_tell 138 = .ok (.iaload, 1) := by decide +kernel
theorem dX9_tell_139 : decode cX9_tell 139 = .ok (.imul, 1) := by decide +kernel
theorem dX9_tell_140 : decode cX9_tell 140 = .ok (.iadd, 1) := by decide +kernel
theorem dX9_tell_141 : decode cX9_tell 141 = .ok (.aload_n 0, 1) := by decide +kernel
theorem dX9_tell_142 : decode cX9_tell 142 = .ok (.getfield 13, 3) := by decide +kernel
theorem dX9_tell_145 : decode cX9_tell 145 = .ok (.irem, 1) := by decide +kernel
theorem dX9_tell_146 : decode cX9_tell 146 = .ok (.iastore, 1) := by decide +kernel
theorem dX9_tell_147 : decode cX9_tell 147 = .ok (.iinc 5 1, 3) := by decide +kernel
theorem dX9_tell_150 : decode cX9_tell 150 = .ok (.goto (-46), 3) := by decide +kernel
theorem dX9_tell_153 : decode cX9_tell 153 = .ok (.iinc 2 1, 3) := by decide +kernel
theorem dX9_tell_156 : decode cX9_tell 156 = .ok (.goto (-154), 3) := by decide +kernel
theorem dX9_tell_159 : decode cX9_tell 159 = .ok (.iconst 0, 1) := by decide +kernel
theorem dX9_tell_160 : decode cX9_tell 160 = .ok (.ireturn, 1) := by decide +kernel
theorem dX9_termsOf_0 : decode cX9_termsOf 0 = .ok (.iconst 0, 1) := by decide +kernel
theorem dX9_termsOf_1 : decode cX9_termsOf 1 = .ok (.istore_n 3, 1) := by decide +kernel
theorem dX9_termsOf_2 : decode cX9_termsOf 2 = .ok (.iload_n 1, 1) := by decide +kernel
theorem dX9_termsOf_3 : decode cX9_termsOf 3 = .ok (.istore 4, 2) := by decide +kernel
theorem dX9_termsOf_5 : decode cX9_termsOf 5 = .ok (.iload 4, 2) := by decide +kernel
theorem dX9_termsOf_7 : decode cX9_termsOf 7 = .ok (.iload_n 1, 1) := by decide +kernel
theorem dX9_termsOf_8 : decode cX9_termsOf 8 = .ok (.iload_n 2, 1) := by decide +kernel
theorem dX9_termsOf_9 : decode cX9_termsOf 9 = .ok (.iadd, 1) := by decide +kernel
theorem dX9_termsOf_10 : decode cX9_termsOf 10 = .ok (.if_icmp .ge 24, 3) := by decide +kernel
theorem dX9_termsOf_13 : decode cX9_termsOf 13 = .ok (.iload_n 3, 1) := by decide +kernel
theorem dX9_termsOf_14 : decode cX9_termsOf 14 = .ok (.aload_n 0, 1) := by decide +kernel
theorem dX9_termsOf_15 : decode cX9_termsOf 15 = .ok (.iload 4, 2) := by decide +kernel
theorem dX9_termsOf_17 : decode cX9_termsOf 17 = .ok (.iaload, 1) := by decide +kernel
theorem dX9_termsOf_18 : decode cX9_termsOf 18 = .ok (.ifCond .ne 7, 3) := by decide +kernel
theorem dX9_termsOf_21 : decode cX9_termsOf 21 = .ok (.iconst 0, 1) := by decide +kernel
theorem dX9_termsOf_22 : decode cX9_termsOf 22 = .ok (.goto 4, 3) := by decide +kernel
theorem dX9_termsOf_25 : decode cX9_termsOf 25 = .ok (.iconst 1, 1) := by decide +kernel
theorem dX9_termsOf_26 : decode cX9_termsOf 26 = .ok (.iadd, 1) := by decide +kernel
theorem dX9_termsOf_27 : decode cX9_termsOf 27 = .ok (.istore_n 3, 1) := by decide +kernel
theorem dX9_termsOf_28 : decode cX9_termsOf 28 = .ok (.iinc 4 1, 3) := by decide +kernel
theorem dX9_termsOf_31 : decode cX9_termsOf 31 = .ok (.goto (-26), 3) := by decide +kernel
theorem dX9_termsOf_34 : decode cX9_termsOf 34 = .ok (.iload_n 3, 1) := by decide +kernel
theorem dX9_termsOf_35 : decode cX9_termsOf 35 = .ok (.ireturn, 1) := by decide +kernel
theorem dX9_tidy_0 : decode cX9_tidy 0 = .ok (.iconst 0, 1) := by decide +kernel
theorem dX9_tidy_1 : decode cX9_tidy 1 = .ok (.istore 4, 2) := by decide +kernel
theorem dX9_tidy_3 : decode cX9_tidy 3 = .ok (.iload 4, 2) := by decide +kernel
theorem dX9_tidy_5 : decode cX9_tidy 5 = .ok (.aload_n 0, 1) := by decide +kernel
theorem dX9_tidy_6 : decode cX9_tidy 6 = .ok (.getfield 19, 3) := by decide +kernel
theorem dX9_tidy_9 : decode cX9_tidy 9 = .ok (.iload_n 3, 1) := by decide +kernel
theorem dX9_tidy_10 : decode cX9_tidy 10 = .ok (.iaload, 1) := by decide +kernel
theorem dX9_tidy_11 : decode cX9_tidy 11 = .ok (.if_icmp .ge 154, 3) := by decide +kernel
theorem dX9_tidy_14 : decode cX9_tidy 14 = .ok (.aload_n 0, 1) := by decide +kernel
theorem dX9_tidy_15 : decode cX9_tidy 15 = .ok (.getfield 26, 3) := by decide +kernel
theorem dX9_tidy_18 : decode cX9_tidy 18 = .ok (.iload_n 3, 1) := by decide +kernel
theorem dX9_tidy_19 : decode cX9_tidy 19 = .ok (.iaload, 1) := by decide +kernel
theorem dX9_tidy_20 : decode cX9_tidy 20 = .ok (.iload 4, 2) := by decide +kernel
theorem dX9_tidy_22 : decode cX9_tidy 22 = .ok (.aload_n 0, 1) := by decide +kernel
theorem dX9_tidy_23 : decode cX9_tidy 23 = .ok (.getfield 19, 3) := by decide +kernel
theorem dX9_tidy_26 : decode cX9_tidy 26 = .ok (.iload_n 3, 1) := by decide +kernel
theorem dX9_tidy_27 : decode cX9_tidy 27 = .ok (.iaload, 1) := by decide +kernel
theorem dX9_tidy_28 : decode cX9_tidy 28 = .ok (.imul, 1) := by decide +kernel
theorem dX9_tidy_29 : decode cX9_tidy 29 = .ok (.iadd, 1) := by decide +kernel
theorem dX9_tidy_30 : decode cX9_tidy 30 = .ok (.istore 5, 2) := by decide +kernel
theorem dX9_tidy_32 : decode cX9_tidy 32 = .ok (.iconst 0, 1) := by decide +kernel
theorem dX9_tidy_33 : decode cX9_tidy 33 = .ok (.istore 6, 2) := by decide +kernel
theorem dX9_tidy_35 : decode cX9_tidy 35 = .ok (.iload 6, 2) := by decide +kernel
theorem dX9_tidy_37 : decode cX9_tidy 37 = .ok (.iload 4, 2) := by decide +kernel
theorem dX9_tidy_39 : decode cX9_tidy 39 = .ok (.if_icmp .ge 120, 3) := by decide +kernel
theorem dX9_tidy_42 : decode cX9_tidy 42 = .ok (.aload_n 2, 1) := by decide +kernel
theorem dX9_tidy_43 : decode cX9_tidy 43 = .ok (.aload_n 0, 1) := by decide +kernel
theorem dX9_tidy_44 : decode cX9_tidy 44 = .ok (.getfield 23, 3) := by decide +kernel
theorem dX9_tidy_47 : decode cX9_tidy 47 = .ok (.iload_n 3, 1) := by decide +kernel
theorem dX9_tidy_48 : decode cX9_tidy 48 = .ok (.iaload, 1) := by decide +kernel
theorem dX9_tidy_49 : decode cX9_tidy 49 = .ok (.iload 4, 2) := by decide +kernel
theorem dX9_tidy_51 : decode cX9_tidy 51 = .ok (.iadd, 1) := by decide +kernel
theorem dX9_tidy_52 : decode cX9_tidy 52 = .ok (.baload, 1) := by decide +kernel
theorem dX9_tidy_53 : decode cX9_tidy 53 = .ok (.ifCond .eq 106, 3) := by decide +kernel
theorem dX9_tidy_56 : decode cX9_tidy 56 = .ok (.aload_n 1, 1) := by decide +kernel
theorem dX9_tidy_57 : decode cX9_tidy 57 = .ok (.iload 5, 2) := by decide +kernel
theorem dX9_tidy_59 : decode cX9_tidy 59 = .ok (.iload 6, 2) := by decide +kernel
theorem dX9_tidy_61 : decode cX9_tidy 61 = .ok (.iadd, 1) := by decide +kernel
theorem dX9_tidy_62 : decode cX9_tidy 62 = .ok (.iaload, 1) := by decide +kernel
theorem dX9_tidy_63 : decode cX9_tidy 63 = .ok (.istore 7, 2) := by decide +kernel
theorem dX9_tidy_65 : decode cX9_tidy 65 = .ok (.iload 7, 2) := by decide +kernel
theorem dX9_tidy_67 : decode cX9_tidy 67 = .ok (.ifCond .eq 86, 3) := by decide +kernel
theorem dX9_tidy_70 : decode cX9_tidy 70 = .ok (.aload_n 2, 1) := by decide +kernel
theorem dX9_tidy_71 : decode cX9_tidy 71 = .ok (.aload_n 0, 1) := by decide +kernel
theorem dX9_tidy_72 : decode cX9_tidy 72 = .ok (.getfield 23, 3) := by decide +kernel
theorem dX9_tidy_75 : decode cX9_tidy 75 = .ok (.iload_n 3, 1) := by decide +kernel
theorem dX9_tidy_76 : decode cX9_tidy 76 = .ok (.iaload, 1) := by decide +kernel
theorem dX9_tidy_77 : decode cX9_tidy 77 = .ok (.iload 6, 2) := by decide +kernel
theorem dX9_tidy_79 : decode cX9_tidy 79 = .ok (.iadd, 1) := by decide +kernel
theorem dX9_tidy_80 : decode cX9_tidy 80 = .ok (.baload, 1) := by decide +kernel
theorem dX9_tidy_81 : decode cX9_tidy 81 = .ok (.ifCond .eq 72, 3) := by decide +kernel
theorem dX9_tidy_84 : decode cX9_tidy 84 = .ok (.aload_n 0, 1) := by decide +kernel
theorem dX9_tidy_85 : decode cX9_tidy 85 = .ok (.getfield 26, 3) := by decide +kernel
theorem dX9_tidy_88 : decode cX9_tidy 88 = .ok (.iload_n 3, 1) := by decide +kernel
theorem dX9_tidy_89 : decode cX9_tidy 89 = .ok (.iaload, 1) := by decide +kernel
theorem dX9_tidy_90 : decode cX9_tidy 90 = .ok (.iload 6, 2) := by decide +kernel
theorem dX9_tidy_92 : decode cX9_tidy 92 = .ok (.aload_n 0, 1) := by decide +kernel
theorem dX9_tidy_93 : decode cX9_tidy 93 = .ok (.getfield 19, 3) := by decide +kernel
theorem dX9_tidy_96 : decode cX9_tidy 96 = .ok (.iload_n 3, 1) := by decide +kernel
theorem dX9_tidy_97 : decode cX9_tidy 97 = .ok (.iaload, 1) := by decide +kernel
theorem dX9_tidy_98 : decode cX9_tidy 98 = .ok (.imul, 1) := by decide +kernel
theorem dX9_tidy_99 : decode cX9_tidy 99 = .ok (.iadd, 1) := by decide +kernel
theorem dX9_tidy_100 : decode cX9_tidy 100 = .ok (.istore 8, 2) := by decide +kernel
theorem dX9_tidy_102 : decode cX9_tidy 102 = .ok (.iconst 0, 1) := by decide +kernel
theorem dX9_tidy_103 : decode cX9_tidy 103 = .ok (.istore 9, 2) := by decide +kernel
theorem dX9_tidy_105 : decode cX9_tidy 105 = .ok (.iload 9, 2) := by decide +kernel
theorem dX9_tidy_107 : decode cX9_tidy 107 = .ok (.iload 6, 2) := by decide +kernel
theorem dX9_tidy_109 : decode cX9_tidy 109 = .ok (.if_icmp .gt 44, 3) := by decide +kernel
theorem dX9_tidy_112 : decode cX9_tidy 112 = .ok (.aload_n 1, 1) := by decide +kernel
theorem dX9_tidy_113 : decode cX9_tidy 113 = .ok (.iload 5, 2) := by decide +kernel
theorem dX9_tidy_115 : decode cX9_tidy 115 = .ok (.iload 9, 2) := by decide +kernel
theorem dX9_tidy_117 : decode cX9_tidy 117 = .ok (.iadd, 1) := by decide +kernel
theorem dX9_tidy_118 : decode cX9_tidy 118 = .ok (.aload_n 1, 1) := by decide +kernel
theorem dX9_tidy_119 : decode cX9_tidy 119 = .ok (.iload 5, 2) := by decide +kernel
theorem dX9_tidy_121 : decode cX9_tidy 121 = .ok (.iload 9, 2) := by decide +kernel
theorem dX9_tidy_123 : decode cX9_tidy 123 = .ok (.iadd, 1) := by decide +kernel
theorem dX9_tidy_124 : decode cX9_tidy 124 = .ok (.iaload, 1) := by decide +kernel
theorem dX9_tidy_125 : decode cX9_tidy 125 = .ok (.aload_n 0, 1) := by decide +kernel
theorem dX9_tidy_126 : decode cX9_tidy 126 = .ok (.getfield 13, 3) := by decide +kernel
theorem dX9_tidy_129 : decode cX9_tidy 129 = .ok (.iload 7, 2) := by decide +kernel
theorem dX9_tidy_131 : decode cX9_tidy 131 = .ok (.isub, 1) := by decide +kernel
theorem dX9_tidy_132 : decode cX9_tidy 132 = .ok (.aload_n 1, 1) := by decide +kernel
theorem dX9_tidy_133 : decode cX9_tidy 133 = .ok (.iload 8, 2) := by decide +kernel
theorem dX9_tidy_135 : decode cX9_tidy 135 = .ok (.iload 9, 2) := by decide +kernel
theorem dX9_tidy_137 : decode cX9_tidy 137 = .ok (.iadd, 1) := by decide +kernel
theorem dX9_tidy_138 : decode cX9_tidy 138 = .ok (.iaload, 1) := by decide +kernel
theorem dX9_tidy_139 : decode cX9_tidy 139 = .ok (.imul, 1) := by decide +kernel
theorem dX9_tidy_140 : decode cX9_tidy 140 = .ok (.iadd, 1) := by decide +kernel
theorem dX9_tidy_141 : decode cX9_tidy 141 = .ok (.aload_n 0, 1) := by decide +kernel
theorem dX9_tidy_142 : decode cX9_tidy 142 = .ok (.getfield 13, 3) := by decide +kernel
theorem dX9_tidy_145 : decode cX9_tidy 145 = .ok (.irem, 1) := by decide +kernel
theorem dX9_tidy_146 : decode cX9_tidy 146 = .ok (.iastore, 1) := by decide +kernel
theorem dX9_tidy_147 : decode cX9_tidy 147 = .ok (.iinc 9 1, 3) := by decide +kernel
theorem dX9_tidy_150 : decode cX9_tidy 150 = .ok (.goto (-45), 3) := by decide +kernel
theorem dX9_tidy_153 : decode cX9_tidy 153 = .ok (.iinc 6 1, 3) := by decide +kernel
theorem dX9_tidy_156 : decode cX9_tidy 156 = .ok (.goto (-121), 3) := by decide +kernel
theorem dX9_tidy_159 : decode cX9_tidy 159 = .ok (.iinc 4 1, 3) := by decide +kernel
theorem dX9_tidy_162 : decode cX9_tidy 162 = .ok (.goto (-159), 3) := by decide +kernel
theorem dX9_tidy_165 : decode cX9_tidy 165 = .ok (.return_, 1) := by decide +kernel
theorem dX9_times_0 : decode cX9_times 0 = .ok (.iload_n 1, 1) := by decide +kernel
theorem dX9_times_1 : decode cX9_times 1 = .ok (.i2l, 1) := by decide +kernel
theorem dX9_times_2 : decode cX9_times 2 = .ok (.lconst 0, 1) := by decide +kernel
theorem dX9_times_3 : decode cX9_times 3 = .ok (.ldc2_w 194, 3) := by decide +kernel
theorem dX9_times_6 : decode cX9_times 6 = .ok (.invokestatic 90, 3) := by decide +kernel
theorem dX9_times_9 : decode cX9_times 9 = .ok (.ifCond .ne 5, 3) := by decide +kernel
theorem dX9_times_12 : decode cX9_times 12 = .ok (.iconst (-1), 1) := by decide +kernel
theorem dX9_times_13 : decode cX9_times 13 = .ok (.ireturn, 1) := by decide +kernel
theorem dX9_times_14 : decode cX9_times 14 = .ok (.iconst 0, 1) := by decide +kernel
theorem dX9_times_15 : decode cX9_times 15 = .ok (.istore_n 2, 1) := by decide +kernel
theorem dX9_times_16 : decode cX9_times 16 = .ok (.iload_n 2, 1) := by decide +kernel
theorem dX9_times_17 : decode cX9_times 17 = .ok (.sipush 400, 3) := by decide +kernel
theorem dX9_times_20 : decode cX9_times 20 = .ok (.if_icmp .ge 28, 3) := by decide +kernel
theorem dX9_times_23 : decode cX9_times 23 = .ok (.aload_n 0, 1) := by decide +kernel
theorem dX9_times_24 : decode cX9_times 24 = .ok (.getfield 64, 3) := by decide +kernel
theorem dX9_times_27 : decode cX9_times 27 = .ok (.iload_n 2, 1) := by decide +kernel
theorem dX9_times_28 : decode cX9_times 28 = .ok (.aload_n 0, 1) := by decide +kernel
theorem dX9_times_29 : decode cX9_times 29 = .ok (.getfield 64, 3) := by decide +kernel
theorem dX9_times_32 : decode cX9_times 32 = .ok (.iload_n 2, 1) := by decide +kernel
theorem dX9_times_33 : decode cX9_times 33 = .ok (.iaload, 1) := by decide +kernel
theorem dX9_times_34 : decode cX9_times 34 = .ok (.iload_n 1, 1) := by decide +kernel
theorem dX9_times_35 : decode cX9_times 35 = .ok (.imul, 1) := by decide +kernel
theorem dX9_times_36 : decode cX9_times 36 = .ok (.aload_n 0, 1) := by decide +kernel
theorem dX9_times_37 : decode cX9_times 37 = .ok (.getfield 13, 3) := by decide +kernel
theorem dX9_times_40 : decode cX9_times 40 = .ok (.irem, 1) := by decide +kernel
theorem dX9_times_41 : decode cX9_times 41 = .ok (.iastore, 1) := by decide +kernel
theorem dX9_times_42 : decode cX9_times 42 = .ok (.iinc 2 1, 3) := by decide +kernel
theorem dX9_times_45 : decode cX9_times 45 = .ok (.goto (-29), 3) := by decide +kernel
theorem dX9_times_48 : decode cX9_times 48 = .ok (.aload_n 0, 1) := by decide +kernel
theorem dX9_times_49 : decode cX9_times 49 = .ok (.getfield 64, 3) := by decide +kernel
theorem dX9_times_52 : decode cX9_times 52 = .ok (.iconst 0, 1) := by decide +kernel
theorem dX9_times_53 : decode cX9_times 53 = .ok (.sipush 400, 3) := by decide +kernel
theorem dX9_times_56 : decode cX9_times 56 = .ok (.invokestatic 178, 3) := by decide +kernel
theorem dX9_times_59 : decode cX9_times 59 = .ok (.ireturn, 1) := by decide +kernel
theorem dX9_told_0 : decode cX9_told 0 = .ok (.iload_n 1, 1) := by decide +kernel
theorem dX9_told_1 : decode cX9_told 1 = .ok (.i2l, 1) := by decide +kernel
theorem dX9_told_2 : decode cX9_told 2 = .ok (.lconst 0, 1) := by decide +kernel
theorem dX9_told_3 : decode cX9_told 3 = .ok (.aload_n 0, 1) := by decide +kernel
theorem dX9_told_4 : decode cX9_told 4 = .ok (.getfield 79, 3) := by decide +kernel
theorem dX9_told_7 : decode cX9_told 7 = .ok (.iconst 1, 1) := by decide +kernel
theorem dX9_told_8 : decode cX9_told 8 = .ok (.isub, 1) := by decide +kernel
theorem dX9_told_9 : decode cX9_told 9 = .ok (.i2l, 1) := by decide +kernel
theorem dX9_told_10 : decode cX9_told 10 = .ok (.invokestatic 90, 3) := by decide +kernel
theorem dX9_told_13 : decode cX9_told 13 = .ok (.ifCond .eq 28, 3) := by decide +kernel
theorem dX9_told_16 : decode cX9_told 16 = .ok (.iload_n 2, 1) := by decide +kernel
theorem dX9_told_17 : decode cX9_told 17 = .ok (.i2l, 1) := by decide +kernel
theorem dX9_told_18 : decode cX9_told 18 = .ok (.ldc2_w 132, 3) := by decide +kernel
theorem dX9_told_21 : decode cX9_told 21 = .ok (.aload_n 0, 1) := by decide +kernel
theorem dX9_told_22 : decode cX9_told 22 = .ok (.getfield 19, 3) := by decide +kernel
theorem dX9_told_25 : decode cX9_told 25 = .ok (.aload_n 0, 1) := by decide +kernel
theorem dX9_told_26 : decode cX9_told 26 = .ok (.getfield 29, 3) := by decide +kernel
theorem dX9_told_29 : decode cX9_told 29 = .ok (.iload_n 1, 1) := by decide +kernel
theorem dX9_told_30 : decode cX9_told 30 = .ok (.iaload, 1) := by decide +kernel
theorem dX9_told_31 : decode cX9_told 31 = .ok (.iaload, 1) := by decide +kernel
theorem dX9_told_32 : decode cX9_told 32 = .ok (.iconst 1, 1) := by decide +kernel
theorem dX9_told_33 : decode cX9_told 33 = .ok (.isub, 1) := by decide +kernel
theorem dX9_told_34 : decode cX9_told 34 = .ok (.i2l, 1) := by decide +kernel
theorem dX9_told_35 : decode cX9_told 35 = .ok (.invokestatic 90, 3) := by decide +kernel
theorem dX9_told_38 : decode cX9_told 38 = .ok (.ifCond .ne 5, 3) := by decide +kernel
theorem dX9_told_41 : decode cX9_told 41 = .ok (.iconst (-1), 1) := by decide +kernel
theorem dX9_told_42 : decode cX9_told 42 = .ok (.ireturn, 1) := by decide +kernel
theorem dX9_told_43 : decode cX9_told 43 = .ok (.iload_n 2, 1) := by decide +kernel
theorem dX9_told_44 : decode cX9_told 44 = .ok (.ifCond .ge 12, 3) := by decide +kernel
theorem dX9_told_47 : decode cX9_told 47 = .ok (.aload_n 0, 1) := by decide +kernel
theorem dX9_told_48 : decode cX9_told 48 = .ok (.getfield 29, 3) := by decide +kernel
theorem dX9_told_51 : decode cX9_told 51 = .ok (.iload_n 1, 1) := by decide +kernel
theorem dX9_told_52 : decode cX9_told 52 = .ok (.iaload, 1) := by decide +kernel
theorem dX9_told_53 : decode cX9_told 53 = .ok (.goto 14, 3) := by decide +kernel
theorem dX9_told_56 : decode cX9_told 56 = .ok (.aload_n 0, 1) := by decide +kernel
theorem dX9_told_57 : decode cX9_told 57 = .ok (.getfield 32, 3) := by decide +kernel
theorem dX9_told_60 : decode cX9_told 60 = .ok (.bipush 81, 2) := by decide +kernel
theorem dX9_told_62 : decode cX9_told 62 = .ok (.iload_n 1, 1) := by decide +kernel
theorem dX9_told_63 : decode cX9_told 63 = .ok (.imul, 1) := by decide +kernel
theorem dX9_told_64 : decode cX9_told 64 = .ok (.iload_n 2, 1) := by decide +kernel
theorem dX9_told_65 : decode cX9_told 65 = .ok (.iadd, 1) := by decide +kernel
theorem dX9_told_66 : decode cX9_told 66 = .ok (.iaload, 1) := by decide +kernel
theorem dX9_told_67 : decode cX9_told 67 = .ok (.ireturn, 1) := by decide +kernel
theorem dX9_type_0 : decode cX9_type 0 = .ok (.iload_n 3, 1) := by decide +kernel
theorem dX9_type_1 : decode cX9_type 1 = .ok (.i2l, 1) := by decide +kernel
theorem dX9_type_2 : decode cX9_type 2 = .ok (.lconst 1, 1) := by decide +kernel
theorem dX9_type_3 : decode cX9_type 3 = .ok (.ldc2_w 96, 3) := by decide +kernel
theorem dX9_type_6 : decode cX9_type 6 = .ok (.invokestatic 90, 3) := by decide +kernel
theorem dX9_type_9 : decode cX9_type 9 = .ok (.ifCond .ne 5, 3) := by decide +kernel
theorem dX9_type_12 : decode cX9_type 12 = .ok (.iconst (-1), 1) := by decide +kernel
theorem dX9_type_13 : decode cX9_type 13 = .ok (.ireturn, 1) := by decide +kernel
theorem dX9_type_14 : decode cX9_type 14 = .ok (.iload_n 3, 1) := by decide +kernel
theorem dX9_type_15 : decode cX9_type 15 = .ok (.iconst 1, 1) := by decide +kernel
theorem dX9_type_16 : decode cX9_type 16 = .ok (.isub, 1) := by decide +kernel
theorem dX9_type_17 : decode cX9_type 17 = .ok (.istore 4, 2) := by decide +kernel
theorem dX9_type_19 : decode cX9_type 19 = .ok (.iload 4, 2) := by decide +kernel
theorem dX9_type_21 : decode cX9_type 21 = .ok (.ifCond .lt 34, 3) := by decide +kernel
theorem dX9_type_24 : decode cX9_type 24 = .ok (.lload_n 1, 1) := by decide +kernel
theorem dX9_type_25 : decode cX9_type 25 = .ok (.bipush 8, 2) := by decide +kernel
theorem dX9_type_27 : decode cX9_type 27 = .ok (.iload 4, 2) := by decide +kernel
theorem dX9_type_29 : decode cX9_type 29 = .ok (.imul, 1) := by decide +kernel
theorem dX9_type_30 : decode cX9_type 30 = .ok (.lshr, 1) := by decide +kernel
theorem dX9_type_31 : decode cX9_type 31 = .ok (.ldc2_w 98, 3) := by decide +kernel
theorem dX9_type_34 : decode cX9_type 34 = .ok (.land, 1) := by decide +kernel
theorem dX9_type_35 : decode cX9_type 35 = .ok (.ldc2_w 100, 3) := by decide +kernel
theorem dX9_type_38 : decode cX9_type 38 = .ok (.ldc2_w 102, 3) := by decide +kernel
theorem dX9_type_41 : decode cX9_type 41 = .ok (.invokestatic 90, 3) := by decide +kernel
theorem dX9_type_44 : decode cX9_type 44 = .ok (.ifCond .ne 5, 3) := by decide +kernel
theorem dX9_type_47 : decode cX9_type 47 = .ok (.iconst (-1), 1) := by decide +kernel
theorem dX9_type_48 : decode cX9_type 48 = .ok (.ireturn, 1) := by decide +kernel
theorem dX9_type_49 : decode cX9_type 49 = .ok (.iinc 4 (-1), 3) := by decide +kernel
theorem dX9_type_52 : decode cX9_type 52 = .ok (.goto (-33), 3) := by decide +kernel
theorem dX9_type_55 : decode cX9_type 55 = .ok (.aload_n 0, 1) := by decide +kernel
theorem dX9_type_56 : decode cX9_type 56 = .ok (.getfield 104, 3) := by decide +kernel
theorem dX9_type_59 : decode cX9_type 59 = .ok (.iload_n 3, 1) := by decide +kernel
theorem dX9_type_60 : decode cX9_type 60 = .ok (.iadd, 1) := by decide +kernel
theorem dX9_type_61 : decode cX9_type 61 = .ok (.bipush 80, 2) := by decide +kernel
theorem dX9_type_63 : decode cX9_type 63 = .ok (.if_icmp .le 6, 3) := by decide +kernel
theorem dX9_type_66 : decode cX9_type 66 = .ok (.bipush (-3), 2) := by decide +kernel
theorem dX9_type_68 : decode cX9_type 68 = .ok (.ireturn, 1) := by decide +kernel
theorem dX9_type_69 : decode cX9_type 69 = .ok (.iload_n 3, 1) := by decide +kernel
theorem dX9_type_70 : decode cX9_type 70 = .ok (.iconst 1, 1) := by decide +kernel
theorem dX9_type_71 : decode cX9_type 71 = .ok (.isub, 1) := by decide +kernel
theorem dX9_type_72 : decode cX9_type 72 = .ok (.istore 4, 2) := by decide +kernel
theorem dX9_type_74 : decode cX9_type 74 = .ok (.iload 4, 2) := by decide +kernel
theorem dX9_type_76 : decode cX9_type 76 = .ok (.ifCond .lt 40, 3) := by decide +kernel
theorem dX9_type_79 : decode cX9_type 79 = .ok (.aload_n 0, 1) := by decide +kernel
theorem dX9_type_80 : decode cX9_type 80 = .ok (.getfield 38, 3) := by decide +kernel
theorem dX9_type_83 : decode cX9_type 83 = .ok (.aload_n 0, 1) := by decide +kernel
theorem dX9_type_84 : decode cX9_type 84 = .ok (.getfield 104, 3) := by decide +kernel
theorem dX9_type_87 : decode cX9_type 87 = .ok (.lload_n 1, 1) := by decide +kernel
theorem dX9_type_88 : decode cX9_type 88 = .ok (.bipush 8, 2) := by decide +kernel
theorem dX9_type_90 : decode cX9_type 90 = .ok (.iload 4, 2) := by decide +kernel
theorem dX9_type_92 : decode cX9_type 92 = .ok (.imul, 1) := by decide +kernel
theorem dX9_type_93 : decode cX9_type 93 = .ok (.lshr, 1) := by decide +kernel
theorem dX9_type_94 : decode cX9_type 94 = .ok (.ldc2_w 98, 3) := by decide +kernel
theorem dX9_type_97 : decode cX9_type 97 = .ok (.land, 1) := by decide +kernel
theorem dX9_type_98 : decode cX9_type 98 = .ok (.l2i, 1) := by decide +kernel
theorem dX9_type_99 : decode cX9_type 99 = .ok (.iastore, 1) := by decide +kernel
theorem dX9_type_100 : decode cX9_type 100 = .ok (.aload_n 0, 1) := by decide +kernel
theorem dX9_type_101 : decode cX9_type 101 = .ok (.dup, 1) := by decide +kernel
theorem dX9_type_102 : decode cX9_type 102 = .ok (.getfield 104, 3) := by decide +kernel
theorem dX9_type_105 : decode cX9_type 105 = .ok (.iconst 1, 1) := by decide +kernel
theorem dX9_type_106 : decode cX9_type 106 = .ok (.iadd, 1) := by decide +kernel
theorem dX9_type_107 : decode cX9_type 107 = .ok (.putfield 104, 3) := by decide +kernel
theorem dX9_type_110 : decode cX9_type 110 = .ok (.iinc 4 (-1), 3) := by decide +kernel
theorem dX9_type_113 : decode cX9_type 113 = .ok (.goto (-39), 3) := by decide +kernel
theorem dX9_type_116 : decode cX9_type 116 = .ok (.aload_n 0, 1) := by decide +kernel
theorem dX9_type_117 : decode cX9_type 117 = .ok (.getfield 104, 3) := by decide +kernel
theorem dX9_type_120 : decode cX9_type 120 = .ok (.ireturn, 1) := by decide +kernel
theorem dX9_unlaw_0 : decode cX9_unlaw 0 = .ok (.aload_n 0, 1) := by decide +kernel
theorem dX9_unlaw_1 : decode cX9_unlaw 1 = .ok (.getfield 79, 3) := by decide +kernel
theorem dX9_unlaw_4 : decode cX9_unlaw 4 = .ok (.ifCond .ne 6, 3) := by decide +kernel
theorem dX9_unlaw_7 : decode cX9_unlaw 7 = .ok (.bipush (-2), 2) := by decide +kernel
theorem dX9_unlaw_9 : decode cX9_unlaw 9 = .ok (.ireturn, 1) := by decide +kernel
theorem dX9_unlaw_10 : decode cX9_unlaw 10 = .ok (.aload_n 0, 1) := by decide +kernel
theorem dX9_unlaw_11 : decode cX9_unlaw 11 = .ok (.dup, 1) := by decide +kernel
theorem dX9_unlaw_12 : decode cX9_unlaw 12 = .ok (.getfield 79, 3) := by decide +kernel
theorem dX9_unlaw_15 : decode cX9_unlaw 15 = .ok (.iconst 1, 1) := by decide +kernel
theorem dX9_unlaw_16 : decode cX9_unlaw 16 = .ok (.isub, 1) := by decide +kernel
theorem dX9_unlaw_17 : decode cX9_unlaw 17 = .ok (.putfield 79, 3) := by decide +kernel
theorem dX9_unlaw_20 : decode cX9_unlaw 20 = .ok (.aload_n 0, 1) := by decide +kernel
theorem dX9_unlaw_21 : decode cX9_unlaw 21 = .ok (.iconst 0, 1) := by decide +kernel
theorem dX9_unlaw_22 : decode cX9_unlaw 22 = .ok (.putfield 82, 3) := by decide +kernel
theorem dX9_unlaw_25 : decode cX9_unlaw 25 = .ok (.aload_n 0, 1) := by decide +kernel
theorem dX9_unlaw_26 : decode cX9_unlaw 26 = .ok (.getfield 79, 3) := by decide +kernel
theorem dX9_unlaw_29 : decode cX9_unlaw 29 = .ok (.ireturn, 1) := by decide +kernel
theorem dX9_word_0 : decode cX9_word 0 = .ok (.aload_n 0, 1) := by decide +kernel
theorem dX9_word_1 : decode cX9_word 1 = .ok (.iload_n 1, 1) := by decide +kernel
theorem dX9_word_2 : decode cX9_word 2 = .ok (.invokevirtual 156, 3) := by decide +kernel
theorem dX9_word_5 : decode cX9_word 5 = .ok (.ifCond .eq 7, 3) := by decide +kernel
theorem dX9_word_8 : decode cX9_word 8 = .ok (.iload_n 2, 1) := by decide +kernel
theorem dX9_word_9 : decode cX9_word 9 = .ok (.ifCond .ge 5, 3) := by decide +kernel
theorem dX9_word_12 : decode cX9_word 12 = .ok (.iconst (-1), 1) := by decide +kernel
theorem dX9_word_13 : decode cX9_word 13 = .ok (.ireturn, 1) := by decide +kernel
theorem dX9_word_14 : decode cX9_word 14 = .ok (.aload_n 0, 1) := by decide +kernel
theorem dX9_word_15 : decode cX9_word 15 = .ok (.invokevirtual 153, 3) := by decide +kernel
theorem dX9_word_18 : decode cX9_word 18 = .ok (.aload_n 0, 1) := by decide +kernel
theorem dX9_word_19 : decode cX9_word 19 = .ok (.iload_n 1, 1) := by decide +kernel
theorem dX9_word_20 : decode cX9_word 20 = .ok (.iload_n 2, 1) := by decide +kernel
theorem dX9_word_21 : decode cX9_word 21 = .ok (.invokevirtual 167, 3) := by decide +kernel
theorem dX9_word_24 : decode cX9_word 24 = .ok (.ireturn, 1) := by decide +kernel
theorem dX9_wordOf_0 : decode cX9_wordOf 0 = .ok (.iconst 0, 1) := by decide +kernel
theorem dX9_wordOf_1 : decode cX9_wordOf 1 = .ok (.istore_n 3, 1) := by decide +kernel
theorem dX9_wordOf_2 : decode cX9_wordOf 2 = .ok (.iconst 0, 1) := by decide +kernel
theorem dX9_wordOf_3 : decode cX9_wordOf 3 = .ok (.istore 4, 2) := by decide +kernel
theorem dX9_wordOf_5 : decode cX9_wordOf 5 = .ok (.iload 4, 2) := by decide +kernel
theorem dX9_wordOf_7 : decode cX9_wordOf 7 = .ok (.aload_n 0, 1) := by decide +kernel
theorem dX9_wordOf_8 : decode cX9_wordOf 8 = .ok (.getfield 19, 3) := by decide +kernel
theorem dX9_wordOf_11 : decode cX9_wordOf 11 = .ok (.iload_n 1, 1) := by decide +kernel
theorem dX9_wordOf_12 : decode cX9_wordOf 12 = .ok (.iaload, 1) := by decide +kernel
theorem dX9_wordOf_13 : decode cX9_wordOf 13 = .ok (.if_icmp .ge 37, 3) := by decide +kernel
theorem dX9_wordOf_16 : decode cX9_wordOf 16 = .ok (.aload_n 0, 1) := by decide +kernel
theorem dX9_wordOf_17 : decode cX9_wordOf 17 = .ok (.getfield 45, 3) := by decide +kernel
theorem dX9_wordOf_20 : decode cX9_wordOf 20 = .ok (.aload_n 0, 1) := by decide +kernel
theorem dX9_wordOf_21 : decode cX9_wordOf 21 = .ok (.getfield 23, 3) := by decide +kernel
theorem dX9_wordOf_24 : decode cX9_wordOf 24 = .ok (.iload_n 1, 1) := by decide +kernel
theorem dX9_wordOf_25 : decode cX9_wordOf 25 = .ok (.iaload, 1) := by decide +kernel
theorem dX9_wordOf_26 : decode cX9_wordOf 26 = .ok (.iload 4, 2) := by decide +kernel
theorem dX9_wordOf_28 : decode cX9_wordOf 28 = .ok (.iadd, 1) := by decide +kernel
theorem dX9_wordOf_29 : decode cX9_wordOf 29 = .ok (.baload, 1) := by decide +kernel
theorem dX9_wordOf_30 : decode cX9_wordOf 30 = .ok (.ifCond .ne 14, 3) := by decide +kernel
theorem dX9_wordOf_33 : decode cX9_wordOf 33 = .ok (.iload_n 3, 1) := by decide +kernel
theorem dX9_wordOf_34 : decode cX9_wordOf 34 = .ok (.iload_n 2, 1) := by decide +kernel
theorem dX9_wordOf_35 : decode cX9_wordOf 35 = .ok (.if_icmp .ne 6, 3) := by decide +kernel
theorem dX9_wordOf_38 : decode cX9_wordOf 38 = .ok (.iload 4, 2) := by decide +kernel
theorem dX9_wordOf_40 : decode cX9_wordOf 40 = .ok (.ireturn, 1) := by decide +kernel
theorem dX9_wordOf_41 : decode cX9_wordOf 41 = .ok (.iinc 3 1, 3) := by decide +kernel
theorem dX9_wordOf_44 : decode cX9_wordOf 44 = .ok (.iinc 4 1, 3) := by decide +kernel
theorem dX9_wordOf_47 : decode cX9_wordOf 47 = .ok (.goto (-42), 3) := by decide +kernel
theorem dX9_wordOf_50 : decode cX9_wordOf 50 = .ok (.iconst (-1), 1) := by decide +kernel
theorem dX9_wordOf_51 : decode cX9_wordOf 51 = .ok (.ireturn, 1) := by decide +kernel
