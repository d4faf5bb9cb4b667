theorem dX9_found_0 : decode cX9_found 0 = .ok (.iload_n 1, 1) := by decide +kernel
theorem dX9_found_1 : decode cX9_found 1 = .ok (.iconst 0, 1) := by decide +kernel
theorem dX9_found_2 : decode cX9_found 2 = .ok (.bipush 9, 2) := by decide +kernel
theorem dX9_found_4 : decode cX9_found 4 = .ok (.invokestatic 106, 3) := by decide +kernel
theorem dX9_found_7 : decode cX9_found 7 = .ok (.ifCond .eq 13, 3) := by decide +kernel
theorem dX9_found_10 : decode cX9_found 10 = .ok (.iload_n 2, 1) := by decide +kernel
theorem dX9_found_11 : decode cX9_found 11 = .ok (.iconst 0, 1) := by decide +kernel
theorem dX9_found_12 : decode cX9_found 12 = .ok (.bipush 6, 2) := by decide +kernel
theorem dX9_found_14 : decode cX9_found 14 = .ok (.invokestatic 106, 3) := by decide +kernel
theorem dX9_found_17 : decode cX9_found 17 = .ok (.ifCond .ne 6, 3) := by decide +kernel
theorem dX9_found_20 : decode cX9_found 20 = .ok (.bipush (-2), 2) := by decide +kernel
theorem dX9_found_22 : decode cX9_found 22 = .ok (.ireturn, 1) := by decide +kernel
theorem dX9_found_23 : decode cX9_found 23 = .ok (.iconst 0, 1) := by decide +kernel
theorem dX9_found_24 : decode cX9_found 24 = .ok (.istore_n 3, 1) := by decide +kernel
theorem dX9_found_25 : decode cX9_found 25 = .ok (.iconst 0, 1) := by decide +kernel
theorem dX9_found_26 : decode cX9_found 26 = .ok (.istore 4, 2) := by decide +kernel
theorem dX9_found_28 : decode cX9_found 28 = .ok (.iload 4, 2) := by decide +kernel
theorem dX9_found_30 : decode cX9_found 30 = .ok (.bipush 17, 2) := by decide +kernel
theorem dX9_found_32 : decode cX9_found 32 = .ok (.if_icmp .ge 21, 3) := by decide +kernel
theorem dX9_found_35 : decode cX9_found 35 = .ok (.aload_n 0, 1) := by decide +kernel
theorem dX9_found_36 : decode cX9_found 36 = .ok (.getfield 29, 3) := by decide +kernel
theorem dX9_found_39 : decode cX9_found 39 = .ok (.iload 4, 2) := by decide +kernel
theorem dX9_found_41 : decode cX9_found 41 = .ok (.iload 4, 2) := by decide +kernel
theorem dX9_found_43 : decode cX9_found 43 = .ok (.invokestatic 102, 3) := by decide +kernel
theorem dX9_found_46 : decode cX9_found 46 = .ok (.iastore, 1) := by decide +kernel
theorem dX9_found_47 : decode cX9_found 47 = .ok (.iinc 4 1, 3) := by decide +kernel
theorem dX9_found_50 : decode cX9_found 50 = .ok (.goto (-22), 3) := by decide +kernel
theorem dX9_found_53 : decode cX9_found 53 = .ok (.iconst 0, 1) := by decide +kernel
theorem dX9_found_54 : decode cX9_found 54 = .ok (.istore 4, 2) := by decide +kernel
theorem dX9_found_56 : decode cX9_found 56 = .ok (.iload 4, 2) := by decide +kernel
theorem dX9_found_58 : decode cX9_found 58 = .ok (.aload_n 0, 1) := by decide +kernel
theorem dX9_found_59 : decode cX9_found 59 = .ok (.getfield 193, 3) := by decide +kernel
theorem dX9_found_62 : decode cX9_found 62 = .ok (.if_icmp .ge 208, 3) := by decide +kernel
theorem dX9_found_65 : decode cX9_found 65 = .ok (.aload_n 0, 1) := by decide +kernel
theorem dX9_found_66 : decode cX9_found 66 = .ok (.invokevirtual 205, 3) := by decide +kernel
theorem dX9_found_69 : decode cX9_found 69 = .ok (.iconst 1, 1) := by decide +kernel
theorem dX9_found_70 : decode cX9_found 70 = .ok (.istore 5, 2) := by decide +kernel
theorem dX9_found_72 : decode cX9_found 72 = .ok (.iconst 0, 1) := by decide +kernel
theorem dX9_found_73 : decode cX9_found 73 = .ok (.istore 6, 2) := by decide +kernel
theorem dX9_found_75 : decode cX9_found 75 = .ok (.iload 6, 2) := by decide +kernel
theorem dX9_found_77 : decode cX9_found 77 = .ok (.aload_n 0, 1) := by decide +kernel
theorem dX9_found_78 : decode cX9_found 78 = .ok (.getfield 32, 3) := by decide +kernel
theorem dX9_found_81 : decode cX9_found 81 = .ok (.iload 4, 2) := by decide +kernel
theorem dX9_found_83 : decode cX9_found 83 = .ok (.iaload, 1) := by decide +kernel
theorem dX9_found_84 : decode cX9_found 84 = .ok (.if_icmp .ge 180, 3) := by decide +kernel
theorem dX9_found_87 : decode cX9_found 87 = .ok (.iload 5, 2) := by decide +kernel
theorem dX9_found_89 : decode cX9_found 89 = .ok (.ifCond .eq 175, 3) := by decide +kernel
theorem dX9_found_92 : decode cX9_found 92 = .ok (.aload_n 0, 1) := by decide +kernel
theorem dX9_found_93 : decode cX9_found 93 = .ok (.getfield 35, 3) := by decide +kernel
theorem dX9_found_96 : decode cX9_found 96 = .ok (.bipush 40, 2) := by decide +kernel
theorem dX9_found_98 : decode cX9_found 98 = .ok (.iload 4, 2) := by decide +kernel
theorem dX9_found_100 : decode cX9_found 100 = .ok (.imul, 1) := by decide +kernel
theorem dX9_found_101 : decode cX9_found 101 = .ok (.iload 6, 2) := by decide +kernel
theorem dX9_found_103 : decode cX9_found 103 = .ok (.iadd, 1) := by decide +kernel
theorem dX9_found_104 : decode cX9_found 104 = .ok (.iaload, 1) := by decide +kernel
theorem dX9_found_105 : decode cX9_found 105 = .ok (.istore 7, 2) := by decide +kernel
theorem dX9_found_107 : decode cX9_found 107 = .ok (.aload_n 0, 1) := by decide +kernel
theorem dX9_found_108 : decode cX9_found 108 = .ok (.getfield 38, 3) := by decide +kernel
theorem dX9_found_111 : decode cX9_found 111 = .ok (.bipush 40, 2) := by decide +kernel
theorem dX9_found_113 : decode cX9_found 113 = .ok (.iload 4, 2) := by decide +kernel
theorem dX9_found_115 : decode cX9_found 115 = .ok (.imul, 1) := by decide +kernel
theorem dX9_found_116 : decode cX9_found 116 = .ok (.iload 6, 2) := by decide +kernel
theorem dX9_found_118 : decode cX9_found 118 = .ok (.iadd, 1) := by decide +kernel
theorem dX9_found_119 : decode cX9_found 119 = .ok (.iaload, 1) := by decide +kernel
theorem dX9_found_120 : decode cX9_found 120 = .ok (.istore 8, 2) := by decide +kernel
theorem dX9_found_122 : decode cX9_found 122 = .ok (.iload 7, 2) := by decide +kernel
theorem dX9_found_124 : decode cX9_found 124 = .ok (.iconst (-1), 1) := by decide +kernel
theorem dX9_found_125 : decode cX9_found 125 = .ok (.if_icmp .eq 7, 3) := by decide +kernel
theorem dX9_found_128 : decode cX9_found 128 = .ok (.iconst 1, 1) := by decide +kernel
theorem dX9_found_129 : decode cX9_found 129 = .ok (.goto 4, 3) := by decide +kernel
theorem dX9_found_132 : decode cX9_found 132 = .ok (.iconst 0, 1) := by decide +kernel
theorem dX9_found_133 : decode cX9_found 133 = .ok (.istore 5, 2) := by decide +kernel
theorem dX9_found_135 : decode cX9_found 135 = .ok (.iload 5, 2) := by decide +kernel
theorem dX9_found_137 : decode cX9_found 137 = .ok (.ifCond .eq 121, 3) := by decide +kernel
theorem dX9_found_140 : decode cX9_found 140 = .ok (.aload_n 0, 1) := by decide +kernel
theorem dX9_found_141 : decode cX9_found 141 = .ok (.iload 7, 2) := by decide +kernel
theorem dX9_found_143 : decode cX9_found 143 = .ok (.bipush 10, 2) := by decide +kernel
theorem dX9_found_145 : decode cX9_found 145 = .ok (.idiv, 1) := by decide +kernel
theorem dX9_found_146 : decode cX9_found 146 = .ok (.iconst 2, 1) := by decide +kernel
theorem dX9_found_147 : decode cX9_found 147 = .ok (.irem, 1) := by decide +kernel
theorem dX9_found_148 : decode cX9_found 148 = .ok (.iload 7, 2) := by decide +kernel
theorem dX9_found_150 : decode cX9_found 150 = .ok (.bipush 10, 2) := by decide +kernel
theorem dX9_found_152 : decode cX9_found 152 = .ok (.irem, 1) := by decide +kernel
theorem dX9_found_153 : decode cX9_found 153 = .ok (.invokevirtual 183, 3) := by decide +kernel
theorem dX9_found_156 : decode cX9_found 156 = .ok (.ifCond .eq 102, 3) := by decide +kernel
theorem dX9_found_159 : decode cX9_found 159 = .ok (.iload 8, 2) := by decide +kernel
theorem dX9_found_161 : decode cX9_found 161 = .ok (.iconst (-1), 1) := by decide +kernel
theorem dX9_found_162 : decode cX9_found 162 = .ok (.if_icmp .eq 7, 3) := by decide +kernel
theorem dX9_found_165 : decode cX9_found 165 = .ok (.iconst 1, 1) := by decide +kernel
theorem dX9_found_166 : decode cX9_found 166 = .ok (.goto 4, 3) := by decide +kernel
theorem dX9_found_169 : decode cX9_found 169 = .ok (.iconst 0, 1) := by decide +kernel
theorem dX9_found_170 : decode cX9_found 170 = .ok (.istore 5, 2) := by decide +kernel
theorem dX9_found_172 : decode cX9_found 172 = .ok (.iload 5, 2) := by decide +kernel
theorem dX9_found_174 : decode cX9_found 174 = .ok (.ifCond .eq 39, 3) := by decide +kernel
theorem dX9_found_177 : decode cX9_found 177 = .ok (.iload 7, 2) := by decide +kernel
theorem dX9_found_179 : decode cX9_found 179 = .ok (.bipush 20, 2) := by decide +kernel
theorem dX9_found_181 : decode cX9_found 181 = .ok (.if_icmp .ge 32, 3) := by decide +kernel
theorem dX9_found_184 : decode cX9_found 184 = .ok (.iload 7, 2) := by decide +kernel
theorem dX9_found_186 : decode cX9_found 186 = .ok (.bipush 10, 2) := by decide +kernel
theorem dX9_found_188 : decode cX9_found 188 = .ok (.irem, 1) := by decide +kernel
theorem dX9_found_189 : decode cX9_found 189 = .ok (.iload_n 1, 1) := by decide +kernel
theorem dX9_found_190 : decode cX9_found 190 = .ok (.if_icmp .ne 23, 3) := by decide +kernel
theorem dX9_found_193 : decode cX9_found 193 = .ok (.iload 7, 2) := by decide +kernel
theorem dX9_found_195 : decode cX9_found 195 = .ok (.bipush 10, 2) := by decide +kernel
theorem dX9_found_197 : decode cX9_found 197 = .ok (.idiv, 1) := by decide +kernel
theorem dX9_found_198 : decode cX9_found 198 = .ok (.aload_n 0, 1) := by decide +kernel
theorem dX9_found_199 : decode cX9_found 199 = .ok (.getfield 154, 3) := by decide +kernel
theorem dX9_found_202 : decode cX9_found 202 = .ok (.invokestatic 169, 3) := by decide +kernel
theorem dX9_found_205 : decode cX9_found 205 = .ok (.iload_n 2, 1) := by decide +kernel
theorem dX9_found_206 : decode cX9_found 206 = .ok (.if_icmp .ne 7, 3) := by decide +kernel
theorem dX9_found_209 : decode cX9_found 209 = .ok (.iconst 1, 1) := by decide +kernel
theorem dX9_found_210 : decode cX9_found 210 = .ok (.goto 4, 3) := by decide +kernel
theorem dX9_found_213 : decode cX9_found 213 = .ok (.iconst 0, 1) := by decide +kernel
theorem dX9_found_214 : decode cX9_found 214 = .ok (.istore 9, 2) := by decide +kernel
theorem dX9_found_216 : decode cX9_found 216 = .ok (.iload_n 3, 1) := by decide +kernel
theorem dX9_found_217 : decode cX9_found 217 = .ok (.iload 9, 2) := by decide +kernel
theorem dX9_found_219 : decode cX9_found 219 = .ok (.ifCond .eq 17, 3) := by decide +kernel
theorem dX9_found_222 : decode cX9_found 222 = .ok (.iload 8, 2) := by decide +kernel
theorem dX9_found_224 : decode cX9_found 224 = .ok (.iconst 1, 1) := by decide +kernel
theorem dX9_found_225 : decode cX9_found 225 = .ok (.if_icmp .ne 7, 3) := by decide +kernel
theorem dX9_found_228 : decode cX9_found 228 = .ok (.iconst 1, 1) := by decide +kernel
theorem dX9_found_229 : decode cX9_found 229 = .ok (.goto 8, 3) := by decide +kernel
theorem dX9_found_232 : decode cX9_found 232 = .ok (.iconst 2, 1) := by decide +kernel
theorem dX9_found_233 : decode cX9_found 233 = .ok (.goto 4, 3) := by decide +kernel
theorem dX9_found_236 : decode cX9_found 236 = .ok (.iconst 0, 1) := by decide +kernel
theorem dX9_found_237 : decode cX9_found 237 = .ok (.ior, 1) := by decide +kernel
theorem dX9_found_238 : decode cX9_found 238 = .ok (.istore_n 3, 1) := by decide +kernel
theorem dX9_found_239 : decode cX9_found 239 = .ok (.iload 5, 2) := by decide +kernel
theorem dX9_found_241 : decode cX9_found 241 = .ok (.ifCond .eq 14, 3) := by decide +kernel
theorem dX9_found_244 : decode cX9_found 244 = .ok (.aload_n 0, 1) := by decide +kernel
theorem dX9_found_245 : decode cX9_found 245 = .ok (.iload 7, 2) := by decide +kernel
theorem dX9_found_247 : decode cX9_found 247 = .ok (.iload 8, 2) := by decide +kernel
theorem dX9_found_249 : decode cX9_found 249 = .ok (.invokevirtual 220, 3) := by decide +kernel
theorem dX9_found_252 : decode cX9_found 252 = .ok (.goto 4, 3) := by decide +kernel
theorem dX9_found_255 : decode cX9_found 255 = .ok (.iconst 0, 1) := by decide +kernel
theorem dX9_found_256 : decode cX9_found 256 = .ok (.istore 10, 2) := by decide +kernel
theorem dX9_found_258 : decode cX9_found 258 = .ok (.iinc 6 1, 3) := by decide +kernel
theorem dX9_found_261 : decode cX9_found 261 = .ok (.goto (-186), 3) := by decide +kernel
theorem dX9_found_264 : decode cX9_found 264 = .ok (.iinc 4 1, 3) := by decide +kernel
theorem dX9_found_267 : decode cX9_found 267 = .ok (.goto (-211), 3) := by decide +kernel
theorem dX9_found_270 : decode cX9_found 270 = .ok (.iload_n 3, 1) := by decide +kernel
theorem dX9_found_271 : decode cX9_found 271 = .ok (.ireturn, 1) := by decide +kernel
theorem dX9_doesFit_0 : decode cX9_doesFit 0 = .ok (.aload_n 0, 1) := by decide +kernel
theorem dX9_doesFit_1 : decode cX9_doesFit 1 = .ok (.iload_n 1, 1) := by decide +kernel
theorem dX9_doesFit_2 : decode cX9_doesFit 2 = .ok (.iload_n 1, 1) := by decide +kernel
theorem dX9_doesFit_3 : decode cX9_doesFit 3 = .ok (.iconst 0, 1) := by decide +kernel
theorem dX9_doesFit_4 : decode cX9_doesFit 4 = .ok (.invokevirtual 233, 3) := by decide +kernel
theorem dX9_doesFit_7 : decode cX9_doesFit 7 = .ok (.aload_n 0, 1) := by decide +kernel
theorem dX9_doesFit_8 : decode cX9_doesFit 8 = .ok (.invokevirtual 223, 3) := by decide +kernel
theorem dX9_doesFit_11 : decode cX9_doesFit 11 = .ok (.aload_n 0, 1) := by decide +kernel
theorem dX9_doesFit_12 : decode cX9_doesFit 12 = .ok (.iload_n 2, 1) := by decide +kernel
theorem dX9_doesFit_13 : decode cX9_doesFit 13 = .ok (.invokevirtual 226, 3) := by decide +kernel
theorem dX9_doesFit_16 : decode cX9_doesFit 16 = .ok (.ifCond .ne 56, 3) := by decide +kernel
theorem dX9_doesFit_19 : decode cX9_doesFit 19 = .ok (.aload_n 0, 1) := by decide +kernel
theorem dX9_doesFit_20 : decode cX9_doesFit 20 = .ok (.getfield 38, 3) := by decide +kernel
theorem dX9_doesFit_23 : decode cX9_doesFit 23 = .ok (.bipush 40, 2) := by decide +kernel
theorem dX9_doesFit_25 : decode cX9_doesFit 25 = .ok (.iload_n 2, 1) := by decide +kernel
theorem dX9_doesFit_26 : decode cX9_doesFit 26 = .ok (.imul, 1) := by decide +kernel
theorem dX9_doesFit_27 : decode cX9_doesFit 27 = .ok (.aload_n 0, 1) := by decide +kernel
theorem dX9_doesFit_28 : decode cX9_doesFit 28 = .ok (.getfield 217, 3) := by decide +kernel
theorem dX9_doesFit_31 : decode cX9_doesFit 31 = .ok (.iadd, 1) := by decide +kernel
theorem dX9_doesFit_32 : decode cX9_doesFit 32 = .ok (.iaload, 1) := by decide +kernel
theorem dX9_doesFit_33 : decode cX9_doesFit 33 = .ok (.istore_n 3, 1) := by decide +kernel
theorem dX9_doesFit_34 : decode cX9_doesFit 34 = .ok (.aload_n 0, 1) := by decide +kernel
theorem dX9_doesFit_35 : decode cX9_doesFit 35 = .ok (.iload_n 2, 1) := by decide +kernel
theorem dX9_doesFit_36 : decode cX9_doesFit 36 = .ok (.invokevirtual 229, 3) := by decide +kernel
theorem dX9_doesFit_39 : decode cX9_doesFit 39 = .ok (.istore 4, 2) := by decide +kernel
theorem dX9_doesFit_41 : decode cX9_doesFit 41 = .ok (.iload_n 3, 1) := by decide +kernel
theorem dX9_doesFit_42 : decode cX9_doesFit 42 = .ok (.iconst (-1), 1) := by decide +kernel
theorem dX9_doesFit_43 : decode cX9_doesFit 43 = .ok (.if_icmp .eq 26, 3) := by decide +kernel
theorem dX9_doesFit_46 : decode cX9_doesFit 46 = .ok (.iload 4, 2) := by decide +kernel
theorem dX9_doesFit_48 : decode cX9_doesFit 48 = .ok (.iconst 1, 1) := by decide +kernel
theorem dX9_doesFit_49 : decode cX9_doesFit 49 = .ok (.if_icmp .ne 7, 3) := by decide +kernel
theorem dX9_doesFit_52 : decode cX9_doesFit 52 = .ok (.iload_n 3, 1) := by decide +kernel
theorem dX9_doesFit_53 : decode cX9_doesFit 53 = .ok (.ifCond .eq 14, 3) := by decide +kernel
theorem dX9_doesFit_56 : decode cX9_doesFit 56 = .ok (.iload 4, 2) := by decide +kernel
theorem dX9_doesFit_58 : decode cX9_doesFit 58 = .ok (.iconst 2, 1) := by decide +kernel
theorem dX9_doesFit_59 : decode cX9_doesFit 59 = .ok (.if_icmp .ne 10, 3) := by decide +kernel
theorem dX9_doesFit_62 : decode cX9_doesFit 62 = .ok (.iload_n 3, 1) := by decide +kernel
theorem dX9_doesFit_63 : decode cX9_doesFit 63 = .ok (.iconst 1, 1) := by decide +kernel
theorem dX9_doesFit_64 : decode cX9_doesFit 64 = .ok (.if_icmp .ne 5, 3) := by decide +kernel
theorem dX9_doesFit_67 : decode cX9_doesFit 67 = .ok (.iconst 0, 1) := by decide +kernel
theorem dX9_doesFit_68 : decode cX9_doesFit 68 = .ok (.ireturn, 1) := by decide +kernel
theorem dX9_doesFit_69 : decode cX9_doesFit 69 = .ok (.goto (-58), 3) := by decide +kernel
theorem dX9_doesFit_72 : decode cX9_doesFit 72 = .ok (.iconst 1, 1) := by decide +kernel
theorem dX9_doesFit_73 : decode cX9_doesFit 73 = .ok (.ireturn, 1) := by decide +kernel
theorem dX9_fits_0 : decode cX9_fits 0 = .ok (.iload_n 1, 1) := by decide +kernel
theorem dX9_fits_1 : decode cX9_fits 1 = .ok (.invokestatic 110, 3) := by decide +kernel
theorem dX9_fits_4 : decode cX9_fits 4 = .ok (.ifCond .eq 11, 3) := by decide +kernel
theorem dX9_fits_7 : decode cX9_fits 7 = .ok (.aload_n 0, 1) := by decide +kernel
theorem dX9_fits_8 : decode cX9_fits 8 = .ok (.iload_n 2, 1) := by decide +kernel
theorem dX9_fits_9 : decode cX9_fits 9 = .ok (.invokevirtual 202, 3) := by decide +kernel
theorem dX9_fits_12 : decode cX9_fits 12 = .ok (.ifCond .ne 6, 3) := by decide +kernel
theorem dX9_fits_15 : decode cX9_fits 15 = .ok (.bipush (-2), 2) := by decide +kernel
theorem dX9_fits_17 : decode cX9_fits 17 = .ok (.ireturn, 1) := by decide +kernel
theorem dX9_fits_18 : decode cX9_fits 18 = .ok (.aload_n 0, 1) := by decide +kernel
theorem dX9_fits_19 : decode cX9_fits 19 = .ok (.getfield 41, 3) := by decide +kernel
theorem dX9_fits_22 : decode cX9_fits 22 = .ok (.iload_n 2, 1) := by decide +kernel
theorem dX9_fits_23 : decode cX9_fits 23 = .ok (.baload, 1) := by decide +kernel
theorem dX9_fits_24 : decode cX9_fits 24 = .ok (.ifCond .ne 8, 3) := by decide +kernel
theorem dX9_fits_27 : decode cX9_fits 27 = .ok (.bipush (-3), 2) := by decide +kernel
theorem dX9_fits_29 : decode cX9_fits 29 = .ok (.goto 17, 3) := by decide +kernel
theorem dX9_fits_32 : decode cX9_fits 32 = .ok (.aload_n 0, 1) := by decide +kernel
theorem dX9_fits_33 : decode cX9_fits 33 = .ok (.iload_n 1, 1) := by decide +kernel
theorem dX9_fits_34 : decode cX9_fits 34 = .ok (.iload_n 2, 1) := by decide +kernel
theorem dX9_fits_35 : decode cX9_fits 35 = .ok (.invokevirtual 245, 3) := by decide +kernel
theorem dX9_fits_38 : decode cX9_fits 38 = .ok (.ifCond .eq 7, 3) := by decide +kernel
theorem dX9_fits_41 : decode cX9_fits 41 = .ok (.iconst 1, 1) := by decide +kernel
theorem dX9_fits_42 : decode cX9_fits 42 = .ok (.goto 4, 3) := by decide +kernel
theorem dX9_fits_45 : decode cX9_fits 45 = .ok (.iconst 0, 1) := by decide +kernel
theorem dX9_fits_46 : decode cX9_fits 46 = .ok (.ireturn, 1) := by decide +kernel
theorem dX9_fittingNow_0 : decode cX9_fittingNow 0 = .ok (.iconst 0, 1) := by decide +kernel
theorem dX9_fittingNow_1 : decode cX9_fittingNow 1 = .ok (.istore_n 1, 1) := by decide +kernel
theorem dX9_fittingNow_2 : decode cX9_fittingNow 2 = .ok (.iconst 0, 1) := by decide +kernel
theorem dX9_fittingNow_3 : decode cX9_fittingNow 3 = .ok (.istore_n 2, 1) := by decide +kernel
theorem dX9_fittingNow_4 : decode cX9_fittingNow 4 = .ok (.iload_n 2, 1) := by decide +kernel
theorem dX9_fittingNow_5 : decode cX9_fittingNow 5 = .ok (.bipush 11, 2) := by decide +kernel
theorem dX9_fittingNow_7 : decode cX9_fittingNow 7 = .ok (.if_icmp .ge 73, 3) := by decide +kernel
theorem dX9_fittingNow_10 : decode cX9_fittingNow 10 = .ok (.iconst 1, 1) := by decide +kernel
theorem dX9_fittingNow_11 : decode cX9_fittingNow 11 = .ok (.istore_n 3, 1) := by decide +kernel
theorem dX9_fittingNow_12 : decode cX9_fittingNow 12 = .ok (.iconst 0, 1) := by decide +kernel
theorem dX9_fittingNow_13 : decode cX9_fittingNow 13 = .ok (.istore 4, 2) := by decide +kernel
theorem dX9_fittingNow_15 : decode cX9_fittingNow 15 = .ok (.iload 4, 2) := by decide +kernel
theorem dX9_fittingNow_17 : decode cX9_fittingNow 17 = .ok (.aload_n 0, 1) := by decide +kernel
theorem dX9_fittingNow_18 : decode cX9_fittingNow 18 = .ok (.getfield 193, 3) := by decide +kernel
theorem dX9_fittingNow_21 : decode cX9_fittingNow 21 = .ok (.if_icmp .ge 39, 3) := by decide +kernel
theorem dX9_fittingNow_24 : decode cX9_fittingNow 24 = .ok (.iload_n 3, 1) := by decide +kernel
theorem dX9_fittingNow_25 : decode cX9_fittingNow 25 = .ok (.ifCond .eq 27, 3) := by decide +kernel
theorem dX9_fittingNow_28 : decode cX9_fittingNow 28 = .ok (.aload_n 0, 1) := by decide +kernel
theorem dX9_fittingNow_29 : decode cX9_fittingNow 29 = .ok (.getfield 41, 3) := by decide +kernel
theorem dX9_fittingNow_32 : decode cX9_fittingNow 32 = .ok (.iload 4, 2) := by decide +kernel
theorem dX9_fittingNow_34 : decode cX9_fittingNow 34 = .ok (.baload, 1) := by decide +kernel
theorem dX9_fittingNow_35 : decode cX9_fittingNow 35 = .ok (.ifCond .eq 13, 3) := by decide +kernel
theorem dX9_fittingNow_38 : decode cX9_fittingNow 38 = .ok (.aload_n 0, 1) := by decide +kernel
theorem dX9_fittingNow_39 : decode cX9_fittingNow 39 = .ok (.iload_n 2, 1) := by decide +kernel
theorem dX9_fittingNow_40 : decode cX9_fittingNow 40 = .ok (.iload 4, 2) := by decide +kernel
theorem dX9_fittingNow_42 : decode cX9_fittingNow 42 = .ok (.invokevirtual 245, 3) := by decide +kernel
theorem dX9_fittingNow_45 : decode cX9_fittingNow 45 = .ok (.ifCond .eq 7, 3) := by decide +kernel
theorem dX9_fittingNow_48 : decode cX9_fittingNow 48 = .ok (.iconst 1, 1) := by decide +kernel
theorem dX9_fittingNow_49 : decode cX9_fittingNow 49 = .ok (.goto 4, 3) := by decide +kernel
theorem dX9_fittingNow_52 : decode cX9_fittingNow 52 = .ok (.iconst 0, 1) := by decide +kernel
theorem dX9_fittingNow_53 : decode cX9_fittingNow 53 = .ok (.istore_n 3, 1) := by decide +kernel
theorem dX9_fittingNow_54 : decode cX9_fittingNow 54 = .ok (.iinc 4 1, 3) := by decide +kernel
theorem dX9_fittingNow_57 : decode cX9_fittingNow 57 = .ok (.goto (-42), 3) := by decide +kernel
theorem dX9_fittingNow_60 : decode cX9_fittingNow 60 = .ok (.iload_n 1, 1) := by decide +kernel
theorem dX9_fittingNow_61 : decode cX9_fittingNow 61 = .ok (.iload_n 3, 1) := by decide +kernel
theorem dX9_fittingNow_62 : decode cX9_fittingNow 62 = .ok (.ifCond .eq 9, 3) := by decide +kernel
theorem dX9_fittingNow_65 : decode cX9_fittingNow 65 = .ok (.iconst 1, 1) := by decide +kernel
theorem dX9_fittingNow_66 : decode cX9_fittingNow 66 = .ok (.iload_n 2, 1) := by decide +kernel
theorem dX9_fittingNow_67 : decode cX9_fittingNow 67 = .ok (.ishl, 1) := by decide +kernel
theorem dX9_fittingNow_68 : decode cX9_fittingNow 68 = .ok (.goto 4, 3) := by decide +kernel
theorem dX9_fittingNow_71 : decode cX9_fittingNow 71 = .ok (.iconst 0, 1) := by decide +kernel
theorem dX9_fittingNow_72 : decode cX9_fittingNow 72 = .ok (.ior, 1) := by decide +kernel
theorem dX9_fittingNow_73 : decode cX9_fittingNow 73 = .ok (.istore_n 1, 1) := by decide +kernel
theorem dX9_fittingNow_74 : decode cX9_fittingNow 74 = .ok (.iinc 2 1, 3) := by decide +kernel
theorem dX9_fittingNow_77 : decode cX9_fittingNow 77 = .ok (.goto (-73), 3) := by decide +kernel
theorem dX9_fittingNow_80 : decode cX9_fittingNow 80 = .ok (.iload_n 1, 1) := by decide +kernel
theorem dX9_fittingNow_81 : decode cX9_fittingNow 81 = .ok (.ireturn, 1) := by decide +kernel
theorem dX9_fitting_0 : decode cX9_fitting 0 = .ok (.aload_n 0, 1) := by decide +kernel
theorem dX9_fitting_1 : decode cX9_fitting 1 = .ok (.invokevirtual 248, 3) := by decide +kernel
theorem dX9_fitting_4 : decode cX9_fitting 4 = .ok (.ireturn, 1) := by decide +kernel
theorem dX9_ballNumber_0 : decode cX9_ballNumber 0 = .ok (.bipush 9, 2) := by decide +kernel
theorem dX9_ballNumber_2 : decode cX9_ballNumber 2 = .ok (.aload_n 0, 1) := by decide +kernel
theorem dX9_ballNumber_3 : decode cX9_ballNumber 3 = .ok (.getfield 154, 3) := by decide +kernel
theorem dX9_ballNumber_6 : decode cX9_ballNumber 6 = .ok (.imul, 1) := by decide +kernel
theorem dX9_ballNumber_7 : decode cX9_ballNumber 7 = .ok (.iconst 3, 1) := by decide +kernel
theorem dX9_ballNumber_8 : decode cX9_ballNumber 8 = .ok (.aload_n 0, 1) := by decide +kernel
theorem dX9_ballNumber_9 : decode cX9_ballNumber 9 = .ok (.getfield 157, 3) := by decide +kernel
theorem dX9_ballNumber_12 : decode cX9_ballNumber 12 = .ok (.imul, 1) := by decide +kernel
theorem dX9_ballNumber_13 : decode cX9_ballNumber 13 = .ok (.iadd, 1) := by decide +kernel
theorem dX9_ballNumber_14 : decode cX9_ballNumber 14 = .ok (.aload_n 0, 1) := by decide +kernel
theorem dX9_ballNumber_15 : decode cX9_ballNumber 15 = .ok (.getfield 160, 3) := by decide +kernel
theorem dX9_ballNumber_18 : decode cX9_ballNumber 18 = .ok (.iadd, 1) := by decide +kernel
theorem dX9_ballNumber_19 : decode cX9_ballNumber 19 = .ok (.ireturn, 1) := by decide +kernel
theorem dX9_lays_0 : decode cX9_lays 0 = .ok (.aload_n 0, 1) := by decide +kernel
theorem dX9_lays_1 : decode cX9_lays 1 = .ok (.iload_n 1, 1) := by decide +kernel
theorem dX9_lays_2 : decode cX9_lays 2 = .ok (.bipush 9, 2) := by decide +kernel
theorem dX9_lays_4 : decode cX9_lays 4 = .ok (.idiv, 1) := by decide +kernel
theorem dX9_lays_5 : decode cX9_lays 5 = .ok (.iload_n 1, 1) := by decide +kernel
theorem dX9_lays_6 : decode cX9_lays 6 = .ok (.iconst 3, 1) := by decide +kernel
theorem dX9_lays_7 : decode cX9_lays 7 = .ok (.idiv, 1) := by decide +kernel
theorem dX9_lays_8 : decode cX9_lays 8 = .ok (.iconst 3, 1) := by decide +kernel
theorem dX9_lays_9 : decode cX9_lays 9 = .ok (.irem, 1) := by decide +kernel
theorem dX9_lays_10 : decode cX9_lays 10 = .ok (.iload_n 1, 1) := by decide +kernel
theorem dX9_lays_11 : decode cX9_lays 11 = .ok (.iconst 3, 1) := by decide +kernel
theorem dX9_lays_12 : decode cX9_lays 12 = .ok (.irem, 1) := by decide +kernel
theorem dX9_lays_13 : decode cX9_lays 13 = .ok (.invokevirtual 172, 3) := by decide +kernel
theorem dX9_lays_16 : decode cX9_lays 16 = .ok (.aload_n 0, 1) := by decide +kernel
theorem dX9_lays_17 : decode cX9_lays 17 = .ok (.iconst 0, 1) := by decide +kernel
theorem dX9_lays_18 : decode cX9_lays 18 = .ok (.putfield 163, 3) := by decide +kernel
theorem dX9_lays_21 : decode cX9_lays 21 = .ok (.aload_n 0, 1) := by decide +kernel
theorem dX9_lays_22 : decode cX9_lays 22 = .ok (.iconst 0, 1) := by decide +kernel
theorem dX9_lays_23 : decode cX9_lays 23 = .ok (.putfield 166, 3) := by decide +kernel
theorem dX9_lays_26 : decode cX9_lays 26 = .ok (.return_, 1) := by decide +kernel
theorem dX9_takes_0 : decode cX9_takes 0 = .ok (.iconst 0, 1) := by decide +kernel
theorem dX9_takes_1 : decode cX9_takes 1 = .ok (.istore_n 2, 1) := by decide +kernel
theorem dX9_takes_2 : decode cX9_takes 2 = .ok (.iload_n 2, 1) := by decide +kernel
theorem dX9_takes_3 : decode cX9_takes 3 = .ok (.bipush 17, 2) := by decide +kernel
theorem dX9_takes_5 : decode cX9_takes 5 = .ok (.if_icmp .ge 34, 3) := by decide +kernel
theorem dX9_takes_8 : decode cX9_takes 8 = .ok (.aload_n 0, 1) := by decide +kernel
theorem dX9_takes_9 : decode cX9_takes 9 = .ok (.getfield 29, 3) := by decide +kernel
theorem dX9_takes_12 : decode cX9_takes 12 = .ok (.iload_n 2, 1) := by decide +kernel
theorem dX9_takes_13 : decode cX9_takes 13 = .ok (.iload_n 1, 1) := by decide +kernel
theorem dX9_takes_14 : decode cX9_takes 14 = .ok (.ifCond .eq 12, 3) := by decide +kernel
theorem dX9_takes_17 : decode cX9_takes 17 = .ok (.aload_n 0, 1) := by decide +kernel
theorem dX9_takes_18 : decode cX9_takes 18 = .ok (.getfield 47, 3) := by decide +kernel
theorem dX9_takes_21 : decode cX9_takes 21 = .ok (.iload_n 2, 1) := by decide +kernel
theorem dX9_takes_22 : decode cX9_takes 22 = .ok (.iaload, 1) := by decide +kernel
theorem dX9_takes_23 : decode cX9_takes 23 = .ok (.goto 9, 3) := by decide +kernel
theorem dX9_takes_26 : decode cX9_takes 26 = .ok (.aload_n 0, 1) := by decide +kernel
theorem dX9_takes_27 : decode cX9_takes 27 = .ok (.getfield 50, 3) := by decide +kernel
theorem dX9_takes_30 : decode cX9_takes 30 = .ok (.iload_n 2, 1) := by decide +kernel
theorem dX9_takes_31 : decode cX9_takes 31 = .ok (.iaload, 1) := by decide +kernel
theorem dX9_takes_32 : decode cX9_takes 32 = .ok (.iastore, 1) := by decide +kernel
theorem dX9_takes_33 : decode cX9_takes 33 = .ok (.iinc 2 1, 3) := by decide +kernel
theorem dX9_takes_36 : decode cX9_takes 36 = .ok (.goto (-34), 3) := by decide +kernel
theorem dX9_takes_39 : decode cX9_takes 39 = .ok (.return_, 1) := by decide +kernel
theorem dX9_end_0 : decode cX9_end 0 = .ok (.aload_n 0, 1) := by decide +kernel
theorem dX9_end_1 : decode cX9_end 1 = .ok (.iload_n 3, 1) := by decide +kernel
theorem dX9_end_2 : decode cX9_end 2 = .ok (.invokevirtual 251, 3) := by decide +kernel
theorem dX9_end_5 : decode cX9_end 5 = .ok (.aload_n 0, 1) := by decide +kernel
theorem dX9_end_6 : decode cX9_end 6 = .ok (.iload_n 1, 1) := by decide +kernel
theorem dX9_end_7 : decode cX9_end 7 = .ok (.invokevirtual 255, 3) := by decide +kernel
theorem dX9_end_10 : decode cX9_end 10 = .ok (.aload_n 0, 1) := by decide +kernel
theorem dX9_end_11 : decode cX9_end 11 = .ok (.iload_n 2, 1) := by decide +kernel
theorem dX9_end_12 : decode cX9_end 12 = .ok (.iconst (-1), 1) := by decide +kernel
theorem dX9_end_13 : decode cX9_end 13 = .ok (.invokevirtual 220, 3) := by decide +kernel
theorem dX9_end_16 : decode cX9_end 16 = .ok (.istore 4, 2) := by decide +kernel
theorem dX9_end_18 : decode cX9_end 18 = .ok (.iload 4, 2) := by decide +kernel
theorem dX9_end_20 : decode cX9_end 20 = .ok (.ifCond .ne 7, 3) := by decide +kernel
theorem dX9_end_23 : decode cX9_end 23 = .ok (.iconst (-1), 1) := by decide +kernel
theorem dX9_end_24 : decode cX9_end 24 = .ok (.goto 32, 3) := by decide +kernel
theorem dX9_end_27 : decode cX9_end 27 = .ok (.ldc_w 258, 3) := by decide +kernel
theorem dX9_end_30 : decode cX9_end 30 = .ok (.iload 4, 2) := by decide +kernel
theorem dX9_end_32 : decode cX9_end 32 = .ok (.imul, 1) := by decide +kernel
theorem dX9_end_33 : decode cX9_end 33 = .ok (.sipush 10000, 3) := by decide +kernel
theorem dX9_end_36 : decode cX9_end 36 = .ok (.aload_n 0, 1) := by decide +kernel
theorem dX9_end_37 : decode cX9_end 37 = .ok (.getfield 163, 3) := by decide +kernel
theorem dX9_end_40 : decode cX9_end 40 = .ok (.imul, 1) := by decide +kernel
theorem dX9_end_41 : decode cX9_end 41 = .ok (.iadd, 1) := by decide +kernel
theorem dX9_end_42 : decode cX9_end 42 = .ok (.sipush 1000, 3) := by decide +kernel
theorem dX9_end_45 : decode cX9_end 45 = .ok (.aload_n 0, 1) := by decide +kernel
theorem dX9_end_46 : decode cX9_end 46 = .ok (.getfield 166, 3) := by decide +kernel
theorem dX9_end_49 : decode cX9_end 49 = .ok (.imul, 1) := by decide +kernel
theorem dX9_end_50 : decode cX9_end 50 = .ok (.iadd, 1) := by decide +kernel
theorem dX9_end_51 : decode cX9_end 51 = .ok (.aload_n 0, 1) := by decide +kernel
theorem dX9_end_52 : decode cX9_end 52 = .ok (.invokevirtual 259, 3) := by decide +kernel
theorem dX9_end_55 : decode cX9_end 55 = .ok (.iadd, 1) := by decide +kernel
theorem dX9_end_56 : decode cX9_end 56 = .ok (.ireturn, 1) := by decide +kernel
theorem dX9_distances_0 : decode cX9_distances 0 = .ok (.aload_n 0, 1) := by decide +kernel
theorem dX9_distances_1 : decode cX9_distances 1 = .ok (.iload_n 1, 1) := by decide +kernel
theorem dX9_distances_2 : decode cX9_distances 2 = .ok (.iload_n 1, 1) := by decide +kernel
theorem dX9_distances_3 : decode cX9_distances 3 = .ok (.iconst 0, 1) := by decide +kernel
theorem dX9_distances_4 : decode cX9_distances 4 = .ok (.invokevirtual 233, 3) := by decide +kernel
theorem dX9_distances_7 : decode cX9_distances 7 = .ok (.iconst 0, 1) := by decide +kernel
theorem dX9_distances_8 : decode cX9_distances 8 = .ok (.istore_n 3, 1) := by decide +kernel
theorem dX9_distances_9 : decode cX9_distances 9 = .ok (.iload_n 3, 1) := by decide +kernel
theorem dX9_distances_10 : decode cX9_distances 10 = .ok (.bipush 17, 2) := by decide +kernel
theorem dX9_distances_12 : decode cX9_distances 12 = .ok (.if_icmp .ge 33, 3) := by decide +kernel
theorem dX9_distances_15 : decode cX9_distances 15 = .ok (.aload_n 0, 1) := by decide +kernel
theorem dX9_distances_16 : decode cX9_distances 16 = .ok (.getfield 47, 3) := by decide +kernel
theorem dX9_distances_19 : decode cX9_distances 19 = .ok (.iload_n 3, 1) := by decide +kernel
theorem dX9_distances_20 : decode cX9_distances 20 = .ok (.aload_n 0, 1) := by decide +kernel
theorem dX9_distances_21 : decode cX9_distances 21 = .ok (.getfield 29, 3) := by decide +kernel
theorem dX9_distances_24 : decode cX9_distances 24 = .ok (.iload_n 3, 1) := by decide +kernel
theorem dX9_distances_25 : decode cX9_distances 25 = .ok (.iaload, 1) := by decide +kernel
theorem dX9_distances_26 : decode cX9_distances 26 = .ok (.iastore, 1) := by decide +kernel
theorem dX9_distances_27 : decode cX9_distances 27 = .ok (.aload_n 0, 1) := by decide +kernel
theorem dX9_distances_28 : decode cX9_distances 28 = .ok (.getfield 50, 3) := by decide +kernel
theorem dX9_distances_31 : decode cX9_distances 31 = .ok (.iload_n 3, 1) := by decide +kernel
theorem dX9_distances_32 : decode cX9_distances 32 = .ok (.aload_n 0, 1) := by decide +kernel
theorem dX9_distances_33 : decode cX9_distances 33 = .ok (.iload_n 2, 1) := by decide +kernel
theorem dX9_distances_34 : decode cX9_distances 34 = .ok (.iload_n 3, 1) := by decide +kernel
theorem dX9_distances_35 : decode cX9_distances 35 = .ok (.invokevirtual 147, 3) := by decide +kernel
theorem dX9_distances_38 : decode cX9_distances 38 = .ok (.iastore, 1) := by decide +kernel
theorem dX9_distances_39 : decode cX9_distances 39 = .ok (.iinc 3 1, 3) := by decide +kernel
theorem dX9_distances_42 : decode cX9_distances 42 = .ok (.goto (-33), 3) := by decide +kernel
theorem dX9_distances_45 : decode cX9_distances 45 = .ok (.iconst 0, 1) := by decide +kernel
theorem dX9_distances_46 : decode cX9_distances 46 = .ok (.istore_n 3, 1) := by decide +kernel
theorem dX9_distances_47 : decode cX9_distances 47 = .ok (.iload_n 3, 1) := by decide +kernel
theorem dX9_distances_48 : decode cX9_distances 48 = .ok (.bipush 63, 2) := by decide +kernel
theorem dX9_distances_50 : decode cX9_distances 50 = .ok (.if_icmp .ge 17, 3) := by decide +kernel
theorem dX9_distances_53 : decode cX9_distances 53 = .ok (.aload_n 0, 1) := by decide +kernel
theorem dX9_distances_54 : decode cX9_distances 54 = .ok (.getfield 44, 3) := by decide +kernel
theorem dX9_distances_57 : decode cX9_distances 57 = .ok (.iload_n 3, 1) := by decide +kernel
theorem dX9_distances_58 : decode cX9_distances 58 = .ok (.bipush 99, 2) := by decide +kernel
theorem dX9_distances_60 : decode cX9_distances 60 = .ok (.iastore, 1) := by decide +kernel
theorem dX9_distances_61 : decode cX9_distances 61 = .ok (.iinc 3 1, 3) := by decide +kernel
theorem dX9_distances_64 : decode cX9_distances 64 = .ok (.goto (-17), 3) := by decide +kernel
theorem dX9_distances_67 : decode cX9_distances 67 = .ok (.iconst 1, 1) := by decide +kernel
theorem dX9_distances_68 : decode cX9_distances 68 = .ok (.istore_n 3, 1) := by decide +kernel
theorem dX9_distances_69 : decode cX9_distances 69 = .ok (.iload_n 3, 1) := by decide +kernel
theorem dX9_distances_70 : decode cX9_distances 70 = .ok (.bipush 7, 2) := by decide +kernel
theorem dX9_distances_72 : decode cX9_distances 72 = .ok (.if_icmp .ge 105, 3) := by decide +kernel
theorem dX9_distances_75 : decode cX9_distances 75 = .ok (.iconst 0, 1) := by decide +kernel
theorem dX9_distances_76 : decode cX9_distances 76 = .ok (.istore 4, 2) := by decide +kernel
theorem dX9_distances_78 : decode cX9_distances 78 = .ok (.iload 4, 2) := by decide +kernel
theorem dX9_distances_80 : decode cX9_distances 80 = .ok (.bipush 63, 2) := by decide +kernel
theorem dX9_distances_82 : decode cX9_distances 82 = .ok (.if_icmp .ge 89, 3) := by decide +kernel
theorem dX9_distances_85 : decode cX9_distances 85 = .ok (.iconst 0, 1) := by decide +kernel
theorem dX9_distances_86 : decode cX9_distances 86 = .ok (.istore 5, 2) := by decide +kernel
theorem dX9_distances_88 : decode cX9_distances 88 = .ok (.iload 5, 2) := by decide +kernel
theorem dX9_distances_90 : decode cX9_distances 90 = .ok (.bipush 40, 2) := by decide +kernel
theorem dX9_distances_92 : decode cX9_distances 92 = .ok (.if_icmp .ge 73, 3) := by decide +kernel
theorem dX9_distances_95 : decode cX9_distances 95 = .ok (.aload_n 0, 1) := by decide +kernel
theorem dX9_distances_96 : decode cX9_distances 96 = .ok (.getfield 44, 3) := by decide +kernel
theorem dX9_distances_99 : decode cX9_distances 99 = .ok (.iload 4, 2) := by decide +kernel
theorem dX9_distances_101 : decode cX9_distances 101 = .ok (.iaload, 1) := by decide +kernel
theorem dX9_distances_102 : decode cX9_distances 102 = .ok (.bipush 99, 2) := by decide +kernel
theorem dX9_distances_104 : decode cX9_distances 104 = .ok (.if_icmp .ne 61, 3) := by decide +kernel
theorem dX9_distances_107 : decode cX9_distances 107 = .ok (.aload_n 0, 1) := by decide +kernel
theorem dX9_distances_108 : decode cX9_distances 108 = .ok (.getfield 44, 3) := by decide +kernel
theorem dX9_distances_111 : decode cX9_distances 111 = .ok (.iload 4, 2) := by decide +kernel
theorem dX9_distances_113 : decode cX9_distances 113 = .ok (.iload_n 3, 1) := by decide +kernel
theorem dX9_distances_114 : decode cX9_distances 114 = .ok (.iconst 1, 1) := by decide +kernel
theorem dX9_distances_115 : decode cX9_distances 115 = .ok (.if_icmp .ne 23, 3) := by decide +kernel
theorem dX9_distances_118 : decode cX9_distances 118 = .ok (.aload_n 0, 1) := by decide +kernel
theorem dX9_distances_119 : decode cX9_distances 119 = .ok (.iload 4, 2) := by decide +kernel
theorem dX9_distances_121 : decode cX9_distances 121 = .ok (.iload 5, 2) := by decide +kernel
theorem dX9_distances_123 : decode cX9_distances 123 = .ok (.invokevirtual 262, 3) := by decide +kernel
theorem dX9_distances_126 : decode cX9_distances 126 = .ok (.ifCond .eq 7, 3) := by decide +kernel
theorem dX9_distances_129 : decode cX9_distances 129 = .ok (.iconst 1, 1) := by decide +kernel
theorem dX9_distances_130 : decode cX9_distances 130 = .ok (.goto 28, 3) := by decide +kernel
theorem dX9_distances_133 : decode cX9_distances 133 = .ok (.bipush 99, 2) := by decide +kernel
theorem dX9_distances_135 : decode cX9_distances 135 = .ok (.goto 23, 3) := by decide +kernel
theorem dX9_distances_138 : decode cX9_distances 138 = .ok (.aload_n 0, 1) := by decide +kernel
theorem dX9_distances_139 : decode cX9_distances 139 = .ok (.iload 4, 2) := by decide +kernel
theorem dX9_distances_141 : decode cX9_distances 141 = .ok (.iload 5, 2) := by decide +kernel
theorem dX9_distances_143 : decode cX9_distances 143 = .ok (.iload_n 3, 1) := by decide +kernel
theorem dX9_distances_144 : decode cX9_distances 144 = .ok (.iconst 1, 1) := by decide +kernel
theorem dX9_distances_145 : decode cX9_distances 145 = .ok (.isub, 1) := by decide +kernel
theorem dX9_distances_146 : decode cX9_distances 146 = .ok (.invokevirtual 265, 3) := by decide +kernel
theorem dX9_distances_149 : decode cX9_distances 149 = .ok (.ifCond .eq 7, 3) := by decide +kernel
theorem dX9_distances_152 : decode cX9_distances 152 = .ok (.iload_n 3, 1) := by decide +kernel
theorem dX9_distances_153 : decode cX9_distances 153 = .ok (.goto 5, 3) := by decide +kernel
theorem dX9_distances_156 : decode cX9_distances 156 = .ok (.bipush 99, 2) := by decide +kernel
theorem dX9_distances_158 : decode cX9_distances 158 = .ok (.iastore, 1) := by decide +kernel
theorem dX9_distances_159 : decode cX9_distances 159 = .ok (.iinc 5 1, 3) := by decide +kernel
theorem dX9_distances_162 : decode cX9_distances 162 = .ok (.goto (-74), 3) := by decide +kernel
theorem dX9_distances_165 : decode cX9_distances 165 = .ok (.iinc 4 1, 3) := by decide +kernel
theorem dX9_distances_168 : decode cX9_distances 168 = .ok (.goto (-90), 3) := by decide +kernel
theorem dX9_distances_171 : decode cX9_distances 171 = .ok (.iinc 3 1, 3) := by decide +kernel
theorem dX9_distances_174 : decode cX9_distances 174 = .ok (.goto (-105), 3) := by decide +kernel
theorem dX9_distances_177 : decode cX9_distances 177 = .ok (.return_, 1) := by decide +kernel
theorem dX9_doPart_0 : decode cX9_doPart 0 = .ok (.aload_n 0, 1) := by decide +kernel
theorem dX9_doPart_1 : decode cX9_doPart 1 = .ok (.iload_n 1, 1) := by decide +kernel
theorem dX9_doPart_2 : decode cX9_doPart 2 = .ok (.iload_n 2, 1) := by decide +kernel
theorem dX9_doPart_3 : decode cX9_doPart 3 = .ok (.iconst 1, 1) := by decide +kernel
theorem dX9_doPart_4 : decode cX9_doPart 4 = .ok (.invokevirtual 268, 3) := by decide +kernel
theorem dX9_doPart_7 : decode cX9_doPart 7 = .ok (.aload_n 0, 1) := by decide +kernel
theorem dX9_doPart_8 : decode cX9_doPart 8 = .ok (.iload_n 1, 1) := by decide +kernel
theorem dX9_doPart_9 : decode cX9_doPart 9 = .ok (.iload_n 2, 1) := by decide +kernel
theorem dX9_doPart_10 : decode cX9_doPart 10 = .ok (.iconst 0, 1) := by decide +kernel
theorem dX9_doPart_11 : decode cX9_doPart 11 = .ok (.invokevirtual 268, 3) := by decide +kernel
theorem dX9_doPart_14 : decode cX9_doPart 14 = .ok (.if_icmp .eq 7, 3) := by decide +kernel
theorem dX9_doPart_17 : decode cX9_doPart 17 = .ok (.iconst 1, 1) := by decide +kernel
theorem dX9_doPart_18 : decode cX9_doPart 18 = .ok (.goto 4, 3) := by decide +kernel
theorem dX9_doPart_21 : decode cX9_doPart 21 = .ok (.iconst 0, 1) := by decide +kernel
theorem dX9_doPart_22 : decode cX9_doPart 22 = .ok (.ireturn, 1) := by decide +kernel
theorem dX9_goesNear_0 : decode cX9_goesNear 0 = .ok (.aload_n 0, 1) := by decide +kernel
theorem dX9_goesNear_1 : decode cX9_goesNear 1 = .ok (.iload_n 1, 1) := by decide +kernel
theorem dX9_goesNear_2 : decode cX9_goesNear 2 = .ok (.iload_n 2, 1) := by decide +kernel
theorem dX9_goesNear_3 : decode cX9_goesNear 3 = .ok (.iconst 1, 1) := by decide +kernel
theorem dX9_goesNear_4 : decode cX9_goesNear 4 = .ok (.invokevirtual 268, 3) := by decide +kernel
theorem dX9_goesNear_7 : decode cX9_goesNear 7 = .ok (.istore 4, 2) := by decide +kernel
theorem dX9_goesNear_9 : decode cX9_goesNear 9 = .ok (.iload 4, 2) := by decide +kernel
theorem dX9_goesNear_11 : decode cX9_goesNear 11 = .ok (.iconst (-1), 1) := by decide +kernel
theorem dX9_goesNear_12 : decode cX9_goesNear 12 = .ok (.if_icmp .eq 33, 3) := by decide +kernel
theorem dX9_goesNear_15 : decode cX9_goesNear 15 = .ok (.iload 4, 2) := by decide +kernel
theorem dX9_goesNear_17 : decode cX9_goesNear 17 = .ok (.aload_n 0, 1) := by decide +kernel
theorem dX9_goesNear_18 : decode cX9_goesNear 18 = .ok (.iload_n 1, 1) := by decide +kernel
theorem dX9_goesNear_19 : decode cX9_goesNear 19 = .ok (.iload_n 2, 1) := by decide +kernel
theorem dX9_goesNear_20 : decode cX9_goesNear 20 = .ok (.iconst 0, 1) := by decide +kernel
theorem dX9_goesNear_21 : decode cX9_goesNear 21 = .ok (.invokevirtual 268, 3) := by decide +kernel
theorem dX9_goesNear_24 : decode cX9_goesNear 24 = .ok (.if_icmp .ne 21, 3) := by decide +kernel
theorem dX9_goesNear_27 : decode cX9_goesNear 27 = .ok (.aload_n 0, 1) := by decide +kernel
theorem dX9_goesNear_28 : decode cX9_goesNear 28 = .ok (.getfield 44, 3) := by decide +kernel
theorem dX9_goesNear_31 : decode cX9_goesNear 31 = .ok (.iload 4, 2) := by decide +kernel
theorem dX9_goesNear_33 : decode cX9_goesNear 33 = .ok (.bipush 100, 2) := by decide +kernel
theorem dX9_goesNear_35 : decode cX9_goesNear 35 = .ok (.irem, 1) := by decide +kernel
theorem dX9_goesNear_36 : decode cX9_goesNear 36 = .ok (.iaload, 1) := by decide +kernel
theorem dX9_goesNear_37 : decode cX9_goesNear 37 = .ok (.iload_n 3, 1) := by decide +kernel
theorem dX9_goesNear_38 : decode cX9_goesNear 38 = .ok (.if_icmp .ne 7, 3) := by decide +kernel
theorem dX9_goesNear_41 : decode cX9_goesNear 41 = .ok (.iconst 1, 1) := by decide +kernel
theorem dX9_goesNear_42 : decode cX9_goesNear 42 = .ok (.goto 4, 3) := by decide +kernel
theorem dX9_goesNear_45 : decode cX9_goesNear 45 = .ok (.iconst 0, 1) := by decide +kernel
theorem dX9_goesNear_46 : decode cX9_goesNear 46 = .ok (.ireturn, 1) := by decide +kernel
theorem dX9_partsOf_0 : decode cX9_partsOf 0 = .ok (.aload_n 0, 1) := by decide +kernel
theorem dX9_partsOf_1 : decode cX9_partsOf 1 = .ok (.iload_n 1, 1) := by decide +kernel
theorem dX9_partsOf_2 : decode cX9_partsOf 2 = .ok (.iload_n 2, 1) := by decide +kernel
theorem dX9_partsOf_3 : decode cX9_partsOf 3 = .ok (.invokevirtual 272, 3) := by decide +kernel
theorem dX9_partsOf_6 : decode cX9_partsOf 6 = .ok (.aload_n 0, 1) := by decide +kernel
theorem dX9_partsOf_7 : decode cX9_partsOf 7 = .ok (.invokevirtual 205, 3) := by decide +kernel
theorem dX9_partsOf_10 : decode cX9_partsOf 10 = .ok (.aload_n 0, 1) := by decide +kernel
theorem dX9_partsOf_11 : decode cX9_partsOf 11 = .ok (.invokevirtual 259, 3) := by decide +kernel
theorem dX9_partsOf_14 : decode cX9_partsOf 14 = .ok (.istore_n 3, 1) := by decide +kernel
theorem dX9_partsOf_15 : decode cX9_partsOf 15 = .ok (.aload_n 0, 1) := by decide +kernel
theorem dX9_partsOf_16 : decode cX9_partsOf 16 = .ok (.getfield 44, 3) := by decide +kernel
theorem dX9_partsOf_19 : decode cX9_partsOf 19 = .ok (.iload_n 3, 1) := by decide +kernel
theorem dX9_partsOf_20 : decode cX9_partsOf 20 = .ok (.iaload, 1) := by decide +kernel
theorem dX9_partsOf_21 : decode cX9_partsOf 21 = .ok (.istore 4, 2) := by decide +kernel
theorem dX9_partsOf_23 : decode cX9_partsOf 23 = .ok (.iload 4, 2) := by decide +kernel
theorem dX9_partsOf_25 : decode cX9_partsOf 25 = .ok (.bipush 99, 2) := by decide +kernel
theorem dX9_partsOf_27 : decode cX9_partsOf 27 = .ok (.if_icmp .ne 5, 3) := by decide +kernel
theorem dX9_partsOf_30 : decode cX9_partsOf 30 = .ok (.iconst (-1), 1) := by decide +kernel
theorem dX9_partsOf_31 : decode cX9_partsOf 31 = .ok (.ireturn, 1) := by decide +kernel
theorem dX9_partsOf_32 : decode cX9_partsOf 32 = .ok (.iconst 0, 1) := by decide +kernel
theorem dX9_partsOf_33 : decode cX9_partsOf 33 = .ok (.istore 5, 2) := by decide +kernel
theorem dX9_partsOf_35 : decode cX9_partsOf 35 = .ok (.iload 5, 2) := by decide +kernel
theorem dX9_partsOf_37 : decode cX9_partsOf 37 = .ok (.iload 4, 2) := by decide +kernel
theorem dX9_partsOf_39 : decode cX9_partsOf 39 = .ok (.if_icmp .ge 89, 3) := by decide +kernel
theorem dX9_partsOf_42 : decode cX9_partsOf 42 = .ok (.iload 4, 2) := by decide +kernel
theorem dX9_partsOf_44 : decode cX9_partsOf 44 = .ok (.iload 5, 2) := by decide +kernel
theorem dX9_partsOf_46 : decode cX9_partsOf 46 = .ok (.isub, 1) := by decide +kernel
theorem dX9_partsOf_47 : decode cX9_partsOf 47 = .ok (.istore 6, 2) := by decide +kernel
theorem dX9_partsOf_49 : decode cX9_partsOf 49 = .ok (.iconst 0, 1) := by decide +kernel
theorem dX9_partsOf_50 : decode cX9_partsOf 50 = .ok (.istore 7, 2) := by decide +kernel
theorem dX9_partsOf_52 : decode cX9_partsOf 52 = .ok (.iload 6, 2) := by decide +kernel
theorem dX9_partsOf_54 : decode cX9_partsOf 54 = .ok (.iconst 1, 1) := by decide +kernel
theorem dX9_partsOf_55 : decode cX9_partsOf 55 = .ok (.if_icmp .ne 16, 3) := by decide +kernel
theorem dX9_partsOf_58 : decode cX9_partsOf 58 = .ok (.aload_n 0, 1) := by decide +kernel
theorem dX9_partsOf_59 : decode cX9_partsOf 59 = .ok (.iload_n 3, 1) := by decide +kernel
theorem dX9_partsOf_60 : decode cX9_partsOf 60 = .ok (.iload 7, 2) := by decide +kernel
theorem dX9_partsOf_62 : decode cX9_partsOf 62 = .ok (.invokevirtual 262, 3) := by decide +kernel
theorem dX9_partsOf_65 : decode cX9_partsOf 65 = .ok (.ifCond .ne 26, 3) := by decide +kernel
theorem dX9_partsOf_68 : decode cX9_partsOf 68 = .ok (.goto 17, 3) := by decide +kernel
theorem dX9_partsOf_71 : decode cX9_partsOf 71 = .ok (.aload_n 0, 1) := by decide +kernel
theorem dX9_partsOf_72 : decode cX9_partsOf 72 = .ok (.iload_n 3, 1) := by decide +kernel
theorem dX9_partsOf_73 : decode cX9_partsOf 73 = .ok (.iload 7, 2) := by decide +kernel
theorem dX9_partsOf_75 : decode cX9_partsOf 75 = .ok (.iload 6, 2) := by decide +kernel
theorem dX9_partsOf_77 : decode cX9_partsOf 77 = .ok (.iconst 1, 1) := by decide +kernel
theorem dX9_partsOf_78 : decode cX9_partsOf 78 = .ok (.isub, 1) := by decide +kernel
theorem dX9_partsOf_79 : decode cX9_partsOf 79 = .ok (.invokevirtual 265, 3) := by decide +kernel
theorem dX9_partsOf_82 : decode cX9_partsOf 82 = .ok (.ifCond .ne 9, 3) := by decide +kernel
theorem dX9_partsOf_85 : decode cX9_partsOf 85 = .ok (.iinc 7 1, 3) := by decide +kernel
theorem dX9_partsOf_88 : decode cX9_partsOf 88 = .ok (.goto (-36), 3) := by decide +kernel
theorem dX9_partsOf_91 : decode cX9_partsOf 91 = .ok (.aload_n 0, 1) := by decide +kernel
theorem dX9_partsOf_92 : decode cX9_partsOf 92 = .ok (.getfield 53, 3) := by decide +kernel
theorem dX9_partsOf_95 : decode cX9_partsOf 95 = .ok (.iload 5, 2) := by decide +kernel
theorem dX9_partsOf_97 : decode cX9_partsOf 97 = .ok (.iload 7, 2) := by decide +kernel
theorem dX9_partsOf_99 : decode cX9_partsOf 99 = .ok (.iastore, 1) := by decide +kernel
theorem dX9_partsOf_100 : decode cX9_partsOf 100 = .ok (.iload 6, 2) := by decide +kernel
theorem dX9_partsOf_102 : decode cX9_partsOf 102 = .ok (.iconst 1, 1) := by decide +kernel
theorem dX9_partsOf_103 : decode cX9_partsOf 103 = .ok (.if_icmp .ne 7, 3) := by decide +kernel
theorem dX9_partsOf_106 : decode cX9_partsOf 106 = .ok (.iload_n 3, 1) := by decide +kernel
theorem dX9_partsOf_107 : decode cX9_partsOf 107 = .ok (.goto 14, 3) := by decide +kernel
theorem dX9_partsOf_110 : decode cX9_partsOf 110 = .ok (.aload_n 0, 1) := by decide +kernel
theorem dX9_partsOf_111 : decode cX9_partsOf 111 = .ok (.iload_n 3, 1) := by decide +kernel
theorem dX9_partsOf_112 : decode cX9_partsOf 112 = .ok (.iload 7, 2) := by decide +kernel
theorem dX9_partsOf_114 : decode cX9_partsOf 114 = .ok (.iconst 1, 1) := by decide +kernel
theorem dX9_partsOf_115 : decode cX9_partsOf 115 = .ok (.invokevirtual 268, 3) := by decide +kernel
theorem dX9_partsOf_118 : decode cX9_partsOf 118 = .ok (.bipush 100, 2) := by decide +kernel
theorem dX9_partsOf_120 : decode cX9_partsOf 120 = .ok (.irem, 1) := by decide +kernel
theorem dX9_partsOf_121 : decode cX9_partsOf 121 = .ok (.istore_n 3, 1) := by decide +kernel
theorem dX9_partsOf_122 : decode cX9_partsOf 122 = .ok (.iinc 5 1, 3) := by decide +kernel
theorem dX9_partsOf_125 : decode cX9_partsOf 125 = .ok (.goto (-90), 3) := by decide +kernel
theorem dX9_partsOf_128 : decode cX9_partsOf 128 = .ok (.iload 4, 2) := by decide +kernel
theorem dX9_partsOf_130 : decode cX9_partsOf 130 = .ok (.ireturn, 1) := by decide +kernel
theorem dX9_parts_0 : decode cX9_parts 0 = .ok (.iload_n 1, 1) := by decide +kernel
theorem dX9_parts_1 : decode cX9_parts 1 = .ok (.invokestatic 110, 3) := by decide +kernel
theorem dX9_parts_4 : decode cX9_parts 4 = .ok (.ifCond .eq 19, 3) := by decide +kernel
theorem dX9_parts_7 : decode cX9_parts 7 = .ok (.iload_n 2, 1) := by decide +kernel
theorem dX9_parts_8 : decode cX9_parts 8 = .ok (.invokestatic 110, 3) := by decide +kernel
theorem dX9_parts_11 : decode cX9_parts 11 = .ok (.ifCond .eq 12, 3) := by decide +kernel
theorem dX9_parts_14 : decode cX9_parts 14 = .ok (.aload_n 0, 1) := by decide +kernel
theorem dX9_parts_15 : decode cX9_parts 15 = .ok (.iload_n 1, 1) := by decide +kernel
theorem dX9_parts_16 : decode cX9_parts 16 = .ok (.iload_n 2, 1) := by decide +kernel
theorem dX9_parts_17 : decode cX9_parts 17 = .ok (.invokevirtual 275, 3) := by decide +kernel
theorem dX9_parts_20 : decode cX9_parts 20 = .ok (.goto 5, 3) := by decide +kernel
theorem dX9_parts_23 : decode cX9_parts 23 = .ok (.bipush (-2), 2) := by decide +kernel
theorem dX9_parts_25 : decode cX9_parts 25 = .ok (.ireturn, 1) := by decide +kernel
theorem dX9_parting_0 : decode cX9_parting 0 = .ok (.iload_n 1, 1) := by decide +kernel
theorem dX9_parting_1 : decode cX9_parting 1 = .ok (.invokestatic 110, 3) := by decide +kernel
theorem dX9_parting_4 : decode cX9_parting 4 = .ok (.ifCond .eq 14, 3) := by decide +kernel
theorem dX9_parting_7 : decode cX9_parting 7 = .ok (.iload_n 2, 1) := by decide +kernel
theorem dX9_parting_8 : decode cX9_parting 8 = .ok (.invokestatic 110, 3) := by decide +kernel
theorem dX9_parting_11 : decode cX9_parting 11 = .ok (.ifCond .eq 7, 3) := by decide +kernel
theorem dX9_parting_14 : decode cX9_parting 14 = .ok (.iload_n 3, 1) := by decide +kernel
theorem dX9_parting_15 : decode cX9_parting 15 = .ok (.ifCond .ge 6, 3) := by decide +kernel
theorem dX9_parting_18 : decode cX9_parting 18 = .ok (.bipush (-2), 2) := by decide +kernel
theorem dX9_parting_20 : decode cX9_parting 20 = .ok (.ireturn, 1) := by decide +kernel
theorem dX9_parting_21 : decode cX9_parting 21 = .ok (.aload_n 0, 1) := by decide +kernel
theorem dX9_parting_22 : decode cX9_parting 22 = .ok (.iload_n 1, 1) := by decide +kernel
theorem dX9_parting_23 : decode cX9_parting 23 = .ok (.iload_n 2, 1) := by decide +kernel
theorem dX9_parting_24 : decode cX9_parting 24 = .ok (.invokevirtual 275, 3) := by decide +kernel
theorem dX9_parting_27 : decode cX9_parting 27 = .ok (.istore 4, 2) := by decide +kernel
theorem dX9_parting_29 : decode cX9_parting 29 = .ok (.iload_n 3, 1) := by decide +kernel
theorem dX9_parting_30 : decode cX9_parting 30 = .ok (.iload 4, 2) := by decide +kernel
theorem dX9_parting_32 : decode cX9_parting 32 = .ok (.if_icmp .ge 12, 3) := by decide +kernel
theorem dX9_parting_35 : decode cX9_parting 35 = .ok (.aload_n 0, 1) := by decide +kernel
theorem dX9_parting_36 : decode cX9_parting 36 = .ok (.getfield 53, 3) := by decide +kernel
theorem dX9_parting_39 : decode cX9_parting 39 = .ok (.iload_n 3, 1) := by decide +kernel
theorem dX9_parting_40 : decode cX9_parting 40 = .ok (.iaload, 1) := by decide +kernel
theorem dX9_parting_41 : decode cX9_parting 41 = .ok (.goto 4, 3) := by decide +kernel
theorem dX9_parting_44 : decode cX9_parting 44 = .ok (.iconst (-1), 1) := by decide +kernel
theorem dX9_parting_45 : decode cX9_parting 45 = .ok (.ireturn, 1) := by decide +kernel
theorem dX9_fewest_0 : decode cX9_fewest 0 = .ok (.iload_n 1, 1) := by decide +kernel
theorem dX9_fewest_1 : decode cX9_fewest 1 = .ok (.invokestatic 110, 3) := by decide +kernel
theorem dX9_fewest_4 : decode cX9_fewest 4 = .ok (.ifCond .eq 12, 3) := by decide +kernel
theorem dX9_fewest_7 : decode cX9_fewest 7 = .ok (.iload_n 2, 1) := by decide +kernel
theorem dX9_fewest_8 : decode cX9_fewest 8 = .ok (.iconst 0, 1) := by decide +kernel
theorem dX9_fewest_9 : decode cX9_fewest 9 = .ok (.iconst 1, 1) := by decide +kernel
theorem dX9_fewest_10 : decode cX9_fewest 10 = .ok (.invokestatic 106, 3) := by decide +kernel
theorem dX9_fewest_13 : decode cX9_fewest 13 = .ok (.ifCond .ne 6, 3) := by decide +kernel
theorem dX9_fewest_16 : decode cX9_fewest 16 = .ok (.bipush (-2), 2) := by decide +kernel
theorem dX9_fewest_18 : decode cX9_fewest 18 = .ok (.ireturn, 1) := by decide +kernel
theorem dX9_fewest_19 : decode cX9_fewest 19 = .ok (.aload_n 0, 1) := by decide +kernel
theorem dX9_fewest_20 : decode cX9_fewest 20 = .ok (.iload_n 1, 1) := by decide +kernel
theorem dX9_fewest_21 : decode cX9_fewest 21 = .ok (.iload_n 1, 1) := by decide +kernel
theorem dX9_fewest_22 : decode cX9_fewest 22 = .ok (.iconst 0, 1) := by decide +kernel
theorem dX9_fewest_23 : decode cX9_fewest 23 = .ok (.invokevirtual 233, 3) := by decide +kernel
theorem dX9_fewest_26 : decode cX9_fewest 26 = .ok (.iconst 0, 1) := by decide +kernel
theorem dX9_fewest_27 : decode cX9_fewest 27 = .ok (.istore_n 3, 1) := by decide +kernel
theorem dX9_fewest_28 : decode cX9_fewest 28 = .ok (.iload_n 3, 1) := by decide +kernel
theorem dX9_fewest_29 : decode cX9_fewest 29 = .ok (.bipush 63, 2) := by decide +kernel
theorem dX9_fewest_31 : decode cX9_fewest 31 = .ok (.if_icmp .ge 17, 3) := by decide +kernel
theorem dX9_fewest_34 : decode cX9_fewest 34 = .ok (.aload_n 0, 1) := by decide +kernel
theorem dX9_fewest_35 : decode cX9_fewest 35 = .ok (.getfield 44, 3) := by decide +kernel
theorem dX9_fewest_38 : decode cX9_fewest 38 = .ok (.iload_n 3, 1) := by decide +kernel
theorem dX9_fewest_39 : decode cX9_fewest 39 = .ok (.bipush 99, 2) := by decide +kernel
theorem dX9_fewest_41 : decode cX9_fewest 41 = .ok (.iastore, 1) := by decide +kernel
theorem dX9_fewest_42 : decode cX9_fewest 42 = .ok (.iinc 3 1, 3) := by decide +kernel
theorem dX9_fewest_45 : decode cX9_fewest 45 = .ok (.goto (-17), 3) := by decide +kernel
theorem dX9_fewest_48 : decode cX9_fewest 48 = .ok (.aload_n 0, 1) := by decide +kernel
theorem dX9_fewest_49 : decode cX9_fewest 49 = .ok (.invokevirtual 205, 3) := by decide +kernel
theorem dX9_fewest_52 : decode cX9_fewest 52 = .ok (.aload_n 0, 1) := by decide +kernel
theorem dX9_fewest_53 : decode cX9_fewest 53 = .ok (.getfield 44, 3) := by decide +kernel
theorem dX9_fewest_56 : decode cX9_fewest 56 = .ok (.aload_n 0, 1) := by decide +kernel
theorem dX9_fewest_57 : decode cX9_fewest 57 = .ok (.invokevirtual 259, 3) := by decide +kernel
theorem dX9_fewest_60 : decode cX9_fewest 60 = .ok (.iconst 0, 1) := by decide +kernel
theorem dX9_fewest_61 : decode cX9_fewest 61 = .ok (.iastore, 1) := by decide +kernel
theorem dX9_fewest_62 : decode cX9_fewest 62 = .ok (.iconst 0, 1) := by decide +kernel
theorem dX9_fewest_63 : decode cX9_fewest 63 = .ok (.istore_n 3, 1) := by decide +kernel
theorem dX9_fewest_64 : decode cX9_fewest 64 = .ok (.iload_n 3, 1) := by decide +kernel
theorem dX9_fewest_65 : decode cX9_fewest 65 = .ok (.bipush 20, 2) := by decide +kernel
theorem dX9_fewest_67 : decode cX9_fewest 67 = .ok (.if_icmp .ge 127, 3) := by decide +kernel
theorem dX9_fewest_70 : decode cX9_fewest 70 = .ok (.iconst 0, 1) := by decide +kernel
theorem dX9_fewest_71 : decode cX9_fewest 71 = .ok (.istore 4, 2) := by decide +kernel
theorem dX9_fewest_73 : decode cX9_fewest 73 = .ok (.iload 4, 2) := by decide +kernel
theorem dX9_fewest_75 : decode cX9_fewest 75 = .ok (.bipush 63, 2) := by decide +kernel
theorem dX9_fewest_77 : decode cX9_fewest 77 = .ok (.if_icmp .ge 111, 3) := by decide +kernel
theorem dX9_fewest_80 : decode cX9_fewest 80 = .ok (.iconst 0, 1) := by decide +kernel
theorem dX9_fewest_81 : decode cX9_fewest 81 = .ok (.istore 5, 2) := by decide +kernel
theorem dX9_fewest_83 : decode cX9_fewest 83 = .ok (.iload 5, 2) := by decide +kernel
theorem dX9_fewest_85 : decode cX9_fewest 85 = .ok (.bipush 40, 2) := by decide +kernel
theorem dX9_fewest_87 : decode cX9_fewest 87 = .ok (.if_icmp .ge 95, 3) := by decide +kernel
theorem dX9_fewest_90 : decode cX9_fewest 90 = .ok (.aload_n 0, 1) := by decide +kernel
theorem dX9_fewest_91 : decode cX9_fewest 91 = .ok (.getfield 44, 3) := by decide +kernel
theorem dX9_fewest_94 : decode cX9_fewest 94 = .ok (.iload 4, 2) := by decide +kernel
theorem dX9_fewest_96 : decode cX9_fewest 96 = .ok (.iaload, 1) := by decide +kernel
theorem dX9_fewest_97 : decode cX9_fewest 97 = .ok (.iload_n 3, 1) := by decide +kernel
theorem dX9_fewest_98 : decode cX9_fewest 98 = .ok (.if_icmp .ne 84, 3) := by decide +kernel
theorem dX9_fewest_101 : decode cX9_fewest 101 = .ok (.aload_n 0, 1) := by decide +kernel
theorem dX9_fewest_102 : decode cX9_fewest 102 = .ok (.iload 4, 2) := by decide +kernel
theorem dX9_fewest_104 : decode cX9_fewest 104 = .ok (.invokevirtual 255, 3) := by decide +kernel
theorem dX9_fewest_107 : decode cX9_fewest 107 = .ok (.aload_n 0, 1) := by decide +kernel
theorem dX9_fewest_108 : decode cX9_fewest 108 = .ok (.iload 5, 2) := by decide +kernel
theorem dX9_fewest_110 : decode cX9_fewest 110 = .ok (.iconst (-1), 1) := by decide +kernel
theorem dX9_fewest_111 : decode cX9_fewest 111 = .ok (.invokevirtual 220, 3) := by decide +kernel
theorem dX9_fewest_114 : decode cX9_fewest 114 = .ok (.istore 6, 2) := by decide +kernel
theorem dX9_fewest_116 : decode cX9_fewest 116 = .ok (.iload_n 2, 1) := by decide +kernel
theorem dX9_fewest_117 : decode cX9_fewest 117 = .ok (.ifCond .ne 10, 3) := by decide +kernel
theorem dX9_fewest_120 : decode cX9_fewest 120 = .ok (.aload_n 0, 1) := by decide +kernel
theorem dX9_fewest_121 : decode cX9_fewest 121 = .ok (.getfield 163, 3) := by decide +kernel
theorem dX9_fewest_124 : decode cX9_fewest 124 = .ok (.goto 7, 3) := by decide +kernel
theorem dX9_fewest_127 : decode cX9_fewest 127 = .ok (.aload_n 0, 1) := by decide +kernel
theorem dX9_fewest_128 : decode cX9_fewest 128 = .ok (.getfield 166, 3) := by decide +kernel
theorem dX9_fewest_131 : decode cX9_fewest 131 = .ok (.ifCond .le 7, 3) := by decide +kernel
theorem dX9_fewest_134 : decode cX9_fewest 134 = .ok (.iload_n 3, 1) := by decide +kernel
theorem dX9_fewest_135 : decode cX9_fewest 135 = .ok (.iconst 1, 1) := by decide +kernel
theorem dX9_fewest_136 : decode cX9_fewest 136 = .ok (.iadd, 1) := by decide +kernel
theorem dX9_fewest_137 : decode cX9_fewest 137 = .ok (.ireturn, 1) := by decide +kernel
theorem dX9_fewest_138 : decode cX9_fewest 138 = .ok (.aload_n 0, 1) := by decide +kernel
theorem dX9_fewest_139 : decode cX9_fewest 139 = .ok (.invokevirtual 259, 3) := by decide +kernel
theorem dX9_fewest_142 : decode cX9_fewest 142 = .ok (.istore 7, 2) := by decide +kernel
theorem dX9_fewest_144 : decode cX9_fewest 144 = .ok (.aload_n 0, 1) := by decide +kernel
theorem dX9_fewest_145 : decode cX9_fewest 145 = .ok (.getfield 44, 3) := by decide +kernel
theorem dX9_fewest_148 : decode cX9_fewest 148 = .ok (.iload 7, 2) := by decide +kernel
theorem dX9_fewest_150 : decode cX9_fewest 150 = .ok (.aload_n 0, 1) := by decide +kernel
theorem dX9_fewest_151 : decode cX9_fewest 151 = .ok (.getfield 44, 3) := by decide +kernel
theorem dX9_fewest_154 : decode cX9_fewest 154 = .ok (.iload 7, 2) := by decide +kernel
theorem dX9_fewest_156 : decode cX9_fewest 156 = .ok (.iaload, 1) := by decide +kernel
theorem dX9_fewest_157 : decode cX9_fewest 157 = .ok (.bipush 99, 2) := by decide +kernel
theorem dX9_fewest_159 : decode cX9_fewest 159 = .ok (.if_icmp .ne 9, 3) := by decide +kernel
theorem dX9_fewest_162 : decode cX9_fewest 162 = .ok (.iload_n 3, 1) := by decide +kernel
theorem dX9_fewest_163 : decode cX9_fewest 163 = .ok (.iconst 1, 1) := by decide +kernel
theorem dX9_fewest_164 : decode cX9_fewest 164 = .ok (.iadd, 1) := by decide +kernel
theorem dX9_fewest_165 : decode cX9_fewest 165 = .ok (.goto 10, 3) := by decide +kernel
theorem dX9_fewest_168 : decode cX9_fewest 168 = .ok (.aload_n 0, 1) := by decide +kernel
theorem dX9_fewest_169 : decode cX9_fewest 169 = .ok (.getfield 44, 3) := by decide +kernel
theorem dX9_fewest_172 : decode cX9_fewest 172 = .ok (.iload 7, 2) := by decide +kernel
theorem dX9_fewest_174 : decode cX9_fewest 174 = .ok (.iaload, 1) := by decide +kernel
theorem dX9_fewest_175 : decode cX9_fewest 175 = .ok (.iastore, 1) := by decide +kernel
theorem dX9_fewest_176 : decode cX9_fewest 176 = .ok (.iinc 5 1, 3) := by decide +kernel
theorem dX9_fewest_179 : decode cX9_fewest 179 = .ok (.goto (-96), 3) := by decide +kernel
theorem dX9_fewest_182 : decode cX9_fewest 182 = .ok (.iinc 4 1, 3) := by decide +kernel
theorem dX9_fewest_185 : decode cX9_fewest 185 = .ok (.goto (-112), 3) := by decide +kernel
theorem dX9_fewest_188 : decode cX9_fewest 188 = .ok (.iinc 3 1, 3) := by decide +kernel
theorem dX9_fewest_191 : decode cX9_fewest 191 = .ok (.goto (-127), 3) := by decide +kernel
theorem dX9_fewest_194 : decode cX9_fewest 194 = .ok (.iconst (-1), 1) := by decide +kernel
theorem dX9_fewest_195 : decode cX9_fewest 195 = .ok (.ireturn, 1) := by decide +kernel
theorem dX9_isClub_0 : decode cX9_isClub 0 = .ok (.iload_n 1, 1) := by decide +kernel
theorem dX9_isClub_1 : decode cX9_isClub 1 = .ok (.iconst 0, 1) := by decide +kernel
theorem dX9_isClub_2 : decode cX9_isClub 2 = .ok (.aload_n 0, 1) := by decide +kernel
theorem dX9_isClub_3 : decode cX9_isClub 3 = .ok (.getfield 278, 3) := by decide +kernel
theorem dX9_isClub_6 : decode cX9_isClub 6 = .ok (.iconst 1, 1) := by decide +kernel
theorem dX9_isClub_7 : decode cX9_isClub 7 = .ok (.isub, 1) := by decide +kernel
theorem dX9_isClub_8 : decode cX9_isClub 8 = .ok (.invokestatic 106, 3) := by decide +kernel
theorem dX9_isClub_11 : decode cX9_isClub 11 = .ok (.ireturn, 1) := by decide +kernel
theorem dX9_club_0 : decode cX9_club 0 = .ok (.iload_n 1, 1) := by decide +kernel
theorem dX9_club_1 : decode cX9_club 1 = .ok (.invokestatic 110, 3) := by decide +kernel
theorem dX9_club_4 : decode cX9_club 4 = .ok (.ifCond .eq 13, 3) := by decide +kernel
theorem dX9_club_7 : decode cX9_club 7 = .ok (.iload_n 2, 1) := by decide +kernel
theorem dX9_club_8 : decode cX9_club 8 = .ok (.iconst 0, 1) := by decide +kernel
theorem dX9_club_9 : decode cX9_club 9 = .ok (.ldc 232, 2) := by decide +kernel
theorem dX9_club_11 : decode cX9_club 11 = .ok (.invokestatic 106, 3) := by decide +kernel
theorem dX9_club_14 : decode cX9_club 14 = .ok (.ifCond .ne 6, 3) := by decide +kernel
theorem dX9_club_17 : decode cX9_club 17 = .ok (.bipush (-2), 2) := by decide +kernel
theorem dX9_club_19 : decode cX9_club 19 = .ok (.ireturn, 1) := by decide +kernel
theorem dX9_club_20 : decode cX9_club 20 = .ok (.aload_n 0, 1) := by decide +kernel
theorem dX9_club_21 : decode cX9_club 21 = .ok (.getfield 278, 3) := by decide +kernel
theorem dX9_club_24 : decode cX9_club 24 = .ok (.bipush 12, 2) := by decide +kernel
theorem dX9_club_26 : decode cX9_club 26 = .ok (.if_icmp .ne 6, 3) := by decide +kernel
theorem dX9_club_29 : decode cX9_club 29 = .ok (.bipush (-4), 2) := by decide +kernel
theorem dX9_club_31 : decode cX9_club 31 = .ok (.ireturn, 1) := by decide +kernel
theorem dX9_club_32 : decode cX9_club 32 = .ok (.aload_n 0, 1) := by decide +kernel
theorem dX9_club_33 : decode cX9_club 33 = .ok (.getfield 56, 3) := by decide +kernel
theorem dX9_club_36 : decode cX9_club 36 = .ok (.aload_n 0, 1) := by decide +kernel
theorem dX9_club_37 : decode cX9_club 37 = .ok (.getfield 278, 3) := by decide +kernel
theorem dX9_club_40 : decode cX9_club 40 = .ok (.iload_n 1, 1) := by decide +kernel
theorem dX9_club_41 : decode cX9_club 41 = .ok (.iastore, 1) := by decide +kernel
theorem dX9_club_42 : decode cX9_club 42 = .ok (.aload_n 0, 1) := by decide +kernel
theorem dX9_club_43 : decode cX9_club 43 = .ok (.getfield 59, 3) := by decide +kernel
theorem dX9_club_46 : decode cX9_club 46 = .ok (.aload_n 0, 1) := by decide +kernel
theorem dX9_club_47 : decode cX9_club 47 = .ok (.getfield 278, 3) := by decide +kernel
theorem dX9_club_50 : decode cX9_club 50 = .ok (.iload_n 2, 1) := by decide +kernel
theorem dX9_club_51 : decode cX9_club 51 = .ok (.iastore, 1) := by decide +kernel
theorem dX9_club_52 : decode cX9_club 52 = .ok (.aload_n 0, 1) := by decide +kernel
theorem dX9_club_53 : decode cX9_club 53 = .ok (.dup, 1) := by decide +kernel
theorem dX9_club_54 : decode cX9_club 54 = .ok (.getfield 278, 3) := by decide +kernel
theorem dX9_club_57 : decode cX9_club 57 = .ok (.iconst 1, 1) := by decide +kernel
theorem dX9_club_58 : decode cX9_club 58 = .ok (.iadd, 1) := by decide +kernel
theorem dX9_club_59 : decode cX9_club 59 = .ok (.putfield 278, 3) := by decide +kernel
theorem dX9_club_62 : decode cX9_club 62 = .ok (.aload_n 0, 1) := by decide +kernel
theorem dX9_club_63 : decode cX9_club 63 = .ok (.getfield 278, 3) := by decide +kernel
theorem dX9_club_66 : decode cX9_club 66 = .ok (.iconst 1, 1) := by decide +kernel
theorem dX9_club_67 : decode cX9_club 67 = .ok (.isub, 1) := by decide +kernel
theorem dX9_club_68 : decode cX9_club 68 = .ok (.ireturn, 1) := by decide +kernel
theorem dX9_change_0 : decode cX9_change 0 = .ok (.aload_n 0, 1) := by decide +kernel
theorem dX9_change_1 : decode cX9_change 1 = .ok (.iload_n 1, 1) := by decide +kernel
theorem dX9_change_2 : decode cX9_change 2 = .ok (.invokevirtual 281, 3) := by decide +kernel
theorem dX9_change_5 : decode cX9_change 5 = .ok (.ifCond .eq 31, 3) := by decide +kernel
theorem dX9_change_8 : decode cX9_change 8 = .ok (.iload_n 2, 1) := by decide +kernel
theorem dX9_change_9 : decode cX9_change 9 = .ok (.iconst 0, 1) := by decide +kernel
theorem dX9_change_10 : decode cX9_change 10 = .ok (.iconst 1, 1) := by decide +kernel
theorem dX9_change_11 : decode cX9_change 11 = .ok (.invokestatic 106, 3) := by decide +kernel
theorem dX9_change_14 : decode cX9_change 14 = .ok (.ifCond .eq 22, 3) := by decide +kernel
theorem dX9_change_17 : decode cX9_change 17 = .ok (.iload_n 3, 1) := by decide +kernel
theorem dX9_change_18 : decode cX9_change 18 = .ok (.iconst 0, 1) := by decide +kernel
theorem dX9_change_19 : decode cX9_change 19 = .ok (.iload_n 2, 1) := by decide +kernel
theorem dX9_change_20 : decode cX9_change 20 = .ok (.ifCond .ne 8, 3) := by decide +kernel
theorem dX9_change_23 : decode cX9_change 23 = .ok (.bipush 10, 2) := by decide +kernel
theorem dX9_change_25 : decode cX9_change 25 = .ok (.goto 5, 3) := by decide +kernel
theorem dX9_change_28 : decode cX9_change 28 = .ok (.ldc 232, 2) := by decide +kernel
theorem dX9_change_30 : decode cX9_change 30 = .ok (.invokestatic 106, 3) := by decide +kernel
theorem dX9_change_33 : decode cX9_change 33 = .ok (.ifCond .ne 6, 3) := by decide +kernel
theorem dX9_change_36 : decode cX9_change 36 = .ok (.bipush (-2), 2) := by decide +kernel
theorem dX9_change_38 : decode cX9_change 38 = .ok (.ireturn, 1) := by decide +kernel
theorem dX9_change_39 : decode cX9_change 39 = .ok (.iload_n 2, 1) := by decide +kernel
theorem dX9_change_40 : decode cX9_change 40 = .ok (.ifCond .ne 12, 3) := by decide +kernel
theorem dX9_change_43 : decode cX9_change 43 = .ok (.aload_n 0, 1) := by decide +kernel
theorem dX9_change_44 : decode cX9_change 44 = .ok (.getfield 56, 3) := by decide +kernel
theorem dX9_change_47 : decode cX9_change 47 = .ok (.iload_n 1, 1) := by decide +kernel
theorem dX9_change_48 : decode cX9_change 48 = .ok (.iaload, 1) := by decide +kernel
theorem dX9_change_49 : decode cX9_change 49 = .ok (.goto 9, 3) := by decide +kernel
theorem dX9_change_52 : decode cX9_change 52 = .ok (.aload_n 0, 1) := by decide +kernel
theorem dX9_change_53 : decode cX9_change 53 = .ok (.getfield 59, 3) := by decide +kernel
theorem dX9_change_56 : decode cX9_change 56 = .ok (.iload_n 1, 1) := by decide +kernel
theorem dX9_change_57 : decode cX9_change 57 = .ok (.iaload, 1) := by decide +kernel
theorem dX9_change_58 : decode cX9_change 58 = .ok (.istore 4, 2) := by decide +kernel
theorem dX9_change_60 : decode cX9_change 60 = .ok (.aload_n 0, 1) := by decide +kernel
theorem dX9_change_61 : decode cX9_change 61 = .ok (.getfield 56, 3) := by decide +kernel
theorem dX9_change_64 : decode cX9_change 64 = .ok (.iload_n 1, 1) := by decide +kernel
theorem dX9_change_65 : decode cX9_change 65 = .ok (.iload_n 2, 1) := by decide +kernel
theorem dX9_change_66 : decode cX9_change 66 = .ok (.ifCond .ne 7, 3) := by decide +kernel
theorem dX9_change_69 : decode cX9_change 69 = .ok (.iload_n 3, 1) := by decide +kernel
theorem dX9_change_70 : decode cX9_change 70 = .ok (.goto 9, 3) := by decide +kernel
theorem dX9_change_73 : decode cX9_change 73 = .ok (.aload_n 0, 1) := by decide +kernel
theorem dX9_change_74 : decode cX9_change 74 = .ok (.getfield 56, 3) := by decide +kernel
theorem dX9_change_77 : decode cX9_change 77 = .ok (.iload_n 1, 1) := by decide +kernel
theorem dX9_change_78 : decode cX9_change 78 = .ok (.iaload, 1) := by decide +kernel
theorem dX9_change_79 : decode cX9_change 79 = .ok (.iastore, 1) := by decide +kernel
theorem dX9_change_80 : decode cX9_change 80 = .ok (.aload_n 0, 1) := by decide +kernel
theorem dX9_change_81 : decode cX9_change 81 = .ok (.getfield 59, 3) := by decide +kernel
theorem dX9_change_84 : decode cX9_change 84 = .ok (.iload_n 1, 1) := by decide +kernel
theorem dX9_change_85 : decode cX9_change 85 = .ok (.iload_n 2, 1) := by decide +kernel
theorem dX9_change_86 : decode cX9_change 86 = .ok (.iconst 1, 1) := by decide +kernel
theorem dX9_change_87 : decode cX9_change 87 = .ok (.if_icmp .ne 7, 3) := by decide +kernel
theorem dX9_change_90 : decode cX9_change 90 = .ok (.iload_n 3, 1) := by decide +kernel
theorem dX9_change_91 : decode cX9_change 91 = .ok (.goto 9, 3) := by decide +kernel
theorem dX9_change_94 : decode cX9_change 94 = .ok (.aload_n 0, 1) := by decide +kernel
theorem dX9_change_95 : decode cX9_change 95 = .ok (.getfield 59, 3) := by decide +kernel
theorem dX9_change_98 : decode cX9_change 98 = .ok (.iload_n 1, 1) := by decide +kernel
theorem dX9_change_99 : decode cX9_change 99 = .ok (.iaload, 1) := by decide +kernel
theorem dX9_change_100 : decode cX9_change 100 = .ok (.iastore, 1) := by decide +kernel
theorem dX9_change_101 : decode cX9_change 101 = .ok (.iload 4, 2) := by decide +kernel
theorem dX9_change_103 : decode cX9_change 103 = .ok (.ireturn, 1) := by decide +kernel
theorem dX9_areTwo_0 : decode cX9_areTwo 0 = .ok (.aload_n 0, 1) := by decide +kernel
theorem dX9_areTwo_1 : decode cX9_areTwo 1 = .ok (.iload_n 1, 1) := by decide +kernel
theorem dX9_areTwo_2 : decode cX9_areTwo 2 = .ok (.invokevirtual 281, 3) := by decide +kernel
theorem dX9_areTwo_5 : decode cX9_areTwo 5 = .ok (.ifCond .eq 20, 3) := by decide +kernel
theorem dX9_areTwo_8 : decode cX9_areTwo 8 = .ok (.aload_n 0, 1) := by decide +kernel
theorem dX9_areTwo_9 : decode cX9_areTwo 9 = .ok (.iload_n 2, 1) := by decide +kernel
theorem dX9_areTwo_10 : decode cX9_areTwo 10 = .ok (.invokevirtual 281, 3) := by decide +kernel
theorem dX9_areTwo_13 : decode cX9_areTwo 13 = .ok (.ifCond .eq 12, 3) := by decide +kernel
theorem dX9_areTwo_16 : decode cX9_areTwo 16 = .ok (.iload_n 1, 1) := by decide +kernel
theorem dX9_areTwo_17 : decode cX9_areTwo 17 = .ok (.iload_n 2, 1) := by decide +kernel
theorem dX9_areTwo_18 : decode cX9_areTwo 18 = .ok (.if_icmp .eq 7, 3) := by decide +kernel
theorem dX9_areTwo_21 : decode cX9_areTwo 21 = .ok (.iconst 1, 1) := by decide +kernel
theorem dX9_areTwo_22 : decode cX9_areTwo 22 = .ok (.goto 4, 3) := by decide +kernel
theorem dX9_areTwo_25 : decode cX9_areTwo 25 = .ok (.iconst 0, 1) := by decide +kernel
theorem dX9_areTwo_26 : decode cX9_areTwo 26 = .ok (.ireturn, 1) := by decide +kernel
theorem dX9_doAgree_0 : decode cX9_doAgree 0 = .ok (.aload_n 0, 1) := by decide +kernel
theorem dX9_doAgree_1 : decode cX9_doAgree 1 = .ok (.aload_n 0, 1) := by decide +kernel
theorem dX9_doAgree_2 : decode cX9_doAgree 2 = .ok (.getfield 56, 3) := by decide +kernel
theorem dX9_doAgree_5 : decode cX9_doAgree 5 = .ok (.iload_n 1, 1) := by decide +kernel
theorem dX9_doAgree_6 : decode cX9_doAgree 6 = .ok (.iaload, 1) := by decide +kernel
theorem dX9_doAgree_7 : decode cX9_doAgree 7 = .ok (.aload_n 0, 1) := by decide +kernel
theorem dX9_doAgree_8 : decode cX9_doAgree 8 = .ok (.getfield 56, 3) := by decide +kernel
theorem dX9_doAgree_11 : decode cX9_doAgree 11 = .ok (.iload_n 2, 1) := by decide +kernel
theorem dX9_doAgree_12 : decode cX9_doAgree 12 = .ok (.iaload, 1) := by decide +kernel
theorem dX9_doAgree_13 : decode cX9_doAgree 13 = .ok (.invokevirtual 151, 3) := by decide +kernel
theorem dX9_doAgree_16 : decode cX9_doAgree 16 = .ok (.aload_n 0, 1) := by decide +kernel
theorem dX9_doAgree_17 : decode cX9_doAgree 17 = .ok (.getfield 59, 3) := by decide +kernel
theorem dX9_doAgree_20 : decode cX9_doAgree 20 = .ok (.iload_n 1, 1) := by decide +kernel
theorem dX9_doAgree_21 : decode cX9_doAgree 21 = .ok (.iaload, 1) := by decide +kernel
theorem dX9_doAgree_22 : decode cX9_doAgree 22 = .ok (.iand, 1) := by decide +kernel
theorem dX9_doAgree_23 : decode cX9_doAgree 23 = .ok (.aload_n 0, 1) := by decide +kernel
theorem dX9_doAgree_24 : decode cX9_doAgree 24 = .ok (.getfield 59, 3) := by decide +kernel
theorem dX9_doAgree_27 : decode cX9_doAgree 27 = .ok (.iload_n 2, 1) := by decide +kernel
theorem dX9_doAgree_28 : decode cX9_doAgree 28 = .ok (.iaload, 1) := by decide +kernel
theorem dX9_doAgree_29 : decode cX9_doAgree 29 = .ok (.iand, 1) := by decide +kernel
theorem dX9_doAgree_30 : decode cX9_doAgree 30 = .ok (.ifCond .ne 7, 3) := by decide +kernel
theorem dX9_doAgree_33 : decode cX9_doAgree 33 = .ok (.iconst 1, 1) := by decide +kernel
theorem dX9_doAgree_34 : decode cX9_doAgree 34 = .ok (.goto 4, 3) := by decide +kernel
theorem dX9_doAgree_37 : decode cX9_doAgree 37 = .ok (.iconst 0, 1) := by decide +kernel
theorem dX9_doAgree_38 : decode cX9_doAgree 38 = .ok (.ireturn, 1) := by decide +kernel
theorem dX9_agree_0 : decode cX9_agree 0 = .ok (.aload_n 0, 1) := by decide +kernel
theorem dX9_agree_1 : decode cX9_agree 1 = .ok (.iload_n 1, 1) := by decide +kernel
theorem dX9_agree_2 : decode cX9_agree 2 = .ok (.iload_n 2, 1) := by decide +kernel
theorem dX9_agree_3 : decode cX9_agree 3 = .ok (.invokevirtual 284, 3) := by decide +kernel
theorem dX9_agree_6 : decode cX9_agree 6 = .ok (.ifCond .eq 20, 3) := by decide +kernel
theorem dX9_agree_9 : decode cX9_agree 9 = .ok (.aload_n 0, 1) := by decide +kernel
theorem dX9_agree_10 : decode cX9_agree 10 = .ok (.iload_n 1, 1) := by decide +kernel
theorem dX9_agree_11 : decode cX9_agree 11 = .ok (.iload_n 2, 1) := by decide +kernel
theorem dX9_agree_12 : decode cX9_agree 12 = .ok (.invokevirtual 287, 3) := by decide +kernel
theorem dX9_agree_15 : decode cX9_agree 15 = .ok (.ifCond .eq 7, 3) := by decide +kernel
theorem dX9_agree_18 : decode cX9_agree 18 = .ok (.iconst 1, 1) := by decide +kernel
theorem dX9_agree_19 : decode cX9_agree 19 = .ok (.goto 9, 3) := by decide +kernel
theorem dX9_agree_22 : decode cX9_agree 22 = .ok (.iconst 0, 1) := by decide +kernel
theorem dX9_agree_23 : decode cX9_agree 23 = .ok (.goto 5, 3) := by decide +kernel
theorem dX9_agree_26 : decode cX9_agree 26 = .ok (.bipush (-2), 2) := by decide +kernel
theorem dX9_agree_28 : decode cX9_agree 28 = .ok (.ireturn, 1) := by decide +kernel
theorem dX9_givesOf_0 : decode cX9_givesOf 0 = .ok (.iload_n 1, 1) := by decide +kernel
theorem dX9_givesOf_1 : decode cX9_givesOf 1 = .ok (.iload_n 2, 1) := by decide +kernel
theorem dX9_givesOf_2 : decode cX9_givesOf 2 = .ok (.if_icmp .ge 7, 3) := by decide +kernel
theorem dX9_givesOf_5 : decode cX9_givesOf 5 = .ok (.iconst 0, 1) := by decide +kernel
theorem dX9_givesOf_6 : decode cX9_givesOf 6 = .ok (.goto 11, 3) := by decide +kernel
theorem dX9_givesOf_9 : decode cX9_givesOf 9 = .ok (.aload_n 0, 1) := by decide +kernel
theorem dX9_givesOf_10 : decode cX9_givesOf 10 = .ok (.getfield 59, 3) := by decide +kernel
theorem dX9_givesOf_13 : decode cX9_givesOf 13 = .ok (.iload_n 1, 1) := by decide +kernel
theorem dX9_givesOf_14 : decode cX9_givesOf 14 = .ok (.iaload, 1) := by decide +kernel
theorem dX9_givesOf_15 : decode cX9_givesOf 15 = .ok (.iconst (-1), 1) := by decide +kernel
theorem dX9_givesOf_16 : decode cX9_givesOf 16 = .ok (.ixor, 1) := by decide +kernel
theorem dX9_givesOf_17 : decode cX9_givesOf 17 = .ok (.istore_n 3, 1) := by decide +kernel
theorem dX9_givesOf_18 : decode cX9_givesOf 18 = .ok (.aload_n 0, 1) := by decide +kernel
theorem dX9_givesOf_19 : decode cX9_givesOf 19 = .ok (.aload_n 0, 1) := by decide +kernel
theorem dX9_givesOf_20 : decode cX9_givesOf 20 = .ok (.getfield 56, 3) := by decide +kernel
theorem dX9_givesOf_23 : decode cX9_givesOf 23 = .ok (.iload_n 1, 1) := by decide +kernel
theorem dX9_givesOf_24 : decode cX9_givesOf 24 = .ok (.iaload, 1) := by decide +kernel
theorem dX9_givesOf_25 : decode cX9_givesOf 25 = .ok (.aload_n 0, 1) := by decide +kernel
theorem dX9_givesOf_26 : decode cX9_givesOf 26 = .ok (.getfield 56, 3) := by decide +kernel
theorem dX9_givesOf_29 : decode cX9_givesOf 29 = .ok (.iload_n 2, 1) := by decide +kernel
theorem dX9_givesOf_30 : decode cX9_givesOf 30 = .ok (.iaload, 1) := by decide +kernel
theorem dX9_givesOf_31 : decode cX9_givesOf 31 = .ok (.invokevirtual 151, 3) := by decide +kernel
theorem dX9_givesOf_34 : decode cX9_givesOf 34 = .ok (.aload_n 0, 1) := by decide +kernel
theorem dX9_givesOf_35 : decode cX9_givesOf 35 = .ok (.getfield 59, 3) := by decide +kernel
theorem dX9_givesOf_38 : decode cX9_givesOf 38 = .ok (.iload_n 2, 1) := by decide +kernel
theorem dX9_givesOf_39 : decode cX9_givesOf 39 = .ok (.iaload, 1) := by decide +kernel
theorem dX9_givesOf_40 : decode cX9_givesOf 40 = .ok (.iload_n 3, 1) := by decide +kernel
theorem dX9_givesOf_41 : decode cX9_givesOf 41 = .ok (.ior, 1) := by decide +kernel
theorem dX9_givesOf_42 : decode cX9_givesOf 42 = .ok (.iand, 1) := by decide +kernel
theorem dX9_givesOf_43 : decode cX9_givesOf 43 = .ok (.ireturn, 1) := by decide +kernel
theorem dX9_gives_0 : decode cX9_gives 0 = .ok (.aload_n 0, 1) := by decide +kernel
theorem dX9_gives_1 : decode cX9_gives 1 = .ok (.iload_n 1, 1) := by decide +kernel
theorem dX9_gives_2 : decode cX9_gives 2 = .ok (.iload_n 2, 1) := by decide +kernel
theorem dX9_gives_3 : decode cX9_gives 3 = .ok (.invokevirtual 284, 3) := by decide +kernel
theorem dX9_gives_6 : decode cX9_gives 6 = .ok (.ifCond .ne 6, 3) := by decide +kernel
theorem dX9_gives_9 : decode cX9_gives 9 = .ok (.bipush (-2), 2) := by decide +kernel
theorem dX9_gives_11 : decode cX9_gives 11 = .ok (.ireturn, 1) := by decide +kernel
theorem dX9_gives_12 : decode cX9_gives 12 = .ok (.aload_n 0, 1) := by decide +kernel
theorem dX9_gives_13 : decode cX9_gives 13 = .ok (.iload_n 1, 1) := by decide +kernel
theorem dX9_gives_14 : decode cX9_gives 14 = .ok (.iload_n 2, 1) := by decide +kernel
theorem dX9_gives_15 : decode cX9_gives 15 = .ok (.invokevirtual 287, 3) := by decide +kernel
theorem dX9_gives_18 : decode cX9_gives 18 = .ok (.ifCond .eq 12, 3) := by decide +kernel
theorem dX9_gives_21 : decode cX9_gives 21 = .ok (.aload_n 0, 1) := by decide +kernel
theorem dX9_gives_22 : decode cX9_gives 22 = .ok (.iload_n 1, 1) := by decide +kernel
theorem dX9_gives_23 : decode cX9_gives 23 = .ok (.iload_n 2, 1) := by decide +kernel
theorem dX9_gives_24 : decode cX9_gives 24 = .ok (.invokevirtual 290, 3) := by decide +kernel
theorem dX9_gives_27 : decode cX9_gives 27 = .ok (.goto 5, 3) := by decide +kernel
theorem dX9_gives_30 : decode cX9_gives 30 = .ok (.bipush (-3), 2) := by decide +kernel
theorem dX9_gives_32 : decode cX9_gives 32 = .ok (.ireturn, 1) := by decide +kernel
theorem dX9_between_0 : decode cX9_between 0 = .ok (.aload_n 0, 1) := by decide +kernel
theorem dX9_between_1 : decode cX9_between 1 = .ok (.iload_n 1, 1) := by decide +kernel
theorem dX9_between_2 : decode cX9_between 2 = .ok (.iload_n 2, 1) := by decide +kernel
theorem dX9_between_3 : decode cX9_between 3 = .ok (.invokevirtual 284, 3) := by decide +kernel
theorem dX9_between_6 : decode cX9_between 6 = .ok (.ifCond .eq 22, 3) := by decide +kernel
theorem dX9_between_9 : decode cX9_between 9 = .ok (.aload_n 0, 1) := by decide +kernel
theorem dX9_between_10 : decode cX9_between 10 = .ok (.iload_n 3, 1) := by decide +kernel
theorem dX9_between_11 : decode cX9_between 11 = .ok (.invokevirtual 202, 3) := by decide +kernel
theorem dX9_between_14 : decode cX9_between 14 = .ok (.ifCond .eq 14, 3) := by decide +kernel
theorem dX9_between_17 : decode cX9_between 17 = .ok (.iload 4, 2) := by decide +kernel
theorem dX9_between_19 : decode cX9_between 19 = .ok (.iconst 0, 1) := by decide +kernel
theorem dX9_between_20 : decode cX9_between 20 = .ok (.bipush 8, 2) := by decide +kernel
theorem dX9_between_22 : decode cX9_between 22 = .ok (.invokestatic 106, 3) := by decide +kernel
theorem dX9_between_25 : decode cX9_between 25 = .ok (.ifCond .ne 6, 3) := by decide +kernel
theorem dX9_between_28 : decode cX9_between 28 = .ok (.bipush (-2), 2) := by decide +kernel
theorem dX9_between_30 : decode cX9_between 30 = .ok (.ireturn, 1) := by decide +kernel
theorem dX9_between_31 : decode cX9_between 31 = .ok (.aload_n 0, 1) := by decide +kernel
theorem dX9_between_32 : decode cX9_between 32 = .ok (.iload_n 1, 1) := by decide +kernel
theorem dX9_between_33 : decode cX9_between 33 = .ok (.iload_n 2, 1) := by decide +kernel
theorem dX9_between_34 : decode cX9_between 34 = .ok (.invokevirtual 287, 3) := by decide +kernel
theorem dX9_between_37 : decode cX9_between 37 = .ok (.ifCond .ne 6, 3) := by decide +kernel
theorem dX9_between_40 : decode cX9_between 40 = .ok (.bipush (-3), 2) := by decide +kernel
theorem dX9_between_42 : decode cX9_between 42 = .ok (.ireturn, 1) := by decide +kernel
theorem dX9_between_43 : decode cX9_between 43 = .ok (.aload_n 0, 1) := by decide +kernel
theorem dX9_between_44 : decode cX9_between 44 = .ok (.aload_n 0, 1) := by decide +kernel
theorem dX9_between_45 : decode cX9_between 45 = .ok (.getfield 56, 3) := by decide +kernel
theorem dX9_between_48 : decode cX9_between 48 = .ok (.iload_n 1, 1) := by decide +kernel
theorem dX9_between_49 : decode cX9_between 49 = .ok (.iaload, 1) := by decide +kernel
theorem dX9_between_50 : decode cX9_between 50 = .ok (.aload_n 0, 1) := by decide +kernel
theorem dX9_between_51 : decode cX9_between 51 = .ok (.getfield 56, 3) := by decide +kernel
theorem dX9_between_54 : decode cX9_between 54 = .ok (.iload_n 2, 1) := by decide +kernel
theorem dX9_between_55 : decode cX9_between 55 = .ok (.iaload, 1) := by decide +kernel
theorem dX9_between_56 : decode cX9_between 56 = .ok (.aload_n 0, 1) := by decide +kernel
theorem dX9_between_57 : decode cX9_between 57 = .ok (.iload_n 1, 1) := by decide +kernel
theorem dX9_between_58 : decode cX9_between 58 = .ok (.iload_n 2, 1) := by decide +kernel
theorem dX9_between_59 : decode cX9_between 59 = .ok (.invokevirtual 290, 3) := by decide +kernel
theorem dX9_between_62 : decode cX9_between 62 = .ok (.invokevirtual 233, 3) := by decide +kernel
theorem dX9_between_65 : decode cX9_between 65 = .ok (.aload_n 0, 1) := by decide +kernel
theorem dX9_between_66 : decode cX9_between 66 = .ok (.iload_n 3, 1) := by decide +kernel
theorem dX9_between_67 : decode cX9_between 67 = .ok (.invokevirtual 236, 3) := by decide +kernel
theorem dX9_between_70 : decode cX9_between 70 = .ok (.aload_n 0, 1) := by decide +kernel
theorem dX9_between_71 : decode cX9_between 71 = .ok (.iload 4, 2) := by decide +kernel
theorem dX9_between_73 : decode cX9_between 73 = .ok (.invokevirtual 239, 3) := by decide +kernel
theorem dX9_between_76 : decode cX9_between 76 = .ok (.ireturn, 1) := by decide +kernel
theorem dX9_halves_0 : decode cX9_halves 0 = .ok (.aload_n 0, 1) := by decide +kernel
theorem dX9_halves_1 : decode cX9_halves 1 = .ok (.iload_n 1, 1) := by decide +kernel
theorem dX9_halves_2 : decode cX9_halves 2 = .ok (.iload_n 2, 1) := by decide +kernel
theorem dX9_halves_3 : decode cX9_halves 3 = .ok (.invokevirtual 284, 3) := by decide +kernel
theorem dX9_halves_6 : decode cX9_halves 6 = .ok (.ifCond .eq 22, 3) := by decide +kernel
theorem dX9_halves_9 : decode cX9_halves 9 = .ok (.aload_n 0, 1) := by decide +kernel
theorem dX9_halves_10 : decode cX9_halves 10 = .ok (.iload_n 3, 1) := by decide +kernel
theorem dX9_halves_11 : decode cX9_halves 11 = .ok (.invokevirtual 202, 3) := by decide +kernel
theorem dX9_halves_14 : decode cX9_halves 14 = .ok (.ifCond .eq 14, 3) := by decide +kernel
theorem dX9_halves_17 : decode cX9_halves 17 = .ok (.iload 4, 2) := by decide +kernel
theorem dX9_halves_19 : decode cX9_halves 19 = .ok (.iconst 0, 1) := by decide +kernel
theorem dX9_halves_20 : decode cX9_halves 20 = .ok (.bipush 8, 2) := by decide +kernel
theorem dX9_halves_22 : decode cX9_halves 22 = .ok (.invokestatic 106, 3) := by decide +kernel
theorem dX9_halves_25 : decode cX9_halves 25 = .ok (.ifCond .ne 6, 3) := by decide +kernel
theorem dX9_halves_28 : decode cX9_halves 28 = .ok (.bipush (-2), 2) := by decide +kernel
theorem dX9_halves_30 : decode cX9_halves 30 = .ok (.ireturn, 1) := by decide +kernel
theorem dX9_halves_31 : decode cX9_halves 31 = .ok (.aload_n 0, 1) := by decide +kernel
theorem dX9_halves_32 : decode cX9_halves 32 = .ok (.aload_n 0, 1) := by decide +kernel
theorem dX9_halves_33 : decode cX9_halves 33 = .ok (.getfield 56, 3) := by decide +kernel
theorem dX9_halves_36 : decode cX9_halves 36 = .ok (.iload_n 1, 1) := by decide +kernel
theorem dX9_halves_37 : decode cX9_halves 37 = .ok (.iaload, 1) := by decide +kernel
theorem dX9_halves_38 : decode cX9_halves 38 = .ok (.aload_n 0, 1) := by decide +kernel
theorem dX9_halves_39 : decode cX9_halves 39 = .ok (.getfield 56, 3) := by decide +kernel
theorem dX9_halves_42 : decode cX9_halves 42 = .ok (.iload_n 1, 1) := by decide +kernel
theorem dX9_halves_43 : decode cX9_halves 43 = .ok (.iaload, 1) := by decide +kernel
theorem dX9_halves_44 : decode cX9_halves 44 = .ok (.iconst 0, 1) := by decide +kernel
theorem dX9_halves_45 : decode cX9_halves 45 = .ok (.invokevirtual 233, 3) := by decide +kernel
theorem dX9_halves_48 : decode cX9_halves 48 = .ok (.aload_n 0, 1) := by decide +kernel
theorem dX9_halves_49 : decode cX9_halves 49 = .ok (.invokevirtual 223, 3) := by decide +kernel
theorem dX9_halves_52 : decode cX9_halves 52 = .ok (.aload_n 0, 1) := by decide +kernel
theorem dX9_halves_53 : decode cX9_halves 53 = .ok (.getfield 217, 3) := by decide +kernel
theorem dX9_halves_56 : decode cX9_halves 56 = .ok (.aload_n 0, 1) := by decide +kernel
theorem dX9_halves_57 : decode cX9_halves 57 = .ok (.getfield 32, 3) := by decide +kernel
theorem dX9_halves_60 : decode cX9_halves 60 = .ok (.iload_n 3, 1) := by decide +kernel
theorem dX9_halves_61 : decode cX9_halves 61 = .ok (.iaload, 1) := by decide +kernel
theorem dX9_halves_62 : decode cX9_halves 62 = .ok (.if_icmp .ge 45, 3) := by decide +kernel
theorem dX9_halves_65 : decode cX9_halves 65 = .ok (.aload_n 0, 1) := by decide +kernel
theorem dX9_halves_66 : decode cX9_halves 66 = .ok (.getfield 217, 3) := by decide +kernel
theorem dX9_halves_69 : decode cX9_halves 69 = .ok (.aload_n 0, 1) := by decide +kernel
theorem dX9_halves_70 : decode cX9_halves 70 = .ok (.getfield 32, 3) := by decide +kernel
theorem dX9_halves_73 : decode cX9_halves 73 = .ok (.iload_n 3, 1) := by decide +kernel
theorem dX9_halves_74 : decode cX9_halves 74 = .ok (.iaload, 1) := by decide +kernel
theorem dX9_halves_75 : decode cX9_halves 75 = .ok (.iconst 2, 1) := by decide +kernel
theorem dX9_halves_76 : decode cX9_halves 76 = .ok (.idiv, 1) := by decide +kernel
theorem dX9_halves_77 : decode cX9_halves 77 = .ok (.if_icmp .ne 20, 3) := by decide +kernel
theorem dX9_halves_80 : decode cX9_halves 80 = .ok (.aload_n 0, 1) := by decide +kernel
theorem dX9_halves_81 : decode cX9_halves 81 = .ok (.aload_n 0, 1) := by decide +kernel
theorem dX9_halves_82 : decode cX9_halves 82 = .ok (.getfield 56, 3) := by decide +kernel
theorem dX9_halves_85 : decode cX9_halves 85 = .ok (.iload_n 2, 1) := by decide +kernel
theorem dX9_halves_86 : decode cX9_halves 86 = .ok (.iaload, 1) := by decide +kernel
theorem dX9_halves_87 : decode cX9_halves 87 = .ok (.aload_n 0, 1) := by decide +kernel
theorem dX9_halves_88 : decode cX9_halves 88 = .ok (.getfield 56, 3) := by decide +kernel
theorem dX9_halves_91 : decode cX9_halves 91 = .ok (.iload_n 2, 1) := by decide +kernel
theorem dX9_halves_92 : decode cX9_halves 92 = .ok (.iaload, 1) := by decide +kernel
theorem dX9_halves_93 : decode cX9_halves 93 = .ok (.iconst 0, 1) := by decide +kernel
theorem dX9_halves_94 : decode cX9_halves 94 = .ok (.invokevirtual 233, 3) := by decide +kernel
theorem dX9_halves_97 : decode cX9_halves 97 = .ok (.aload_n 0, 1) := by decide +kernel
theorem dX9_halves_98 : decode cX9_halves 98 = .ok (.iload_n 3, 1) := by decide +kernel
theorem dX9_halves_99 : decode cX9_halves 99 = .ok (.invokevirtual 229, 3) := by decide +kernel
theorem dX9_halves_102 : decode cX9_halves 102 = .ok (.istore 5, 2) := by decide +kernel
theorem dX9_halves_104 : decode cX9_halves 104 = .ok (.goto (-52), 3) := by decide +kernel
theorem dX9_halves_107 : decode cX9_halves 107 = .ok (.aload_n 0, 1) := by decide +kernel
theorem dX9_halves_108 : decode cX9_halves 108 = .ok (.iload 4, 2) := by decide +kernel
theorem dX9_halves_110 : decode cX9_halves 110 = .ok (.invokevirtual 239, 3) := by decide +kernel
theorem dX9_halves_113 : decode cX9_halves 113 = .ok (.ireturn, 1) := by decide +kernel
theorem dX9_member_0 : decode cX9_member 0 = .ok (.aload_n 0, 1) := by decide +kernel
theorem dX9_member_1 : decode cX9_member 1 = .ok (.iload_n 1, 1) := by decide +kernel
theorem dX9_member_2 : decode cX9_member 2 = .ok (.invokevirtual 281, 3) := by decide +kernel
theorem dX9_member_5 : decode cX9_member 5 = .ok (.ifCond .ne 6, 3) := by decide +kernel
theorem dX9_member_8 : decode cX9_member 8 = .ok (.bipush (-2), 2) := by decide +kernel
theorem dX9_member_10 : decode cX9_member 10 = .ok (.ireturn, 1) := by decide +kernel
theorem dX9_member_11 : decode cX9_member 11 = .ok (.aload_n 0, 1) := by decide +kernel
theorem dX9_member_12 : decode cX9_member 12 = .ok (.getfield 62, 3) := by decide +kernel
theorem dX9_member_15 : decode cX9_member 15 = .ok (.iload_n 1, 1) := by decide +kernel
theorem dX9_member_16 : decode cX9_member 16 = .ok (.baload, 1) := by decide +kernel
theorem dX9_member_17 : decode cX9_member 17 = .ok (.iload_n 2, 1) := by decide +kernel
theorem dX9_member_18 : decode cX9_member 18 = .ok (.if_icmp .ne 7, 3) := by decide +kernel
theorem dX9_member_21 : decode cX9_member 21 = .ok (.iconst 1, 1) := by decide +kernel
theorem dX9_member_22 : decode cX9_member 22 = .ok (.goto 4, 3) := by decide +kernel
theorem dX9_member_25 : decode cX9_member 25 = .ok (.iconst 0, 1) := by decide +kernel
theorem dX9_member_26 : decode cX9_member 26 = .ok (.istore_n 3, 1) := by decide +kernel
theorem dX9_member_27 : decode cX9_member 27 = .ok (.aload_n 0, 1) := by decide +kernel
theorem dX9_member_28 : decode cX9_member 28 = .ok (.getfield 62, 3) := by decide +kernel
theorem dX9_member_31 : decode cX9_member 31 = .ok (.iload_n 1, 1) := by decide +kernel
theorem dX9_member_32 : decode cX9_member 32 = .ok (.iload_n 2, 1) := by decide +kernel
theorem dX9_member_33 : decode cX9_member 33 = .ok (.bastore, 1) := by decide +kernel
theorem dX9_member_34 : decode cX9_member 34 = .ok (.iload_n 3, 1) := by decide +kernel
theorem dX9_member_35 : decode cX9_member 35 = .ok (.ifCond .eq 7, 3) := by decide +kernel
theorem dX9_member_38 : decode cX9_member 38 = .ok (.iconst 0, 1) := by decide +kernel
theorem dX9_member_39 : decode cX9_member 39 = .ok (.goto 4, 3) := by decide +kernel
theorem dX9_member_42 : decode cX9_member 42 = .ok (.iconst 1, 1) := by decide +kernel
theorem dX9_member_43 : decode cX9_member 43 = .ok (.ireturn, 1) := by decide +kernel
theorem dX9_rule_0 : decode cX9_rule 0 = .ok (.iload_n 1, 1) := by decide +kernel
theorem dX9_rule_1 : decode cX9_rule 1 = .ok (.ifCond .ne 15, 3) := by decide +kernel
theorem dX9_rule_4 : decode cX9_rule 4 = .ok (.iload_n 2, 1) := by decide +kernel
theorem dX9_rule_5 : decode cX9_rule 5 = .ok (.iconst 1, 1) := by decide +kernel
theorem dX9_rule_6 : decode cX9_rule 6 = .ok (.aload_n 0, 1) := by decide +kernel
theorem dX9_rule_7 : decode cX9_rule 7 = .ok (.getfield 72, 3) := by decide +kernel
theorem dX9_rule_10 : decode cX9_rule 10 = .ok (.invokestatic 106, 3) := by decide +kernel
theorem dX9_rule_13 : decode cX9_rule 13 = .ok (.goto 41, 3) := by decide +kernel
theorem dX9_rule_16 : decode cX9_rule 16 = .ok (.iload_n 1, 1) := by decide +kernel
theorem dX9_rule_17 : decode cX9_rule 17 = .ok (.iconst 1, 1) := by decide +kernel
theorem dX9_rule_18 : decode cX9_rule 18 = .ok (.if_icmp .ne 16, 3) := by decide +kernel
theorem dX9_rule_21 : decode cX9_rule 21 = .ok (.iload_n 2, 1) := by decide +kernel
theorem dX9_rule_22 : decode cX9_rule 22 = .ok (.aload_n 0, 1) := by decide +kernel
theorem dX9_rule_23 : decode cX9_rule 23 = .ok (.getfield 68, 3) := by decide +kernel
theorem dX9_rule_26 : decode cX9_rule 26 = .ok (.bipush 9, 2) := by decide +kernel
theorem dX9_rule_28 : decode cX9_rule 28 = .ok (.invokestatic 106, 3) := by decide +kernel
theorem dX9_rule_31 : decode cX9_rule 31 = .ok (.goto 23, 3) := by decide +kernel
theorem dX9_rule_34 : decode cX9_rule 34 = .ok (.iload_n 1, 1) := by decide +kernel
theorem dX9_rule_35 : decode cX9_rule 35 = .ok (.iconst 2, 1) := by decide +kernel
theorem dX9_rule_36 : decode cX9_rule 36 = .ok (.if_icmp .ne 17, 3) := by decide +kernel
theorem dX9_rule_39 : decode cX9_rule 39 = .ok (.iload_n 2, 1) := by decide +kernel
theorem dX9_rule_40 : decode cX9_rule 40 = .ok (.iconst 0, 1) := by decide +kernel
theorem dX9_rule_41 : decode cX9_rule 41 = .ok (.bipush 12, 2) := by decide +kernel
theorem dX9_rule_43 : decode cX9_rule 43 = .ok (.invokestatic 106, 3) := by decide +kernel
theorem dX9_rule_46 : decode cX9_rule 46 = .ok (.ifCond .eq 7, 3) := by decide +kernel
theorem dX9_rule_49 : decode cX9_rule 49 = .ok (.iconst 1, 1) := by decide +kernel
theorem dX9_rule_50 : decode cX9_rule 50 = .ok (.goto 4, 3) := by decide +kernel
theorem dX9_rule_53 : decode cX9_rule 53 = .ok (.iconst 0, 1) := by decide +kernel
theorem dX9_rule_54 : decode cX9_rule 54 = .ok (.istore_n 3, 1) := by decide +kernel
theorem dX9_rule_55 : decode cX9_rule 55 = .ok (.iload_n 3, 1) := by decide +kernel
theorem dX9_rule_56 : decode cX9_rule 56 = .ok (.ifCond .ne 6, 3) := by decide +kernel
theorem dX9_rule_59 : decode cX9_rule 59 = .ok (.bipush (-2), 2) := by decide +kernel
theorem dX9_rule_61 : decode cX9_rule 61 = .ok (.ireturn, 1) := by decide +kernel
theorem dX9_rule_62 : decode cX9_rule 62 = .ok (.iload_n 1, 1) := by decide +kernel
theorem dX9_rule_63 : decode cX9_rule 63 = .ok (.ifCond .ne 10, 3) := by decide +kernel
theorem dX9_rule_66 : decode cX9_rule 66 = .ok (.aload_n 0, 1) := by decide +kernel
theorem dX9_rule_67 : decode cX9_rule 67 = .ok (.getfield 68, 3) := by decide +kernel
theorem dX9_rule_70 : decode cX9_rule 70 = .ok (.goto 19, 3) := by decide +kernel
theorem dX9_rule_73 : decode cX9_rule 73 = .ok (.iload_n 1, 1) := by decide +kernel
theorem dX9_rule_74 : decode cX9_rule 74 = .ok (.iconst 1, 1) := by decide +kernel
theorem dX9_rule_75 : decode cX9_rule 75 = .ok (.if_icmp .ne 10, 3) := by decide +kernel
theorem dX9_rule_78 : decode cX9_rule 78 = .ok (.aload_n 0, 1) := by decide +kernel
theorem dX9_rule_79 : decode cX9_rule 79 = .ok (.getfield 72, 3) := by decide +kernel
theorem dX9_rule_82 : decode cX9_rule 82 = .ok (.goto 7, 3) := by decide +kernel
theorem dX9_rule_85 : decode cX9_rule 85 = .ok (.aload_n 0, 1) := by decide +kernel
theorem dX9_rule_86 : decode cX9_rule 86 = .ok (.getfield 75, 3) := by decide +kernel
theorem dX9_rule_89 : decode cX9_rule 89 = .ok (.istore 4, 2) := by decide +kernel
theorem dX9_rule_91 : decode cX9_rule 91 = .ok (.aload_n 0, 1) := by decide +kernel
theorem dX9_rule_92 : decode cX9_rule 92 = .ok (.iload_n 1, 1) := by decide +kernel
theorem dX9_rule_93 : decode cX9_rule 93 = .ok (.ifCond .ne 7, 3) := by decide +kernel
theorem dX9_rule_96 : decode cX9_rule 96 = .ok (.iload_n 2, 1) := by decide +kernel
theorem dX9_rule_97 : decode cX9_rule 97 = .ok (.goto 7, 3) := by decide +kernel
theorem dX9_rule_100 : decode cX9_rule 100 = .ok (.aload_n 0, 1) := by decide +kernel
theorem dX9_rule_101 : decode cX9_rule 101 = .ok (.getfield 68, 3) := by decide +kernel
theorem dX9_rule_104 : decode cX9_rule 104 = .ok (.putfield 68, 3) := by decide +kernel
theorem dX9_rule_107 : decode cX9_rule 107 = .ok (.aload_n 0, 1) := by decide +kernel
theorem dX9_rule_108 : decode cX9_rule 108 = .ok (.iload_n 1, 1) := by decide +kernel
theorem dX9_rule_109 : decode cX9_rule 109 = .ok (.iconst 1, 1) := by decide +kernel
theorem dX9_rule_110 : decode cX9_rule 110 = .ok (.if_icmp .ne 7, 3) := by decide +kernel
theorem dX9_rule_113 : decode cX9_rule 113 = .ok (.iload_n 2, 1) := by decide +kernel
theorem dX9_rule_114 : decode cX9_rule 114 = .ok (.goto 7, 3) := by decide +kernel
theorem dX9_rule_117 : decode cX9_rule 117 = .ok (.aload_n 0, 1) := by decide +kernel
theorem dX9_rule_118 : decode cX9_rule 118 = .ok (.getfield 72, 3) := by decide +kernel
theorem dX9_rule_121 : decode cX9_rule 121 = .ok (.putfield 72, 3) := by decide +kernel
theorem dX9_rule_124 : decode cX9_rule 124 = .ok (.aload_n 0, 1) := by decide +kernel
theorem dX9_rule_125 : decode cX9_rule 125 = .ok (.iload_n 1, 1) := by decide +kernel
theorem dX9_rule_126 : decode cX9_rule 126 = .ok (.iconst 2, 1) := by decide +kernel
theorem dX9_rule_127 : decode cX9_rule 127 = .ok (.if_icmp .ne 7, 3) := by decide +kernel
theorem dX9_rule_130 : decode cX9_rule 130 = .ok (.iload_n 2, 1) := by decide +kernel
theorem dX9_rule_131 : decode cX9_rule 131 = .ok (.goto 7, 3) := by decide +kernel
theorem dX9_rule_134 : decode cX9_rule 134 = .ok (.aload_n 0, 1) := by decide +kernel
theorem dX9_rule_135 : decode cX9_rule 135 = .ok (.getfield 75, 3) := by decide +kernel
theorem dX9_rule_138 : decode cX9_rule 138 = .ok (.putfield 75, 3) := by decide +kernel
theorem dX9_rule_141 : decode cX9_rule 141 = .ok (.iload 4, 2) := by decide +kernel
theorem dX9_rule_143 : decode cX9_rule 143 = .ok (.ireturn, 1) := by decide +kernel
theorem dX9_law_0 : decode cX9_law 0 = .ok (.iload_n 1, 1) := by decide +kernel
theorem dX9_law_1 : decode cX9_law 1 = .ok (.iconst 0, 1) := by decide +kernel
theorem dX9_law_2 : decode cX9_law 2 = .ok (.bipush 16, 2) := by decide +kernel
theorem dX9_law_4 : decode cX9_law 4 = .ok (.invokestatic 106, 3) := by decide +kernel
theorem dX9_law_7 : decode cX9_law 7 = .ok (.ifCond .eq 12, 3) := by decide +kernel
theorem dX9_law_10 : decode cX9_law 10 = .ok (.aload_n 0, 1) := by decide +kernel
theorem dX9_law_11 : decode cX9_law 11 = .ok (.getfield 65, 3) := by decide +kernel
theorem dX9_law_14 : decode cX9_law 14 = .ok (.iload_n 1, 1) := by decide +kernel
theorem dX9_law_15 : decode cX9_law 15 = .ok (.iaload, 1) := by decide +kernel
theorem dX9_law_16 : decode cX9_law 16 = .ok (.goto 5, 3) := by decide +kernel
theorem dX9_law_19 : decode cX9_law 19 = .ok (.bipush (-2), 2) := by decide +kernel
theorem dX9_law_21 : decode cX9_law 21 = .ok (.ireturn, 1) := by decide +kernel
theorem dX9_enact_0 : decode cX9_enact 0 = .ok (.iload_n 1, 1) := by decide +kernel
theorem dX9_enact_1 : decode cX9_enact 1 = .ok (.invokestatic 110, 3) := by decide +kernel
theorem dX9_enact_4 : decode cX9_enact 4 = .ok (.ifCond .ne 6, 3) := by decide +kernel
theorem dX9_enact_7 : decode cX9_enact 7 = .ok (.bipush (-2), 2) := by decide +kernel
theorem dX9_enact_9 : decode cX9_enact 9 = .ok (.ireturn, 1) := by decide +kernel
theorem dX9_enact_10 : decode cX9_enact 10 = .ok (.iconst 0, 1) := by decide +kernel
theorem dX9_enact_11 : decode cX9_enact 11 = .ok (.istore_n 2, 1) := by decide +kernel
theorem dX9_enact_12 : decode cX9_enact 12 = .ok (.iload_n 2, 1) := by decide +kernel
theorem dX9_enact_13 : decode cX9_enact 13 = .ok (.bipush 17, 2) := by decide +kernel
theorem dX9_enact_15 : decode cX9_enact 15 = .ok (.if_icmp .ge 21, 3) := by decide +kernel
theorem dX9_enact_18 : decode cX9_enact 18 = .ok (.aload_n 0, 1) := by decide +kernel
theorem dX9_enact_19 : decode cX9_enact 19 = .ok (.getfield 65, 3) := by decide +kernel
theorem dX9_enact_22 : decode cX9_enact 22 = .ok (.iload_n 2, 1) := by decide +kernel
theorem dX9_enact_23 : decode cX9_enact 23 = .ok (.aload_n 0, 1) := by decide +kernel
theorem dX9_enact_24 : decode cX9_enact 24 = .ok (.iload_n 1, 1) := by decide +kernel
theorem dX9_enact_25 : decode cX9_enact 25 = .ok (.iload_n 2, 1) := by decide +kernel
theorem dX9_enact_26 : decode cX9_enact 26 = .ok (.invokevirtual 147, 3) := by decide +kernel
theorem dX9_enact_29 : decode cX9_enact 29 = .ok (.iastore, 1) := by decide +kernel
theorem dX9_enact_30 : decode cX9_enact 30 = .ok (.iinc 2 1, 3) := by decide +kernel
theorem dX9_enact_33 : decode cX9_enact 33 = .ok (.goto (-21), 3) := by decide +kernel
theorem dX9_enact_36 : decode cX9_enact 36 = .ok (.iconst 1, 1) := by decide +kernel
theorem dX9_enact_37 : decode cX9_enact 37 = .ok (.ireturn, 1) := by decide +kernel
theorem dX9_motionOf_0 : decode cX9_motionOf 0 = .ok (.aload_n 0, 1) := by decide +kernel
theorem dX9_motionOf_1 : decode cX9_motionOf 1 = .ok (.iload_n 2, 1) := by decide +kernel
theorem dX9_motionOf_2 : decode cX9_motionOf 2 = .ok (.iload_n 1, 1) := by decide +kernel
theorem dX9_motionOf_3 : decode cX9_motionOf 3 = .ok (.invokevirtual 147, 3) := by decide +kernel
theorem dX9_motionOf_6 : decode cX9_motionOf 6 = .ok (.istore 4, 2) := by decide +kernel
theorem dX9_motionOf_8 : decode cX9_motionOf 8 = .ok (.iconst 0, 1) := by decide +kernel
theorem dX9_motionOf_9 : decode cX9_motionOf 9 = .ok (.istore 5, 2) := by decide +kernel
theorem dX9_motionOf_11 : decode cX9_motionOf 11 = .ok (.iconst 0, 1) := by decide +kernel
theorem dX9_motionOf_12 : decode cX9_motionOf 12 = .ok (.istore 6, 2) := by decide +kernel
theorem dX9_motionOf_14 : decode cX9_motionOf 14 = .ok (.iconst 0, 1) := by decide +kernel
theorem dX9_motionOf_15 : decode cX9_motionOf 15 = .ok (.istore 7, 2) := by decide +kernel
theorem dX9_motionOf_17 : decode cX9_motionOf 17 = .ok (.iconst 0, 1) := by decide +kernel
theorem dX9_motionOf_18 : decode cX9_motionOf 18 = .ok (.istore 8, 2) := by decide +kernel
theorem dX9_motionOf_20 : decode cX9_motionOf 20 = .ok (.iload 8, 2) := by decide +kernel
theorem dX9_motionOf_22 : decode cX9_motionOf 22 = .ok (.aload_n 0, 1) := by decide +kernel
theorem dX9_motionOf_23 : decode cX9_motionOf 23 = .ok (.getfield 278, 3) := by decide +kernel
theorem dX9_motionOf_26 : decode cX9_motionOf 26 = .ok (.if_icmp .ge 113, 3) := by decide +kernel
theorem dX9_motionOf_29 : decode cX9_motionOf 29 = .ok (.aload_n 0, 1) := by decide +kernel
theorem dX9_motionOf_30 : decode cX9_motionOf 30 = .ok (.getfield 62, 3) := by decide +kernel
theorem dX9_motionOf_33 : decode cX9_motionOf 33 = .ok (.iload 8, 2) := by decide +kernel
theorem dX9_motionOf_35 : decode cX9_motionOf 35 = .ok (.baload, 1) := by decide +kernel
theorem dX9_motionOf_36 : decode cX9_motionOf 36 = .ok (.ifCond .eq 97, 3) := by decide +kernel
theorem dX9_motionOf_39 : decode cX9_motionOf 39 = .ok (.aload_n 0, 1) := by decide +kernel
theorem dX9_motionOf_40 : decode cX9_motionOf 40 = .ok (.aload_n 0, 1) := by decide +kernel
theorem dX9_motionOf_41 : decode cX9_motionOf 41 = .ok (.getfield 56, 3) := by decide +kernel
theorem dX9_motionOf_44 : decode cX9_motionOf 44 = .ok (.iload 8, 2) := by decide +kernel
theorem dX9_motionOf_46 : decode cX9_motionOf 46 = .ok (.iaload, 1) := by decide +kernel
theorem dX9_motionOf_47 : decode cX9_motionOf 47 = .ok (.iload_n 1, 1) := by decide +kernel
theorem dX9_motionOf_48 : decode cX9_motionOf 48 = .ok (.invokevirtual 147, 3) := by decide +kernel
theorem dX9_motionOf_51 : decode cX9_motionOf 51 = .ok (.istore 9, 2) := by decide +kernel
theorem dX9_motionOf_53 : decode cX9_motionOf 53 = .ok (.iload 5, 2) := by decide +kernel
theorem dX9_motionOf_55 : decode cX9_motionOf 55 = .ok (.iload 9, 2) := by decide +kernel
theorem dX9_motionOf_57 : decode cX9_motionOf 57 = .ok (.iload 4, 2) := by decide +kernel
theorem dX9_motionOf_59 : decode cX9_motionOf 59 = .ok (.if_icmp .ne 7, 3) := by decide +kernel
theorem dX9_motionOf_62 : decode cX9_motionOf 62 = .ok (.iconst 1, 1) := by decide +kernel
theorem dX9_motionOf_63 : decode cX9_motionOf 63 = .ok (.goto 4, 3) := by decide +kernel
theorem dX9_motionOf_66 : decode cX9_motionOf 66 = .ok (.iconst 0, 1) := by decide +kernel
theorem dX9_motionOf_67 : decode cX9_motionOf 67 = .ok (.iadd, 1) := by decide +kernel
theorem dX9_motionOf_68 : decode cX9_motionOf 68 = .ok (.istore 5, 2) := by decide +kernel
theorem dX9_motionOf_70 : decode cX9_motionOf 70 = .ok (.iload 6, 2) := by decide +kernel
theorem dX9_motionOf_72 : decode cX9_motionOf 72 = .ok (.iload 9, 2) := by decide +kernel
theorem dX9_motionOf_74 : decode cX9_motionOf 74 = .ok (.iload 4, 2) := by decide +kernel
theorem dX9_motionOf_76 : decode cX9_motionOf 76 = .ok (.if_icmp .eq 18, 3) := by decide +kernel
theorem dX9_motionOf_79 : decode cX9_motionOf 79 = .ok (.iload 9, 2) := by decide +kernel
theorem dX9_motionOf_81 : decode cX9_motionOf 81 = .ok (.aload_n 0, 1) := by decide +kernel
theorem dX9_motionOf_82 : decode cX9_motionOf 82 = .ok (.getfield 65, 3) := by decide +kernel
theorem dX9_motionOf_85 : decode cX9_motionOf 85 = .ok (.iload_n 1, 1) := by decide +kernel
theorem dX9_motionOf_86 : decode cX9_motionOf 86 = .ok (.iaload, 1) := by decide +kernel
theorem dX9_motionOf_87 : decode cX9_motionOf 87 = .ok (.if_icmp .ne 7, 3) := by decide +kernel
theorem dX9_motionOf_90 : decode cX9_motionOf 90 = .ok (.iconst 1, 1) := by decide +kernel
theorem dX9_motionOf_91 : decode cX9_motionOf 91 = .ok (.goto 4, 3) := by decide +kernel
theorem dX9_motionOf_94 : decode cX9_motionOf 94 = .ok (.iconst 0, 1) := by decide +kernel
theorem dX9_motionOf_95 : decode cX9_motionOf 95 = .ok (.iadd, 1) := by decide +kernel
theorem dX9_motionOf_96 : decode cX9_motionOf 96 = .ok (.istore 6, 2) := by decide +kernel
theorem dX9_motionOf_98 : decode cX9_motionOf 98 = .ok (.iload 7, 2) := by decide +kernel
theorem dX9_motionOf_100 : decode cX9_motionOf 100 = .ok (.iload 9, 2) := by decide +kernel
theorem dX9_motionOf_102 : decode cX9_motionOf 102 = .ok (.iload 4, 2) := by decide +kernel
theorem dX9_motionOf_104 : decode cX9_motionOf 104 = .ok (.if_icmp .eq 25, 3) := by decide +kernel
theorem dX9_motionOf_107 : decode cX9_motionOf 107 = .ok (.aload_n 0, 1) := by decide +kernel
theorem dX9_motionOf_108 : decode cX9_motionOf 108 = .ok (.getfield 59, 3) := by decide +kernel
theorem dX9_motionOf_111 : decode cX9_motionOf 111 = .ok (.iload 8, 2) := by decide +kernel
theorem dX9_motionOf_113 : decode cX9_motionOf 113 = .ok (.iaload, 1) := by decide +kernel
theorem dX9_motionOf_114 : decode cX9_motionOf 114 = .ok (.iload_n 1, 1) := by decide +kernel
theorem dX9_motionOf_115 : decode cX9_motionOf 115 = .ok (.ishr, 1) := by decide +kernel
theorem dX9_motionOf_116 : decode cX9_motionOf 116 = .ok (.iconst 1, 1) := by decide +kernel
theorem dX9_motionOf_117 : decode cX9_motionOf 117 = .ok (.iand, 1) := by decide +kernel
theorem dX9_motionOf_118 : decode cX9_motionOf 118 = .ok (.iconst 1, 1) := by decide +kernel
theorem dX9_motionOf_119 : decode cX9_motionOf 119 = .ok (.if_icmp .ne 10, 3) := by decide +kernel
theorem dX9_motionOf_122 : decode cX9_motionOf 122 = .ok (.iconst 1, 1) := by decide +kernel
theorem dX9_motionOf_123 : decode cX9_motionOf 123 = .ok (.iload 8, 2) := by decide +kernel
theorem dX9_motionOf_125 : decode cX9_motionOf 125 = .ok (.ishl, 1) := by decide +kernel
theorem dX9_motionOf_126 : decode cX9_motionOf 126 = .ok (.goto 4, 3) := by decide +kernel
theorem dX9_motionOf_129 : decode cX9_motionOf 129 = .ok (.iconst 0, 1) := by decide +kernel
theorem dX9_motionOf_130 : decode cX9_motionOf 130 = .ok (.ior, 1) := by decide +kernel
theorem dX9_motionOf_131 : decode cX9_motionOf 131 = .ok (.istore 7, 2) := by decide +kernel
theorem dX9_motionOf_133 : decode cX9_motionOf 133 = .ok (.iinc 8 1, 3) := by decide +kernel
theorem dX9_motionOf_136 : decode cX9_motionOf 136 = .ok (.goto (-116), 3) := by decide +kernel
theorem dX9_motionOf_139 : decode cX9_motionOf 139 = .ok (.iload 5, 2) := by decide +kernel
theorem dX9_motionOf_141 : decode cX9_motionOf 141 = .ok (.aload_n 0, 1) := by decide +kernel
theorem dX9_motionOf_142 : decode cX9_motionOf 142 = .ok (.getfield 72, 3) := by decide +kernel
theorem dX9_motionOf_145 : decode cX9_motionOf 145 = .ok (.imul, 1) := by decide +kernel
theorem dX9_motionOf_146 : decode cX9_motionOf 146 = .ok (.aload_n 0, 1) := by decide +kernel
theorem dX9_motionOf_147 : decode cX9_motionOf 147 = .ok (.getfield 68, 3) := by decide +kernel
theorem dX9_motionOf_150 : decode cX9_motionOf 150 = .ok (.iload 5, 2) := by decide +kernel
theorem dX9_motionOf_152 : decode cX9_motionOf 152 = .ok (.iload 6, 2) := by decide +kernel
theorem dX9_motionOf_154 : decode cX9_motionOf 154 = .ok (.iadd, 1) := by decide +kernel
theorem dX9_motionOf_155 : decode cX9_motionOf 155 = .ok (.imul, 1) := by decide +kernel
theorem dX9_motionOf_156 : decode cX9_motionOf 156 = .ok (.if_icmp .lt 19, 3) := by decide +kernel
theorem dX9_motionOf_159 : decode cX9_motionOf 159 = .ok (.iload 5, 2) := by decide +kernel
theorem dX9_motionOf_161 : decode cX9_motionOf 161 = .ok (.iload 6, 2) := by decide +kernel
theorem dX9_motionOf_163 : decode cX9_motionOf 163 = .ok (.iadd, 1) := by decide +kernel
theorem dX9_motionOf_164 : decode cX9_motionOf 164 = .ok (.aload_n 0, 1) := by decide +kernel
theorem dX9_motionOf_165 : decode cX9_motionOf 165 = .ok (.getfield 75, 3) := by decide +kernel
theorem dX9_motionOf_168 : decode cX9_motionOf 168 = .ok (.if_icmp .lt 7, 3) := by decide +kernel
theorem dX9_motionOf_171 : decode cX9_motionOf 171 = .ok (.iconst 1, 1) := by decide +kernel
theorem dX9_motionOf_172 : decode cX9_motionOf 172 = .ok (.goto 4, 3) := by decide +kernel
theorem dX9_motionOf_175 : decode cX9_motionOf 175 = .ok (.iconst 0, 1) := by decide +kernel
theorem dX9_motionOf_176 : decode cX9_motionOf 176 = .ok (.istore 8, 2) := by decide +kernel
theorem dX9_motionOf_178 : decode cX9_motionOf 178 = .ok (.iload_n 3, 1) := by decide +kernel
theorem dX9_motionOf_179 : decode cX9_motionOf 179 = .ok (.ifCond .ne 8, 3) := by decide +kernel
theorem dX9_motionOf_182 : decode cX9_motionOf 182 = .ok (.iload 5, 2) := by decide +kernel
theorem dX9_motionOf_184 : decode cX9_motionOf 184 = .ok (.goto 33, 3) := by decide +kernel
theorem dX9_motionOf_187 : decode cX9_motionOf 187 = .ok (.iload_n 3, 1) := by decide +kernel
theorem dX9_motionOf_188 : decode cX9_motionOf 188 = .ok (.iconst 1, 1) := by decide +kernel
theorem dX9_motionOf_189 : decode cX9_motionOf 189 = .ok (.if_icmp .ne 8, 3) := by decide +kernel
theorem dX9_motionOf_192 : decode cX9_motionOf 192 = .ok (.iload 6, 2) := by decide +kernel
theorem dX9_motionOf_194 : decode cX9_motionOf 194 = .ok (.goto 23, 3) := by decide +kernel
theorem dX9_motionOf_197 : decode cX9_motionOf 197 = .ok (.iload_n 3, 1) := by decide +kernel
theorem dX9_motionOf_198 : decode cX9_motionOf 198 = .ok (.iconst 2, 1) := by decide +kernel
theorem dX9_motionOf_199 : decode cX9_motionOf 199 = .ok (.if_icmp .ne 16, 3) := by decide +kernel
theorem dX9_motionOf_202 : decode cX9_motionOf 202 = .ok (.iload 8, 2) := by decide +kernel
theorem dX9_motionOf_204 : decode cX9_motionOf 204 = .ok (.ifCond .eq 7, 3) := by decide +kernel
theorem dX9_motionOf_207 : decode cX9_motionOf 207 = .ok (.iconst 1, 1) := by decide +kernel
theorem dX9_motionOf_208 : decode cX9_motionOf 208 = .ok (.goto 9, 3) := by decide +kernel
theorem dX9_motionOf_211 : decode cX9_motionOf 211 = .ok (.iconst 0, 1) := by decide +kernel
theorem dX9_motionOf_212 : decode cX9_motionOf 212 = .ok (.goto 5, 3) := by decide +kernel
theorem dX9_motionOf_215 : decode cX9_motionOf 215 = .ok (.iload 7, 2) := by decide +kernel
theorem dX9_motionOf_217 : decode cX9_motionOf 217 = .ok (.ireturn, 1) := by decide +kernel
theorem dX9_motion_0 : decode cX9_motion 0 = .ok (.iload_n 1, 1) := by decide +kernel
theorem dX9_motion_1 : decode cX9_motion 1 = .ok (.iconst 0, 1) := by decide +kernel
theorem dX9_motion_2 : decode cX9_motion 2 = .ok (.bipush 16, 2) := by decide +kernel
theorem dX9_motion_4 : decode cX9_motion 4 = .ok (.invokestatic 106, 3) := by decide +kernel
theorem dX9_motion_7 : decode cX9_motion 7 = .ok (.ifCond .eq 29, 3) := by decide +kernel
theorem dX9_motion_10 : decode cX9_motion 10 = .ok (.iload_n 2, 1) := by decide +kernel
theorem dX9_motion_11 : decode cX9_motion 11 = .ok (.invokestatic 110, 3) := by decide +kernel
theorem dX9_motion_14 : decode cX9_motion 14 = .ok (.ifCond .eq 22, 3) := by decide +kernel
theorem dX9_motion_17 : decode cX9_motion 17 = .ok (.iload_n 3, 1) := by decide +kernel
theorem dX9_motion_18 : decode cX9_motion 18 = .ok (.iconst 0, 1) := by decide +kernel
theorem dX9_motion_19 : decode cX9_motion 19 = .ok (.iconst 3, 1) := by decide +kernel
theorem dX9_motion_20 : decode cX9_motion 20 = .ok (.invokestatic 106, 3) := by decide +kernel
theorem dX9_motion_23 : decode cX9_motion 23 = .ok (.ifCond .eq 13, 3) := by decide +kernel
theorem dX9_motion_26 : decode cX9_motion 26 = .ok (.aload_n 0, 1) := by decide +kernel
theorem dX9_motion_27 : decode cX9_motion 27 = .ok (.iload_n 1, 1) := by decide +kernel
theorem dX9_motion_28 : decode cX9_motion 28 = .ok (.iload_n 2, 1) := by decide +kernel
theorem dX9_motion_29 : decode cX9_motion 29 = .ok (.iload_n 3, 1) := by decide +kernel
theorem dX9_motion_30 : decode cX9_motion 30 = .ok (.invokevirtual 293, 3) := by decide +kernel
theorem dX9_motion_33 : decode cX9_motion 33 = .ok (.goto 5, 3) := by decide +kernel
theorem dX9_motion_36 : decode cX9_motion 36 = .ok (.bipush (-2), 2) := by decide +kernel
theorem dX9_motion_38 : decode cX9_motion 38 = .ok (.ireturn, 1) := by decide +kernel
theorem dX9_put_0 : decode cX9_put 0 = .ok (.iload_n 1, 1) := by decide +kernel
theorem dX9_put_1 : decode cX9_put 1 = .ok (.iconst 0, 1) := by decide +kernel
theorem dX9_put_2 : decode cX9_put 2 = .ok (.bipush 16, 2) := by decide +kernel
theorem dX9_put_4 : decode cX9_put 4 = .ok (.invokestatic 106, 3) := by decide +kernel
theorem dX9_put_7 : decode cX9_put 7 = .ok (.ifCond .eq 10, 3) := by decide +kernel
theorem dX9_put_10 : decode cX9_put 10 = .ok (.iload_n 2, 1) := by decide +kernel
theorem dX9_put_11 : decode cX9_put 11 = .ok (.invokestatic 110, 3) := by decide +kernel
theorem dX9_put_14 : decode cX9_put 14 = .ok (.ifCond .ne 6, 3) := by decide +kernel
theorem dX9_put_17 : decode cX9_put 17 = .ok (.bipush (-2), 2) := by decide +kernel
theorem dX9_put_19 : decode cX9_put 19 = .ok (.ireturn, 1) := by decide +kernel
theorem dX9_put_20 : decode cX9_put 20 = .ok (.aload_n 0, 1) := by decide +kernel
theorem dX9_put_21 : decode cX9_put 21 = .ok (.iload_n 1, 1) := by decide +kernel
theorem dX9_put_22 : decode cX9_put 22 = .ok (.iload_n 2, 1) := by decide +kernel
theorem dX9_put_23 : decode cX9_put 23 = .ok (.iconst 2, 1) := by decide +kernel
theorem dX9_put_24 : decode cX9_put 24 = .ok (.invokevirtual 293, 3) := by decide +kernel
theorem dX9_put_27 : decode cX9_put 27 = .ok (.ifCond .ne 5, 3) := by decide +kernel
theorem dX9_put_30 : decode cX9_put 30 = .ok (.iconst 0, 1) := by decide +kernel
theorem dX9_put_31 : decode cX9_put 31 = .ok (.ireturn, 1) := by decide +kernel
theorem dX9_put_32 : decode cX9_put 32 = .ok (.aload_n 0, 1) := by decide +kernel
theorem dX9_put_33 : decode cX9_put 33 = .ok (.iload_n 1, 1) := by decide +kernel
theorem dX9_put_34 : decode cX9_put 34 = .ok (.iload_n 2, 1) := by decide +kernel
theorem dX9_put_35 : decode cX9_put 35 = .ok (.iconst 3, 1) := by decide +kernel
theorem dX9_put_36 : decode cX9_put 36 = .ok (.invokevirtual 293, 3) := by decide +kernel
theorem dX9_put_39 : decode cX9_put 39 = .ok (.istore_n 3, 1) := by decide +kernel
theorem dX9_put_40 : decode cX9_put 40 = .ok (.aload_n 0, 1) := by decide +kernel
theorem dX9_put_41 : decode cX9_put 41 = .ok (.getfield 65, 3) := by decide +kernel
theorem dX9_put_44 : decode cX9_put 44 = .ok (.iload_n 1, 1) := by decide +kernel
theorem dX9_put_45 : decode cX9_put 45 = .ok (.aload_n 0, 1) := by decide +kernel
theorem dX9_put_46 : decode cX9_put 46 = .ok (.iload_n 2, 1) := by decide +kernel
theorem dX9_put_47 : decode cX9_put 47 = .ok (.iload_n 1, 1) := by decide +kernel
theorem dX9_put_48 : decode cX9_put 48 = .ok (.invokevirtual 147, 3) := by decide +kernel
theorem dX9_put_51 : decode cX9_put 51 = .ok (.iastore, 1) := by decide +kernel
theorem dX9_put_52 : decode cX9_put 52 = .ok (.iconst 0, 1) := by decide +kernel
theorem dX9_put_53 : decode cX9_put 53 = .ok (.istore 4, 2) := by decide +kernel
theorem dX9_put_55 : decode cX9_put 55 = .ok (.iload 4, 2) := by decide +kernel
theorem dX9_put_57 : decode cX9_put 57 = .ok (.aload_n 0, 1) := by decide +kernel
theorem dX9_put_58 : decode cX9_put 58 = .ok (.getfield 278, 3) := by decide +kernel
theorem dX9_put_61 : decode cX9_put 61 = .ok (.if_icmp .ge 40, 3) := by decide +kernel
theorem dX9_put_64 : decode cX9_put 64 = .ok (.aload_n 0, 1) := by decide +kernel
theorem dX9_put_65 : decode cX9_put 65 = .ok (.getfield 62, 3) := by decide +kernel
theorem dX9_put_68 : decode cX9_put 68 = .ok (.iload 4, 2) := by decide +kernel
theorem dX9_put_70 : decode cX9_put 70 = .ok (.aload_n 0, 1) := by decide +kernel
theorem dX9_put_71 : decode cX9_put 71 = .ok (.getfield 62, 3) := by decide +kernel
theorem dX9_put_74 : decode cX9_put 74 = .ok (.iload 4, 2) := by decide +kernel
theorem dX9_put_76 : decode cX9_put 76 = .ok (.baload, 1) := by decide +kernel
theorem dX9_put_77 : decode cX9_put 77 = .ok (.ifCond .eq 16, 3) := by decide +kernel
theorem dX9_put_80 : decode cX9_put 80 = .ok (.iload_n 3, 1) := by decide +kernel
theorem dX9_put_81 : decode cX9_put 81 = .ok (.iload 4, 2) := by decide +kernel
theorem dX9_put_83 : decode cX9_put 83 = .ok (.ishr, 1) := by decide +kernel
theorem dX9_put_84 : decode cX9_put 84 = .ok (.iconst 1, 1) := by decide +kernel
theorem dX9_put_85 : decode cX9_put 85 = .ok (.iand, 1) := by decide +kernel
theorem dX9_put_86 : decode cX9_put 86 = .ok (.ifCond .ne 7, 3) := by decide +kernel
theorem dX9_put_89 : decode cX9_put 89 = .ok (.iconst 1, 1) := by decide +kernel
theorem dX9_put_90 : decode cX9_put 90 = .ok (.goto 4, 3) := by decide +kernel
theorem dX9_put_93 : decode cX9_put 93 = .ok (.iconst 0, 1) := by decide +kernel
theorem dX9_put_94 : decode cX9_put 94 = .ok (.bastore, 1) := by decide +kernel
theorem dX9_put_95 : decode cX9_put 95 = .ok (.iinc 4 1, 3) := by decide +kernel
theorem dX9_put_98 : decode cX9_put 98 = .ok (.goto (-43), 3) := by decide +kernel
theorem dX9_put_101 : decode cX9_put 101 = .ok (.iconst 1, 1) := by decide +kernel
theorem dX9_put_102 : decode cX9_put 102 = .ok (.ireturn, 1) := by decide +kernel
theorem dX9_stayNow_0 : decode cX9_stayNow 0 = .ok (.iconst 0, 1) := by decide +kernel
theorem dX9_stayNow_1 : decode cX9_stayNow 1 = .ok (.istore_n 1, 1) := by decide +kernel
theorem dX9_stayNow_2 : decode cX9_stayNow 2 = .ok (.iconst 0, 1) := by decide +kernel
theorem dX9_stayNow_3 : decode cX9_stayNow 3 = .ok (.istore_n 2, 1) := by decide +kernel
theorem dX9_stayNow_4 : decode cX9_stayNow 4 = .ok (.iload_n 2, 1) := by decide +kernel
theorem dX9_stayNow_5 : decode cX9_stayNow 5 = .ok (.aload_n 0, 1) := by decide +kernel
theorem dX9_stayNow_6 : decode cX9_stayNow 6 = .ok (.getfield 278, 3) := by decide +kernel
theorem dX9_stayNow_9 : decode cX9_stayNow 9 = .ok (.if_icmp .ge 90, 3) := by decide +kernel
theorem dX9_stayNow_12 : decode cX9_stayNow 12 = .ok (.aload_n 0, 1) := by decide +kernel
theorem dX9_stayNow_13 : decode cX9_stayNow 13 = .ok (.getfield 62, 3) := by decide +kernel
theorem dX9_stayNow_16 : decode cX9_stayNow 16 = .ok (.iload_n 2, 1) := by decide +kernel
theorem dX9_stayNow_17 : decode cX9_stayNow 17 = .ok (.baload, 1) := by decide +kernel
theorem dX9_stayNow_18 : decode cX9_stayNow 18 = .ok (.istore_n 3, 1) := by decide +kernel
theorem dX9_stayNow_19 : decode cX9_stayNow 19 = .ok (.iconst 0, 1) := by decide +kernel
theorem dX9_stayNow_20 : decode cX9_stayNow 20 = .ok (.istore 4, 2) := by decide +kernel
theorem dX9_stayNow_22 : decode cX9_stayNow 22 = .ok (.iload 4, 2) := by decide +kernel
theorem dX9_stayNow_24 : decode cX9_stayNow 24 = .ok (.bipush 17, 2) := by decide +kernel
theorem dX9_stayNow_26 : decode cX9_stayNow 26 = .ok (.if_icmp .ge 55, 3) := by decide +kernel
theorem dX9_stayNow_29 : decode cX9_stayNow 29 = .ok (.iload_n 3, 1) := by decide +kernel
theorem dX9_stayNow_30 : decode cX9_stayNow 30 = .ok (.ifCond .eq 43, 3) := by decide +kernel
theorem dX9_stayNow_33 : decode cX9_stayNow 33 = .ok (.aload_n 0, 1) := by decide +kernel
theorem dX9_stayNow_34 : decode cX9_stayNow 34 = .ok (.getfield 59, 3) := by decide +kernel
theorem dX9_stayNow_37 : decode cX9_stayNow 37 = .ok (.iload_n 2, 1) := by decide +kernel
theorem dX9_stayNow_38 : decode cX9_stayNow 38 = .ok (.iaload, 1) := by decide +kernel
theorem dX9_stayNow_39 : decode cX9_stayNow 39 = .ok (.iload 4, 2) := by decide +kernel
theorem dX9_stayNow_41 : decode cX9_stayNow 41 = .ok (.ishr, 1) := by decide +kernel
theorem dX9_stayNow_42 : decode cX9_stayNow 42 = .ok (.iconst 1, 1) := by decide +kernel
theorem dX9_stayNow_43 : decode cX9_stayNow 43 = .ok (.iand, 1) := by decide +kernel
theorem dX9_stayNow_44 : decode cX9_stayNow 44 = .ok (.ifCond .eq 25, 3) := by decide +kernel
theorem dX9_stayNow_47 : decode cX9_stayNow 47 = .ok (.aload_n 0, 1) := by decide +kernel
theorem dX9_stayNow_48 : decode cX9_stayNow 48 = .ok (.aload_n 0, 1) := by decide +kernel
theorem dX9_stayNow_49 : decode cX9_stayNow 49 = .ok (.getfield 56, 3) := by decide +kernel
theorem dX9_stayNow_52 : decode cX9_stayNow 52 = .ok (.iload_n 2, 1) := by decide +kernel
theorem dX9_stayNow_53 : decode cX9_stayNow 53 = .ok (.iaload, 1) := by decide +kernel
theorem dX9_stayNow_54 : decode cX9_stayNow 54 = .ok (.iload 4, 2) := by decide +kernel
theorem dX9_stayNow_56 : decode cX9_stayNow 56 = .ok (.invokevirtual 147, 3) := by decide +kernel
theorem dX9_stayNow_59 : decode cX9_stayNow 59 = .ok (.aload_n 0, 1) := by decide +kernel
theorem dX9_stayNow_60 : decode cX9_stayNow 60 = .ok (.getfield 29, 3) := by decide +kernel
theorem dX9_stayNow_63 : decode cX9_stayNow 63 = .ok (.iload 4, 2) := by decide +kernel
theorem dX9_stayNow_65 : decode cX9_stayNow 65 = .ok (.iaload, 1) := by decide +kernel
theorem dX9_stayNow_66 : decode cX9_stayNow 66 = .ok (.if_icmp .ne 7, 3) := by decide +kernel
theorem dX9_stayNow_69 : decode cX9_stayNow 69 = .ok (.iconst 1, 1) := by decide +kernel
theorem dX9_stayNow_70 : decode cX9_stayNow 70 = .ok (.goto 4, 3) := by decide +kernel
theorem dX9_stayNow_73 : decode cX9_stayNow 73 = .ok (.iconst 0, 1) := by decide +kernel
theorem dX9_stayNow_74 : decode cX9_stayNow 74 = .ok (.istore_n 3, 1) := by decide +kernel
theorem dX9_stayNow_75 : decode cX9_stayNow 75 = .ok (.iinc 4 1, 3) := by decide +kernel
theorem dX9_stayNow_78 : decode cX9_stayNow 78 = .ok (.goto (-56), 3) := by decide +kernel
theorem dX9_stayNow_81 : decode cX9_stayNow 81 = .ok (.iload_n 1, 1) := by decide +kernel
theorem dX9_stayNow_82 : decode cX9_stayNow 82 = .ok (.iload_n 3, 1) := by decide +kernel
theorem dX9_stayNow_83 : decode cX9_stayNow 83 = .ok (.ifCond .eq 7, 3) := by decide +kernel
theorem dX9_stayNow_86 : decode cX9_stayNow 86 = .ok (.iconst 1, 1) := by decide +kernel
theorem dX9_stayNow_87 : decode cX9_stayNow 87 = .ok (.goto 4, 3) := by decide +kernel
theorem dX9_stayNow_90 : decode cX9_stayNow 90 = .ok (.iconst 0, 1) := by decide +kernel
theorem dX9_stayNow_91 : decode cX9_stayNow 91 = .ok (.iadd, 1) := by decide +kernel
theorem dX9_stayNow_92 : decode cX9_stayNow 92 = .ok (.istore_n 1, 1) := by decide +kernel
theorem dX9_stayNow_93 : decode cX9_stayNow 93 = .ok (.iinc 2 1, 3) := by decide +kernel
theorem dX9_stayNow_96 : decode cX9_stayNow 96 = .ok (.goto (-92), 3) := by decide +kernel
theorem dX9_stayNow_99 : decode cX9_stayNow 99 = .ok (.iload_n 1, 1) := by decide +kernel
theorem dX9_stayNow_100 : decode cX9_stayNow 100 = .ok (.ireturn, 1) := by decide +kernel
theorem dX9_hurtNow_0 : decode cX9_hurtNow 0 = .ok (.iconst 0, 1) := by decide +kernel
theorem dX9_hurtNow_1 : decode cX9_hurtNow 1 = .ok (.istore_n 1, 1) := by decide +kernel
theorem dX9_hurtNow_2 : decode cX9_hurtNow 2 = .ok (.iconst 0, 1) := by decide +kernel
theorem dX9_hurtNow_3 : decode cX9_hurtNow 3 = .ok (.istore_n 2, 1) := by decide +kernel
theorem dX9_hurtNow_4 : decode cX9_hurtNow 4 = .ok (.iload_n 2, 1) := by decide +kernel
theorem dX9_hurtNow_5 : decode cX9_hurtNow 5 = .ok (.aload_n 0, 1) := by decide +kernel
theorem dX9_hurtNow_6 : decode cX9_hurtNow 6 = .ok (.getfield 193, 3) := by decide +kernel
theorem dX9_hurtNow_9 : decode cX9_hurtNow 9 = .ok (.if_icmp .ge 21, 3) := by decide +kernel
theorem dX9_hurtNow_12 : decode cX9_hurtNow 12 = .ok (.aload_n 0, 1) := by decide +kernel
theorem dX9_hurtNow_13 : decode cX9_hurtNow 13 = .ok (.iload_n 2, 1) := by decide +kernel
theorem dX9_hurtNow_14 : decode cX9_hurtNow 14 = .ok (.invokevirtual 236, 3) := by decide +kernel
theorem dX9_hurtNow_17 : decode cX9_hurtNow 17 = .ok (.iload_n 1, 1) := by decide +kernel
theorem dX9_hurtNow_18 : decode cX9_hurtNow 18 = .ok (.aload_n 0, 1) := by decide +kernel
theorem dX9_hurtNow_19 : decode cX9_hurtNow 19 = .ok (.getfield 214, 3) := by decide +kernel
theorem dX9_hurtNow_22 : decode cX9_hurtNow 22 = .ok (.iadd, 1) := by decide +kernel
theorem dX9_hurtNow_23 : decode cX9_hurtNow 23 = .ok (.istore_n 1, 1) := by decide +kernel
theorem dX9_hurtNow_24 : decode cX9_hurtNow 24 = .ok (.iinc 2 1, 3) := by decide +kernel
theorem dX9_hurtNow_27 : decode cX9_hurtNow 27 = .ok (.goto (-23), 3) := by decide +kernel
theorem dX9_hurtNow_30 : decode cX9_hurtNow 30 = .ok (.iload_n 1, 1) := by decide +kernel
theorem dX9_hurtNow_31 : decode cX9_hurtNow 31 = .ok (.ireturn, 1) := by decide +kernel
theorem dX9_best_0 : decode cX9_best 0 = .ok (.iload_n 1, 1) := by decide +kernel
theorem dX9_best_1 : decode cX9_best 1 = .ok (.iconst 0, 1) := by decide +kernel
theorem dX9_best_2 : decode cX9_best 2 = .ok (.ldc 232, 2) := by decide +kernel
theorem dX9_best_4 : decode cX9_best 4 = .ok (.invokestatic 106, 3) := by decide +kernel
theorem dX9_best_7 : decode cX9_best 7 = .ok (.ifCond .eq 28, 3) := by decide +kernel
theorem dX9_best_10 : decode cX9_best 10 = .ok (.iload_n 1, 1) := by decide +kernel
theorem dX9_best_11 : decode cX9_best 11 = .ok (.invokestatic 296, 3) := by decide +kernel
theorem dX9_best_14 : decode cX9_best 14 = .ok (.bipush 9, 2) := by decide +kernel
theorem dX9_best_16 : decode cX9_best 16 = .ok (.if_icmp .gt 19, 3) := by decide +kernel
theorem dX9_best_19 : decode cX9_best 19 = .ok (.iload_n 2, 1) := by decide +kernel
theorem dX9_best_20 : decode cX9_best 20 = .ok (.invokestatic 110, 3) := by decide +kernel
theorem dX9_best_23 : decode cX9_best 23 = .ok (.ifCond .eq 12, 3) := by decide +kernel
theorem dX9_best_26 : decode cX9_best 26 = .ok (.iload_n 3, 1) := by decide +kernel
theorem dX9_best_27 : decode cX9_best 27 = .ok (.iconst 0, 1) := by decide +kernel
theorem dX9_best_28 : decode cX9_best 28 = .ok (.iconst 2, 1) := by decide +kernel
theorem dX9_best_29 : decode cX9_best 29 = .ok (.invokestatic 106, 3) := by decide +kernel
theorem dX9_best_32 : decode cX9_best 32 = .ok (.ifCond .ne 6, 3) := by decide +kernel
theorem dX9_best_35 : decode cX9_best 35 = .ok (.bipush (-2), 2) := by decide +kernel
theorem dX9_best_37 : decode cX9_best 37 = .ok (.ireturn, 1) := by decide +kernel
theorem dX9_best_38 : decode cX9_best 38 = .ok (.iconst (-1), 1) := by decide +kernel
theorem dX9_best_39 : decode cX9_best 39 = .ok (.istore 4, 2) := by decide +kernel
theorem dX9_best_41 : decode cX9_best 41 = .ok (.iconst 0, 1) := by decide +kernel
theorem dX9_best_42 : decode cX9_best 42 = .ok (.istore 5, 2) := by decide +kernel
theorem dX9_best_44 : decode cX9_best 44 = .ok (.iconst 0, 1) := by decide +kernel
theorem dX9_best_45 : decode cX9_best 45 = .ok (.istore 6, 2) := by decide +kernel
theorem dX9_best_47 : decode cX9_best 47 = .ok (.iconst 0, 1) := by decide +kernel
theorem dX9_best_48 : decode cX9_best 48 = .ok (.istore 7, 2) := by decide +kernel
theorem dX9_best_50 : decode cX9_best 50 = .ok (.iconst 1, 1) := by decide +kernel
theorem dX9_best_51 : decode cX9_best 51 = .ok (.istore 8, 2) := by decide +kernel
theorem dX9_best_53 : decode cX9_best 53 = .ok (.iload 8, 2) := by decide +kernel
theorem dX9_best_55 : decode cX9_best 55 = .ok (.ifCond .eq 163, 3) := by decide +kernel
theorem dX9_best_58 : decode cX9_best 58 = .ok (.iconst 0, 1) := by decide +kernel
theorem dX9_best_59 : decode cX9_best 59 = .ok (.istore 9, 2) := by decide +kernel
theorem dX9_best_61 : decode cX9_best 61 = .ok (.iload 9, 2) := by decide +kernel
theorem dX9_best_63 : decode cX9_best 63 = .ok (.bipush 17, 2) := by decide +kernel
theorem dX9_best_65 : decode cX9_best 65 = .ok (.if_icmp .ge 44, 3) := by decide +kernel
theorem dX9_best_68 : decode cX9_best 68 = .ok (.aload_n 0, 1) := by decide +kernel
theorem dX9_best_69 : decode cX9_best 69 = .ok (.getfield 29, 3) := by decide +kernel
theorem dX9_best_72 : decode cX9_best 72 = .ok (.iload 9, 2) := by decide +kernel
theorem dX9_best_74 : decode cX9_best 74 = .ok (.iload 7, 2) := by decide +kernel
theorem dX9_best_76 : decode cX9_best 76 = .ok (.iload 9, 2) := by decide +kernel
theorem dX9_best_78 : decode cX9_best 78 = .ok (.ishr, 1) := by decide +kernel
theorem dX9_best_79 : decode cX9_best 79 = .ok (.iconst 1, 1) := by decide +kernel
theorem dX9_best_80 : decode cX9_best 80 = .ok (.iand, 1) := by decide +kernel
theorem dX9_best_81 : decode cX9_best 81 = .ok (.iconst 1, 1) := by decide +kernel
theorem dX9_best_82 : decode cX9_best 82 = .ok (.if_icmp .ne 13, 3) := by decide +kernel
theorem dX9_best_85 : decode cX9_best 85 = .ok (.aload_n 0, 1) := by decide +kernel
theorem dX9_best_86 : decode cX9_best 86 = .ok (.iload_n 2, 1) := by decide +kernel
theorem dX9_best_87 : decode cX9_best 87 = .ok (.iload 9, 2) := by decide +kernel
theorem dX9_best_89 : decode cX9_best 89 = .ok (.invokevirtual 147, 3) := by decide +kernel
theorem dX9_best_92 : decode cX9_best 92 = .ok (.goto 10, 3) := by decide +kernel
theorem dX9_best_95 : decode cX9_best 95 = .ok (.aload_n 0, 1) := by decide +kernel
theorem dX9_best_96 : decode cX9_best 96 = .ok (.getfield 65, 3) := by decide +kernel
theorem dX9_best_99 : decode cX9_best 99 = .ok (.iload 9, 2) := by decide +kernel
theorem dX9_best_101 : decode cX9_best 101 = .ok (.iaload, 1) := by decide +kernel
theorem dX9_best_102 : decode cX9_best 102 = .ok (.iastore, 1) := by decide +kernel
theorem dX9_best_103 : decode cX9_best 103 = .ok (.iinc 9 1, 3) := by decide +kernel
theorem dX9_best_106 : decode cX9_best 106 = .ok (.goto (-45), 3) := by decide +kernel
theorem dX9_best_109 : decode cX9_best 109 = .ok (.aload_n 0, 1) := by decide +kernel
theorem dX9_best_110 : decode cX9_best 110 = .ok (.invokevirtual 299, 3) := by decide +kernel
theorem dX9_best_113 : decode cX9_best 113 = .ok (.istore 9, 2) := by decide +kernel
theorem dX9_best_115 : decode cX9_best 115 = .ok (.aload_n 0, 1) := by decide +kernel
theorem dX9_best_116 : decode cX9_best 116 = .ok (.invokevirtual 302, 3) := by decide +kernel
theorem dX9_best_119 : decode cX9_best 119 = .ok (.istore 10, 2) := by decide +kernel
theorem dX9_best_121 : decode cX9_best 121 = .ok (.iload 4, 2) := by decide +kernel
theorem dX9_best_123 : decode cX9_best 123 = .ok (.iconst (-1), 1) := by decide +kernel
theorem dX9_best_124 : decode cX9_best 124 = .ok (.if_icmp .ne 7, 3) := by decide +kernel
theorem dX9_best_127 : decode cX9_best 127 = .ok (.iconst 1, 1) := by decide +kernel
theorem dX9_best_128 : decode cX9_best 128 = .ok (.goto 8, 3) := by decide +kernel
theorem dX9_best_131 : decode cX9_best 131 = .ok (.iload 9, 2) := by decide +kernel
theorem dX9_best_133 : decode cX9_best 133 = .ok (.iload 5, 2) := by decide +kernel
theorem dX9_best_135 : decode cX9_best 135 = .ok (.isub, 1) := by decide +kernel
theorem dX9_best_136 : decode cX9_best 136 = .ok (.istore 11, 2) := by decide +kernel
theorem dX9_best_138 : decode cX9_best 138 = .ok (.iload 11, 2) := by decide +kernel
theorem dX9_best_140 : decode cX9_best 140 = .ok (.ifCond .ne 11, 3) := by decide +kernel
theorem dX9_best_143 : decode cX9_best 143 = .ok (.iload 6, 2) := by decide +kernel
theorem dX9_best_145 : decode cX9_best 145 = .ok (.iload 10, 2) := by decide +kernel
theorem dX9_best_147 : decode cX9_best 147 = .ok (.isub, 1) := by decide +kernel
theorem dX9_best_148 : decode cX9_best 148 = .ok (.goto 5, 3) := by decide +kernel
theorem dX9_best_151 : decode cX9_best 151 = .ok (.iload 11, 2) := by decide +kernel
theorem dX9_best_153 : decode cX9_best 153 = .ok (.istore 11, 2) := by decide +kernel
theorem dX9_best_155 : decode cX9_best 155 = .ok (.iload 11, 2) := by decide +kernel
theorem dX9_best_157 : decode cX9_best 157 = .ok (.ifCond .ne 17, 3) := by decide +kernel
theorem dX9_best_160 : decode cX9_best 160 = .ok (.iload 4, 2) := by decide +kernel
theorem dX9_best_162 : decode cX9_best 162 = .ok (.invokestatic 296, 3) := by decide +kernel
theorem dX9_best_165 : decode cX9_best 165 = .ok (.iload 7, 2) := by decide +kernel
theorem dX9_best_167 : decode cX9_best 167 = .ok (.invokestatic 296, 3) := by decide +kernel
theorem dX9_best_170 : decode cX9_best 170 = .ok (.isub, 1) := by decide +kernel
theorem dX9_best_171 : decode cX9_best 171 = .ok (.goto 5, 3) := by decide +kernel
theorem dX9_best_174 : decode cX9_best 174 = .ok (.iload 11, 2) := by decide +kernel
theorem dX9_best_176 : decode cX9_best 176 = .ok (.istore 11, 2) := by decide +kernel
theorem dX9_best_178 : decode cX9_best 178 = .ok (.iload 11, 2) := by decide +kernel
theorem dX9_best_180 : decode cX9_best 180 = .ok (.ifCond .le 15, 3) := by decide +kernel
theorem dX9_best_183 : decode cX9_best 183 = .ok (.iload 7, 2) := by decide +kernel
theorem dX9_best_185 : decode cX9_best 185 = .ok (.istore 4, 2) := by decide +kernel
theorem dX9_best_187 : decode cX9_best 187 = .ok (.iload 9, 2) := by decide +kernel
theorem dX9_best_189 : decode cX9_best 189 = .ok (.istore 5, 2) := by decide +kernel
theorem dX9_best_191 : decode cX9_best 191 = .ok (.iload 10, 2) := by decide +kernel
theorem dX9_best_193 : decode cX9_best 193 = .ok (.istore 6, 2) := by decide +kernel
theorem dX9_best_195 : decode cX9_best 195 = .ok (.iload 7, 2) := by decide +kernel
theorem dX9_best_197 : decode cX9_best 197 = .ok (.iload_n 1, 1) := by decide +kernel
theorem dX9_best_198 : decode cX9_best 198 = .ok (.isub, 1) := by decide +kernel
theorem dX9_best_199 : decode cX9_best 199 = .ok (.iload_n 1, 1) := by decide +kernel
theorem dX9_best_200 : decode cX9_best 200 = .ok (.iand, 1) := by decide +kernel
theorem dX9_best_201 : decode cX9_best 201 = .ok (.istore 7, 2) := by decide +kernel
theorem dX9_best_203 : decode cX9_best 203 = .ok (.iload 7, 2) := by decide +kernel
theorem dX9_best_205 : decode cX9_best 205 = .ok (.ifCond .eq 7, 3) := by decide +kernel
theorem dX9_best_208 : decode cX9_best 208 = .ok (.iconst 1, 1) := by decide +kernel
theorem dX9_best_209 : decode cX9_best 209 = .ok (.goto 4, 3) := by decide +kernel
theorem dX9_best_212 : decode cX9_best 212 = .ok (.iconst 0, 1) := by decide +kernel
theorem dX9_best_213 : decode cX9_best 213 = .ok (.istore 8, 2) := by decide +kernel
theorem dX9_best_215 : decode cX9_best 215 = .ok (.goto (-162), 3) := by decide +kernel
theorem dX9_best_218 : decode cX9_best 218 = .ok (.iload_n 3, 1) := by decide +kernel
theorem dX9_best_219 : decode cX9_best 219 = .ok (.ifCond .ne 8, 3) := by decide +kernel
theorem dX9_best_222 : decode cX9_best 222 = .ok (.iload 4, 2) := by decide +kernel
theorem dX9_best_224 : decode cX9_best 224 = .ok (.goto 15, 3) := by decide +kernel
theorem dX9_best_227 : decode cX9_best 227 = .ok (.iload_n 3, 1) := by decide +kernel
theorem dX9_best_228 : decode cX9_best 228 = .ok (.iconst 1, 1) := by decide +kernel
theorem dX9_best_229 : decode cX9_best 229 = .ok (.if_icmp .ne 8, 3) := by decide +kernel
theorem dX9_best_232 : decode cX9_best 232 = .ok (.iload 5, 2) := by decide +kernel
theorem dX9_best_234 : decode cX9_best 234 = .ok (.goto 5, 3) := by decide +kernel
theorem dX9_best_237 : decode cX9_best 237 = .ok (.iload 6, 2) := by decide +kernel
theorem dX9_best_239 : decode cX9_best 239 = .ok (.ireturn, 1) := by decide +kernel
theorem dX9_way_0 : decode cX9_way 0 = .ok (.aload_n 0, 1) := by decide +kernel
theorem dX9_way_1 : decode cX9_way 1 = .ok (.iload_n 1, 1) := by decide +kernel
theorem dX9_way_2 : decode cX9_way 2 = .ok (.iload_n 2, 1) := by decide +kernel
theorem dX9_way_3 : decode cX9_way 3 = .ok (.invokevirtual 284, 3) := by decide +kernel
theorem dX9_way_6 : decode cX9_way 6 = .ok (.ifCond .eq 13, 3) := by decide +kernel
theorem dX9_way_9 : decode cX9_way 9 = .ok (.iload_n 3, 1) := by decide +kernel
theorem dX9_way_10 : decode cX9_way 10 = .ok (.iconst 0, 1) := by decide +kernel
theorem dX9_way_11 : decode cX9_way 11 = .ok (.bipush 99, 2) := by decide +kernel
theorem dX9_way_13 : decode cX9_way 13 = .ok (.invokestatic 106, 3) := by decide +kernel
theorem dX9_way_16 : decode cX9_way 16 = .ok (.ifCond .ne 6, 3) := by decide +kernel
theorem dX9_way_19 : decode cX9_way 19 = .ok (.bipush (-2), 2) := by decide +kernel
theorem dX9_way_21 : decode cX9_way 21 = .ok (.ireturn, 1) := by decide +kernel
theorem dX9_way_22 : decode cX9_way 22 = .ok (.aload_n 0, 1) := by decide +kernel
theorem dX9_way_23 : decode cX9_way 23 = .ok (.getfield 78, 3) := by decide +kernel
theorem dX9_way_26 : decode cX9_way 26 = .ok (.bipush 12, 2) := by decide +kernel
theorem dX9_way_28 : decode cX9_way 28 = .ok (.iload_n 1, 1) := by decide +kernel
theorem dX9_way_29 : decode cX9_way 29 = .ok (.imul, 1) := by decide +kernel
theorem dX9_way_30 : decode cX9_way 30 = .ok (.iload_n 2, 1) := by decide +kernel
theorem dX9_way_31 : decode cX9_way 31 = .ok (.iadd, 1) := by decide +kernel
theorem dX9_way_32 : decode cX9_way 32 = .ok (.iaload, 1) := by decide +kernel
theorem dX9_way_33 : decode cX9_way 33 = .ok (.istore 4, 2) := by decide +kernel
theorem dX9_way_35 : decode cX9_way 35 = .ok (.aload_n 0, 1) := by decide +kernel
theorem dX9_way_36 : decode cX9_way 36 = .ok (.getfield 78, 3) := by decide +kernel
theorem dX9_way_39 : decode cX9_way 39 = .ok (.bipush 12, 2) := by decide +kernel
theorem dX9_way_41 : decode cX9_way 41 = .ok (.iload_n 1, 1) := by decide +kernel
theorem dX9_way_42 : decode cX9_way 42 = .ok (.imul, 1) := by decide +kernel
theorem dX9_way_43 : decode cX9_way 43 = .ok (.iload_n 2, 1) := by decide +kernel
theorem dX9_way_44 : decode cX9_way 44 = .ok (.iadd, 1) := by decide +kernel
theorem dX9_way_45 : decode cX9_way 45 = .ok (.iload_n 3, 1) := by decide +kernel
theorem dX9_way_46 : decode cX9_way 46 = .ok (.iastore, 1) := by decide +kernel
theorem dX9_way_47 : decode cX9_way 47 = .ok (.aload_n 0, 1) := by decide +kernel
theorem dX9_way_48 : decode cX9_way 48 = .ok (.getfield 78, 3) := by decide +kernel
theorem dX9_way_51 : decode cX9_way 51 = .ok (.bipush 12, 2) := by decide +kernel
theorem dX9_way_53 : decode cX9_way 53 = .ok (.iload_n 2, 1) := by decide +kernel
theorem dX9_way_54 : decode cX9_way 54 = .ok (.imul, 1) := by decide +kernel
theorem dX9_way_55 : decode cX9_way 55 = .ok (.iload_n 1, 1) := by decide +kernel
theorem dX9_way_56 : decode cX9_way 56 = .ok (.iadd, 1) := by decide +kernel
theorem dX9_way_57 : decode cX9_way 57 = .ok (.iload_n 3, 1) := by decide +kernel
theorem dX9_way_58 : decode cX9_way 58 = .ok (.iastore, 1) := by decide +kernel
theorem dX9_way_59 : decode cX9_way 59 = .ok (.iload 4, 2) := by decide +kernel
theorem dX9_way_61 : decode cX9_way 61 = .ok (.ireturn, 1) := by decide +kernel
theorem dX9_lowest_0 : decode cX9_lowest 0 = .ok (.iconst 0, 1) := by decide +kernel
theorem dX9_lowest_1 : decode cX9_lowest 1 = .ok (.istore_n 1, 1) := by decide +kernel
theorem dX9_lowest_2 : decode cX9_lowest 2 = .ok (.iload_n 0, 1) := by decide +kernel
theorem dX9_lowest_3 : decode cX9_lowest 3 = .ok (.iload_n 1, 1) := by decide +kernel
theorem dX9_lowest_4 : decode cX9_lowest 4 = .ok (.ishr, 1) := by decide +kernel
theorem dX9_lowest_5 : decode cX9_lowest 5 = .ok (.iconst 1, 1) := by decide +kernel
theorem dX9_lowest_6 : decode cX9_lowest 6 = .ok (.iand, 1) := by decide +kernel
theorem dX9_lowest_7 : decode cX9_lowest 7 = .ok (.ifCond .ne 9, 3) := by decide +kernel
theorem dX9_lowest_10 : decode cX9_lowest 10 = .ok (.iinc 1 1, 3) := by decide +kernel
theorem dX9_lowest_13 : decode cX9_lowest 13 = .ok (.goto (-11), 3) := by decide +kernel
theorem dX9_lowest_16 : decode cX9_lowest 16 = .ok (.iload_n 1, 1) := by decide +kernel
theorem dX9_lowest_17 : decode cX9_lowest 17 = .ok (.ireturn, 1) := by decide +kernel
theorem dX9_pairs_0 : decode cX9_pairs 0 = .ok (.aload_n 0, 1) := by decide +kernel
theorem dX9_pairs_1 : decode cX9_pairs 1 = .ok (.getfield 81, 3) := by decide +kernel
theorem dX9_pairs_4 : decode cX9_pairs 4 = .ok (.iconst 0, 1) := by decide +kernel
theorem dX9_pairs_5 : decode cX9_pairs 5 = .ok (.iconst 1, 1) := by decide +kernel
theorem dX9_pairs_6 : decode cX9_pairs 6 = .ok (.iastore, 1) := by decide +kernel
theorem dX9_pairs_7 : decode cX9_pairs 7 = .ok (.aload_n 0, 1) := by decide +kernel
theorem dX9_pairs_8 : decode cX9_pairs 8 = .ok (.getfield 84, 3) := by decide +kernel
theorem dX9_pairs_11 : decode cX9_pairs 11 = .ok (.iconst 0, 1) := by decide +kernel
theorem dX9_pairs_12 : decode cX9_pairs 12 = .ok (.iconst 0, 1) := by decide +kernel
theorem dX9_pairs_13 : decode cX9_pairs 13 = .ok (.iastore, 1) := by decide +kernel
theorem dX9_pairs_14 : decode cX9_pairs 14 = .ok (.iconst 1, 1) := by decide +kernel
theorem dX9_pairs_15 : decode cX9_pairs 15 = .ok (.istore_n 3, 1) := by decide +kernel
theorem dX9_pairs_16 : decode cX9_pairs 16 = .ok (.iload_n 3, 1) := by decide +kernel
theorem dX9_pairs_17 : decode cX9_pairs 17 = .ok (.iconst 1, 1) := by decide +kernel
theorem dX9_pairs_18 : decode cX9_pairs 18 = .ok (.aload_n 0, 1) := by decide +kernel
theorem dX9_pairs_19 : decode cX9_pairs 19 = .ok (.getfield 278, 3) := by decide +kernel
theorem dX9_pairs_22 : decode cX9_pairs 22 = .ok (.ishl, 1) := by decide +kernel
theorem dX9_pairs_23 : decode cX9_pairs 23 = .ok (.if_icmp .ge 196, 3) := by decide +kernel
theorem dX9_pairs_26 : decode cX9_pairs 26 = .ok (.aload_n 0, 1) := by decide +kernel
theorem dX9_pairs_27 : decode cX9_pairs 27 = .ok (.getfield 81, 3) := by decide +kernel
theorem dX9_pairs_30 : decode cX9_pairs 30 = .ok (.iload_n 3, 1) := by decide +kernel
theorem dX9_pairs_31 : decode cX9_pairs 31 = .ok (.iconst 0, 1) := by decide +kernel
theorem dX9_pairs_32 : decode cX9_pairs 32 = .ok (.iastore, 1) := by decide +kernel
theorem dX9_pairs_33 : decode cX9_pairs 33 = .ok (.aload_n 0, 1) := by decide +kernel
theorem dX9_pairs_34 : decode cX9_pairs 34 = .ok (.getfield 84, 3) := by decide +kernel
theorem dX9_pairs_37 : decode cX9_pairs 37 = .ok (.iload_n 3, 1) := by decide +kernel
theorem dX9_pairs_38 : decode cX9_pairs 38 = .ok (.iconst (-1), 1) := by decide +kernel
theorem dX9_pairs_39 : decode cX9_pairs 39 = .ok (.iastore, 1) := by decide +kernel
theorem dX9_pairs_40 : decode cX9_pairs 40 = .ok (.iload_n 3, 1) := by decide +kernel
theorem dX9_pairs_41 : decode cX9_pairs 41 = .ok (.iload_n 1, 1) := by decide +kernel
theorem dX9_pairs_42 : decode cX9_pairs 42 = .ok (.iconst (-1), 1) := by decide +kernel
theorem dX9_pairs_43 : decode cX9_pairs 43 = .ok (.ixor, 1) := by decide +kernel
theorem dX9_pairs_44 : decode cX9_pairs 44 = .ok (.iand, 1) := by decide +kernel
theorem dX9_pairs_45 : decode cX9_pairs 45 = .ok (.ifCond .ne 168, 3) := by decide +kernel
theorem dX9_pairs_48 : decode cX9_pairs 48 = .ok (.iload_n 3, 1) := by decide +kernel
theorem dX9_pairs_49 : decode cX9_pairs 49 = .ok (.invokestatic 296, 3) := by decide +kernel
theorem dX9_pairs_52 : decode cX9_pairs 52 = .ok (.iconst 2, 1) := by decide +kernel
theorem dX9_pairs_53 : decode cX9_pairs 53 = .ok (.irem, 1) := by decide +kernel
theorem dX9_pairs_54 : decode cX9_pairs 54 = .ok (.ifCond .ne 159, 3) := by decide +kernel
theorem dX9_pairs_57 : decode cX9_pairs 57 = .ok (.iload_n 3, 1) := by decide +kernel
theorem dX9_pairs_58 : decode cX9_pairs 58 = .ok (.invokestatic 305, 3) := by decide +kernel
theorem dX9_pairs_61 : decode cX9_pairs 61 = .ok (.istore 4, 2) := by decide +kernel
theorem dX9_pairs_63 : decode cX9_pairs 63 = .ok (.iload 4, 2) := by decide +kernel
theorem dX9_pairs_65 : decode cX9_pairs 65 = .ok (.iconst 1, 1) := by decide +kernel
theorem dX9_pairs_66 : decode cX9_pairs 66 = .ok (.iadd, 1) := by decide +kernel
theorem dX9_pairs_67 : decode cX9_pairs 67 = .ok (.istore 5, 2) := by decide +kernel
theorem dX9_pairs_69 : decode cX9_pairs 69 = .ok (.iload 5, 2) := by decide +kernel
theorem dX9_pairs_71 : decode cX9_pairs 71 = .ok (.aload_n 0, 1) := by decide +kernel
theorem dX9_pairs_72 : decode cX9_pairs 72 = .ok (.getfield 278, 3) := by decide +kernel
theorem dX9_pairs_75 : decode cX9_pairs 75 = .ok (.if_icmp .ge 138, 3) := by decide +kernel
theorem dX9_pairs_78 : decode cX9_pairs 78 = .ok (.iload_n 3, 1) := by decide +kernel
theorem dX9_pairs_79 : decode cX9_pairs 79 = .ok (.iconst 1, 1) := by decide +kernel
theorem dX9_pairs_80 : decode cX9_pairs 80 = .ok (.iload 4, 2) := by decide +kernel
theorem dX9_pairs_82 : decode cX9_pairs 82 = .ok (.ishl, 1) := by decide +kernel
theorem dX9_pairs_83 : decode cX9_pairs 83 = .ok (.iconst 1, 1) := by decide +kernel
theorem dX9_pairs_84 : decode cX9_pairs 84 = .ok (.iload 5, 2) := by decide +kernel
theorem dX9_pairs_86 : decode cX9_pairs 86 = .ok (.ishl, 1) := by decide +kernel
theorem dX9_pairs_87 : decode cX9_pairs 87 = .ok (.ior, 1) := by decide +kernel
theorem dX9_pairs_88 : decode cX9_pairs 88 = .ok (.iconst (-1), 1) := by decide +kernel
theorem dX9_pairs_89 : decode cX9_pairs 89 = .ok (.ixor, 1) := by decide +kernel
theorem dX9_pairs_90 : decode cX9_pairs 90 = .ok (.iand, 1) := by decide +kernel
theorem dX9_pairs_91 : decode cX9_pairs 91 = .ok (.istore 6, 2) := by decide +kernel
theorem dX9_pairs_93 : decode cX9_pairs 93 = .ok (.iload_n 3, 1) := by decide +kernel
theorem dX9_pairs_94 : decode cX9_pairs 94 = .ok (.iload 5, 2) := by decide +kernel
theorem dX9_pairs_96 : decode cX9_pairs 96 = .ok (.ishr, 1) := by decide +kernel
theorem dX9_pairs_97 : decode cX9_pairs 97 = .ok (.iconst 1, 1) := by decide +kernel
theorem dX9_pairs_98 : decode cX9_pairs 98 = .ok (.iand, 1) := by decide +kernel
theorem dX9_pairs_99 : decode cX9_pairs 99 = .ok (.iconst 1, 1) := by decide +kernel
theorem dX9_pairs_100 : decode cX9_pairs 100 = .ok (.if_icmp .ne 107, 3) := by decide +kernel
theorem dX9_pairs_103 : decode cX9_pairs 103 = .ok (.aload_n 0, 1) := by decide +kernel
theorem dX9_pairs_104 : decode cX9_pairs 104 = .ok (.getfield 78, 3) := by decide +kernel
theorem dX9_pairs_107 : decode cX9_pairs 107 = .ok (.bipush 12, 2) := by decide +kernel
theorem dX9_pairs_109 : decode cX9_pairs 109 = .ok (.iload 4, 2) := by decide +kernel
theorem dX9_pairs_111 : decode cX9_pairs 111 = .ok (.imul, 1) := by decide +kernel
theorem dX9_pairs_112 : decode cX9_pairs 112 = .ok (.iload 5, 2) := by decide +kernel
theorem dX9_pairs_114 : decode cX9_pairs 114 = .ok (.iadd, 1) := by decide +kernel
theorem dX9_pairs_115 : decode cX9_pairs 115 = .ok (.iaload, 1) := by decide +kernel
theorem dX9_pairs_116 : decode cX9_pairs 116 = .ok (.iload_n 2, 1) := by decide +kernel
theorem dX9_pairs_117 : decode cX9_pairs 117 = .ok (.if_icmp .gt 90, 3) := by decide +kernel
theorem dX9_pairs_120 : decode cX9_pairs 120 = .ok (.aload_n 0, 1) := by decide +kernel
theorem dX9_pairs_121 : decode cX9_pairs 121 = .ok (.getfield 81, 3) := by decide +kernel
theorem dX9_pairs_124 : decode cX9_pairs 124 = .ok (.iload 6, 2) := by decide +kernel
theorem dX9_pairs_126 : decode cX9_pairs 126 = .ok (.iaload, 1) := by decide +kernel
theorem dX9_pairs_127 : decode cX9_pairs 127 = .ok (.ifCond .le 80, 3) := by decide +kernel
theorem dX9_pairs_130 : decode cX9_pairs 130 = .ok (.aload_n 0, 1) := by decide +kernel
theorem dX9_pairs_131 : decode cX9_pairs 131 = .ok (.getfield 84, 3) := by decide +kernel
theorem dX9_pairs_134 : decode cX9_pairs 134 = .ok (.iload 6, 2) := by decide +kernel
theorem dX9_pairs_136 : decode cX9_pairs 136 = .ok (.iaload, 1) := by decide +kernel
theorem dX9_pairs_137 : decode cX9_pairs 137 = .ok (.aload_n 0, 1) := by decide +kernel
theorem dX9_pairs_138 : decode cX9_pairs 138 = .ok (.getfield 78, 3) := by decide +kernel
theorem dX9_pairs_141 : decode cX9_pairs 141 = .ok (.bipush 12, 2) := by decide +kernel
theorem dX9_pairs_143 : decode cX9_pairs 143 = .ok (.iload 4, 2) := by decide +kernel
theorem dX9_pairs_145 : decode cX9_pairs 145 = .ok (.imul, 1) := by decide +kernel
theorem dX9_pairs_146 : decode cX9_pairs 146 = .ok (.iload 5, 2) := by decide +kernel
theorem dX9_pairs_148 : decode cX9_pairs 148 = .ok (.iadd, 1) := by decide +kernel
theorem dX9_pairs_149 : decode cX9_pairs 149 = .ok (.iaload, 1) := by decide +kernel
theorem dX9_pairs_150 : decode cX9_pairs 150 = .ok (.iadd, 1) := by decide +kernel
theorem dX9_pairs_151 : decode cX9_pairs 151 = .ok (.istore 7, 2) := by decide +kernel
theorem dX9_pairs_153 : decode cX9_pairs 153 = .ok (.aload_n 0, 1) := by decide +kernel
theorem dX9_pairs_154 : decode cX9_pairs 154 = .ok (.getfield 81, 3) := by decide +kernel
theorem dX9_pairs_157 : decode cX9_pairs 157 = .ok (.iload_n 3, 1) := by decide +kernel
theorem dX9_pairs_158 : decode cX9_pairs 158 = .ok (.dup2, 1) := by decide +kernel
theorem dX9_pairs_159 : decode cX9_pairs 159 = .ok (.iaload, 1) := by decide +kernel
theorem dX9_pairs_160 : decode cX9_pairs 160 = .ok (.aload_n 0, 1) := by decide +kernel
theorem dX9_pairs_161 : decode cX9_pairs 161 = .ok (.getfield 81, 3) := by decide +kernel
theorem dX9_pairs_164 : decode cX9_pairs 164 = .ok (.iload 6, 2) := by decide +kernel
theorem dX9_pairs_166 : decode cX9_pairs 166 = .ok (.iaload, 1) := by decide +kernel
theorem dX9_pairs_167 : decode cX9_pairs 167 = .ok (.iadd, 1) := by decide +kernel
theorem dX9_pairs_168 : decode cX9_pairs 168 = .ok (.iastore, 1) := by decide +kernel
theorem dX9_pairs_169 : decode cX9_pairs 169 = .ok (.aload_n 0, 1) := by decide +kernel
theorem dX9_pairs_170 : decode cX9_pairs 170 = .ok (.getfield 84, 3) := by decide +kernel
theorem dX9_pairs_173 : decode cX9_pairs 173 = .ok (.iload_n 3, 1) := by decide +kernel
theorem dX9_pairs_174 : decode cX9_pairs 174 = .ok (.aload_n 0, 1) := by decide +kernel
theorem dX9_pairs_175 : decode cX9_pairs 175 = .ok (.getfield 84, 3) := by decide +kernel
theorem dX9_pairs_178 : decode cX9_pairs 178 = .ok (.iload_n 3, 1) := by decide +kernel
theorem dX9_pairs_179 : decode cX9_pairs 179 = .ok (.iaload, 1) := by decide +kernel
theorem dX9_pairs_180 : decode cX9_pairs 180 = .ok (.iconst (-1), 1) := by decide +kernel
theorem dX9_pairs_181 : decode cX9_pairs 181 = .ok (.if_icmp .eq 14, 3) := by decide +kernel
theorem dX9_pairs_184 : decode cX9_pairs 184 = .ok (.iload 7, 2) := by decide +kernel
theorem dX9_pairs_186 : decode cX9_pairs 186 = .ok (.aload_n 0, 1) := by decide +kernel
theorem dX9_pairs_187 : decode cX9_pairs 187 = .ok (.getfield 84, 3) := by decide +kernel
theorem dX9_pairs_190 : decode cX9_pairs 190 = .ok (.iload_n 3, 1) := by decide +kernel
theorem dX9_pairs_191 : decode cX9_pairs 191 = .ok (.iaload, 1) := by decide +kernel
theorem dX9_pairs_192 : decode cX9_pairs 192 = .ok (.if_icmp .ge 8, 3) := by decide +kernel
theorem dX9_pairs_195 : decode cX9_pairs 195 = .ok (.iload 7, 2) := by decide +kernel
theorem dX9_pairs_197 : decode cX9_pairs 197 = .ok (.goto 9, 3) := by decide +kernel
theorem dX9_pairs_200 : decode cX9_pairs 200 = .ok (.aload_n 0, 1) := by decide +kernel
theorem dX9_pairs_201 : decode cX9_pairs 201 = .ok (.getfield 84, 3) := by decide +kernel
theorem dX9_pairs_204 : decode cX9_pairs 204 = .ok (.iload_n 3, 1) := by decide +kernel
theorem dX9_pairs_205 : decode cX9_pairs 205 = .ok (.iaload, 1) := by decide +kernel
theorem dX9_pairs_206 : decode cX9_pairs 206 = .ok (.iastore, 1) := by decide +kernel
theorem dX9_pairs_207 : decode cX9_pairs 207 = .ok (.iinc 5 1, 3) := by decide +kernel
theorem dX9_pairs_210 : decode cX9_pairs 210 = .ok (.goto (-141), 3) := by decide +kernel
theorem dX9_pairs_213 : decode cX9_pairs 213 = .ok (.iinc 3 1, 3) := by decide +kernel
theorem dX9_pairs_216 : decode cX9_pairs 216 = .ok (.goto (-200), 3) := by decide +kernel
theorem dX9_pairs_219 : decode cX9_pairs 219 = .ok (.return_, 1) := by decide +kernel
theorem dX9_isCup_0 : decode cX9_isCup 0 = .ok (.iload_n 1, 1) := by decide +kernel
theorem dX9_isCup_1 : decode cX9_isCup 1 = .ok (.iconst 1, 1) := by decide +kernel
theorem dX9_isCup_2 : decode cX9_isCup 2 = .ok (.iconst 1, 1) := by decide +kernel
theorem dX9_isCup_3 : decode cX9_isCup 3 = .ok (.aload_n 0, 1) := by decide +kernel
theorem dX9_isCup_4 : decode cX9_isCup 4 = .ok (.getfield 278, 3) := by decide +kernel
theorem dX9_isCup_7 : decode cX9_isCup 7 = .ok (.ishl, 1) := by decide +kernel
theorem dX9_isCup_8 : decode cX9_isCup 8 = .ok (.iconst 1, 1) := by decide +kernel
theorem dX9_isCup_9 : decode cX9_isCup 9 = .ok (.isub, 1) := by decide +kernel
theorem dX9_isCup_10 : decode cX9_isCup 10 = .ok (.invokestatic 106, 3) := by decide +kernel
theorem dX9_isCup_13 : decode cX9_isCup 13 = .ok (.ifCond .eq 26, 3) := by decide +kernel
theorem dX9_isCup_16 : decode cX9_isCup 16 = .ok (.iload_n 1, 1) := by decide +kernel
theorem dX9_isCup_17 : decode cX9_isCup 17 = .ok (.invokestatic 296, 3) := by decide +kernel
theorem dX9_isCup_20 : decode cX9_isCup 20 = .ok (.iconst 2, 1) := by decide +kernel
theorem dX9_isCup_21 : decode cX9_isCup 21 = .ok (.irem, 1) := by decide +kernel
theorem dX9_isCup_22 : decode cX9_isCup 22 = .ok (.ifCond .ne 17, 3) := by decide +kernel
theorem dX9_isCup_25 : decode cX9_isCup 25 = .ok (.iload_n 2, 1) := by decide +kernel
theorem dX9_isCup_26 : decode cX9_isCup 26 = .ok (.iconst 0, 1) := by decide +kernel
theorem dX9_isCup_27 : decode cX9_isCup 27 = .ok (.bipush 99, 2) := by decide +kernel
theorem dX9_isCup_29 : decode cX9_isCup 29 = .ok (.invokestatic 106, 3) := by decide +kernel
theorem dX9_isCup_32 : decode cX9_isCup 32 = .ok (.ifCond .eq 7, 3) := by decide +kernel
theorem dX9_isCup_35 : decode cX9_isCup 35 = .ok (.iconst 1, 1) := by decide +kernel
theorem dX9_isCup_36 : decode cX9_isCup 36 = .ok (.goto 4, 3) := by decide +kernel
theorem dX9_isCup_39 : decode cX9_isCup 39 = .ok (.iconst 0, 1) := by decide +kernel
theorem dX9_isCup_40 : decode cX9_isCup 40 = .ok (.ireturn, 1) := by decide +kernel
theorem dX9_draws_0 : decode cX9_draws 0 = .ok (.aload_n 0, 1) := by decide +kernel
theorem dX9_draws_1 : decode cX9_draws 1 = .ok (.iload_n 1, 1) := by decide +kernel
theorem dX9_draws_2 : decode cX9_draws 2 = .ok (.iload_n 2, 1) := by decide +kernel
theorem dX9_draws_3 : decode cX9_draws 3 = .ok (.invokevirtual 308, 3) := by decide +kernel
theorem dX9_draws_6 : decode cX9_draws 6 = .ok (.ifCond .ne 6, 3) := by decide +kernel
theorem dX9_draws_9 : decode cX9_draws 9 = .ok (.bipush (-2), 2) := by decide +kernel
theorem dX9_draws_11 : decode cX9_draws 11 = .ok (.ireturn, 1) := by decide +kernel
theorem dX9_draws_12 : decode cX9_draws 12 = .ok (.aload_n 0, 1) := by decide +kernel
theorem dX9_draws_13 : decode cX9_draws 13 = .ok (.iload_n 1, 1) := by decide +kernel
theorem dX9_draws_14 : decode cX9_draws 14 = .ok (.iload_n 2, 1) := by decide +kernel
theorem dX9_draws_15 : decode cX9_draws 15 = .ok (.invokevirtual 311, 3) := by decide +kernel
theorem dX9_draws_18 : decode cX9_draws 18 = .ok (.aload_n 0, 1) := by decide +kernel
theorem dX9_draws_19 : decode cX9_draws 19 = .ok (.getfield 81, 3) := by decide +kernel
theorem dX9_draws_22 : decode cX9_draws 22 = .ok (.iload_n 1, 1) := by decide +kernel
theorem dX9_draws_23 : decode cX9_draws 23 = .ok (.iaload, 1) := by decide +kernel
theorem dX9_draws_24 : decode cX9_draws 24 = .ok (.ireturn, 1) := by decide +kernel
theorem dX9_mate_0 : decode cX9_mate 0 = .ok (.aload_n 0, 1) := by decide +kernel
theorem dX9_mate_1 : decode cX9_mate 1 = .ok (.iload_n 1, 1) := by decide +kernel
theorem dX9_mate_2 : decode cX9_mate 2 = .ok (.iload_n 2, 1) := by decide +kernel
theorem dX9_mate_3 : decode cX9_mate 3 = .ok (.invokevirtual 308, 3) := by decide +kernel
theorem dX9_mate_6 : decode cX9_mate 6 = .ok (.ifCond .eq 19, 3) := by decide +kernel
theorem dX9_mate_9 : decode cX9_mate 9 = .ok (.aload_n 0, 1) := by decide +kernel
theorem dX9_mate_10 : decode cX9_mate 10 = .ok (.iload_n 3, 1) := by decide +kernel
theorem dX9_mate_11 : decode cX9_mate 11 = .ok (.invokevirtual 281, 3) := by decide +kernel
theorem dX9_mate_14 : decode cX9_mate 14 = .ok (.ifCond .eq 11, 3) := by decide +kernel
theorem dX9_mate_17 : decode cX9_mate 17 = .ok (.iload_n 1, 1) := by decide +kernel
theorem dX9_mate_18 : decode cX9_mate 18 = .ok (.iload_n 3, 1) := by decide +kernel
theorem dX9_mate_19 : decode cX9_mate 19 = .ok (.ishr, 1) := by decide +kernel
theorem dX9_mate_20 : decode cX9_mate 20 = .ok (.iconst 1, 1) := by decide +kernel
theorem dX9_mate_21 : decode cX9_mate 21 = .ok (.iand, 1) := by decide +kernel
theorem dX9_mate_22 : decode cX9_mate 22 = .ok (.ifCond .ne 6, 3) := by decide +kernel
theorem dX9_mate_25 : decode cX9_mate 25 = .ok (.bipush (-2), 2) := by decide +kernel
theorem dX9_mate_27 : decode cX9_mate 27 = .ok (.ireturn, 1) := by decide +kernel
theorem dX9_mate_28 : decode cX9_mate 28 = .ok (.aload_n 0, 1) := by decide +kernel
theorem dX9_mate_29 : decode cX9_mate 29 = .ok (.iload_n 1, 1) := by decide +kernel
theorem dX9_mate_30 : decode cX9_mate 30 = .ok (.iload_n 2, 1) := by decide +kernel
theorem dX9_mate_31 : decode cX9_mate 31 = .ok (.invokevirtual 311, 3) := by decide +kernel
theorem dX9_mate_34 : decode cX9_mate 34 = .ok (.aload_n 0, 1) := by decide +kernel
theorem dX9_mate_35 : decode cX9_mate 35 = .ok (.getfield 81, 3) := by decide +kernel
theorem dX9_mate_38 : decode cX9_mate 38 = .ok (.iload_n 1, 1) := by decide +kernel
theorem dX9_mate_39 : decode cX9_mate 39 = .ok (.iaload, 1) := by decide +kernel
theorem dX9_mate_40 : decode cX9_mate 40 = .ok (.ifCond .ne 6, 3) := by decide +kernel
theorem dX9_mate_43 : decode cX9_mate 43 = .ok (.bipush (-3), 2) := by decide +kernel
theorem dX9_mate_45 : decode cX9_mate 45 = .ok (.ireturn, 1) := by decide +kernel
theorem dX9_mate_46 : decode cX9_mate 46 = .ok (.iload_n 1, 1) := by decide +kernel
theorem dX9_mate_47 : decode cX9_mate 47 = .ok (.istore 4, 2) := by decide +kernel
theorem dX9_mate_49 : decode cX9_mate 49 = .ok (.iload 4, 2) := by decide +kernel
theorem dX9_mate_51 : decode cX9_mate 51 = .ok (.ifCond .eq 81, 3) := by decide +kernel
theorem dX9_mate_54 : decode cX9_mate 54 = .ok (.iload 4, 2) := by decide +kernel
theorem dX9_mate_56 : decode cX9_mate 56 = .ok (.invokestatic 305, 3) := by decide +kernel
theorem dX9_mate_59 : decode cX9_mate 59 = .ok (.istore 5, 2) := by decide +kernel
theorem dX9_mate_61 : decode cX9_mate 61 = .ok (.iload 5, 2) := by decide +kernel
theorem dX9_mate_63 : decode cX9_mate 63 = .ok (.iconst 1, 1) := by decide +kernel
theorem dX9_mate_64 : decode cX9_mate 64 = .ok (.iadd, 1) := by decide +kernel
theorem dX9_mate_65 : decode cX9_mate 65 = .ok (.istore 6, 2) := by decide +kernel
theorem dX9_mate_67 : decode cX9_mate 67 = .ok (.aload_n 0, 1) := by decide +kernel
theorem dX9_mate_68 : decode cX9_mate 68 = .ok (.iload 4, 2) := by decide +kernel
theorem dX9_mate_70 : decode cX9_mate 70 = .ok (.iload 5, 2) := by decide +kernel
theorem dX9_mate_72 : decode cX9_mate 72 = .ok (.iload 6, 2) := by decide +kernel
theorem dX9_mate_74 : decode cX9_mate 74 = .ok (.iload_n 2, 1) := by decide +kernel
theorem dX9_mate_75 : decode cX9_mate 75 = .ok (.invokevirtual 314, 3) := by decide +kernel
theorem dX9_mate_78 : decode cX9_mate 78 = .ok (.ifCond .ne 9, 3) := by decide +kernel
theorem dX9_mate_81 : decode cX9_mate 81 = .ok (.iinc 6 1, 3) := by decide +kernel
theorem dX9_mate_84 : decode cX9_mate 84 = .ok (.goto (-17), 3) := by decide +kernel
theorem dX9_mate_87 : decode cX9_mate 87 = .ok (.iload_n 3, 1) := by decide +kernel
theorem dX9_mate_88 : decode cX9_mate 88 = .ok (.iload 5, 2) := by decide +kernel
theorem dX9_mate_90 : decode cX9_mate 90 = .ok (.if_icmp .eq 9, 3) := by decide +kernel
theorem dX9_mate_93 : decode cX9_mate 93 = .ok (.iload_n 3, 1) := by decide +kernel
theorem dX9_mate_94 : decode cX9_mate 94 = .ok (.iload 6, 2) := by decide +kernel
theorem dX9_mate_96 : decode cX9_mate 96 = .ok (.if_icmp .ne 17, 3) := by decide +kernel
theorem dX9_mate_99 : decode cX9_mate 99 = .ok (.iload_n 3, 1) := by decide +kernel
theorem dX9_mate_100 : decode cX9_mate 100 = .ok (.iload 5, 2) := by decide +kernel
theorem dX9_mate_102 : decode cX9_mate 102 = .ok (.if_icmp .ne 8, 3) := by decide +kernel
theorem dX9_mate_105 : decode cX9_mate 105 = .ok (.iload 6, 2) := by decide +kernel
theorem dX9_mate_107 : decode cX9_mate 107 = .ok (.goto 5, 3) := by decide +kernel
theorem dX9_mate_110 : decode cX9_mate 110 = .ok (.iload 5, 2) := by decide +kernel
theorem dX9_mate_112 : decode cX9_mate 112 = .ok (.ireturn, 1) := by decide +kernel
theorem dX9_mate_113 : decode cX9_mate 113 = .ok (.iload 4, 2) := by decide +kernel
theorem dX9_mate_115 : decode cX9_mate 115 = .ok (.iconst 1, 1) := by decide +kernel
theorem dX9_mate_116 : decode cX9_mate 116 = .ok (.iload 5, 2) := by decide +kernel
theorem dX9_mate_118 : decode cX9_mate 118 = .ok (.ishl, 1) := by decide +kernel
theorem dX9_mate_119 : decode cX9_mate 119 = .ok (.iconst 1, 1) := by decide +kernel
theorem dX9_mate_120 : decode cX9_mate 120 = .ok (.iload 6, 2) := by decide +kernel
theorem dX9_mate_122 : decode cX9_mate 122 = .ok (.ishl, 1) := by decide +kernel
theorem dX9_mate_123 : decode cX9_mate 123 = .ok (.ior, 1) := by decide +kernel
theorem dX9_mate_124 : decode cX9_mate 124 = .ok (.iconst (-1), 1) := by decide +kernel
theorem dX9_mate_125 : decode cX9_mate 125 = .ok (.ixor, 1) := by decide +kernel
theorem dX9_mate_126 : decode cX9_mate 126 = .ok (.iand, 1) := by decide +kernel
theorem dX9_mate_127 : decode cX9_mate 127 = .ok (.istore 4, 2) := by decide +kernel
theorem dX9_mate_129 : decode cX9_mate 129 = .ok (.goto (-80), 3) := by decide +kernel
theorem dX9_mate_132 : decode cX9_mate 132 = .ok (.bipush (-3), 2) := by decide +kernel
theorem dX9_mate_134 : decode cX9_mate 134 = .ok (.ireturn, 1) := by decide +kernel
theorem dX9_isMate_0 : decode cX9_isMate 0 = .ok (.iload_n 1, 1) := by decide +kernel
theorem dX9_isMate_1 : decode cX9_isMate 1 = .ok (.iconst 1, 1) := by decide +kernel
theorem dX9_isMate_2 : decode cX9_isMate 2 = .ok (.iload_n 2, 1) := by decide +kernel
theorem dX9_isMate_3 : decode cX9_isMate 3 = .ok (.ishl, 1) := by decide +kernel
theorem dX9_isMate_4 : decode cX9_isMate 4 = .ok (.iconst 1, 1) := by decide +kernel
theorem dX9_isMate_5 : decode cX9_isMate 5 = .ok (.iload_n 3, 1) := by decide +kernel
theorem dX9_isMate_6 : decode cX9_isMate 6 = .ok (.ishl, 1) := by decide +kernel
theorem dX9_isMate_7 : decode cX9_isMate 7 = .ok (.ior, 1) := by decide +kernel
theorem dX9_isMate_8 : decode cX9_isMate 8 = .ok (.iconst (-1), 1) := by decide +kernel
theorem dX9_isMate_9 : decode cX9_isMate 9 = .ok (.ixor, 1) := by decide +kernel
theorem dX9_isMate_10 : decode cX9_isMate 10 = .ok (.iand, 1) := by decide +kernel
theorem dX9_isMate_11 : decode cX9_isMate 11 = .ok (.istore 5, 2) := by decide +kernel
theorem dX9_isMate_13 : decode cX9_isMate 13 = .ok (.iload_n 1, 1) := by decide +kernel
theorem dX9_isMate_14 : decode cX9_isMate 14 = .ok (.iload_n 3, 1) := by decide +kernel
theorem dX9_isMate_15 : decode cX9_isMate 15 = .ok (.ishr, 1) := by decide +kernel
theorem dX9_isMate_16 : decode cX9_isMate 16 = .ok (.iconst 1, 1) := by decide +kernel
theorem dX9_isMate_17 : decode cX9_isMate 17 = .ok (.iand, 1) := by decide +kernel
theorem dX9_isMate_18 : decode cX9_isMate 18 = .ok (.iconst 1, 1) := by decide +kernel
theorem dX9_isMate_19 : decode cX9_isMate 19 = .ok (.if_icmp .ne 61, 3) := by decide +kernel
theorem dX9_isMate_22 : decode cX9_isMate 22 = .ok (.aload_n 0, 1) := by decide +kernel
theorem dX9_isMate_23 : decode cX9_isMate 23 = .ok (.getfield 78, 3) := by decide +kernel
theorem dX9_isMate_26 : decode cX9_isMate 26 = .ok (.bipush 12, 2) := by decide +kernel
theorem dX9_isMate_28 : decode cX9_isMate 28 = .ok (.iload_n 2, 1) := by decide +kernel
theorem dX9_isMate_29 : decode cX9_isMate 29 = .ok (.imul, 1) := by decide +kernel
theorem dX9_isMate_30 : decode cX9_isMate 30 = .ok (.iload_n 3, 1) := by decide +kernel
theorem dX9_isMate_31 : decode cX9_isMate 31 = .ok (.iadd, 1) := by decide +kernel
theorem dX9_isMate_32 : decode cX9_isMate 32 = .ok (.iaload, 1) := by decide +kernel
theorem dX9_isMate_33 : decode cX9_isMate 33 = .ok (.iload 4, 2) := by decide +kernel
theorem dX9_isMate_35 : decode cX9_isMate 35 = .ok (.if_icmp .gt 45, 3) := by decide +kernel
theorem dX9_isMate_38 : decode cX9_isMate 38 = .ok (.aload_n 0, 1) := by decide +kernel
theorem dX9_isMate_39 : decode cX9_isMate 39 = .ok (.getfield 81, 3) := by decide +kernel
theorem dX9_isMate_42 : decode cX9_isMate 42 = .ok (.iload 5, 2) := by decide +kernel
theorem dX9_isMate_44 : decode cX9_isMate 44 = .ok (.iaload, 1) := by decide +kernel
theorem dX9_isMate_45 : decode cX9_isMate 45 = .ok (.ifCond .le 35, 3) := by decide +kernel
theorem dX9_isMate_48 : decode cX9_isMate 48 = .ok (.aload_n 0, 1) := by decide +kernel
theorem dX9_isMate_49 : decode cX9_isMate 49 = .ok (.getfield 84, 3) := by decide +kernel
theorem dX9_isMate_52 : decode cX9_isMate 52 = .ok (.iload 5, 2) := by decide +kernel
theorem dX9_isMate_54 : decode cX9_isMate 54 = .ok (.iaload, 1) := by decide +kernel
theorem dX9_isMate_55 : decode cX9_isMate 55 = .ok (.aload_n 0, 1) := by decide +kernel
theorem dX9_isMate_56 : decode cX9_isMate 56 = .ok (.getfield 78, 3) := by decide +kernel
theorem dX9_isMate_59 : decode cX9_isMate 59 = .ok (.bipush 12, 2) := by decide +kernel
theorem dX9_isMate_61 : decode cX9_isMate 61 = .ok (.iload_n 2, 1) := by decide +kernel
theorem dX9_isMate_62 : decode cX9_isMate 62 = .ok (.imul, 1) := by decide +kernel
theorem dX9_isMate_63 : decode cX9_isMate 63 = .ok (.iload_n 3, 1) := by decide +kernel
theorem dX9_isMate_64 : decode cX9_isMate 64 = .ok (.iadd, 1) := by decide +kernel
theorem dX9_isMate_65 : decode cX9_isMate 65 = .ok (.iaload, 1) := by decide +kernel
theorem dX9_isMate_66 : decode cX9_isMate 66 = .ok (.iadd, 1) := by decide +kernel
theorem dX9_isMate_67 : decode cX9_isMate 67 = .ok (.aload_n 0, 1) := by decide +kernel
theorem dX9_isMate_68 : decode cX9_isMate 68 = .ok (.getfield 84, 3) := by decide +kernel
theorem dX9_isMate_71 : decode cX9_isMate 71 = .ok (.iload_n 1, 1) := by decide +kernel
theorem dX9_isMate_72 : decode cX9_isMate 72 = .ok (.iaload, 1) := by decide +kernel
theorem dX9_isMate_73 : decode cX9_isMate 73 = .ok (.if_icmp .ne 7, 3) := by decide +kernel
theorem dX9_isMate_76 : decode cX9_isMate 76 = .ok (.iconst 1, 1) := by decide +kernel
theorem dX9_isMate_77 : decode cX9_isMate 77 = .ok (.goto 4, 3) := by decide +kernel
theorem dX9_isMate_80 : decode cX9_isMate 80 = .ok (.iconst 0, 1) := by decide +kernel
theorem dX9_isMate_81 : decode cX9_isMate 81 = .ok (.ireturn, 1) := by decide +kernel
theorem dX9_cup_0 : decode cX9_cup 0 = .ok (.aload_n 0, 1) := by decide +kernel
theorem dX9_cup_1 : decode cX9_cup 1 = .ok (.iload_n 1, 1) := by decide +kernel
theorem dX9_cup_2 : decode cX9_cup 2 = .ok (.iload_n 2, 1) := by decide +kernel
theorem dX9_cup_3 : decode cX9_cup 3 = .ok (.invokevirtual 308, 3) := by decide +kernel
theorem dX9_cup_6 : decode cX9_cup 6 = .ok (.ifCond .ne 6, 3) := by decide +kernel
theorem dX9_cup_9 : decode cX9_cup 9 = .ok (.bipush (-2), 2) := by decide +kernel
theorem dX9_cup_11 : decode cX9_cup 11 = .ok (.ireturn, 1) := by decide +kernel
theorem dX9_cup_12 : decode cX9_cup 12 = .ok (.aload_n 0, 1) := by decide +kernel
theorem dX9_cup_13 : decode cX9_cup 13 = .ok (.iload_n 1, 1) := by decide +kernel
theorem dX9_cup_14 : decode cX9_cup 14 = .ok (.iload_n 2, 1) := by decide +kernel
theorem dX9_cup_15 : decode cX9_cup 15 = .ok (.invokevirtual 311, 3) := by decide +kernel
theorem dX9_cup_18 : decode cX9_cup 18 = .ok (.aload_n 0, 1) := by decide +kernel
theorem dX9_cup_19 : decode cX9_cup 19 = .ok (.getfield 81, 3) := by decide +kernel
theorem dX9_cup_22 : decode cX9_cup 22 = .ok (.iload_n 1, 1) := by decide +kernel
theorem dX9_cup_23 : decode cX9_cup 23 = .ok (.iaload, 1) := by decide +kernel
theorem dX9_cup_24 : decode cX9_cup 24 = .ok (.ifCond .ne 8, 3) := by decide +kernel
theorem dX9_cup_27 : decode cX9_cup 27 = .ok (.bipush (-3), 2) := by decide +kernel
theorem dX9_cup_29 : decode cX9_cup 29 = .ok (.goto 9, 3) := by decide +kernel
theorem dX9_cup_32 : decode cX9_cup 32 = .ok (.aload_n 0, 1) := by decide +kernel
theorem dX9_cup_33 : decode cX9_cup 33 = .ok (.getfield 84, 3) := by decide +kernel
theorem dX9_cup_36 : decode cX9_cup 36 = .ok (.iload_n 1, 1) := by decide +kernel
theorem dX9_cup_37 : decode cX9_cup 37 = .ok (.iaload, 1) := by decide +kernel
theorem dX9_cup_38 : decode cX9_cup 38 = .ok (.ireturn, 1) := by decide +kernel
theorem dX9_meets_0 : decode cX9_meets 0 = .ok (.aload_n 0, 1) := by decide +kernel
theorem dX9_meets_1 : decode cX9_meets 1 = .ok (.iload_n 1, 1) := by decide +kernel
theorem dX9_meets_2 : decode cX9_meets 2 = .ok (.putfield 318, 3) := by decide +kernel
theorem dX9_meets_5 : decode cX9_meets 5 = .ok (.bipush (-10), 2) := by decide +kernel
theorem dX9_meets_7 : decode cX9_meets 7 = .ok (.iload_n 1, 1) := by decide +kernel
theorem dX9_meets_8 : decode cX9_meets 8 = .ok (.isub, 1) := by decide +kernel
theorem dX9_meets_9 : decode cX9_meets 9 = .ok (.ireturn, 1) := by decide +kernel
theorem dX9_isSheet_0 : decode cX9_isSheet 0 = .ok (.iload_n 0, 1) := by decide +kernel
theorem dX9_isSheet_1 : decode cX9_isSheet 1 = .ok (.iconst 0, 1) := by decide +kernel
theorem dX9_isSheet_2 : decode cX9_isSheet 2 = .ok (.iconst 3, 1) := by decide +kernel
theorem dX9_isSheet_3 : decode cX9_isSheet 3 = .ok (.invokestatic 106, 3) := by decide +kernel
theorem dX9_isSheet_6 : decode cX9_isSheet 6 = .ok (.ireturn, 1) := by decide +kernel
theorem dX9_sheet_0 : decode cX9_sheet 0 = .ok (.iload_n 1, 1) := by decide +kernel
theorem dX9_sheet_1 : decode cX9_sheet 1 = .ok (.invokestatic 196, 3) := by decide +kernel
theorem dX9_sheet_4 : decode cX9_sheet 4 = .ok (.ifCond .eq 18, 3) := by decide +kernel
theorem dX9_sheet_7 : decode cX9_sheet 7 = .ok (.iload_n 2, 1) := by decide +kernel
theorem dX9_sheet_8 : decode cX9_sheet 8 = .ok (.iconst 0, 1) := by decide +kernel
theorem dX9_sheet_9 : decode cX9_sheet 9 = .ok (.iconst 2, 1) := by decide +kernel
theorem dX9_sheet_10 : decode cX9_sheet 10 = .ok (.invokestatic 106, 3) := by decide +kernel
theorem dX9_sheet_13 : decode cX9_sheet 13 = .ok (.ifCond .eq 9, 3) := by decide +kernel
theorem dX9_sheet_16 : decode cX9_sheet 16 = .ok (.iload_n 3, 1) := by decide +kernel
theorem dX9_sheet_17 : decode cX9_sheet 17 = .ok (.bipush 60, 2) := by decide +kernel
theorem dX9_sheet_19 : decode cX9_sheet 19 = .ok (.if_icmp .le 6, 3) := by decide +kernel
theorem dX9_sheet_22 : decode cX9_sheet 22 = .ok (.bipush (-2), 2) := by decide +kernel
theorem dX9_sheet_24 : decode cX9_sheet 24 = .ok (.ireturn, 1) := by decide +kernel
theorem dX9_sheet_25 : decode cX9_sheet 25 = .ok (.iload_n 3, 1) := by decide +kernel
theorem dX9_sheet_26 : decode cX9_sheet 26 = .ok (.ifCond .ge 9, 3) := by decide +kernel
theorem dX9_sheet_29 : decode cX9_sheet 29 = .ok (.aload_n 0, 1) := by decide +kernel
theorem dX9_sheet_30 : decode cX9_sheet 30 = .ok (.iconst 5, 1) := by decide +kernel
theorem dX9_sheet_31 : decode cX9_sheet 31 = .ok (.invokevirtual 199, 3) := by decide +kernel
theorem dX9_sheet_34 : decode cX9_sheet 34 = .ok (.ireturn, 1) := by decide +kernel
theorem dX9_sheet_35 : decode cX9_sheet 35 = .ok (.aload_n 0, 1) := by decide +kernel
theorem dX9_sheet_36 : decode cX9_sheet 36 = .ok (.getfield 87, 3) := by decide +kernel
theorem dX9_sheet_39 : decode cX9_sheet 39 = .ok (.iload_n 1, 1) := by decide +kernel
theorem dX9_sheet_40 : decode cX9_sheet 40 = .ok (.iconst 1, 1) := by decide +kernel
theorem dX9_sheet_41 : decode cX9_sheet 41 = .ok (.bastore, 1) := by decide +kernel
theorem dX9_sheet_42 : decode cX9_sheet 42 = .ok (.aload_n 0, 1) := by decide +kernel
theorem dX9_sheet_43 : decode cX9_sheet 43 = .ok (.getfield 90, 3) := by decide +kernel
theorem dX9_sheet_46 : decode cX9_sheet 46 = .ok (.iload_n 1, 1) := by decide +kernel
theorem dX9_sheet_47 : decode cX9_sheet 47 = .ok (.iload_n 2, 1) := by decide +kernel
theorem dX9_sheet_48 : decode cX9_sheet 48 = .ok (.iastore, 1) := by decide +kernel
theorem dX9_sheet_49 : decode cX9_sheet 49 = .ok (.aload_n 0, 1) := by decide +kernel
theorem dX9_sheet_50 : decode cX9_sheet 50 = .ok (.getfield 93, 3) := by decide +kernel
theorem dX9_sheet_53 : decode cX9_sheet 53 = .ok (.iload_n 1, 1) := by decide +kernel
theorem dX9_sheet_54 : decode cX9_sheet 54 = .ok (.iload_n 3, 1) := by decide +kernel
theorem dX9_sheet_55 : decode cX9_sheet 55 = .ok (.iastore, 1) := by decide +kernel
theorem dX9_sheet_56 : decode cX9_sheet 56 = .ok (.iconst 0, 1) := by decide +kernel
theorem dX9_sheet_57 : decode cX9_sheet 57 = .ok (.istore 4, 2) := by decide +kernel
theorem dX9_sheet_59 : decode cX9_sheet 59 = .ok (.iload 4, 2) := by decide +kernel
theorem dX9_sheet_61 : decode cX9_sheet 61 = .ok (.bipush 60, 2) := by decide +kernel
theorem dX9_sheet_63 : decode cX9_sheet 63 = .ok (.if_icmp .ge 22, 3) := by decide +kernel
theorem dX9_sheet_66 : decode cX9_sheet 66 = .ok (.aload_n 0, 1) := by decide +kernel
theorem dX9_sheet_67 : decode cX9_sheet 67 = .ok (.getfield 96, 3) := by decide +kernel
theorem dX9_sheet_70 : decode cX9_sheet 70 = .ok (.bipush 60, 2) := by decide +kernel
theorem dX9_sheet_72 : decode cX9_sheet 72 = .ok (.iload_n 1, 1) := by decide +kernel
theorem dX9_sheet_73 : decode cX9_sheet 73 = .ok (.imul, 1) := by decide +kernel
theorem dX9_sheet_74 : decode cX9_sheet 74 = .ok (.iload 4, 2) := by decide +kernel
theorem dX9_sheet_76 : decode cX9_sheet 76 = .ok (.iadd, 1) := by decide +kernel
theorem dX9_sheet_77 : decode cX9_sheet 77 = .ok (.iconst 0, 1) := by decide +kernel
theorem dX9_sheet_78 : decode cX9_sheet 78 = .ok (.iastore, 1) := by decide +kernel
theorem dX9_sheet_79 : decode cX9_sheet 79 = .ok (.iinc 4 1, 3) := by decide +kernel
theorem dX9_sheet_82 : decode cX9_sheet 82 = .ok (.goto (-23), 3) := by decide +kernel
theorem dX9_sheet_85 : decode cX9_sheet 85 = .ok (.iload_n 3, 1) := by decide +kernel
theorem dX9_sheet_86 : decode cX9_sheet 86 = .ok (.ireturn, 1) := by decide +kernel
theorem dX9_lose_0 : decode cX9_lose 0 = .ok (.iload_n 1, 1) := by decide +kernel
theorem dX9_lose_1 : decode cX9_lose 1 = .ok (.invokestatic 196, 3) := by decide +kernel
theorem dX9_lose_4 : decode cX9_lose 4 = .ok (.ifCond .ne 6, 3) := by decide +kernel
theorem dX9_lose_7 : decode cX9_lose 7 = .ok (.bipush (-2), 2) := by decide +kernel
theorem dX9_lose_9 : decode cX9_lose 9 = .ok (.ireturn, 1) := by decide +kernel
theorem dX9_lose_10 : decode cX9_lose 10 = .ok (.aload_n 0, 1) := by decide +kernel
theorem dX9_lose_11 : decode cX9_lose 11 = .ok (.getfield 87, 3) := by decide +kernel
theorem dX9_lose_14 : decode cX9_lose 14 = .ok (.iload_n 1, 1) := by decide +kernel
theorem dX9_lose_15 : decode cX9_lose 15 = .ok (.baload, 1) := by decide +kernel
theorem dX9_lose_16 : decode cX9_lose 16 = .ok (.ifCond .ne 9, 3) := by decide +kernel
theorem dX9_lose_19 : decode cX9_lose 19 = .ok (.aload_n 0, 1) := by decide +kernel
theorem dX9_lose_20 : decode cX9_lose 20 = .ok (.iconst 1, 1) := by decide +kernel
theorem dX9_lose_21 : decode cX9_lose 21 = .ok (.invokevirtual 199, 3) := by decide +kernel
theorem dX9_lose_24 : decode cX9_lose 24 = .ok (.ireturn, 1) := by decide +kernel
theorem dX9_lose_25 : decode cX9_lose 25 = .ok (.aload_n 0, 1) := by decide +kernel
theorem dX9_lose_26 : decode cX9_lose 26 = .ok (.getfield 87, 3) := by decide +kernel
theorem dX9_lose_29 : decode cX9_lose 29 = .ok (.iload_n 1, 1) := by decide +kernel
theorem dX9_lose_30 : decode cX9_lose 30 = .ok (.iconst 0, 1) := by decide +kernel
theorem dX9_lose_31 : decode cX9_lose 31 = .ok (.bastore, 1) := by decide +kernel
theorem dX9_lose_32 : decode cX9_lose 32 = .ok (.aload_n 0, 1) := by decide +kernel
theorem dX9_lose_33 : decode cX9_lose 33 = .ok (.getfield 93, 3) := by decide +kernel
theorem dX9_lose_36 : decode cX9_lose 36 = .ok (.iload_n 1, 1) := by decide +kernel
theorem dX9_lose_37 : decode cX9_lose 37 = .ok (.iaload, 1) := by decide +kernel
theorem dX9_lose_38 : decode cX9_lose 38 = .ok (.ireturn, 1) := by decide +kernel
theorem dX9_lacks_0 : decode cX9_lacks 0 = .ok (.aload_n 0, 1) := by decide +kernel
theorem dX9_lacks_1 : decode cX9_lacks 1 = .ok (.getfield 87, 3) := by decide +kernel
theorem dX9_lacks_4 : decode cX9_lacks 4 = .ok (.iload_n 1, 1) := by decide +kernel
theorem dX9_lacks_5 : decode cX9_lacks 5 = .ok (.baload, 1) := by decide +kernel
theorem dX9_lacks_6 : decode cX9_lacks 6 = .ok (.ifCond .ne 7, 3) := by decide +kernel
theorem dX9_lacks_9 : decode cX9_lacks 9 = .ok (.iconst 1, 1) := by decide +kernel
theorem dX9_lacks_10 : decode cX9_lacks 10 = .ok (.goto 38, 3) := by decide +kernel
theorem dX9_lacks_13 : decode cX9_lacks 13 = .ok (.aload_n 0, 1) := by decide +kernel
theorem dX9_lacks_14 : decode cX9_lacks 14 = .ok (.getfield 90, 3) := by decide +kernel
theorem dX9_lacks_17 : decode cX9_lacks 17 = .ok (.iload_n 1, 1) := by decide +kernel
theorem dX9_lacks_18 : decode cX9_lacks 18 = .ok (.iaload, 1) := by decide +kernel
theorem dX9_lacks_19 : decode cX9_lacks 19 = .ok (.iload_n 2, 1) := by decide +kernel
theorem dX9_lacks_20 : decode cX9_lacks 20 = .ok (.if_icmp .eq 7, 3) := by decide +kernel
theorem dX9_lacks_23 : decode cX9_lacks 23 = .ok (.iconst 3, 1) := by decide +kernel
theorem dX9_lacks_24 : decode cX9_lacks 24 = .ok (.goto 24, 3) := by decide +kernel
theorem dX9_lacks_27 : decode cX9_lacks 27 = .ok (.iload_n 3, 1) := by decide +kernel
theorem dX9_lacks_28 : decode cX9_lacks 28 = .ok (.iconst 0, 1) := by decide +kernel
theorem dX9_lacks_29 : decode cX9_lacks 29 = .ok (.aload_n 0, 1) := by decide +kernel
theorem dX9_lacks_30 : decode cX9_lacks 30 = .ok (.getfield 93, 3) := by decide +kernel
theorem dX9_lacks_33 : decode cX9_lacks 33 = .ok (.iload_n 1, 1) := by decide +kernel
theorem dX9_lacks_34 : decode cX9_lacks 34 = .ok (.iaload, 1) := by decide +kernel
theorem dX9_lacks_35 : decode cX9_lacks 35 = .ok (.iconst 1, 1) := by decide +kernel
theorem dX9_lacks_36 : decode cX9_lacks 36 = .ok (.isub, 1) := by decide +kernel
theorem dX9_lacks_37 : decode cX9_lacks 37 = .ok (.invokestatic 106, 3) := by decide +kernel
theorem dX9_lacks_40 : decode cX9_lacks 40 = .ok (.ifCond .eq 7, 3) := by decide +kernel
theorem dX9_lacks_43 : decode cX9_lacks 43 = .ok (.iconst 0, 1) := by decide +kernel
theorem dX9_lacks_44 : decode cX9_lacks 44 = .ok (.goto 4, 3) := by decide +kernel
theorem dX9_lacks_47 : decode cX9_lacks 47 = .ok (.iconst 2, 1) := by decide +kernel
theorem dX9_lacks_48 : decode cX9_lacks 48 = .ok (.ireturn, 1) := by decide +kernel
theorem dX9_keep_0 : decode cX9_keep 0 = .ok (.aload_n 0, 1) := by decide +kernel
theorem dX9_keep_1 : decode cX9_keep 1 = .ok (.getfield 96, 3) := by decide +kernel
theorem dX9_keep_4 : decode cX9_keep 4 = .ok (.bipush 60, 2) := by decide +kernel
theorem dX9_keep_6 : decode cX9_keep 6 = .ok (.iload_n 1, 1) := by decide +kernel
theorem dX9_keep_7 : decode cX9_keep 7 = .ok (.imul, 1) := by decide +kernel
theorem dX9_keep_8 : decode cX9_keep 8 = .ok (.iload_n 2, 1) := by decide +kernel
theorem dX9_keep_9 : decode cX9_keep 9 = .ok (.iadd, 1) := by decide +kernel
theorem dX9_keep_10 : decode cX9_keep 10 = .ok (.aload_n 0, 1) := by decide +kernel
theorem dX9_keep_11 : decode cX9_keep 11 = .ok (.getfield 90, 3) := by decide +kernel
theorem dX9_keep_14 : decode cX9_keep 14 = .ok (.iload_n 1, 1) := by decide +kernel
theorem dX9_keep_15 : decode cX9_keep 15 = .ok (.iaload, 1) := by decide +kernel
theorem dX9_keep_16 : decode cX9_keep 16 = .ok (.ifCond .ne 8, 3) := by decide +kernel
theorem dX9_keep_19 : decode cX9_keep 19 = .ok (.iload_n 3, 1) := by decide +kernel
theorem dX9_keep_20 : decode cX9_keep 20 = .ok (.i2b, 1) := by decide +kernel
theorem dX9_keep_21 : decode cX9_keep 21 = .ok (.goto 19, 3) := by decide +kernel
theorem dX9_keep_24 : decode cX9_keep 24 = .ok (.aload_n 0, 1) := by decide +kernel
theorem dX9_keep_25 : decode cX9_keep 25 = .ok (.getfield 90, 3) := by decide +kernel
theorem dX9_keep_28 : decode cX9_keep 28 = .ok (.iload_n 1, 1) := by decide +kernel
theorem dX9_keep_29 : decode cX9_keep 29 = .ok (.iaload, 1) := by decide +kernel
theorem dX9_keep_30 : decode cX9_keep 30 = .ok (.iconst 1, 1) := by decide +kernel
theorem dX9_keep_31 : decode cX9_keep 31 = .ok (.if_icmp .ne 8, 3) := by decide +kernel
theorem dX9_keep_34 : decode cX9_keep 34 = .ok (.iload_n 3, 1) := by decide +kernel
theorem dX9_keep_35 : decode cX9_keep 35 = .ok (.i2s, 1) := by decide +kernel
theorem dX9_keep_36 : decode cX9_keep 36 = .ok (.goto 4, 3) := by decide +kernel
theorem dX9_keep_39 : decode cX9_keep 39 = .ok (.iload_n 3, 1) := by decide +kernel
theorem dX9_keep_40 : decode cX9_keep 40 = .ok (.iastore, 1) := by decide +kernel
theorem dX9_keep_41 : decode cX9_keep 41 = .ok (.return_, 1) := by decide +kernel
theorem dX9_lay_0 : decode cX9_lay 0 = .ok (.iload_n 1, 1) := by decide +kernel
theorem dX9_lay_1 : decode cX9_lay 1 = .ok (.invokestatic 196, 3) := by decide +kernel
theorem dX9_lay_4 : decode cX9_lay 4 = .ok (.ifCond .eq 12, 3) := by decide +kernel
theorem dX9_lay_7 : decode cX9_lay 7 = .ok (.iload_n 2, 1) := by decide +kernel
theorem dX9_lay_8 : decode cX9_lay 8 = .ok (.iconst 0, 1) := by decide +kernel
theorem dX9_lay_9 : decode cX9_lay 9 = .ok (.iconst 2, 1) := by decide +kernel
theorem dX9_lay_10 : decode cX9_lay 10 = .ok (.invokestatic 106, 3) := by decide +kernel
theorem dX9_lay_13 : decode cX9_lay 13 = .ok (.ifCond .ne 6, 3) := by decide +kernel
theorem dX9_lay_16 : decode cX9_lay 16 = .ok (.bipush (-2), 2) := by decide +kernel
theorem dX9_lay_18 : decode cX9_lay 18 = .ok (.ireturn, 1) := by decide +kernel
theorem dX9_lay_19 : decode cX9_lay 19 = .ok (.aload_n 0, 1) := by decide +kernel
theorem dX9_lay_20 : decode cX9_lay 20 = .ok (.iload_n 1, 1) := by decide +kernel
theorem dX9_lay_21 : decode cX9_lay 21 = .ok (.iload_n 2, 1) := by decide +kernel
theorem dX9_lay_22 : decode cX9_lay 22 = .ok (.iload_n 3, 1) := by decide +kernel
theorem dX9_lay_23 : decode cX9_lay 23 = .ok (.invokevirtual 321, 3) := by decide +kernel
theorem dX9_lay_26 : decode cX9_lay 26 = .ok (.istore 5, 2) := by decide +kernel
theorem dX9_lay_28 : decode cX9_lay 28 = .ok (.iload 5, 2) := by decide +kernel
theorem dX9_lay_30 : decode cX9_lay 30 = .ok (.ifCond .le 10, 3) := by decide +kernel
theorem dX9_lay_33 : decode cX9_lay 33 = .ok (.aload_n 0, 1) := by decide +kernel
theorem dX9_lay_34 : decode cX9_lay 34 = .ok (.iload 5, 2) := by decide +kernel
theorem dX9_lay_36 : decode cX9_lay 36 = .ok (.invokevirtual 199, 3) := by decide +kernel
theorem dX9_lay_39 : decode cX9_lay 39 = .ok (.ireturn, 1) := by decide +kernel
theorem dX9_lay_40 : decode cX9_lay 40 = .ok (.aload_n 0, 1) := by decide +kernel
theorem dX9_lay_41 : decode cX9_lay 41 = .ok (.iload_n 1, 1) := by decide +kernel
theorem dX9_lay_42 : decode cX9_lay 42 = .ok (.iload_n 3, 1) := by decide +kernel
theorem dX9_lay_43 : decode cX9_lay 43 = .ok (.iload 4, 2) := by decide +kernel
theorem dX9_lay_45 : decode cX9_lay 45 = .ok (.invokevirtual 324, 3) := by decide +kernel
theorem dX9_lay_48 : decode cX9_lay 48 = .ok (.iconst 1, 1) := by decide +kernel
theorem dX9_lay_49 : decode cX9_lay 49 = .ok (.ireturn, 1) := by decide +kernel
theorem dX9_get_0 : decode cX9_get 0 = .ok (.iload_n 1, 1) := by decide +kernel
theorem dX9_get_1 : decode cX9_get 1 = .ok (.invokestatic 196, 3) := by decide +kernel
theorem dX9_get_4 : decode cX9_get 4 = .ok (.ifCond .eq 12, 3) := by decide +kernel
theorem dX9_get_7 : decode cX9_get 7 = .ok (.iload_n 2, 1) := by decide +kernel
theorem dX9_get_8 : decode cX9_get 8 = .ok (.iconst 0, 1) := by decide +kernel
theorem dX9_get_9 : decode cX9_get 9 = .ok (.iconst 2, 1) := by decide +kernel
theorem dX9_get_10 : decode cX9_get 10 = .ok (.invokestatic 106, 3) := by decide +kernel
theorem dX9_get_13 : decode cX9_get 13 = .ok (.ifCond .ne 7, 3) := by decide +kernel
theorem dX9_get_16 : decode cX9_get 16 = .ok (.ldc_w 327, 3) := by decide +kernel
theorem dX9_get_19 : decode cX9_get 19 = .ok (.ireturn, 1) := by decide +kernel
theorem dX9_get_20 : decode cX9_get 20 = .ok (.aload_n 0, 1) := by decide +kernel
theorem dX9_get_21 : decode cX9_get 21 = .ok (.iload_n 1, 1) := by decide +kernel
theorem dX9_get_22 : decode cX9_get 22 = .ok (.iload_n 2, 1) := by decide +kernel
theorem dX9_get_23 : decode cX9_get 23 = .ok (.iload_n 3, 1) := by decide +kernel
theorem dX9_get_24 : decode cX9_get 24 = .ok (.invokevirtual 321, 3) := by decide +kernel
theorem dX9_get_27 : decode cX9_get 27 = .ok (.istore 4, 2) := by decide +kernel
theorem dX9_get_29 : decode cX9_get 29 = .ok (.iload 4, 2) := by decide +kernel
theorem dX9_get_31 : decode cX9_get 31 = .ok (.ifCond .le 13, 3) := by decide +kernel
theorem dX9_get_34 : decode cX9_get 34 = .ok (.aload_n 0, 1) := by decide +kernel
theorem dX9_get_35 : decode cX9_get 35 = .ok (.iload 4, 2) := by decide +kernel
theorem dX9_get_37 : decode cX9_get 37 = .ok (.putfield 318, 3) := by decide +kernel
theorem dX9_get_40 : decode cX9_get 40 = .ok (.ldc_w 327, 3) := by decide +kernel
theorem dX9_get_43 : decode cX9_get 43 = .ok (.ireturn, 1) := by decide +kernel
theorem dX9_get_44 : decode cX9_get 44 = .ok (.aload_n 0, 1) := by decide +kernel
theorem dX9_get_45 : decode cX9_get 45 = .ok (.getfield 96, 3) := by decide +kernel
theorem dX9_get_48 : decode cX9_get 48 = .ok (.bipush 60, 2) := by decide +kernel
theorem dX9_get_50 : decode cX9_get 50 = .ok (.iload_n 1, 1) := by decide +kernel
theorem dX9_get_51 : decode cX9_get 51 = .ok (.imul, 1) := by decide +kernel
theorem dX9_get_52 : decode cX9_get 52 = .ok (.iload_n 3, 1) := by decide +kernel
theorem dX9_get_53 : decode cX9_get 53 = .ok (.iadd, 1) := by decide +kernel
theorem dX9_get_54 : decode cX9_get 54 = .ok (.iaload, 1) := by decide +kernel
theorem dX9_get_55 : decode cX9_get 55 = .ok (.ireturn, 1) := by decide +kernel
theorem dX9_copy_0 : decode cX9_copy 0 = .ok (.iload_n 1, 1) := by decide +kernel
theorem dX9_copy_1 : decode cX9_copy 1 = .ok (.invokestatic 196, 3) := by decide +kernel
theorem dX9_copy_4 : decode cX9_copy 4 = .ok (.ifCond .eq 10, 3) := by decide +kernel
theorem dX9_copy_7 : decode cX9_copy 7 = .ok (.iload_n 3, 1) := by decide +kernel
theorem dX9_copy_8 : decode cX9_copy 8 = .ok (.invokestatic 196, 3) := by decide +kernel
theorem dX9_copy_11 : decode cX9_copy 11 = .ok (.ifCond .ne 6, 3) := by decide +kernel
theorem dX9_copy_14 : decode cX9_copy 14 = .ok (.bipush (-2), 2) := by decide +kernel
theorem dX9_copy_16 : decode cX9_copy 16 = .ok (.ireturn, 1) := by decide +kernel
theorem dX9_copy_17 : decode cX9_copy 17 = .ok (.aload_n 0, 1) := by decide +kernel
theorem dX9_copy_18 : decode cX9_copy 18 = .ok (.getfield 87, 3) := by decide +kernel
theorem dX9_copy_21 : decode cX9_copy 21 = .ok (.iload_n 1, 1) := by decide +kernel
theorem dX9_copy_22 : decode cX9_copy 22 = .ok (.baload, 1) := by decide +kernel
theorem dX9_copy_23 : decode cX9_copy 23 = .ok (.ifCond .eq 12, 3) := by decide +kernel
theorem dX9_copy_26 : decode cX9_copy 26 = .ok (.aload_n 0, 1) := by decide +kernel
theorem dX9_copy_27 : decode cX9_copy 27 = .ok (.getfield 87, 3) := by decide +kernel
theorem dX9_copy_30 : decode cX9_copy 30 = .ok (.iload_n 3, 1) := by decide +kernel
theorem dX9_copy_31 : decode cX9_copy 31 = .ok (.baload, 1) := by decide +kernel
theorem dX9_copy_32 : decode cX9_copy 32 = .ok (.ifCond .ne 9, 3) := by decide +kernel
theorem dX9_copy_35 : decode cX9_copy 35 = .ok (.aload_n 0, 1) := by decide +kernel
theorem dX9_copy_36 : decode cX9_copy 36 = .ok (.iconst 1, 1) := by decide +kernel
theorem dX9_copy_37 : decode cX9_copy 37 = .ok (.invokevirtual 199, 3) := by decide +kernel
theorem dX9_copy_40 : decode cX9_copy 40 = .ok (.ireturn, 1) := by decide +kernel
theorem dX9_copy_41 : decode cX9_copy 41 = .ok (.aload_n 0, 1) := by decide +kernel
theorem dX9_copy_42 : decode cX9_copy 42 = .ok (.getfield 90, 3) := by decide +kernel
theorem dX9_copy_45 : decode cX9_copy 45 = .ok (.iload_n 1, 1) := by decide +kernel
theorem dX9_copy_46 : decode cX9_copy 46 = .ok (.iaload, 1) := by decide +kernel
theorem dX9_copy_47 : decode cX9_copy 47 = .ok (.aload_n 0, 1) := by decide +kernel
theorem dX9_copy_48 : decode cX9_copy 48 = .ok (.getfield 90, 3) := by decide +kernel
theorem dX9_copy_51 : decode cX9_copy 51 = .ok (.iload_n 3, 1) := by decide +kernel
theorem dX9_copy_52 : decode cX9_copy 52 = .ok (.iaload, 1) := by decide +kernel
theorem dX9_copy_53 : decode cX9_copy 53 = .ok (.if_icmp .eq 9, 3) := by decide +kernel
theorem dX9_copy_56 : decode cX9_copy 56 = .ok (.aload_n 0, 1) := by decide +kernel
theorem dX9_copy_57 : decode cX9_copy 57 = .ok (.iconst 4, 1) := by decide +kernel
theorem dX9_copy_58 : decode cX9_copy 58 = .ok (.invokevirtual 199, 3) := by decide +kernel
theorem dX9_copy_61 : decode cX9_copy 61 = .ok (.ireturn, 1) := by decide +kernel
theorem dX9_copy_62 : decode cX9_copy 62 = .ok (.iload_n 2, 1) := by decide +kernel
theorem dX9_copy_63 : decode cX9_copy 63 = .ok (.ifCond .lt 48, 3) := by decide +kernel
theorem dX9_copy_66 : decode cX9_copy 66 = .ok (.iload 4, 2) := by decide +kernel
theorem dX9_copy_68 : decode cX9_copy 68 = .ok (.ifCond .lt 43, 3) := by decide +kernel
theorem dX9_copy_71 : decode cX9_copy 71 = .ok (.iload 5, 2) := by decide +kernel
theorem dX9_copy_73 : decode cX9_copy 73 = .ok (.ifCond .lt 38, 3) := by decide +kernel
theorem dX9_copy_76 : decode cX9_copy 76 = .ok (.iload_n 2, 1) := by decide +kernel
theorem dX9_copy_77 : decode cX9_copy 77 = .ok (.i2l, 1) := by decide +kernel
theorem dX9_copy_78 : decode cX9_copy 78 = .ok (.iload 5, 2) := by decide +kernel
theorem dX9_copy_80 : decode cX9_copy 80 = .ok (.i2l, 1) := by decide +kernel
theorem dX9_copy_81 : decode cX9_copy 81 = .ok (.ladd, 1) := by decide +kernel
theorem dX9_copy_82 : decode cX9_copy 82 = .ok (.aload_n 0, 1) := by decide +kernel
theorem dX9_copy_83 : decode cX9_copy 83 = .ok (.getfield 93, 3) := by decide +kernel
theorem dX9_copy_86 : decode cX9_copy 86 = .ok (.iload_n 1, 1) := by decide +kernel
theorem dX9_copy_87 : decode cX9_copy 87 = .ok (.iaload, 1) := by decide +kernel
theorem dX9_copy_88 : decode cX9_copy 88 = .ok (.i2l, 1) := by decide +kernel
theorem dX9_copy_89 : decode cX9_copy 89 = .ok (.lcmp, 1) := by decide +kernel
theorem dX9_copy_90 : decode cX9_copy 90 = .ok (.ifCond .gt 21, 3) := by decide +kernel
theorem dX9_copy_93 : decode cX9_copy 93 = .ok (.iload 4, 2) := by decide +kernel
theorem dX9_copy_95 : decode cX9_copy 95 = .ok (.i2l, 1) := by decide +kernel
theorem dX9_copy_96 : decode cX9_copy 96 = .ok (.iload 5, 2) := by decide +kernel
theorem dX9_copy_98 : decode cX9_copy 98 = .ok (.i2l, 1) := by decide +kernel
theorem dX9_copy_99 : decode cX9_copy 99 = .ok (.ladd, 1) := by decide +kernel
theorem dX9_copy_100 : decode cX9_copy 100 = .ok (.aload_n 0, 1) := by decide +kernel
theorem dX9_copy_101 : decode cX9_copy 101 = .ok (.getfield 93, 3) := by decide +kernel
theorem dX9_copy_104 : decode cX9_copy 104 = .ok (.iload_n 3, 1) := by decide +kernel
theorem dX9_copy_105 : decode cX9_copy 105 = .ok (.iaload, 1) := by decide +kernel
theorem dX9_copy_106 : decode cX9_copy 106 = .ok (.i2l, 1) := by decide +kernel
theorem dX9_copy_107 : decode cX9_copy 107 = .ok (.lcmp, 1) := by decide +kernel
theorem dX9_copy_108 : decode cX9_copy 108 = .ok (.ifCond .le 9, 3) := by decide +kernel
theorem dX9_copy_111 : decode cX9_copy 111 = .ok (.aload_n 0, 1) := by decide +kernel
theorem dX9_copy_112 : decode cX9_copy 112 = .ok (.iconst 2, 1) := by decide +kernel
theorem dX9_copy_113 : decode cX9_copy 113 = .ok (.invokevirtual 199, 3) := by decide +kernel
theorem dX9_copy_116 : decode cX9_copy 116 = .ok (.ireturn, 1) := by decide +kernel
theorem dX9_copy_117 : decode cX9_copy 117 = .ok (.iconst 0, 1) := by decide +kernel
theorem dX9_copy_118 : decode cX9_copy 118 = .ok (.istore 6, 2) := by decide +kernel
theorem dX9_copy_120 : decode cX9_copy 120 = .ok (.iload 6, 2) := by decide +kernel
theorem dX9_copy_122 : decode cX9_copy 122 = .ok (.iload 5, 2) := by decide +kernel
theorem dX9_copy_124 : decode cX9_copy 124 = .ok (.if_icmp .ge 30, 3) := by decide +kernel
theorem dX9_copy_127 : decode cX9_copy 127 = .ok (.aload_n 0, 1) := by decide +kernel
theorem dX9_copy_128 : decode cX9_copy 128 = .ok (.getfield 99, 3) := by decide +kernel
theorem dX9_copy_131 : decode cX9_copy 131 = .ok (.iload 6, 2) := by decide +kernel
theorem dX9_copy_133 : decode cX9_copy 133 = .ok (.aload_n 0, 1) := by decide +kernel
theorem dX9_copy_134 : decode cX9_copy 134 = .ok (.getfield 96, 3) := by decide +kernel
theorem dX9_copy_137 : decode cX9_copy 137 = .ok (.bipush 60, 2) := by decide +kernel
theorem dX9_copy_139 : decode cX9_copy 139 = .ok (.iload_n 1, 1) := by decide +kernel
theorem dX9_copy_140 : decode cX9_copy 140 = .ok (.imul, 1) := by decide +kernel
theorem dX9_copy_141 : decode cX9_copy 141 = .ok (.iload_n 2, 1) := by decide +kernel
theorem dX9_copy_142 : decode cX9_copy 142 = .ok (.iadd, 1) := by decide +kernel
theorem dX9_copy_143 : decode cX9_copy 143 = .ok (.iload 6, 2) := by decide +kernel
theorem dX9_copy_145 : decode cX9_copy 145 = .ok (.iadd, 1) := by decide +kernel
theorem dX9_copy_146 : decode cX9_copy 146 = .ok (.iaload, 1) := by decide +kernel
theorem dX9_copy_147 : decode cX9_copy 147 = .ok (.iastore, 1) := by decide +kernel
theorem dX9_copy_148 : decode cX9_copy 148 = .ok (.iinc 6 1, 3) := by decide +kernel
theorem dX9_copy_151 : decode cX9_copy 151 = .ok (.goto (-31), 3) := by decide +kernel
theorem dX9_copy_154 : decode cX9_copy 154 = .ok (.iconst 0, 1) := by decide +kernel
theorem dX9_copy_155 : decode cX9_copy 155 = .ok (.istore 6, 2) := by decide +kernel
theorem dX9_copy_157 : decode cX9_copy 157 = .ok (.iload 6, 2) := by decide +kernel
theorem dX9_copy_159 : decode cX9_copy 159 = .ok (.iload 5, 2) := by decide +kernel
theorem dX9_copy_161 : decode cX9_copy 161 = .ok (.if_icmp .ge 31, 3) := by decide +kernel
theorem dX9_copy_164 : decode cX9_copy 164 = .ok (.aload_n 0, 1) := by decide +kernel
theorem dX9_copy_165 : decode cX9_copy 165 = .ok (.getfield 96, 3) := by decide +kernel
theorem dX9_copy_168 : decode cX9_copy 168 = .ok (.bipush 60, 2) := by decide +kernel
theorem dX9_copy_170 : decode cX9_copy 170 = .ok (.iload_n 3, 1) := by decide +kernel
theorem dX9_copy_171 : decode cX9_copy 171 = .ok (.imul, 1) := by decide +kernel
theorem dX9_copy_172 : decode cX9_copy 172 = .ok (.iload 4, 2) := by decide +kernel
theorem dX9_copy_174 : decode cX9_copy 174 = .ok (.iadd, 1) := by decide +kernel
theorem dX9_copy_175 : decode cX9_copy 175 = .ok (.iload 6, 2) := by decide +kernel
theorem dX9_copy_177 : decode cX9_copy 177 = .ok (.iadd, 1) := by decide +kernel
theorem dX9_copy_178 : decode cX9_copy 178 = .ok (.aload_n 0, 1) := by decide +kernel
theorem dX9_copy_179 : decode cX9_copy 179 = .ok (.getfield 99, 3) := by decide +kernel
theorem dX9_copy_182 : decode cX9_copy 182 = .ok (.iload 6, 2) := by decide +kernel
theorem dX9_copy_184 : decode cX9_copy 184 = .ok (.iaload, 1) := by decide +kernel
theorem dX9_copy_185 : decode cX9_copy 185 = .ok (.iastore, 1) := by decide +kernel
theorem dX9_copy_186 : decode cX9_copy 186 = .ok (.iinc 6 1, 3) := by decide +kernel
theorem dX9_copy_189 : decode cX9_copy 189 = .ok (.goto (-32), 3) := by decide +kernel
theorem dX9_copy_192 : decode cX9_copy 192 = .ok (.iconst 1, 1) := by decide +kernel
theorem dX9_copy_193 : decode cX9_copy 193 = .ok (.ireturn, 1) := by decide +kernel
theorem dX9_write_0 : decode cX9_write 0 = .ok (.iload_n 1, 1) := by decide +kernel
theorem dX9_write_1 : decode cX9_write 1 = .ok (.invokestatic 110, 3) := by decide +kernel
theorem dX9_write_4 : decode cX9_write 4 = .ok (.ifCond .eq 17, 3) := by decide +kernel
theorem dX9_write_7 : decode cX9_write 7 = .ok (.iload_n 2, 1) := by decide +kernel
theorem dX9_write_8 : decode cX9_write 8 = .ok (.invokestatic 110, 3) := by decide +kernel
theorem dX9_write_11 : decode cX9_write 11 = .ok (.ifCond .eq 10, 3) := by decide +kernel
theorem dX9_write_14 : decode cX9_write 14 = .ok (.iload_n 3, 1) := by decide +kernel
theorem dX9_write_15 : decode cX9_write 15 = .ok (.invokestatic 196, 3) := by decide +kernel
theorem dX9_write_18 : decode cX9_write 18 = .ok (.ifCond .ne 6, 3) := by decide +kernel
theorem dX9_write_21 : decode cX9_write 21 = .ok (.bipush (-2), 2) := by decide +kernel
theorem dX9_write_23 : decode cX9_write 23 = .ok (.ireturn, 1) := by decide +kernel
theorem dX9_write_24 : decode cX9_write 24 = .ok (.aload_n 0, 1) := by decide +kernel
theorem dX9_write_25 : decode cX9_write 25 = .ok (.getfield 87, 3) := by decide +kernel
theorem dX9_write_28 : decode cX9_write 28 = .ok (.iload_n 3, 1) := by decide +kernel
theorem dX9_write_29 : decode cX9_write 29 = .ok (.baload, 1) := by decide +kernel
theorem dX9_write_30 : decode cX9_write 30 = .ok (.ifCond .ne 9, 3) := by decide +kernel
theorem dX9_write_33 : decode cX9_write 33 = .ok (.aload_n 0, 1) := by decide +kernel
theorem dX9_write_34 : decode cX9_write 34 = .ok (.iconst 1, 1) := by decide +kernel
theorem dX9_write_35 : decode cX9_write 35 = .ok (.invokevirtual 199, 3) := by decide +kernel
theorem dX9_write_38 : decode cX9_write 38 = .ok (.ireturn, 1) := by decide +kernel
theorem dX9_write_39 : decode cX9_write 39 = .ok (.aload_n 0, 1) := by decide +kernel
theorem dX9_write_40 : decode cX9_write 40 = .ok (.iload_n 1, 1) := by decide +kernel
theorem dX9_write_41 : decode cX9_write 41 = .ok (.iload_n 2, 1) := by decide +kernel
theorem dX9_write_42 : decode cX9_write 42 = .ok (.invokevirtual 275, 3) := by decide +kernel
theorem dX9_write_45 : decode cX9_write 45 = .ok (.istore 4, 2) := by decide +kernel
theorem dX9_write_47 : decode cX9_write 47 = .ok (.iconst 0, 1) := by decide +kernel
theorem dX9_write_48 : decode cX9_write 48 = .ok (.istore 5, 2) := by decide +kernel
theorem dX9_write_50 : decode cX9_write 50 = .ok (.iload 5, 2) := by decide +kernel
theorem dX9_write_52 : decode cX9_write 52 = .ok (.iload 4, 2) := by decide +kernel
theorem dX9_write_54 : decode cX9_write 54 = .ok (.if_icmp .ge 34, 3) := by decide +kernel
theorem dX9_write_57 : decode cX9_write 57 = .ok (.iload 5, 2) := by decide +kernel
theorem dX9_write_59 : decode cX9_write 59 = .ok (.aload_n 0, 1) := by decide +kernel
theorem dX9_write_60 : decode cX9_write 60 = .ok (.getfield 93, 3) := by decide +kernel
theorem dX9_write_63 : decode cX9_write 63 = .ok (.iload_n 3, 1) := by decide +kernel
theorem dX9_write_64 : decode cX9_write 64 = .ok (.iaload, 1) := by decide +kernel
theorem dX9_write_65 : decode cX9_write 65 = .ok (.if_icmp .ge 23, 3) := by decide +kernel
theorem dX9_write_68 : decode cX9_write 68 = .ok (.aload_n 0, 1) := by decide +kernel
theorem dX9_write_69 : decode cX9_write 69 = .ok (.iload_n 3, 1) := by decide +kernel
theorem dX9_write_70 : decode cX9_write 70 = .ok (.iload 5, 2) := by decide +kernel
theorem dX9_write_72 : decode cX9_write 72 = .ok (.aload_n 0, 1) := by decide +kernel
theorem dX9_write_73 : decode cX9_write 73 = .ok (.getfield 53, 3) := by decide +kernel
theorem dX9_write_76 : decode cX9_write 76 = .ok (.iload 5, 2) := by decide +kernel
theorem dX9_write_78 : decode cX9_write 78 = .ok (.iaload, 1) := by decide +kernel
theorem dX9_write_79 : decode cX9_write 79 = .ok (.invokevirtual 324, 3) := by decide +kernel
theorem dX9_write_82 : decode cX9_write 82 = .ok (.iinc 5 1, 3) := by decide +kernel
theorem dX9_write_85 : decode cX9_write 85 = .ok (.goto (-35), 3) := by decide +kernel
theorem dX9_write_88 : decode cX9_write 88 = .ok (.iload 5, 2) := by decide +kernel
theorem dX9_write_90 : decode cX9_write 90 = .ok (.ireturn, 1) := by decide +kernel
theorem dX9_count_0 : decode cX9_count 0 = .ok (.iconst 0, 1) := by decide +kernel
theorem dX9_count_1 : decode cX9_count 1 = .ok (.istore_n 2, 1) := by decide +kernel
theorem dX9_count_2 : decode cX9_count 2 = .ok (.iload_n 1, 1) := by decide +kernel
theorem dX9_count_3 : decode cX9_count 3 = .ok (.tableswitch 174 0 8 #[49, 54, 89, 94, 129, 154, 159, 164, 169], 49) := by decide +kernel
theorem dX9_count_52 : decode cX9_count 52 = .ok (.aload_n 0, 1) := by decide +kernel
theorem dX9_count_53 : decode cX9_count 53 = .ok (.getfield 193, 3) := by decide +kernel
theorem dX9_count_56 : decode cX9_count 56 = .ok (.ireturn, 1) := by decide +kernel
theorem dX9_count_57 : decode cX9_count 57 = .ok (.iconst 0, 1) := by decide +kernel
theorem dX9_count_58 : decode cX9_count 58 = .ok (.istore_n 3, 1) := by decide +kernel
theorem dX9_count_59 : decode cX9_count 59 = .ok (.iload_n 3, 1) := by decide +kernel
theorem dX9_count_60 : decode cX9_count 60 = .ok (.aload_n 0, 1) := by decide +kernel
theorem dX9_count_61 : decode cX9_count 61 = .ok (.getfield 193, 3) := by decide +kernel
theorem dX9_count_64 : decode cX9_count 64 = .ok (.if_icmp .ge 26, 3) := by decide +kernel
theorem dX9_count_67 : decode cX9_count 67 = .ok (.iload_n 2, 1) := by decide +kernel
theorem dX9_count_68 : decode cX9_count 68 = .ok (.aload_n 0, 1) := by decide +kernel
theorem dX9_count_69 : decode cX9_count 69 = .ok (.getfield 41, 3) := by decide +kernel
theorem dX9_count_72 : decode cX9_count 72 = .ok (.iload_n 3, 1) := by decide +kernel
theorem dX9_count_73 : decode cX9_count 73 = .ok (.baload, 1) := by decide +kernel
theorem dX9_count_74 : decode cX9_count 74 = .ok (.ifCond .eq 7, 3) := by decide +kernel
theorem dX9_count_77 : decode cX9_count 77 = .ok (.iconst 1, 1) := by decide +kernel
theorem dX9_count_78 : decode cX9_count 78 = .ok (.goto 4, 3) := by decide +kernel
theorem dX9_count_81 : decode cX9_count 81 = .ok (.iconst 0, 1) := by decide +kernel
theorem dX9_count_82 : decode cX9_count 82 = .ok (.iadd, 1) := by decide +kernel
theorem dX9_count_83 : decode cX9_count 83 = .ok (.istore_n 2, 1) := by decide +kernel
theorem dX9_count_84 : decode cX9_count 84 = .ok (.iinc 3 1, 3) := by decide +kernel
theorem dX9_count_87 : decode cX9_count 87 = .ok (.goto (-28), 3) := by decide +kernel
theorem dX9_count_90 : decode cX9_count 90 = .ok (.iload_n 2, 1) := by decide +kernel
theorem dX9_count_91 : decode cX9_count 91 = .ok (.ireturn, 1) := by decide +kernel
theorem dX9_count_92 : decode cX9_count 92 = .ok (.aload_n 0, 1) := by decide +kernel
theorem dX9_count_93 : decode cX9_count 93 = .ok (.getfield 278, 3) := by decide +kernel
theorem dX9_count_96 : decode cX9_count 96 = .ok (.ireturn, 1) := by decide +kernel
theorem dX9_count_97 : decode cX9_count 97 = .ok (.iconst 0, 1) := by decide +kernel
theorem dX9_count_98 : decode cX9_count 98 = .ok (.istore_n 3, 1) := by decide +kernel
theorem dX9_count_99 : decode cX9_count 99 = .ok (.iload_n 3, 1) := by decide +kernel
theorem dX9_count_100 : decode cX9_count 100 = .ok (.aload_n 0, 1) := by decide +kernel
theorem dX9_count_101 : decode cX9_count 101 = .ok (.getfield 278, 3) := by decide +kernel
theorem dX9_count_104 : decode cX9_count 104 = .ok (.if_icmp .ge 26, 3) := by decide +kernel
theorem dX9_count_107 : decode cX9_count 107 = .ok (.iload_n 2, 1) := by decide +kernel
theorem dX9_count_108 : decode cX9_count 108 = .ok (.aload_n 0, 1) := by decide +kernel
theorem dX9_count_109 : decode cX9_count 109 = .ok (.getfield 62, 3) := by decide +kernel
theorem dX9_count_112 : decode cX9_count 112 = .ok (.iload_n 3, 1) := by decide +kernel
theorem dX9_count_113 : decode cX9_count 113 = .ok (.baload, 1) := by decide +kernel
theorem dX9_count_114 : decode cX9_count 114 = .ok (.ifCond .eq 7, 3) := by decide +kernel
theorem dX9_count_117 : decode cX9_count 117 = .ok (.iconst 1, 1) := by decide +kernel
theorem dX9_count_118 : decode cX9_count 118 = .ok (.goto 4, 3) := by decide +kernel
theorem dX9_count_121 : decode cX9_count 121 = .ok (.iconst 0, 1) := by decide +kernel
theorem dX9_count_122 : decode cX9_count 122 = .ok (.iadd, 1) := by decide +kernel
theorem dX9_count_123 : decode cX9_count 123 = .ok (.istore_n 2, 1) := by decide +kernel
theorem dX9_count_124 : decode cX9_count 124 = .ok (.iinc 3 1, 3) := by decide +kernel
theorem dX9_count_127 : decode cX9_count 127 = .ok (.goto (-28), 3) := by decide +kernel
theorem dX9_count_130 : decode cX9_count 130 = .ok (.iload_n 2, 1) := by decide +kernel
theorem dX9_count_131 : decode cX9_count 131 = .ok (.ireturn, 1) := by decide +kernel
theorem dX9_count_132 : decode cX9_count 132 = .ok (.iconst 0, 1) := by decide +kernel
theorem dX9_count_133 : decode cX9_count 133 = .ok (.istore_n 3, 1) := by decide +kernel
theorem dX9_count_134 : decode cX9_count 134 = .ok (.iload_n 3, 1) := by decide +kernel
theorem dX9_count_135 : decode cX9_count 135 = .ok (.bipush 11, 2) := by decide +kernel
theorem dX9_count_137 : decode cX9_count 137 = .ok (.if_icmp .ge 18, 3) := by decide +kernel
theorem dX9_count_140 : decode cX9_count 140 = .ok (.iload_n 2, 1) := by decide +kernel
theorem dX9_count_141 : decode cX9_count 141 = .ok (.aload_n 0, 1) := by decide +kernel
theorem dX9_count_142 : decode cX9_count 142 = .ok (.getfield 7, 3) := by decide +kernel
theorem dX9_count_145 : decode cX9_count 145 = .ok (.iload_n 3, 1) := by decide +kernel
theorem dX9_count_146 : decode cX9_count 146 = .ok (.iaload, 1) := by decide +kernel
theorem dX9_count_147 : decode cX9_count 147 = .ok (.iadd, 1) := by decide +kernel
theorem dX9_count_148 : decode cX9_count 148 = .ok (.istore_n 2, 1) := by decide +kernel
theorem dX9_count_149 : decode cX9_count 149 = .ok (.iinc 3 1, 3) := by decide +kernel
theorem dX9_count_152 : decode cX9_count 152 = .ok (.goto (-18), 3) := by decide +kernel
theorem dX9_count_155 : decode cX9_count 155 = .ok (.iload_n 2, 1) := by decide +kernel
theorem dX9_count_156 : decode cX9_count 156 = .ok (.ireturn, 1) := by decide +kernel
theorem dX9_count_157 : decode cX9_count 157 = .ok (.aload_n 0, 1) := by decide +kernel
theorem dX9_count_158 : decode cX9_count 158 = .ok (.getfield 68, 3) := by decide +kernel
theorem dX9_count_161 : decode cX9_count 161 = .ok (.ireturn, 1) := by decide +kernel
theorem dX9_count_162 : decode cX9_count 162 = .ok (.aload_n 0, 1) := by decide +kernel
theorem dX9_count_163 : decode cX9_count 163 = .ok (.getfield 72, 3) := by decide +kernel
theorem dX9_count_166 : decode cX9_count 166 = .ok (.ireturn, 1) := by decide +kernel
theorem dX9_count_167 : decode cX9_count 167 = .ok (.aload_n 0, 1) := by decide +kernel
theorem dX9_count_168 : decode cX9_count 168 = .ok (.getfield 75, 3) := by decide +kernel
theorem dX9_count_171 : decode cX9_count 171 = .ok (.ireturn, 1) := by decide +kernel
theorem dX9_count_172 : decode cX9_count 172 = .ok (.aload_n 0, 1) := by decide +kernel
theorem dX9_count_173 : decode cX9_count 173 = .ok (.getfield 318, 3) := by decide +kernel
theorem dX9_count_176 : decode cX9_count 176 = .ok (.ireturn, 1) := by decide +kernel
theorem dX9_count_177 : decode cX9_count 177 = .ok (.bipush (-2), 2) := by decide +kernel
theorem dX9_count_179 : decode cX9_count 179 = .ok (.ireturn, 1) := by decide +kernel
theorem dX9_digest_0 : decode cX9_digest 0 = .ok (.ldc2_w 328, 3) := by decide +kernel
theorem dX9_digest_3 : decode cX9_digest 3 = .ok (.lstore_n 1, 1) := by decide +kernel
theorem dX9_digest_4 : decode cX9_digest 4 = .ok (.iconst 0, 1) := by decide +kernel
theorem dX9_digest_5 : decode cX9_digest 5 = .ok (.istore_n 3, 1) := by decide +kernel
theorem dX9_digest_6 : decode cX9_digest 6 = .ok (.iload_n 3, 1) := by decide +kernel
theorem dX9_digest_7 : decode cX9_digest 7 = .ok (.bipush 8, 2) := by decide +kernel
theorem dX9_digest_9 : decode cX9_digest 9 = .ok (.if_icmp .ge 22, 3) := by decide +kernel
theorem dX9_digest_12 : decode cX9_digest 12 = .ok (.ldc2_w 330, 3) := by decide +kernel
theorem dX9_digest_15 : decode cX9_digest 15 = .ok (.lload_n 1, 1) := by decide +kernel
theorem dX9_digest_16 : decode cX9_digest 16 = .ok (.lmul, 1) := by decide +kernel
theorem dX9_digest_17 : decode cX9_digest 17 = .ok (.aload_n 0, 1) := by decide +kernel
theorem dX9_digest_18 : decode cX9_digest 18 = .ok (.iload_n 3, 1) := by decide +kernel
theorem dX9_digest_19 : decode cX9_digest 19 = .ok (.invokevirtual 332, 3) := by decide +kernel
theorem dX9_digest_22 : decode cX9_digest 22 = .ok (.i2l, 1) := by decide +kernel
theorem dX9_digest_23 : decode cX9_digest 23 = .ok (.ladd, 1) := by decide +kernel
theorem dX9_digest_24 : decode cX9_digest 24 = .ok (.lstore_n 1, 1) := by decide +kernel
theorem dX9_digest_25 : decode cX9_digest 25 = .ok (.iinc 3 1, 3) := by decide +kernel
theorem dX9_digest_28 : decode cX9_digest 28 = .ok (.goto (-22), 3) := by decide +kernel
theorem dX9_digest_31 : decode cX9_digest 31 = .ok (.iconst 0, 1) := by decide +kernel
theorem dX9_digest_32 : decode cX9_digest 32 = .ok (.istore_n 3, 1) := by decide +kernel
theorem dX9_digest_33 : decode cX9_digest 33 = .ok (.iload_n 3, 1) := by decide +kernel
theorem dX9_digest_34 : decode cX9_digest 34 = .ok (.bipush 11, 2) := by decide +kernel
theorem dX9_digest_36 : decode cX9_digest 36 = .ok (.if_icmp .ge 22, 3) := by decide +kernel
theorem dX9_digest_39 : decode cX9_digest 39 = .ok (.ldc2_w 330, 3) := by decide +kernel
theorem dX9_digest_42 : decode cX9_digest 42 = .ok (.lload_n 1, 1) := by decide +kernel
theorem dX9_digest_43 : decode cX9_digest 43 = .ok (.lmul, 1) := by decide +kernel
theorem dX9_digest_44 : decode cX9_digest 44 = .ok (.aload_n 0, 1) := by decide +kernel
theorem dX9_digest_45 : decode cX9_digest 45 = .ok (.iload_n 3, 1) := by decide +kernel
theorem dX9_digest_46 : decode cX9_digest 46 = .ok (.invokevirtual 144, 3) := by decide +kernel
theorem dX9_digest_49 : decode cX9_digest 49 = .ok (.i2l, 1) := by decide +kernel
theorem dX9_digest_50 : decode cX9_digest 50 = .ok (.ladd, 1) := by decide +kernel
theorem dX9_digest_51 : decode cX9_digest 51 = .ok (.lstore_n 1, 1) := by decide +kernel
theorem dX9_digest_52 : decode cX9_digest 52 = .ok (.iinc 3 1, 3) := by decide +kernel
theorem dX9_digest_55 : decode cX9_digest 55 = .ok (.goto (-22), 3) := by decide +kernel
theorem dX9_digest_58 : decode cX9_digest 58 = .ok (.iconst 0, 1) := by decide +kernel
theorem dX9_digest_59 : decode cX9_digest 59 = .ok (.istore_n 3, 1) := by decide +kernel
theorem dX9_digest_60 : decode cX9_digest 60 = .ok (.iload_n 3, 1) := by decide +kernel
theorem dX9_digest_61 : decode cX9_digest 61 = .ok (.aload_n 0, 1) := by decide +kernel
theorem dX9_digest_62 : decode cX9_digest 62 = .ok (.getfield 193, 3) := by decide +kernel
theorem dX9_digest_65 : decode cX9_digest 65 = .ok (.if_icmp .ge 51, 3) := by decide +kernel
theorem dX9_digest_68 : decode cX9_digest 68 = .ok (.aload_n 0, 1) := by decide +kernel
theorem dX9_digest_69 : decode cX9_digest 69 = .ok (.iconst 0, 1) := by decide +kernel
theorem dX9_digest_70 : decode cX9_digest 70 = .ok (.iconst 0, 1) := by decide +kernel
theorem dX9_digest_71 : decode cX9_digest 71 = .ok (.iconst 0, 1) := by decide +kernel
theorem dX9_digest_72 : decode cX9_digest 72 = .ok (.invokevirtual 233, 3) := by decide +kernel
theorem dX9_digest_75 : decode cX9_digest 75 = .ok (.aload_n 0, 1) := by decide +kernel
theorem dX9_digest_76 : decode cX9_digest 76 = .ok (.iload_n 3, 1) := by decide +kernel
theorem dX9_digest_77 : decode cX9_digest 77 = .ok (.invokevirtual 236, 3) := by decide +kernel
theorem dX9_digest_80 : decode cX9_digest 80 = .ok (.iconst 0, 1) := by decide +kernel
theorem dX9_digest_81 : decode cX9_digest 81 = .ok (.istore 4, 2) := by decide +kernel
theorem dX9_digest_83 : decode cX9_digest 83 = .ok (.iload 4, 2) := by decide +kernel
theorem dX9_digest_85 : decode cX9_digest 85 = .ok (.bipush 6, 2) := by decide +kernel
theorem dX9_digest_87 : decode cX9_digest 87 = .ok (.if_icmp .ge 23, 3) := by decide +kernel
theorem dX9_digest_90 : decode cX9_digest 90 = .ok (.ldc2_w 330, 3) := by decide +kernel
theorem dX9_digest_93 : decode cX9_digest 93 = .ok (.lload_n 1, 1) := by decide +kernel
theorem dX9_digest_94 : decode cX9_digest 94 = .ok (.lmul, 1) := by decide +kernel
theorem dX9_digest_95 : decode cX9_digest 95 = .ok (.aload_n 0, 1) := by decide +kernel
theorem dX9_digest_96 : decode cX9_digest 96 = .ok (.iload 4, 2) := by decide +kernel
theorem dX9_digest_98 : decode cX9_digest 98 = .ok (.invokevirtual 239, 3) := by decide +kernel
theorem dX9_digest_101 : decode cX9_digest 101 = .ok (.i2l, 1) := by decide +kernel
theorem dX9_digest_102 : decode cX9_digest 102 = .ok (.ladd, 1) := by decide +kernel
theorem dX9_digest_103 : decode cX9_digest 103 = .ok (.lstore_n 1, 1) := by decide +kernel
theorem dX9_digest_104 : decode cX9_digest 104 = .ok (.iinc 4 1, 3) := by decide +kernel
theorem dX9_digest_107 : decode cX9_digest 107 = .ok (.goto (-24), 3) := by decide +kernel
theorem dX9_digest_110 : decode cX9_digest 110 = .ok (.iinc 3 1, 3) := by decide +kernel
theorem dX9_digest_113 : decode cX9_digest 113 = .ok (.goto (-53), 3) := by decide +kernel
theorem dX9_digest_116 : decode cX9_digest 116 = .ok (.iconst 0, 1) := by decide +kernel
theorem dX9_digest_117 : decode cX9_digest 117 = .ok (.istore_n 3, 1) := by decide +kernel
theorem dX9_digest_118 : decode cX9_digest 118 = .ok (.iload_n 3, 1) := by decide +kernel
theorem dX9_digest_119 : decode cX9_digest 119 = .ok (.aload_n 0, 1) := by decide +kernel
theorem dX9_digest_120 : decode cX9_digest 120 = .ok (.getfield 278, 3) := by decide +kernel
theorem dX9_digest_123 : decode cX9_digest 123 = .ok (.if_icmp .ge 37, 3) := by decide +kernel
theorem dX9_digest_126 : decode cX9_digest 126 = .ok (.ldc2_w 330, 3) := by decide +kernel
theorem dX9_digest_129 : decode cX9_digest 129 = .ok (.lload_n 1, 1) := by decide +kernel
theorem dX9_digest_130 : decode cX9_digest 130 = .ok (.lmul, 1) := by decide +kernel
theorem dX9_digest_131 : decode cX9_digest 131 = .ok (.aload_n 0, 1) := by decide +kernel
theorem dX9_digest_132 : decode cX9_digest 132 = .ok (.getfield 56, 3) := by decide +kernel
theorem dX9_digest_135 : decode cX9_digest 135 = .ok (.iload_n 3, 1) := by decide +kernel
theorem dX9_digest_136 : decode cX9_digest 136 = .ok (.iaload, 1) := by decide +kernel
theorem dX9_digest_137 : decode cX9_digest 137 = .ok (.i2l, 1) := by decide +kernel
theorem dX9_digest_138 : decode cX9_digest 138 = .ok (.ladd, 1) := by decide +kernel
theorem dX9_digest_139 : decode cX9_digest 139 = .ok (.lstore_n 1, 1) := by decide +kernel
theorem dX9_digest_140 : decode cX9_digest 140 = .ok (.ldc2_w 330, 3) := by decide +kernel
theorem dX9_digest_143 : decode cX9_digest 143 = .ok (.lload_n 1, 1) := by decide +kernel
theorem dX9_digest_144 : decode cX9_digest 144 = .ok (.lmul, 1) := by decide +kernel
theorem dX9_digest_145 : decode cX9_digest 145 = .ok (.aload_n 0, 1) := by decide +kernel
theorem dX9_digest_146 : decode cX9_digest 146 = .ok (.getfield 59, 3) := by decide +kernel
theorem dX9_digest_149 : decode cX9_digest 149 = .ok (.iload_n 3, 1) := by decide +kernel
theorem dX9_digest_150 : decode cX9_digest 150 = .ok (.iaload, 1) := by decide +kernel
theorem dX9_digest_151 : decode cX9_digest 151 = .ok (.i2l, 1) := by decide +kernel
theorem dX9_digest_152 : decode cX9_digest 152 = .ok (.ladd, 1) := by decide +kernel
theorem dX9_digest_153 : decode cX9_digest 153 = .ok (.lstore_n 1, 1) := by decide +kernel
theorem dX9_digest_154 : decode cX9_digest 154 = .ok (.iinc 3 1, 3) := by decide +kernel
theorem dX9_digest_157 : decode cX9_digest 157 = .ok (.goto (-39), 3) := by decide +kernel
theorem dX9_digest_160 : decode cX9_digest 160 = .ok (.iconst 0, 1) := by decide +kernel
theorem dX9_digest_161 : decode cX9_digest 161 = .ok (.istore_n 3, 1) := by decide +kernel
theorem dX9_digest_162 : decode cX9_digest 162 = .ok (.iload_n 3, 1) := by decide +kernel
theorem dX9_digest_163 : decode cX9_digest 163 = .ok (.bipush 17, 2) := by decide +kernel
theorem dX9_digest_165 : decode cX9_digest 165 = .ok (.if_icmp .ge 23, 3) := by decide +kernel
theorem dX9_digest_168 : decode cX9_digest 168 = .ok (.ldc2_w 330, 3) := by decide +kernel
theorem dX9_digest_171 : decode cX9_digest 171 = .ok (.lload_n 1, 1) := by decide +kernel
theorem dX9_digest_172 : decode cX9_digest 172 = .ok (.lmul, 1) := by decide +kernel
theorem dX9_digest_173 : decode cX9_digest 173 = .ok (.aload_n 0, 1) := by decide +kernel
theorem dX9_digest_174 : decode cX9_digest 174 = .ok (.getfield 65, 3) := by decide +kernel
theorem dX9_digest_177 : decode cX9_digest 177 = .ok (.iload_n 3, 1) := by decide +kernel
theorem dX9_digest_178 : decode cX9_digest 178 = .ok (.iaload, 1) := by decide +kernel
theorem dX9_digest_179 : decode cX9_digest 179 = .ok (.i2l, 1) := by decide +kernel
theorem dX9_digest_180 : decode cX9_digest 180 = .ok (.ladd, 1) := by decide +kernel
theorem dX9_digest_181 : decode cX9_digest 181 = .ok (.lstore_n 1, 1) := by decide +kernel
theorem dX9_digest_182 : decode cX9_digest 182 = .ok (.iinc 3 1, 3) := by decide +kernel
theorem dX9_digest_185 : decode cX9_digest 185 = .ok (.goto (-23), 3) := by decide +kernel
theorem dX9_digest_188 : decode cX9_digest 188 = .ok (.ldc2_w 330, 3) := by decide +kernel
theorem dX9_digest_191 : decode cX9_digest 191 = .ok (.lload_n 1, 1) := by decide +kernel
theorem dX9_digest_192 : decode cX9_digest 192 = .ok (.lmul, 1) := by decide +kernel
theorem dX9_digest_193 : decode cX9_digest 193 = .ok (.aload_n 0, 1) := by decide +kernel
theorem dX9_digest_194 : decode cX9_digest 194 = .ok (.invokevirtual 248, 3) := by decide +kernel
theorem dX9_digest_197 : decode cX9_digest 197 = .ok (.i2l, 1) := by decide +kernel
theorem dX9_digest_198 : decode cX9_digest 198 = .ok (.ladd, 1) := by decide +kernel
theorem dX9_digest_199 : decode cX9_digest 199 = .ok (.lstore_n 1, 1) := by decide +kernel
theorem dX9_digest_200 : decode cX9_digest 200 = .ok (.ldc2_w 330, 3) := by decide +kernel
theorem dX9_digest_203 : decode cX9_digest 203 = .ok (.lload_n 1, 1) := by decide +kernel
theorem dX9_digest_204 : decode cX9_digest 204 = .ok (.lmul, 1) := by decide +kernel
theorem dX9_digest_205 : decode cX9_digest 205 = .ok (.aload_n 0, 1) := by decide +kernel
theorem dX9_digest_206 : decode cX9_digest 206 = .ok (.iconst 0, 1) := by decide +kernel
theorem dX9_digest_207 : decode cX9_digest 207 = .ok (.iconst 1, 1) := by decide +kernel
theorem dX9_digest_208 : decode cX9_digest 208 = .ok (.invokevirtual 275, 3) := by decide +kernel
theorem dX9_digest_211 : decode cX9_digest 211 = .ok (.i2l, 1) := by decide +kernel
theorem dX9_digest_212 : decode cX9_digest 212 = .ok (.ladd, 1) := by decide +kernel
theorem dX9_digest_213 : decode cX9_digest 213 = .ok (.lreturn, 1) := by decide +kernel
theorem dJ6_numberOfTrailingZeros_0f7a4_0 : decode cJ6_numberOfTrailingZeros_0f7a4 0 = .ok (.iload_n 0, 1) := by decide +kernel
theorem dJ6_numberOfTrailingZeros_0f7a4_1 : decode cJ6_numberOfTrailingZeros_0f7a4 1 = .ok (.iconst (-1), 1) := by decide +kernel
theorem dJ6_numberOfTrailingZeros_0f7a4_2 : decode cJ6_numberOfTrailingZeros_0f7a4 2 = .ok (.ixor, 1) := by decide +kernel
theorem dJ6_numberOfTrailingZeros_0f7a4_3 : decode cJ6_numberOfTrailingZeros_0f7a4 3 = .ok (.iload_n 0, 1) := by decide +kernel
theorem dJ6_numberOfTrailingZeros_0f7a4_4 : decode cJ6_numberOfTrailingZeros_0f7a4 4 = .ok (.iconst 1, 1) := by decide +kernel
theorem dJ6_numberOfTrailingZeros_0f7a4_5 : decode cJ6_numberOfTrailingZeros_0f7a4 5 = .ok (.isub, 1) := by decide +kernel
theorem dJ6_numberOfTrailingZeros_0f7a4_6 : decode cJ6_numberOfTrailingZeros_0f7a4 6 = .ok (.iand, 1) := by decide +kernel
theorem dJ6_numberOfTrailingZeros_0f7a4_7 : decode cJ6_numberOfTrailingZeros_0f7a4 7 = .ok (.istore_n 0, 1) := by decide +kernel
theorem dJ6_numberOfTrailingZeros_0f7a4_8 : decode cJ6_numberOfTrailingZeros_0f7a4 8 = .ok (.iload_n 0, 1) := by decide +kernel
theorem dJ6_numberOfTrailingZeros_0f7a4_9 : decode cJ6_numberOfTrailingZeros_0f7a4 9 = .ok (.ifCond .gt 8, 3) := by decide +kernel
theorem dJ6_numberOfTrailingZeros_0f7a4_12 : decode cJ6_numberOfTrailingZeros_0f7a4 12 = .ok (.iload_n 0, 1) := by decide +kernel
theorem dJ6_numberOfTrailingZeros_0f7a4_13 : decode cJ6_numberOfTrailingZeros_0f7a4 13 = .ok (.bipush 32, 2) := by decide +kernel
theorem dJ6_numberOfTrailingZeros_0f7a4_15 : decode cJ6_numberOfTrailingZeros_0f7a4 15 = .ok (.iand, 1) := by decide +kernel
theorem dJ6_numberOfTrailingZeros_0f7a4_16 : decode cJ6_numberOfTrailingZeros_0f7a4 16 = .ok (.ireturn, 1) := by decide +kernel
theorem dJ6_numberOfTrailingZeros_0f7a4_17 : decode cJ6_numberOfTrailingZeros_0f7a4 17 = .ok (.iconst 1, 1) := by decide +kernel
theorem dJ6_numberOfTrailingZeros_0f7a4_18 : decode cJ6_numberOfTrailingZeros_0f7a4 18 = .ok (.istore_n 1, 1) := by decide +kernel
theorem dJ6_numberOfTrailingZeros_0f7a4_19 : decode cJ6_numberOfTrailingZeros_0f7a4 19 = .ok (.iload_n 0, 1) := by decide +kernel
theorem dJ6_numberOfTrailingZeros_0f7a4_20 : decode cJ6_numberOfTrailingZeros_0f7a4 20 = .ok (.ldc_w 264, 3) := by decide +kernel
theorem dJ6_numberOfTrailingZeros_0f7a4_23 : decode cJ6_numberOfTrailingZeros_0f7a4 23 = .ok (.if_icmp .le 11, 3) := by decide +kernel
theorem dJ6_numberOfTrailingZeros_0f7a4_26 : decode cJ6_numberOfTrailingZeros_0f7a4 26 = .ok (.iinc 1 16, 3) := by decide +kernel
theorem dJ6_numberOfTrailingZeros_0f7a4_29 : decode cJ6_numberOfTrailingZeros_0f7a4 29 = .ok (.iload_n 0, 1) := by decide +kernel
theorem dJ6_numberOfTrailingZeros_0f7a4_30 : decode cJ6_numberOfTrailingZeros_0f7a4 30 = .ok (.bipush 16, 2) := by decide +kernel
theorem dJ6_numberOfTrailingZeros_0f7a4_32 : decode cJ6_numberOfTrailingZeros_0f7a4 32 = .ok (.iushr, 1) := by decide +kernel
theorem dJ6_numberOfTrailingZeros_0f7a4_33 : decode cJ6_numberOfTrailingZeros_0f7a4 33 = .ok (.istore_n 0, 1) := by decide +kernel
theorem dJ6_numberOfTrailingZeros_0f7a4_34 : decode cJ6_numberOfTrailingZeros_0f7a4 34 = .ok (.iload_n 0, 1) := by decide +kernel
theorem dJ6_numberOfTrailingZeros_0f7a4_35 : decode cJ6_numberOfTrailingZeros_0f7a4 35 = .ok (.sipush 256, 3) := by decide +kernel
theorem dJ6_numberOfTrailingZeros_0f7a4_38 : decode cJ6_numberOfTrailingZeros_0f7a4 38 = .ok (.if_icmp .le 11, 3) := by decide +kernel
theorem dJ6_numberOfTrailingZeros_0f7a4_41 : decode cJ6_numberOfTrailingZeros_0f7a4 41 = .ok (.iinc 1 8, 3) := by decide +kernel
theorem dJ6_numberOfTrailingZeros_0f7a4_44 : decode cJ6_numberOfTrailingZeros_0f7a4 44 = .ok (.iload_n 0, 1) := by decide +kernel
theorem dJ6_numberOfTrailingZeros_0f7a4_45 : decode cJ6_numberOfTrailingZeros_0f7a4 45 = .ok (.bipush 8, 2) := by decide +kernel
theorem dJ6_numberOfTrailingZeros_0f7a4_47 : decode cJ6_numberOfTrailingZeros_0f7a4 47 = .ok (.iushr, 1) := by decide +kernel
theorem dJ6_numberOfTrailingZeros_0f7a4_48 : decode cJ6_numberOfTrailingZeros_0f7a4 48 = .ok (.istore_n 0, 1) := by decide +kernel
theorem dJ6_numberOfTrailingZeros_0f7a4_49 : decode cJ6_numberOfTrailingZeros_0f7a4 49 = .ok (.iload_n 0, 1) := by decide +kernel
theorem dJ6_numberOfTrailingZeros_0f7a4_50 : decode cJ6_numberOfTrailingZeros_0f7a4 50 = .ok (.bipush 16, 2) := by decide +kernel
theorem dJ6_numberOfTrailingZeros_0f7a4_52 : decode cJ6_numberOfTrailingZeros_0f7a4 52 = .ok (.if_icmp .le 10, 3) := by decide +kernel
theorem dJ6_numberOfTrailingZeros_0f7a4_55 : decode cJ6_numberOfTrailingZeros_0f7a4 55 = .ok (.iinc 1 4, 3) := by decide +kernel
theorem dJ6_numberOfTrailingZeros_0f7a4_58 : decode cJ6_numberOfTrailingZeros_0f7a4 58 = .ok (.iload_n 0, 1) := by decide +kernel
theorem dJ6_numberOfTrailingZeros_0f7a4_59 : decode cJ6_numberOfTrailingZeros_0f7a4 59 = .ok (.iconst 4, 1) := by decide +kernel
theorem dJ6_numberOfTrailingZeros_0f7a4_60 : decode cJ6_numberOfTrailingZeros_0f7a4 60 = .ok (.iushr, 1) := by decide +kernel
theorem dJ6_numberOfTrailingZeros_0f7a4_61 : decode cJ6_numberOfTrailingZeros_0f7a4 61 = .ok (.istore_n 0, 1) := by decide +kernel
theorem dJ6_numberOfTrailingZeros_0f7a4_62 : decode cJ6_numberOfTrailingZeros_0f7a4 62 = .ok (.iload_n 0, 1) := by decide +kernel
theorem dJ6_numberOfTrailingZeros_0f7a4_63 : decode cJ6_numberOfTrailingZeros_0f7a4 63 = .ok (.iconst 4, 1) := by decide +kernel
theorem dJ6_numberOfTrailingZeros_0f7a4_64 : decode cJ6_numberOfTrailingZeros_0f7a4 64 = .ok (.if_icmp .le 10, 3) := by decide +kernel
theorem dJ6_numberOfTrailingZeros_0f7a4_67 : decode cJ6_numberOfTrailingZeros_0f7a4 67 = .ok (.iinc 1 2, 3) := by decide +kernel
theorem dJ6_numberOfTrailingZeros_0f7a4_70 : decode cJ6_numberOfTrailingZeros_0f7a4 70 = .ok (.iload_n 0, 1) := by decide +kernel
theorem dJ6_numberOfTrailingZeros_0f7a4_71 : decode cJ6_numberOfTrailingZeros_0f7a4 71 = .ok (.iconst 2, 1) := by decide +kernel
theorem dJ6_numberOfTrailingZeros_0f7a4_72 : decode cJ6_numberOfTrailingZeros_0f7a4 72 = .ok (.iushr, 1) := by decide +kernel
theorem dJ6_numberOfTrailingZeros_0f7a4_73 : decode cJ6_numberOfTrailingZeros_0f7a4 73 = .ok (.istore_n 0, 1) := by decide +kernel
theorem dJ6_numberOfTrailingZeros_0f7a4_74 : decode cJ6_numberOfTrailingZeros_0f7a4 74 = .ok (.iload_n 1, 1) := by decide +kernel
theorem dJ6_numberOfTrailingZeros_0f7a4_75 : decode cJ6_numberOfTrailingZeros_0f7a4 75 = .ok (.iload_n 0, 1) := by decide +kernel
theorem dJ6_numberOfTrailingZeros_0f7a4_76 : decode cJ6_numberOfTrailingZeros_0f7a4 76 = .ok (.iconst 1, 1) := by decide +kernel
theorem dJ6_numberOfTrailingZeros_0f7a4_77 : decode cJ6_numberOfTrailingZeros_0f7a4 77 = .ok (.iushr, 1) := by decide +kernel
theorem dJ6_numberOfTrailingZeros_0f7a4_78 : decode cJ6_numberOfTrailingZeros_0f7a4 78 = .ok (.iadd, 1) := by decide +kernel
theorem dJ6_numberOfTrailingZeros_0f7a4_79 : decode cJ6_numberOfTrailingZeros_0f7a4 79 = .ok (.ireturn, 1) := by decide +kernel
theorem dJ6_bitCount_0f7a4_0 : decode cJ6_bitCount_0f7a4 0 = .ok (.iload_n 0, 1) := by decide +kernel
theorem dJ6_bitCount_0f7a4_1 : decode cJ6_bitCount_0f7a4 1 = .ok (.iload_n 0, 1) := by decide +kernel
theorem dJ6_bitCount_0f7a4_2 : decode cJ6_bitCount_0f7a4 2 = .ok (.iconst 1, 1) := by decide +kernel
theorem dJ6_bitCount_0f7a4_3 : decode cJ6_bitCount_0f7a4 3 = .ok (.iushr, 1) := by decide +kernel
theorem dJ6_bitCount_0f7a4_4 : decode cJ6_bitCount_0f7a4 4 = .ok (.ldc_w 265, 3) := by decide +kernel
theorem dJ6_bitCount_0f7a4_7 : decode cJ6_bitCount_0f7a4 7 = .ok (.iand, 1) := by decide +kernel
theorem dJ6_bitCount_0f7a4_8 : decode cJ6_bitCount_0f7a4 8 = .ok (.isub, 1) := by decide +kernel
theorem dJ6_bitCount_0f7a4_9 : decode cJ6_bitCount_0f7a4 9 = .ok (.istore_n 0, 1) := by decide +kernel
theorem dJ6_bitCount_0f7a4_10 : decode cJ6_bitCount_0f7a4 10 = .ok (.iload_n 0, 1) := by decide +kernel
theorem dJ6_bitCount_0f7a4_11 : decode cJ6_bitCount_0f7a4 11 = .ok (.ldc_w 266, 3) := by decide +kernel
theorem dJ6_bitCount_0f7a4_14 : decode cJ6_bitCount_0f7a4 14 = .ok (.iand, 1) := by decide +kernel
theorem dJ6_bitCount_0f7a4_15 : decode cJ6_bitCount_0f7a4 15 = .ok (.iload_n 0, 1) := by decide +kernel
theorem dJ6_bitCount_0f7a4_16 : decode cJ6_bitCount_0f7a4 16 = .ok (.iconst 2, 1) := by decide +kernel
theorem dJ6_bitCount_0f7a4_17 : decode cJ6_bitCount_0f7a4 17 = .ok (.iushr, 1) := by decide +kernel
theorem dJ6_bitCount_0f7a4_18 : decode cJ6_bitCount_0f7a4 18 = .ok (.ldc_w 266, 3) := by decide +kernel
theorem dJ6_bitCount_0f7a4_21 : decode cJ6_bitCount_0f7a4 21 = .ok (.iand, 1) := by decide +kernel
theorem dJ6_bitCount_0f7a4_22 : decode cJ6_bitCount_0f7a4 22 = .ok (.iadd, 1) := by decide +kernel
theorem dJ6_bitCount_0f7a4_23 : decode cJ6_bitCount_0f7a4 23 = .ok (.istore_n 0, 1) := by decide +kernel
theorem dJ6_bitCount_0f7a4_24 : decode cJ6_bitCount_0f7a4 24 = .ok (.iload_n 0, 1) := by decide +kernel
theorem dJ6_bitCount_0f7a4_25 : decode cJ6_bitCount_0f7a4 25 = .ok (.iload_n 0, 1) := by decide +kernel
theorem dJ6_bitCount_0f7a4_26 : decode cJ6_bitCount_0f7a4 26 = .ok (.iconst 4, 1) := by decide +kernel
theorem dJ6_bitCount_0f7a4_27 : decode cJ6_bitCount_0f7a4 27 = .ok (.iushr, 1) := by decide +kernel
theorem dJ6_bitCount_0f7a4_28 : decode cJ6_bitCount_0f7a4 28 = .ok (.iadd, 1) := by decide +kernel
theorem dJ6_bitCount_0f7a4_29 : decode cJ6_bitCount_0f7a4 29 = .ok (.ldc_w 267, 3) := by decide +kernel
theorem dJ6_bitCount_0f7a4_32 : decode cJ6_bitCount_0f7a4 32 = .ok (.iand, 1) := by decide +kernel
theorem dJ6_bitCount_0f7a4_33 : decode cJ6_bitCount_0f7a4 33 = .ok (.istore_n 0, 1) := by decide +kernel
theorem dJ6_bitCount_0f7a4_34 : decode cJ6_bitCount_0f7a4 34 = .ok (.iload_n 0, 1) := by decide +kernel
theorem dJ6_bitCount_0f7a4_35 : decode cJ6_bitCount_0f7a4 35 = .ok (.iload_n 0, 1) := by decide +kernel
theorem dJ6_bitCount_0f7a4_36 : decode cJ6_bitCount_0f7a4 36 = .ok (.bipush 8, 2) := by decide +kernel
theorem dJ6_bitCount_0f7a4_38 : decode cJ6_bitCount_0f7a4 38 = .ok (.iushr, 1) := by decide +kernel
theorem dJ6_bitCount_0f7a4_39 : decode cJ6_bitCount_0f7a4 39 = .ok (.iadd, 1) := by decide +kernel
theorem dJ6_bitCount_0f7a4_40 : decode cJ6_bitCount_0f7a4 40 = .ok (.istore_n 0, 1) := by decide +kernel
theorem dJ6_bitCount_0f7a4_41 : decode cJ6_bitCount_0f7a4 41 = .ok (.iload_n 0, 1) := by decide +kernel
theorem dJ6_bitCount_0f7a4_42 : decode cJ6_bitCount_0f7a4 42 = .ok (.iload_n 0, 1) := by decide +kernel
theorem dJ6_bitCount_0f7a4_43 : decode cJ6_bitCount_0f7a4 43 = .ok (.bipush 16, 2) := by decide +kernel
theorem dJ6_bitCount_0f7a4_45 : decode cJ6_bitCount_0f7a4 45 = .ok (.iushr, 1) := by decide +kernel
theorem dJ6_bitCount_0f7a4_46 : decode cJ6_bitCount_0f7a4 46 = .ok (.iadd, 1) := by decide +kernel
theorem dJ6_bitCount_0f7a4_47 : decode cJ6_bitCount_0f7a4 47 = .ok (.istore_n 0, 1) := by decide +kernel
theorem dJ6_bitCount_0f7a4_48 : decode cJ6_bitCount_0f7a4 48 = .ok (.iload_n 0, 1) := by decide +kernel
theorem dJ6_bitCount_0f7a4_49 : decode cJ6_bitCount_0f7a4 49 = .ok (.bipush 63, 2) := by decide +kernel
theorem dJ6_bitCount_0f7a4_51 : decode cJ6_bitCount_0f7a4 51 = .ok (.iand, 1) := by decide +kernel
theorem dJ6_bitCount_0f7a4_52 : decode cJ6_bitCount_0f7a4 52 = .ok (.ireturn, 1) := by decide +kernel
theorem dJ9_max_7cf53_0 : decode cJ9_max_7cf53 0 = .ok (.iload_n 0, 1) := by decide +kernel
theorem dJ9_max_7cf53_1 : decode cJ9_max_7cf53 1 = .ok (.iload_n 1, 1) := by decide +kernel
theorem dJ9_max_7cf53_2 : decode cJ9_max_7cf53 2 = .ok (.if_icmp .lt 7, 3) := by decide +kernel
theorem dJ9_max_7cf53_5 : decode cJ9_max_7cf53 5 = .ok (.iload_n 0, 1) := by decide +kernel
theorem dJ9_max_7cf53_6 : decode cJ9_max_7cf53 6 = .ok (.goto 4, 3) := by decide +kernel
theorem dJ9_max_7cf53_9 : decode cJ9_max_7cf53 9 = .ok (.iload_n 1, 1) := by decide +kernel
theorem dJ9_max_7cf53_10 : decode cJ9_max_7cf53 10 = .ok (.ireturn, 1) := by decide +kernel
theorem dJ9_min_7cf53_0 : decode cJ9_min_7cf53 0 = .ok (.iload_n 0, 1) := by decide +kernel
theorem dJ9_min_7cf53_1 : decode cJ9_min_7cf53 1 = .ok (.iload_n 1, 1) := by decide +kernel
theorem dJ9_min_7cf53_2 : decode cJ9_min_7cf53 2 = .ok (.if_icmp .gt 7, 3) := by decide +kernel
theorem dJ9_min_7cf53_5 : decode cJ9_min_7cf53 5 = .ok (.iload_n 0, 1) := by decide +kernel
theorem dJ9_min_7cf53_6 : decode cJ9_min_7cf53 6 = .ok (.goto 4, 3) := by decide +kernel
theorem dJ9_min_7cf53_9 : decode cJ9_min_7cf53 9 = .ok (.iload_n 1, 1) := by decide +kernel
theorem dJ9_min_7cf53_10 : decode cJ9_min_7cf53 10 = .ok (.ireturn, 1) := by decide +kernel
theorem dJ7_fill_53178_0 : decode cJ7_fill_53178 0 = .ok (.iconst 0, 1) := by decide +kernel
theorem dJ7_fill_53178_1 : decode cJ7_fill_53178 1 = .ok (.istore_n 2, 1) := by decide +kernel
theorem dJ7_fill_53178_2 : decode cJ7_fill_53178 2 = .ok (.aload_n 0, 1) := by decide +kernel
theorem dJ7_fill_53178_3 : decode cJ7_fill_53178 3 = .ok (.arraylength, 1) := by decide +kernel
theorem dJ7_fill_53178_4 : decode cJ7_fill_53178 4 = .ok (.istore_n 3, 1) := by decide +kernel
theorem dJ7_fill_53178_5 : decode cJ7_fill_53178 5 = .ok (.iload_n 2, 1) := by decide +kernel
theorem dJ7_fill_53178_6 : decode cJ7_fill_53178 6 = .ok (.iload_n 3, 1) := by decide +kernel
theorem dJ7_fill_53178_7 : decode cJ7_fill_53178 7 = .ok (.if_icmp .ge 13, 3) := by decide +kernel
theorem dJ7_fill_53178_10 : decode cJ7_fill_53178 10 = .ok (.aload_n 0, 1) := by decide +kernel
theorem dJ7_fill_53178_11 : decode cJ7_fill_53178 11 = .ok (.iload_n 2, 1) := by decide +kernel
theorem dJ7_fill_53178_12 : decode cJ7_fill_53178 12 = .ok (.iload_n 1, 1) := by decide +kernel
theorem dJ7_fill_53178_13 : decode cJ7_fill_53178 13 = .ok (.iastore, 1) := by decide +kernel
theorem dJ7_fill_53178_14 : decode cJ7_fill_53178 14 = .ok (.iinc 2 1, 3) := by decide +kernel
theorem dJ7_fill_53178_17 : decode cJ7_fill_53178 17 = .ok (.goto (-12), 3) := by decide +kernel
theorem dJ7_fill_53178_20 : decode cJ7_fill_53178 20 = .ok (.return_, 1) := by decide +kernel
