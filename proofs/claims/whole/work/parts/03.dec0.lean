theorem dX0_init_0 : decode cX0_init 0 = .ok (.aload_n 0, 1) := by decide +kernel
theorem dX0_init_1 : decode cX0_init 1 = .ok (.invokespecial 1, 3) := by decide +kernel
theorem dX0_init_4 : decode cX0_init 4 = .ok (.return_, 1) := by decide +kernel
theorem dX1_init_0 : decode cX1_init 0 = .ok (.aload_n 0, 1) := by decide +kernel
theorem dX1_init_1 : decode cX1_init 1 = .ok (.invokespecial 3, 3) := by decide +kernel
theorem dX1_init_4 : decode cX1_init 4 = .ok (.aload_n 0, 1) := by decide +kernel
theorem dX1_init_5 : decode cX1_init 5 = .ok (.bipush 80, 2) := by decide +kernel
theorem dX1_init_7 : decode cX1_init 7 = .ok (.newarray .char, 2) := by decide +kernel
theorem dX1_init_9 : decode cX1_init 9 = .ok (.putfield 9, 3) := by decide +kernel
theorem dX1_init_12 : decode cX1_init 12 = .ok (.aload_n 0, 1) := by decide +kernel
theorem dX1_init_13 : decode cX1_init 13 = .ok (.getstatic 15, 3) := by decide +kernel
theorem dX1_init_16 : decode cX1_init 16 = .ok (.invokevirtual 19, 3) := by decide +kernel
theorem dX1_init_19 : decode cX1_init 19 = .ok (.checkcast 20, 3) := by decide +kernel
theorem dX1_init_22 : decode cX1_init 22 = .ok (.putfield 24, 3) := by decide +kernel
theorem dX1_init_25 : decode cX1_init 25 = .ok (.aload_n 0, 1) := by decide +kernel
theorem dX1_init_26 : decode cX1_init 26 = .ok (.bipush 70, 2) := by decide +kernel
theorem dX1_init_28 : decode cX1_init 28 = .ok (.newarray .int, 2) := by decide +kernel
theorem dX1_init_30 : decode cX1_init 30 = .ok (.putfield 27, 3) := by decide +kernel
theorem dX1_init_33 : decode cX1_init 33 = .ok (.aload_n 0, 1) := by decide +kernel
theorem dX1_init_34 : decode cX1_init 34 = .ok (.iconst (-1), 1) := by decide +kernel
theorem dX1_init_35 : decode cX1_init 35 = .ok (.putfield 30, 3) := by decide +kernel
theorem dX1_init_38 : decode cX1_init 38 = .ok (.aload_n 0, 1) := by decide +kernel
theorem dX1_init_39 : decode cX1_init 39 = .ok (.getfield 27, 3) := by decide +kernel
theorem dX1_init_42 : decode cX1_init 42 = .ok (.iconst (-1), 1) := by decide +kernel
theorem dX1_init_43 : decode cX1_init 43 = .ok (.invokestatic 34, 3) := by decide +kernel
theorem dX1_init_46 : decode cX1_init 46 = .ok (.return_, 1) := by decide +kernel
theorem dX1_addByte_0 : decode cX1_addByte 0 = .ok (.aload_n 0, 1) := by decide +kernel
theorem dX1_addByte_1 : decode cX1_addByte 1 = .ok (.getfield 40, 3) := by decide +kernel
theorem dX1_addByte_4 : decode cX1_addByte 4 = .ok (.bipush 80, 2) := by decide +kernel
theorem dX1_addByte_6 : decode cX1_addByte 6 = .ok (.if_icmp .lt 6, 3) := by decide +kernel
theorem dX1_addByte_9 : decode cX1_addByte 9 = .ok (.bipush (-4), 2) := by decide +kernel
theorem dX1_addByte_11 : decode cX1_addByte 11 = .ok (.ireturn, 1) := by decide +kernel
theorem dX1_addByte_12 : decode cX1_addByte 12 = .ok (.aload_n 0, 1) := by decide +kernel
theorem dX1_addByte_13 : decode cX1_addByte 13 = .ok (.getfield 9, 3) := by decide +kernel
theorem dX1_addByte_16 : decode cX1_addByte 16 = .ok (.aload_n 0, 1) := by decide +kernel
theorem dX1_addByte_17 : decode cX1_addByte 17 = .ok (.getfield 40, 3) := by decide +kernel
theorem dX1_addByte_20 : decode cX1_addByte 20 = .ok (.iload_n 1, 1) := by decide +kernel
theorem dX1_addByte_21 : decode cX1_addByte 21 = .ok (.i2c, 1) := by decide +kernel
theorem dX1_addByte_22 : decode cX1_addByte 22 = .ok (.castore, 1) := by decide +kernel
theorem dX1_addByte_23 : decode cX1_addByte 23 = .ok (.aload_n 0, 1) := by decide +kernel
theorem dX1_addByte_24 : decode cX1_addByte 24 = .ok (.dup, 1) := by decide +kernel
theorem dX1_addByte_25 : decode cX1_addByte 25 = .ok (.getfield 40, 3) := by decide +kernel
theorem dX1_addByte_28 : decode cX1_addByte 28 = .ok (.iconst 1, 1) := by decide +kernel
theorem dX1_addByte_29 : decode cX1_addByte 29 = .ok (.iadd, 1) := by decide +kernel
theorem dX1_addByte_30 : decode cX1_addByte 30 = .ok (.putfield 40, 3) := by decide +kernel
theorem dX1_addByte_33 : decode cX1_addByte 33 = .ok (.aload_n 0, 1) := by decide +kernel
theorem dX1_addByte_34 : decode cX1_addByte 34 = .ok (.invokevirtual 43, 3) := by decide +kernel
theorem dX1_addByte_37 : decode cX1_addByte 37 = .ok (.aload_n 0, 1) := by decide +kernel
theorem dX1_addByte_38 : decode cX1_addByte 38 = .ok (.getfield 40, 3) := by decide +kernel
theorem dX1_addByte_41 : decode cX1_addByte 41 = .ok (.ireturn, 1) := by decide +kernel
theorem dX1_empty_0 : decode cX1_empty 0 = .ok (.aload_n 0, 1) := by decide +kernel
theorem dX1_empty_1 : decode cX1_empty 1 = .ok (.getfield 40, 3) := by decide +kernel
theorem dX1_empty_4 : decode cX1_empty 4 = .ok (.istore_n 1, 1) := by decide +kernel
theorem dX1_empty_5 : decode cX1_empty 5 = .ok (.aload_n 0, 1) := by decide +kernel
theorem dX1_empty_6 : decode cX1_empty 6 = .ok (.iconst 0, 1) := by decide +kernel
theorem dX1_empty_7 : decode cX1_empty 7 = .ok (.putfield 40, 3) := by decide +kernel
theorem dX1_empty_10 : decode cX1_empty 10 = .ok (.aload_n 0, 1) := by decide +kernel
theorem dX1_empty_11 : decode cX1_empty 11 = .ok (.invokevirtual 43, 3) := by decide +kernel
theorem dX1_empty_14 : decode cX1_empty 14 = .ok (.iload_n 1, 1) := by decide +kernel
theorem dX1_empty_15 : decode cX1_empty 15 = .ok (.ireturn, 1) := by decide +kernel
theorem dX1_read_0 : decode cX1_read 0 = .ok (.aload_n 0, 1) := by decide +kernel
theorem dX1_read_1 : decode cX1_read 1 = .ok (.invokevirtual 46, 3) := by decide +kernel
theorem dX1_read_4 : decode cX1_read 4 = .ok (.aload_n 0, 1) := by decide +kernel
theorem dX1_read_5 : decode cX1_read 5 = .ok (.aload_n 0, 1) := by decide +kernel
theorem dX1_read_6 : decode cX1_read 6 = .ok (.getfield 40, 3) := by decide +kernel
theorem dX1_read_9 : decode cX1_read 9 = .ok (.ifCond .ne 7, 3) := by decide +kernel
theorem dX1_read_12 : decode cX1_read 12 = .ok (.iconst (-1), 1) := by decide +kernel
theorem dX1_read_13 : decode cX1_read 13 = .ok (.goto 7, 3) := by decide +kernel
theorem dX1_read_16 : decode cX1_read 16 = .ok (.aload_n 0, 1) := by decide +kernel
theorem dX1_read_17 : decode cX1_read 17 = .ok (.invokevirtual 49, 3) := by decide +kernel
theorem dX1_read_20 : decode cX1_read 20 = .ok (.putfield 30, 3) := by decide +kernel
theorem dX1_read_23 : decode cX1_read 23 = .ok (.aload_n 0, 1) := by decide +kernel
theorem dX1_read_24 : decode cX1_read 24 = .ok (.getfield 30, 3) := by decide +kernel
theorem dX1_read_27 : decode cX1_read 27 = .ok (.iconst (-1), 1) := by decide +kernel
theorem dX1_read_28 : decode cX1_read 28 = .ok (.if_icmp .eq 7, 3) := by decide +kernel
theorem dX1_read_31 : decode cX1_read 31 = .ok (.aload_n 0, 1) := by decide +kernel
theorem dX1_read_32 : decode cX1_read 32 = .ok (.invokevirtual 46, 3) := by decide +kernel
theorem dX1_read_35 : decode cX1_read 35 = .ok (.return_, 1) := by decide +kernel
theorem dX1_forgetParts_0 : decode cX1_forgetParts 0 = .ok (.getstatic 15, 3) := by decide +kernel
theorem dX1_forgetParts_3 : decode cX1_forgetParts 3 = .ok (.iconst 0, 1) := by decide +kernel
theorem dX1_forgetParts_4 : decode cX1_forgetParts 4 = .ok (.aload_n 0, 1) := by decide +kernel
theorem dX1_forgetParts_5 : decode cX1_forgetParts 5 = .ok (.getfield 24, 3) := by decide +kernel
theorem dX1_forgetParts_8 : decode cX1_forgetParts 8 = .ok (.iconst 0, 1) := by decide +kernel
theorem dX1_forgetParts_9 : decode cX1_forgetParts 9 = .ok (.bipush 17, 2) := by decide +kernel
theorem dX1_forgetParts_11 : decode cX1_forgetParts 11 = .ok (.invokestatic 53, 3) := by decide +kernel
theorem dX1_forgetParts_14 : decode cX1_forgetParts 14 = .ok (.aload_n 0, 1) := by decide +kernel
theorem dX1_forgetParts_15 : decode cX1_forgetParts 15 = .ok (.getfield 27, 3) := by decide +kernel
theorem dX1_forgetParts_18 : decode cX1_forgetParts 18 = .ok (.iconst (-1), 1) := by decide +kernel
theorem dX1_forgetParts_19 : decode cX1_forgetParts 19 = .ok (.invokestatic 34, 3) := by decide +kernel
theorem dX1_forgetParts_22 : decode cX1_forgetParts 22 = .ok (.return_, 1) := by decide +kernel
theorem dX1_readParts_0 : decode cX1_readParts 0 = .ok (.aload_n 0, 1) := by decide +kernel
theorem dX1_readParts_1 : decode cX1_readParts 1 = .ok (.iconst 0, 1) := by decide +kernel
theorem dX1_readParts_2 : decode cX1_readParts 2 = .ok (.putfield 59, 3) := by decide +kernel
theorem dX1_readParts_5 : decode cX1_readParts 5 = .ok (.iconst 0, 1) := by decide +kernel
theorem dX1_readParts_6 : decode cX1_readParts 6 = .ok (.istore_n 1, 1) := by decide +kernel
theorem dX1_readParts_7 : decode cX1_readParts 7 = .ok (.iload_n 1, 1) := by decide +kernel
theorem dX1_readParts_8 : decode cX1_readParts 8 = .ok (.bipush 80, 2) := by decide +kernel
theorem dX1_readParts_10 : decode cX1_readParts 10 = .ok (.if_icmp .ge 64, 3) := by decide +kernel
theorem dX1_readParts_13 : decode cX1_readParts 13 = .ok (.aload_n 0, 1) := by decide +kernel
theorem dX1_readParts_14 : decode cX1_readParts 14 = .ok (.iload_n 1, 1) := by decide +kernel
theorem dX1_readParts_15 : decode cX1_readParts 15 = .ok (.invokevirtual 62, 3) := by decide +kernel
theorem dX1_readParts_18 : decode cX1_readParts 18 = .ok (.istore_n 2, 1) := by decide +kernel
theorem dX1_readParts_19 : decode cX1_readParts 19 = .ok (.iload_n 2, 1) := by decide +kernel
theorem dX1_readParts_20 : decode cX1_readParts 20 = .ok (.iconst (-1), 1) := by decide +kernel
theorem dX1_readParts_21 : decode cX1_readParts 21 = .ok (.if_icmp .eq 5, 3) := by decide +kernel
theorem dX1_readParts_24 : decode cX1_readParts 24 = .ok (.iload_n 2, 1) := by decide +kernel
theorem dX1_readParts_25 : decode cX1_readParts 25 = .ok (.ireturn, 1) := by decide +kernel
theorem dX1_readParts_26 : decode cX1_readParts 26 = .ok (.aload_n 0, 1) := by decide +kernel
theorem dX1_readParts_27 : decode cX1_readParts 27 = .ok (.getfield 59, 3) := by decide +kernel
theorem dX1_readParts_30 : decode cX1_readParts 30 = .ok (.aload_n 0, 1) := by decide +kernel
theorem dX1_readParts_31 : decode cX1_readParts 31 = .ok (.getfield 40, 3) := by decide +kernel
theorem dX1_readParts_34 : decode cX1_readParts 34 = .ok (.if_icmp .lt 5, 3) := by decide +kernel
theorem dX1_readParts_37 : decode cX1_readParts 37 = .ok (.iconst (-1), 1) := by decide +kernel
theorem dX1_readParts_38 : decode cX1_readParts 38 = .ok (.ireturn, 1) := by decide +kernel
theorem dX1_readParts_39 : decode cX1_readParts 39 = .ok (.aload_n 0, 1) := by decide +kernel
theorem dX1_readParts_40 : decode cX1_readParts 40 = .ok (.getfield 9, 3) := by decide +kernel
theorem dX1_readParts_43 : decode cX1_readParts 43 = .ok (.aload_n 0, 1) := by decide +kernel
theorem dX1_readParts_44 : decode cX1_readParts 44 = .ok (.getfield 59, 3) := by decide +kernel
theorem dX1_readParts_47 : decode cX1_readParts 47 = .ok (.caload, 1) := by decide +kernel
theorem dX1_readParts_48 : decode cX1_readParts 48 = .ok (.bipush 59, 2) := by decide +kernel
theorem dX1_readParts_50 : decode cX1_readParts 50 = .ok (.if_icmp .eq 8, 3) := by decide +kernel
theorem dX1_readParts_53 : decode cX1_readParts 53 = .ok (.aload_n 0, 1) := by decide +kernel
theorem dX1_readParts_54 : decode cX1_readParts 54 = .ok (.getfield 59, 3) := by decide +kernel
theorem dX1_readParts_57 : decode cX1_readParts 57 = .ok (.ireturn, 1) := by decide +kernel
theorem dX1_readParts_58 : decode cX1_readParts 58 = .ok (.aload_n 0, 1) := by decide +kernel
theorem dX1_readParts_59 : decode cX1_readParts 59 = .ok (.dup, 1) := by decide +kernel
theorem dX1_readParts_60 : decode cX1_readParts 60 = .ok (.getfield 59, 3) := by decide +kernel
theorem dX1_readParts_63 : decode cX1_readParts 63 = .ok (.iconst 1, 1) := by decide +kernel
theorem dX1_readParts_64 : decode cX1_readParts 64 = .ok (.iadd, 1) := by decide +kernel
theorem dX1_readParts_65 : decode cX1_readParts 65 = .ok (.putfield 59, 3) := by decide +kernel
theorem dX1_readParts_68 : decode cX1_readParts 68 = .ok (.iinc 1 1, 3) := by decide +kernel
theorem dX1_readParts_71 : decode cX1_readParts 71 = .ok (.goto (-64), 3) := by decide +kernel
theorem dX1_readParts_74 : decode cX1_readParts 74 = .ok (.aload_n 0, 1) := by decide +kernel
theorem dX1_readParts_75 : decode cX1_readParts 75 = .ok (.getfield 59, 3) := by decide +kernel
theorem dX1_readParts_78 : decode cX1_readParts 78 = .ok (.ireturn, 1) := by decide +kernel
theorem dX1_readPart_0 : decode cX1_readPart 0 = .ok (.aload_n 0, 1) := by decide +kernel
theorem dX1_readPart_1 : decode cX1_readPart 1 = .ok (.getfield 59, 3) := by decide +kernel
theorem dX1_readPart_4 : decode cX1_readPart 4 = .ok (.aload_n 0, 1) := by decide +kernel
theorem dX1_readPart_5 : decode cX1_readPart 5 = .ok (.getfield 40, 3) := by decide +kernel
theorem dX1_readPart_8 : decode cX1_readPart 8 = .ok (.if_icmp .lt 8, 3) := by decide +kernel
theorem dX1_readPart_11 : decode cX1_readPart 11 = .ok (.aload_n 0, 1) := by decide +kernel
theorem dX1_readPart_12 : decode cX1_readPart 12 = .ok (.getfield 59, 3) := by decide +kernel
theorem dX1_readPart_15 : decode cX1_readPart 15 = .ok (.ireturn, 1) := by decide +kernel
theorem dX1_readPart_16 : decode cX1_readPart 16 = .ok (.aload_n 0, 1) := by decide +kernel
theorem dX1_readPart_17 : decode cX1_readPart 17 = .ok (.getfield 9, 3) := by decide +kernel
theorem dX1_readPart_20 : decode cX1_readPart 20 = .ok (.aload_n 0, 1) := by decide +kernel
theorem dX1_readPart_21 : decode cX1_readPart 21 = .ok (.getfield 59, 3) := by decide +kernel
theorem dX1_readPart_24 : decode cX1_readPart 24 = .ok (.caload, 1) := by decide +kernel
theorem dX1_readPart_25 : decode cX1_readPart 25 = .ok (.istore_n 2, 1) := by decide +kernel
theorem dX1_readPart_26 : decode cX1_readPart 26 = .ok (.aload_n 0, 1) := by decide +kernel
theorem dX1_readPart_27 : decode cX1_readPart 27 = .ok (.dup, 1) := by decide +kernel
theorem dX1_readPart_28 : decode cX1_readPart 28 = .ok (.getfield 59, 3) := by decide +kernel
theorem dX1_readPart_31 : decode cX1_readPart 31 = .ok (.iconst 1, 1) := by decide +kernel
theorem dX1_readPart_32 : decode cX1_readPart 32 = .ok (.iadd, 1) := by decide +kernel
theorem dX1_readPart_33 : decode cX1_readPart 33 = .ok (.putfield 59, 3) := by decide +kernel
theorem dX1_readPart_36 : decode cX1_readPart 36 = .ok (.iload_n 2, 1) := by decide +kernel
theorem dX1_readPart_37 : decode cX1_readPart 37 = .ok (.tableswitch 166 97 121 #[134, 166, 166, 166, 150, 166, 129, 166, 166, 166, 142, 166, 166, 122, 166, 166, 166, 166, 166, 158, 166, 166, 166, 166, 115], 115) := by decide +kernel
theorem dX1_readPart_152 : decode cX1_readPart 152 = .ok (.aload_n 0, 1) := by decide +kernel
theorem dX1_readPart_153 : decode cX1_readPart 153 = .ok (.iload_n 1, 1) := by decide +kernel
theorem dX1_readPart_154 : decode cX1_readPart 154 = .ok (.iconst 1, 1) := by decide +kernel
theorem dX1_readPart_155 : decode cX1_readPart 155 = .ok (.invokevirtual 66, 3) := by decide +kernel
theorem dX1_readPart_158 : decode cX1_readPart 158 = .ok (.ireturn, 1) := by decide +kernel
theorem dX1_readPart_159 : decode cX1_readPart 159 = .ok (.aload_n 0, 1) := by decide +kernel
theorem dX1_readPart_160 : decode cX1_readPart 160 = .ok (.iload_n 1, 1) := by decide +kernel
theorem dX1_readPart_161 : decode cX1_readPart 161 = .ok (.iconst 0, 1) := by decide +kernel
theorem dX1_readPart_162 : decode cX1_readPart 162 = .ok (.invokevirtual 66, 3) := by decide +kernel
theorem dX1_readPart_165 : decode cX1_readPart 165 = .ok (.ireturn, 1) := by decide +kernel
theorem dX1_readPart_166 : decode cX1_readPart 166 = .ok (.aload_n 0, 1) := by decide +kernel
theorem dX1_readPart_167 : decode cX1_readPart 167 = .ok (.invokevirtual 70, 3) := by decide +kernel
theorem dX1_readPart_170 : decode cX1_readPart 170 = .ok (.ireturn, 1) := by decide +kernel
theorem dX1_readPart_171 : decode cX1_readPart 171 = .ok (.aload_n 0, 1) := by decide +kernel
theorem dX1_readPart_172 : decode cX1_readPart 172 = .ok (.bipush 13, 2) := by decide +kernel
theorem dX1_readPart_174 : decode cX1_readPart 174 = .ok (.iconst 2, 1) := by decide +kernel
theorem dX1_readPart_175 : decode cX1_readPart 175 = .ok (.invokevirtual 73, 3) := by decide +kernel
theorem dX1_readPart_178 : decode cX1_readPart 178 = .ok (.ireturn, 1) := by decide +kernel
theorem dX1_readPart_179 : decode cX1_readPart 179 = .ok (.aload_n 0, 1) := by decide +kernel
theorem dX1_readPart_180 : decode cX1_readPart 180 = .ok (.bipush 14, 2) := by decide +kernel
theorem dX1_readPart_182 : decode cX1_readPart 182 = .ok (.iconst 2, 1) := by decide +kernel
theorem dX1_readPart_183 : decode cX1_readPart 183 = .ok (.invokevirtual 73, 3) := by decide +kernel
theorem dX1_readPart_186 : decode cX1_readPart 186 = .ok (.ireturn, 1) := by decide +kernel
theorem dX1_readPart_187 : decode cX1_readPart 187 = .ok (.aload_n 0, 1) := by decide +kernel
theorem dX1_readPart_188 : decode cX1_readPart 188 = .ok (.bipush 15, 2) := by decide +kernel
theorem dX1_readPart_190 : decode cX1_readPart 190 = .ok (.iconst 0, 1) := by decide +kernel
theorem dX1_readPart_191 : decode cX1_readPart 191 = .ok (.invokevirtual 77, 3) := by decide +kernel
theorem dX1_readPart_194 : decode cX1_readPart 194 = .ok (.ireturn, 1) := by decide +kernel
theorem dX1_readPart_195 : decode cX1_readPart 195 = .ok (.aload_n 0, 1) := by decide +kernel
theorem dX1_readPart_196 : decode cX1_readPart 196 = .ok (.bipush 16, 2) := by decide +kernel
theorem dX1_readPart_198 : decode cX1_readPart 198 = .ok (.iconst 1, 1) := by decide +kernel
theorem dX1_readPart_199 : decode cX1_readPart 199 = .ok (.invokevirtual 77, 3) := by decide +kernel
theorem dX1_readPart_202 : decode cX1_readPart 202 = .ok (.ireturn, 1) := by decide +kernel
theorem dX1_readPart_203 : decode cX1_readPart 203 = .ok (.aload_n 0, 1) := by decide +kernel
theorem dX1_readPart_204 : decode cX1_readPart 204 = .ok (.getfield 59, 3) := by decide +kernel
theorem dX1_readPart_207 : decode cX1_readPart 207 = .ok (.iconst 1, 1) := by decide +kernel
theorem dX1_readPart_208 : decode cX1_readPart 208 = .ok (.isub, 1) := by decide +kernel
theorem dX1_readPart_209 : decode cX1_readPart 209 = .ok (.ireturn, 1) := by decide +kernel
theorem dX1_figureAt_0 : decode cX1_figureAt 0 = .ok (.iload_n 1, 1) := by decide +kernel
theorem dX1_figureAt_1 : decode cX1_figureAt 1 = .ok (.ifCond .lt 33, 3) := by decide +kernel
theorem dX1_figureAt_4 : decode cX1_figureAt 4 = .ok (.iload_n 1, 1) := by decide +kernel
theorem dX1_figureAt_5 : decode cX1_figureAt 5 = .ok (.aload_n 0, 1) := by decide +kernel
theorem dX1_figureAt_6 : decode cX1_figureAt 6 = .ok (.getfield 40, 3) := by decide +kernel
theorem dX1_figureAt_9 : decode cX1_figureAt 9 = .ok (.if_icmp .ge 25, 3) := by decide +kernel
theorem dX1_figureAt_12 : decode cX1_figureAt 12 = .ok (.aload_n 0, 1) := by decide +kernel
theorem dX1_figureAt_13 : decode cX1_figureAt 13 = .ok (.getfield 9, 3) := by decide +kernel
theorem dX1_figureAt_16 : decode cX1_figureAt 16 = .ok (.iload_n 1, 1) := by decide +kernel
theorem dX1_figureAt_17 : decode cX1_figureAt 17 = .ok (.caload, 1) := by decide +kernel
theorem dX1_figureAt_18 : decode cX1_figureAt 18 = .ok (.bipush 48, 2) := by decide +kernel
theorem dX1_figureAt_20 : decode cX1_figureAt 20 = .ok (.if_icmp .lt 14, 3) := by decide +kernel
theorem dX1_figureAt_23 : decode cX1_figureAt 23 = .ok (.aload_n 0, 1) := by decide +kernel
theorem dX1_figureAt_24 : decode cX1_figureAt 24 = .ok (.getfield 9, 3) := by decide +kernel
theorem dX1_figureAt_27 : decode cX1_figureAt 27 = .ok (.iload_n 1, 1) := by decide +kernel
theorem dX1_figureAt_28 : decode cX1_figureAt 28 = .ok (.caload, 1) := by decide +kernel
theorem dX1_figureAt_29 : decode cX1_figureAt 29 = .ok (.bipush 57, 2) := by decide +kernel
theorem dX1_figureAt_31 : decode cX1_figureAt 31 = .ok (.if_icmp .le 5, 3) := by decide +kernel
theorem dX1_figureAt_34 : decode cX1_figureAt 34 = .ok (.iconst (-1), 1) := by decide +kernel
theorem dX1_figureAt_35 : decode cX1_figureAt 35 = .ok (.ireturn, 1) := by decide +kernel
theorem dX1_figureAt_36 : decode cX1_figureAt 36 = .ok (.aload_n 0, 1) := by decide +kernel
theorem dX1_figureAt_37 : decode cX1_figureAt 37 = .ok (.getfield 9, 3) := by decide +kernel
theorem dX1_figureAt_40 : decode cX1_figureAt 40 = .ok (.iload_n 1, 1) := by decide +kernel
theorem dX1_figureAt_41 : decode cX1_figureAt 41 = .ok (.caload, 1) := by decide +kernel
theorem dX1_figureAt_42 : decode cX1_figureAt 42 = .ok (.bipush 48, 2) := by decide +kernel
theorem dX1_figureAt_44 : decode cX1_figureAt 44 = .ok (.isub, 1) := by decide +kernel
theorem dX1_figureAt_45 : decode cX1_figureAt 45 = .ok (.ireturn, 1) := by decide +kernel
theorem dX1_readCells_0 : decode cX1_readCells 0 = .ok (.aload_n 0, 1) := by decide +kernel
theorem dX1_readCells_1 : decode cX1_readCells 1 = .ok (.aload_n 0, 1) := by decide +kernel
theorem dX1_readCells_2 : decode cX1_readCells 2 = .ok (.getfield 59, 3) := by decide +kernel
theorem dX1_readCells_5 : decode cX1_readCells 5 = .ok (.invokevirtual 80, 3) := by decide +kernel
theorem dX1_readCells_8 : decode cX1_readCells 8 = .ok (.istore_n 3, 1) := by decide +kernel
theorem dX1_readCells_9 : decode cX1_readCells 9 = .ok (.iload_n 3, 1) := by decide +kernel
theorem dX1_readCells_10 : decode cX1_readCells 10 = .ok (.iconst (-1), 1) := by decide +kernel
theorem dX1_readCells_11 : decode cX1_readCells 11 = .ok (.if_icmp .ne 8, 3) := by decide +kernel
theorem dX1_readCells_14 : decode cX1_readCells 14 = .ok (.aload_n 0, 1) := by decide +kernel
theorem dX1_readCells_15 : decode cX1_readCells 15 = .ok (.getfield 59, 3) := by decide +kernel
theorem dX1_readCells_18 : decode cX1_readCells 18 = .ok (.ireturn, 1) := by decide +kernel
theorem dX1_readCells_19 : decode cX1_readCells 19 = .ok (.aload_n 0, 1) := by decide +kernel
theorem dX1_readCells_20 : decode cX1_readCells 20 = .ok (.dup, 1) := by decide +kernel
theorem dX1_readCells_21 : decode cX1_readCells 21 = .ok (.getfield 59, 3) := by decide +kernel
theorem dX1_readCells_24 : decode cX1_readCells 24 = .ok (.iconst 1, 1) := by decide +kernel
theorem dX1_readCells_25 : decode cX1_readCells 25 = .ok (.iadd, 1) := by decide +kernel
theorem dX1_readCells_26 : decode cX1_readCells 26 = .ok (.putfield 59, 3) := by decide +kernel
theorem dX1_readCells_29 : decode cX1_readCells 29 = .ok (.iconst 0, 1) := by decide +kernel
theorem dX1_readCells_30 : decode cX1_readCells 30 = .ok (.istore 4, 2) := by decide +kernel
theorem dX1_readCells_32 : decode cX1_readCells 32 = .ok (.bipush 6, 2) := by decide +kernel
theorem dX1_readCells_34 : decode cX1_readCells 34 = .ok (.istore 5, 2) := by decide +kernel
theorem dX1_readCells_36 : decode cX1_readCells 36 = .ok (.aload_n 0, 1) := by decide +kernel
theorem dX1_readCells_37 : decode cX1_readCells 37 = .ok (.aload_n 0, 1) := by decide +kernel
theorem dX1_readCells_38 : decode cX1_readCells 38 = .ok (.getfield 59, 3) := by decide +kernel
theorem dX1_readCells_41 : decode cX1_readCells 41 = .ok (.invokevirtual 80, 3) := by decide +kernel
theorem dX1_readCells_44 : decode cX1_readCells 44 = .ok (.iconst (-1), 1) := by decide +kernel
theorem dX1_readCells_45 : decode cX1_readCells 45 = .ok (.if_icmp .eq 114, 3) := by decide +kernel
theorem dX1_readCells_48 : decode cX1_readCells 48 = .ok (.aload_n 0, 1) := by decide +kernel
theorem dX1_readCells_49 : decode cX1_readCells 49 = .ok (.aload_n 0, 1) := by decide +kernel
theorem dX1_readCells_50 : decode cX1_readCells 50 = .ok (.getfield 59, 3) := by decide +kernel
theorem dX1_readCells_53 : decode cX1_readCells 53 = .ok (.invokevirtual 80, 3) := by decide +kernel
theorem dX1_readCells_56 : decode cX1_readCells 56 = .ok (.istore 4, 2) := by decide +kernel
theorem dX1_readCells_58 : decode cX1_readCells 58 = .ok (.iload 4, 2) := by decide +kernel
theorem dX1_readCells_60 : decode cX1_readCells 60 = .ok (.bipush 6, 2) := by decide +kernel
theorem dX1_readCells_62 : decode cX1_readCells 62 = .ok (.if_icmp .le 8, 3) := by decide +kernel
theorem dX1_readCells_65 : decode cX1_readCells 65 = .ok (.aload_n 0, 1) := by decide +kernel
theorem dX1_readCells_66 : decode cX1_readCells 66 = .ok (.getfield 59, 3) := by decide +kernel
theorem dX1_readCells_69 : decode cX1_readCells 69 = .ok (.ireturn, 1) := by decide +kernel
theorem dX1_readCells_70 : decode cX1_readCells 70 = .ok (.aload_n 0, 1) := by decide +kernel
theorem dX1_readCells_71 : decode cX1_readCells 71 = .ok (.dup, 1) := by decide +kernel
theorem dX1_readCells_72 : decode cX1_readCells 72 = .ok (.getfield 59, 3) := by decide +kernel
theorem dX1_readCells_75 : decode cX1_readCells 75 = .ok (.iconst 1, 1) := by decide +kernel
theorem dX1_readCells_76 : decode cX1_readCells 76 = .ok (.iadd, 1) := by decide +kernel
theorem dX1_readCells_77 : decode cX1_readCells 77 = .ok (.putfield 59, 3) := by decide +kernel
theorem dX1_readCells_80 : decode cX1_readCells 80 = .ok (.aload_n 0, 1) := by decide +kernel
theorem dX1_readCells_81 : decode cX1_readCells 81 = .ok (.getfield 59, 3) := by decide +kernel
theorem dX1_readCells_84 : decode cX1_readCells 84 = .ok (.aload_n 0, 1) := by decide +kernel
theorem dX1_readCells_85 : decode cX1_readCells 85 = .ok (.getfield 40, 3) := by decide +kernel
theorem dX1_readCells_88 : decode cX1_readCells 88 = .ok (.if_icmp .ge 17, 3) := by decide +kernel
theorem dX1_readCells_91 : decode cX1_readCells 91 = .ok (.aload_n 0, 1) := by decide +kernel
theorem dX1_readCells_92 : decode cX1_readCells 92 = .ok (.getfield 9, 3) := by decide +kernel
theorem dX1_readCells_95 : decode cX1_readCells 95 = .ok (.aload_n 0, 1) := by decide +kernel
theorem dX1_readCells_96 : decode cX1_readCells 96 = .ok (.getfield 59, 3) := by decide +kernel
theorem dX1_readCells_99 : decode cX1_readCells 99 = .ok (.caload, 1) := by decide +kernel
theorem dX1_readCells_100 : decode cX1_readCells 100 = .ok (.bipush 45, 2) := by decide +kernel
theorem dX1_readCells_102 : decode cX1_readCells 102 = .ok (.if_icmp .eq 8, 3) := by decide +kernel
theorem dX1_readCells_105 : decode cX1_readCells 105 = .ok (.aload_n 0, 1) := by decide +kernel
theorem dX1_readCells_106 : decode cX1_readCells 106 = .ok (.getfield 59, 3) := by decide +kernel
theorem dX1_readCells_109 : decode cX1_readCells 109 = .ok (.ireturn, 1) := by decide +kernel
theorem dX1_readCells_110 : decode cX1_readCells 110 = .ok (.aload_n 0, 1) := by decide +kernel
theorem dX1_readCells_111 : decode cX1_readCells 111 = .ok (.dup, 1) := by decide +kernel
theorem dX1_readCells_112 : decode cX1_readCells 112 = .ok (.getfield 59, 3) := by decide +kernel
theorem dX1_readCells_115 : decode cX1_readCells 115 = .ok (.iconst 1, 1) := by decide +kernel
theorem dX1_readCells_116 : decode cX1_readCells 116 = .ok (.iadd, 1) := by decide +kernel
theorem dX1_readCells_117 : decode cX1_readCells 117 = .ok (.putfield 59, 3) := by decide +kernel
theorem dX1_readCells_120 : decode cX1_readCells 120 = .ok (.aload_n 0, 1) := by decide +kernel
theorem dX1_readCells_121 : decode cX1_readCells 121 = .ok (.aload_n 0, 1) := by decide +kernel
theorem dX1_readCells_122 : decode cX1_readCells 122 = .ok (.getfield 59, 3) := by decide +kernel
theorem dX1_readCells_125 : decode cX1_readCells 125 = .ok (.invokevirtual 80, 3) := by decide +kernel
theorem dX1_readCells_128 : decode cX1_readCells 128 = .ok (.istore 5, 2) := by decide +kernel
theorem dX1_readCells_130 : decode cX1_readCells 130 = .ok (.iload 5, 2) := by decide +kernel
theorem dX1_readCells_132 : decode cX1_readCells 132 = .ok (.iload 4, 2) := by decide +kernel
theorem dX1_readCells_134 : decode cX1_readCells 134 = .ok (.if_icmp .lt 10, 3) := by decide +kernel
theorem dX1_readCells_137 : decode cX1_readCells 137 = .ok (.iload 5, 2) := by decide +kernel
theorem dX1_readCells_139 : decode cX1_readCells 139 = .ok (.bipush 6, 2) := by decide +kernel
theorem dX1_readCells_141 : decode cX1_readCells 141 = .ok (.if_icmp .le 8, 3) := by decide +kernel
theorem dX1_readCells_144 : decode cX1_readCells 144 = .ok (.aload_n 0, 1) := by decide +kernel
theorem dX1_readCells_145 : decode cX1_readCells 145 = .ok (.getfield 59, 3) := by decide +kernel
theorem dX1_readCells_148 : decode cX1_readCells 148 = .ok (.ireturn, 1) := by decide +kernel
theorem dX1_readCells_149 : decode cX1_readCells 149 = .ok (.aload_n 0, 1) := by decide +kernel
theorem dX1_readCells_150 : decode cX1_readCells 150 = .ok (.dup, 1) := by decide +kernel
theorem dX1_readCells_151 : decode cX1_readCells 151 = .ok (.getfield 59, 3) := by decide +kernel
theorem dX1_readCells_154 : decode cX1_readCells 154 = .ok (.iconst 1, 1) := by decide +kernel
theorem dX1_readCells_155 : decode cX1_readCells 155 = .ok (.iadd, 1) := by decide +kernel
theorem dX1_readCells_156 : decode cX1_readCells 156 = .ok (.putfield 59, 3) := by decide +kernel
theorem dX1_readCells_159 : decode cX1_readCells 159 = .ok (.aload_n 0, 1) := by decide +kernel
theorem dX1_readCells_160 : decode cX1_readCells 160 = .ok (.iload_n 1, 1) := by decide +kernel
theorem dX1_readCells_161 : decode cX1_readCells 161 = .ok (.iload_n 3, 1) := by decide +kernel
theorem dX1_readCells_162 : decode cX1_readCells 162 = .ok (.iload 4, 2) := by decide +kernel
theorem dX1_readCells_164 : decode cX1_readCells 164 = .ok (.iload 5, 2) := by decide +kernel
theorem dX1_readCells_166 : decode cX1_readCells 166 = .ok (.iload_n 2, 1) := by decide +kernel
theorem dX1_readCells_167 : decode cX1_readCells 167 = .ok (.invokevirtual 83, 3) := by decide +kernel
theorem dX1_readCells_170 : decode cX1_readCells 170 = .ok (.iconst (-1), 1) := by decide +kernel
theorem dX1_readCells_171 : decode cX1_readCells 171 = .ok (.ireturn, 1) := by decide +kernel
theorem dX1_say_0 : decode cX1_say 0 = .ok (.iload_n 3, 1) := by decide +kernel
theorem dX1_say_1 : decode cX1_say 1 = .ok (.istore 6, 2) := by decide +kernel
theorem dX1_say_3 : decode cX1_say 3 = .ok (.iload 6, 2) := by decide +kernel
theorem dX1_say_5 : decode cX1_say 5 = .ok (.iload 4, 2) := by decide +kernel
theorem dX1_say_7 : decode cX1_say 7 = .ok (.if_icmp .gt 60, 3) := by decide +kernel
theorem dX1_say_10 : decode cX1_say 10 = .ok (.aload_n 0, 1) := by decide +kernel
theorem dX1_say_11 : decode cX1_say 11 = .ok (.getfield 24, 3) := by decide +kernel
theorem dX1_say_14 : decode cX1_say 14 = .ok (.iload_n 2, 1) := by decide +kernel
theorem dX1_say_15 : decode cX1_say 15 = .ok (.iload 5, 2) := by decide +kernel
theorem dX1_say_17 : decode cX1_say 17 = .ok (.ifCond .eq 17, 3) := by decide +kernel
theorem dX1_say_20 : decode cX1_say 20 = .ok (.aload_n 0, 1) := by decide +kernel
theorem dX1_say_21 : decode cX1_say 21 = .ok (.getfield 24, 3) := by decide +kernel
theorem dX1_say_24 : decode cX1_say 24 = .ok (.iload_n 2, 1) := by decide +kernel
theorem dX1_say_25 : decode cX1_say 25 = .ok (.iaload, 1) := by decide +kernel
theorem dX1_say_26 : decode cX1_say 26 = .ok (.iconst 1, 1) := by decide +kernel
theorem dX1_say_27 : decode cX1_say 27 = .ok (.iload 6, 2) := by decide +kernel
theorem dX1_say_29 : decode cX1_say 29 = .ok (.ishl, 1) := by decide +kernel
theorem dX1_say_30 : decode cX1_say 30 = .ok (.ior, 1) := by decide +kernel
theorem dX1_say_31 : decode cX1_say 31 = .ok (.goto 16, 3) := by decide +kernel
theorem dX1_say_34 : decode cX1_say 34 = .ok (.aload_n 0, 1) := by decide +kernel
theorem dX1_say_35 : decode cX1_say 35 = .ok (.getfield 24, 3) := by decide +kernel
theorem dX1_say_38 : decode cX1_say 38 = .ok (.iload_n 2, 1) := by decide +kernel
theorem dX1_say_39 : decode cX1_say 39 = .ok (.iaload, 1) := by decide +kernel
theorem dX1_say_40 : decode cX1_say 40 = .ok (.iconst 1, 1) := by decide +kernel
theorem dX1_say_41 : decode cX1_say 41 = .ok (.iload 6, 2) := by decide +kernel
theorem dX1_say_43 : decode cX1_say 43 = .ok (.ishl, 1) := by decide +kernel
theorem dX1_say_44 : decode cX1_say 44 = .ok (.iconst (-1), 1) := by decide +kernel
theorem dX1_say_45 : decode cX1_say 45 = .ok (.ixor, 1) := by decide +kernel
theorem dX1_say_46 : decode cX1_say 46 = .ok (.iand, 1) := by decide +kernel
theorem dX1_say_47 : decode cX1_say 47 = .ok (.iastore, 1) := by decide +kernel
theorem dX1_say_48 : decode cX1_say 48 = .ok (.aload_n 0, 1) := by decide +kernel
theorem dX1_say_49 : decode cX1_say 49 = .ok (.getfield 27, 3) := by decide +kernel
theorem dX1_say_52 : decode cX1_say 52 = .ok (.iload_n 2, 1) := by decide +kernel
theorem dX1_say_53 : decode cX1_say 53 = .ok (.bipush 7, 2) := by decide +kernel
theorem dX1_say_55 : decode cX1_say 55 = .ok (.imul, 1) := by decide +kernel
theorem dX1_say_56 : decode cX1_say 56 = .ok (.iload 6, 2) := by decide +kernel
theorem dX1_say_58 : decode cX1_say 58 = .ok (.iadd, 1) := by decide +kernel
theorem dX1_say_59 : decode cX1_say 59 = .ok (.iload_n 1, 1) := by decide +kernel
theorem dX1_say_60 : decode cX1_say 60 = .ok (.iastore, 1) := by decide +kernel
theorem dX1_say_61 : decode cX1_say 61 = .ok (.iinc 6 1, 3) := by decide +kernel
theorem dX1_say_64 : decode cX1_say 64 = .ok (.goto (-61), 3) := by decide +kernel
theorem dX1_say_67 : decode cX1_say 67 = .ok (.return_, 1) := by decide +kernel
theorem dX1_readPoints_0 : decode cX1_readPoints 0 = .ok (.aload_n 0, 1) := by decide +kernel
theorem dX1_readPoints_1 : decode cX1_readPoints 1 = .ok (.aload_n 0, 1) := by decide +kernel
theorem dX1_readPoints_2 : decode cX1_readPoints 2 = .ok (.getfield 59, 3) := by decide +kernel
theorem dX1_readPoints_5 : decode cX1_readPoints 5 = .ok (.invokevirtual 80, 3) := by decide +kernel
theorem dX1_readPoints_8 : decode cX1_readPoints 8 = .ok (.istore_n 1, 1) := by decide +kernel
theorem dX1_readPoints_9 : decode cX1_readPoints 9 = .ok (.iload_n 1, 1) := by decide +kernel
theorem dX1_readPoints_10 : decode cX1_readPoints 10 = .ok (.iconst 4, 1) := by decide +kernel
theorem dX1_readPoints_11 : decode cX1_readPoints 11 = .ok (.if_icmp .ne 9, 3) := by decide +kernel
theorem dX1_readPoints_14 : decode cX1_readPoints 14 = .ok (.bipush 10, 2) := by decide +kernel
theorem dX1_readPoints_16 : decode cX1_readPoints 16 = .ok (.istore_n 2, 1) := by decide +kernel
theorem dX1_readPoints_17 : decode cX1_readPoints 17 = .ok (.goto 32, 3) := by decide +kernel
theorem dX1_readPoints_20 : decode cX1_readPoints 20 = .ok (.iload_n 1, 1) := by decide +kernel
theorem dX1_readPoints_21 : decode cX1_readPoints 21 = .ok (.bipush 8, 2) := by decide +kernel
theorem dX1_readPoints_23 : decode cX1_readPoints 23 = .ok (.if_icmp .ne 9, 3) := by decide +kernel
theorem dX1_readPoints_26 : decode cX1_readPoints 26 = .ok (.bipush 11, 2) := by decide +kernel
theorem dX1_readPoints_28 : decode cX1_readPoints 28 = .ok (.istore_n 2, 1) := by decide +kernel
theorem dX1_readPoints_29 : decode cX1_readPoints 29 = .ok (.goto 20, 3) := by decide +kernel
theorem dX1_readPoints_32 : decode cX1_readPoints 32 = .ok (.iload_n 1, 1) := by decide +kernel
theorem dX1_readPoints_33 : decode cX1_readPoints 33 = .ok (.bipush 9, 2) := by decide +kernel
theorem dX1_readPoints_35 : decode cX1_readPoints 35 = .ok (.if_icmp .ne 9, 3) := by decide +kernel
theorem dX1_readPoints_38 : decode cX1_readPoints 38 = .ok (.bipush 12, 2) := by decide +kernel
theorem dX1_readPoints_40 : decode cX1_readPoints 40 = .ok (.istore_n 2, 1) := by decide +kernel
theorem dX1_readPoints_41 : decode cX1_readPoints 41 = .ok (.goto 8, 3) := by decide +kernel
theorem dX1_readPoints_44 : decode cX1_readPoints 44 = .ok (.aload_n 0, 1) := by decide +kernel
theorem dX1_readPoints_45 : decode cX1_readPoints 45 = .ok (.getfield 59, 3) := by decide +kernel
theorem dX1_readPoints_48 : decode cX1_readPoints 48 = .ok (.ireturn, 1) := by decide +kernel
theorem dX1_readPoints_49 : decode cX1_readPoints 49 = .ok (.aload_n 0, 1) := by decide +kernel
theorem dX1_readPoints_50 : decode cX1_readPoints 50 = .ok (.dup, 1) := by decide +kernel
theorem dX1_readPoints_51 : decode cX1_readPoints 51 = .ok (.getfield 59, 3) := by decide +kernel
theorem dX1_readPoints_54 : decode cX1_readPoints 54 = .ok (.iconst 1, 1) := by decide +kernel
theorem dX1_readPoints_55 : decode cX1_readPoints 55 = .ok (.iadd, 1) := by decide +kernel
theorem dX1_readPoints_56 : decode cX1_readPoints 56 = .ok (.putfield 59, 3) := by decide +kernel
theorem dX1_readPoints_59 : decode cX1_readPoints 59 = .ok (.aload_n 0, 1) := by decide +kernel
theorem dX1_readPoints_60 : decode cX1_readPoints 60 = .ok (.getfield 59, 3) := by decide +kernel
theorem dX1_readPoints_63 : decode cX1_readPoints 63 = .ok (.aload_n 0, 1) := by decide +kernel
theorem dX1_readPoints_64 : decode cX1_readPoints 64 = .ok (.getfield 40, 3) := by decide +kernel
theorem dX1_readPoints_67 : decode cX1_readPoints 67 = .ok (.if_icmp .ge 17, 3) := by decide +kernel
theorem dX1_readPoints_70 : decode cX1_readPoints 70 = .ok (.aload_n 0, 1) := by decide +kernel
theorem dX1_readPoints_71 : decode cX1_readPoints 71 = .ok (.getfield 9, 3) := by decide +kernel
theorem dX1_readPoints_74 : decode cX1_readPoints 74 = .ok (.aload_n 0, 1) := by decide +kernel
theorem dX1_readPoints_75 : decode cX1_readPoints 75 = .ok (.getfield 59, 3) := by decide +kernel
theorem dX1_readPoints_78 : decode cX1_readPoints 78 = .ok (.caload, 1) := by decide +kernel
theorem dX1_readPoints_79 : decode cX1_readPoints 79 = .ok (.bipush 61, 2) := by decide +kernel
theorem dX1_readPoints_81 : decode cX1_readPoints 81 = .ok (.if_icmp .eq 8, 3) := by decide +kernel
theorem dX1_readPoints_84 : decode cX1_readPoints 84 = .ok (.aload_n 0, 1) := by decide +kernel
theorem dX1_readPoints_85 : decode cX1_readPoints 85 = .ok (.getfield 59, 3) := by decide +kernel
theorem dX1_readPoints_88 : decode cX1_readPoints 88 = .ok (.ireturn, 1) := by decide +kernel
theorem dX1_readPoints_89 : decode cX1_readPoints 89 = .ok (.aload_n 0, 1) := by decide +kernel
theorem dX1_readPoints_90 : decode cX1_readPoints 90 = .ok (.dup, 1) := by decide +kernel
theorem dX1_readPoints_91 : decode cX1_readPoints 91 = .ok (.getfield 59, 3) := by decide +kernel
theorem dX1_readPoints_94 : decode cX1_readPoints 94 = .ok (.iconst 1, 1) := by decide +kernel
theorem dX1_readPoints_95 : decode cX1_readPoints 95 = .ok (.iadd, 1) := by decide +kernel
theorem dX1_readPoints_96 : decode cX1_readPoints 96 = .ok (.putfield 59, 3) := by decide +kernel
theorem dX1_readPoints_99 : decode cX1_readPoints 99 = .ok (.aload_n 0, 1) := by decide +kernel
theorem dX1_readPoints_100 : decode cX1_readPoints 100 = .ok (.iload_n 2, 1) := by decide +kernel
theorem dX1_readPoints_101 : decode cX1_readPoints 101 = .ok (.bipush 9, 2) := by decide +kernel
theorem dX1_readPoints_103 : decode cX1_readPoints 103 = .ok (.invokevirtual 73, 3) := by decide +kernel
theorem dX1_readPoints_106 : decode cX1_readPoints 106 = .ok (.ireturn, 1) := by decide +kernel
theorem dX1_readFigure_0 : decode cX1_readFigure 0 = .ok (.aload_n 0, 1) := by decide +kernel
theorem dX1_readFigure_1 : decode cX1_readFigure 1 = .ok (.aload_n 0, 1) := by decide +kernel
theorem dX1_readFigure_2 : decode cX1_readFigure 2 = .ok (.getfield 59, 3) := by decide +kernel
theorem dX1_readFigure_5 : decode cX1_readFigure 5 = .ok (.invokevirtual 80, 3) := by decide +kernel
theorem dX1_readFigure_8 : decode cX1_readFigure 8 = .ok (.istore_n 3, 1) := by decide +kernel
theorem dX1_readFigure_9 : decode cX1_readFigure 9 = .ok (.iload_n 3, 1) := by decide +kernel
theorem dX1_readFigure_10 : decode cX1_readFigure 10 = .ok (.iconst (-1), 1) := by decide +kernel
theorem dX1_readFigure_11 : decode cX1_readFigure 11 = .ok (.if_icmp .eq 8, 3) := by decide +kernel
theorem dX1_readFigure_14 : decode cX1_readFigure 14 = .ok (.iload_n 3, 1) := by decide +kernel
theorem dX1_readFigure_15 : decode cX1_readFigure 15 = .ok (.iload_n 2, 1) := by decide +kernel
theorem dX1_readFigure_16 : decode cX1_readFigure 16 = .ok (.if_icmp .le 8, 3) := by decide +kernel
theorem dX1_readFigure_19 : decode cX1_readFigure 19 = .ok (.aload_n 0, 1) := by decide +kernel
theorem dX1_readFigure_20 : decode cX1_readFigure 20 = .ok (.getfield 59, 3) := by decide +kernel
theorem dX1_readFigure_23 : decode cX1_readFigure 23 = .ok (.ireturn, 1) := by decide +kernel
theorem dX1_readFigure_24 : decode cX1_readFigure 24 = .ok (.aload_n 0, 1) := by decide +kernel
theorem dX1_readFigure_25 : decode cX1_readFigure 25 = .ok (.getfield 24, 3) := by decide +kernel
theorem dX1_readFigure_28 : decode cX1_readFigure 28 = .ok (.iload_n 1, 1) := by decide +kernel
theorem dX1_readFigure_29 : decode cX1_readFigure 29 = .ok (.iload_n 3, 1) := by decide +kernel
theorem dX1_readFigure_30 : decode cX1_readFigure 30 = .ok (.iastore, 1) := by decide +kernel
theorem dX1_readFigure_31 : decode cX1_readFigure 31 = .ok (.aload_n 0, 1) := by decide +kernel
theorem dX1_readFigure_32 : decode cX1_readFigure 32 = .ok (.dup, 1) := by decide +kernel
theorem dX1_readFigure_33 : decode cX1_readFigure 33 = .ok (.getfield 59, 3) := by decide +kernel
theorem dX1_readFigure_36 : decode cX1_readFigure 36 = .ok (.iconst 1, 1) := by decide +kernel
theorem dX1_readFigure_37 : decode cX1_readFigure 37 = .ok (.iadd, 1) := by decide +kernel
theorem dX1_readFigure_38 : decode cX1_readFigure 38 = .ok (.putfield 59, 3) := by decide +kernel
theorem dX1_readFigure_41 : decode cX1_readFigure 41 = .ok (.iconst (-1), 1) := by decide +kernel
theorem dX1_readFigure_42 : decode cX1_readFigure 42 = .ok (.ireturn, 1) := by decide +kernel
theorem dX1_readNumber_0 : decode cX1_readNumber 0 = .ok (.aload_n 0, 1) := by decide +kernel
theorem dX1_readNumber_1 : decode cX1_readNumber 1 = .ok (.getfield 59, 3) := by decide +kernel
theorem dX1_readNumber_4 : decode cX1_readNumber 4 = .ok (.istore_n 3, 1) := by decide +kernel
theorem dX1_readNumber_5 : decode cX1_readNumber 5 = .ok (.aload_n 0, 1) := by decide +kernel
theorem dX1_readNumber_6 : decode cX1_readNumber 6 = .ok (.aload_n 0, 1) := by decide +kernel
theorem dX1_readNumber_7 : decode cX1_readNumber 7 = .ok (.getfield 59, 3) := by decide +kernel
theorem dX1_readNumber_10 : decode cX1_readNumber 10 = .ok (.invokevirtual 80, 3) := by decide +kernel
theorem dX1_readNumber_13 : decode cX1_readNumber 13 = .ok (.istore 4, 2) := by decide +kernel
theorem dX1_readNumber_15 : decode cX1_readNumber 15 = .ok (.iload 4, 2) := by decide +kernel
theorem dX1_readNumber_17 : decode cX1_readNumber 17 = .ok (.iconst (-1), 1) := by decide +kernel
theorem dX1_readNumber_18 : decode cX1_readNumber 18 = .ok (.if_icmp .ne 8, 3) := by decide +kernel
theorem dX1_readNumber_21 : decode cX1_readNumber 21 = .ok (.aload_n 0, 1) := by decide +kernel
theorem dX1_readNumber_22 : decode cX1_readNumber 22 = .ok (.getfield 59, 3) := by decide +kernel
theorem dX1_readNumber_25 : decode cX1_readNumber 25 = .ok (.ireturn, 1) := by decide +kernel
theorem dX1_readNumber_26 : decode cX1_readNumber 26 = .ok (.aload_n 0, 1) := by decide +kernel
theorem dX1_readNumber_27 : decode cX1_readNumber 27 = .ok (.dup, 1) := by decide +kernel
theorem dX1_readNumber_28 : decode cX1_readNumber 28 = .ok (.getfield 59, 3) := by decide +kernel
theorem dX1_readNumber_31 : decode cX1_readNumber 31 = .ok (.iconst 1, 1) := by decide +kernel
theorem dX1_readNumber_32 : decode cX1_readNumber 32 = .ok (.iadd, 1) := by decide +kernel
theorem dX1_readNumber_33 : decode cX1_readNumber 33 = .ok (.putfield 59, 3) := by decide +kernel
theorem dX1_readNumber_36 : decode cX1_readNumber 36 = .ok (.aload_n 0, 1) := by decide +kernel
theorem dX1_readNumber_37 : decode cX1_readNumber 37 = .ok (.aload_n 0, 1) := by decide +kernel
theorem dX1_readNumber_38 : decode cX1_readNumber 38 = .ok (.getfield 59, 3) := by decide +kernel
theorem dX1_readNumber_41 : decode cX1_readNumber 41 = .ok (.invokevirtual 80, 3) := by decide +kernel
theorem dX1_readNumber_44 : decode cX1_readNumber 44 = .ok (.istore 5, 2) := by decide +kernel
theorem dX1_readNumber_46 : decode cX1_readNumber 46 = .ok (.iload 5, 2) := by decide +kernel
theorem dX1_readNumber_48 : decode cX1_readNumber 48 = .ok (.iconst (-1), 1) := by decide +kernel
theorem dX1_readNumber_49 : decode cX1_readNumber 49 = .ok (.if_icmp .eq 23, 3) := by decide +kernel
theorem dX1_readNumber_52 : decode cX1_readNumber 52 = .ok (.bipush 10, 2) := by decide +kernel
theorem dX1_readNumber_54 : decode cX1_readNumber 54 = .ok (.iload 4, 2) := by decide +kernel
theorem dX1_readNumber_56 : decode cX1_readNumber 56 = .ok (.imul, 1) := by decide +kernel
theorem dX1_readNumber_57 : decode cX1_readNumber 57 = .ok (.iload 5, 2) := by decide +kernel
theorem dX1_readNumber_59 : decode cX1_readNumber 59 = .ok (.iadd, 1) := by decide +kernel
theorem dX1_readNumber_60 : decode cX1_readNumber 60 = .ok (.istore 4, 2) := by decide +kernel
theorem dX1_readNumber_62 : decode cX1_readNumber 62 = .ok (.aload_n 0, 1) := by decide +kernel
theorem dX1_readNumber_63 : decode cX1_readNumber 63 = .ok (.dup, 1) := by decide +kernel
theorem dX1_readNumber_64 : decode cX1_readNumber 64 = .ok (.getfield 59, 3) := by decide +kernel
theorem dX1_readNumber_67 : decode cX1_readNumber 67 = .ok (.iconst 1, 1) := by decide +kernel
theorem dX1_readNumber_68 : decode cX1_readNumber 68 = .ok (.iadd, 1) := by decide +kernel
theorem dX1_readNumber_69 : decode cX1_readNumber 69 = .ok (.putfield 59, 3) := by decide +kernel
theorem dX1_readNumber_72 : decode cX1_readNumber 72 = .ok (.iload 4, 2) := by decide +kernel
theorem dX1_readNumber_74 : decode cX1_readNumber 74 = .ok (.iload_n 2, 1) := by decide +kernel
theorem dX1_readNumber_75 : decode cX1_readNumber 75 = .ok (.if_icmp .ge 5, 3) := by decide +kernel
theorem dX1_readNumber_78 : decode cX1_readNumber 78 = .ok (.iload_n 3, 1) := by decide +kernel
theorem dX1_readNumber_79 : decode cX1_readNumber 79 = .ok (.ireturn, 1) := by decide +kernel
theorem dX1_readNumber_80 : decode cX1_readNumber 80 = .ok (.aload_n 0, 1) := by decide +kernel
theorem dX1_readNumber_81 : decode cX1_readNumber 81 = .ok (.getfield 24, 3) := by decide +kernel
theorem dX1_readNumber_84 : decode cX1_readNumber 84 = .ok (.iload_n 1, 1) := by decide +kernel
theorem dX1_readNumber_85 : decode cX1_readNumber 85 = .ok (.iload 4, 2) := by decide +kernel
theorem dX1_readNumber_87 : decode cX1_readNumber 87 = .ok (.iastore, 1) := by decide +kernel
theorem dX1_readNumber_88 : decode cX1_readNumber 88 = .ok (.iconst (-1), 1) := by decide +kernel
theorem dX1_readNumber_89 : decode cX1_readNumber 89 = .ok (.ireturn, 1) := by decide +kernel
theorem dX2_init_0 : decode cX2_init 0 = .ok (.aload_n 0, 1) := by decide +kernel
theorem dX2_init_1 : decode cX2_init 1 = .ok (.invokespecial 3, 3) := by decide +kernel
theorem dX2_init_4 : decode cX2_init 4 = .ok (.return_, 1) := by decide +kernel
theorem dX2_clear_0 : decode cX2_clear 0 = .ok (.aload_n 0, 1) := by decide +kernel
theorem dX2_clear_1 : decode cX2_clear 1 = .ok (.iconst 0, 1) := by decide +kernel
theorem dX2_clear_2 : decode cX2_clear 2 = .ok (.putfield 9, 3) := by decide +kernel
theorem dX2_clear_5 : decode cX2_clear 5 = .ok (.aload_n 0, 1) := by decide +kernel
theorem dX2_clear_6 : decode cX2_clear 6 = .ok (.iconst (-1), 1) := by decide +kernel
theorem dX2_clear_7 : decode cX2_clear 7 = .ok (.putfield 15, 3) := by decide +kernel
theorem dX2_clear_10 : decode cX2_clear 10 = .ok (.aload_n 0, 1) := by decide +kernel
theorem dX2_clear_11 : decode cX2_clear 11 = .ok (.iconst 0, 1) := by decide +kernel
theorem dX2_clear_12 : decode cX2_clear 12 = .ok (.putfield 18, 3) := by decide +kernel
theorem dX2_clear_15 : decode cX2_clear 15 = .ok (.return_, 1) := by decide +kernel
theorem dX2_offer_0 : decode cX2_offer 0 = .ok (.iload_n 2, 1) := by decide +kernel
theorem dX2_offer_1 : decode cX2_offer 1 = .ok (.aload_n 0, 1) := by decide +kernel
theorem dX2_offer_2 : decode cX2_offer 2 = .ok (.getfield 15, 3) := by decide +kernel
theorem dX2_offer_5 : decode cX2_offer 5 = .ok (.if_icmp .le 7, 3) := by decide +kernel
theorem dX2_offer_8 : decode cX2_offer 8 = .ok (.iconst 1, 1) := by decide +kernel
theorem dX2_offer_9 : decode cX2_offer 9 = .ok (.goto 4, 3) := by decide +kernel
theorem dX2_offer_12 : decode cX2_offer 12 = .ok (.iconst 0, 1) := by decide +kernel
theorem dX2_offer_13 : decode cX2_offer 13 = .ok (.istore 4, 2) := by decide +kernel
theorem dX2_offer_15 : decode cX2_offer 15 = .ok (.iload_n 2, 1) := by decide +kernel
theorem dX2_offer_16 : decode cX2_offer 16 = .ok (.aload_n 0, 1) := by decide +kernel
theorem dX2_offer_17 : decode cX2_offer 17 = .ok (.getfield 15, 3) := by decide +kernel
theorem dX2_offer_20 : decode cX2_offer 20 = .ok (.if_icmp .ne 40, 3) := by decide +kernel
theorem dX2_offer_23 : decode cX2_offer 23 = .ok (.iload_n 3, 1) := by decide +kernel
theorem dX2_offer_24 : decode cX2_offer 24 = .ok (.aload_n 0, 1) := by decide +kernel
theorem dX2_offer_25 : decode cX2_offer 25 = .ok (.getfield 18, 3) := by decide +kernel
theorem dX2_offer_28 : decode cX2_offer 28 = .ok (.if_icmp .lt 25, 3) := by decide +kernel
theorem dX2_offer_31 : decode cX2_offer 31 = .ok (.iload_n 3, 1) := by decide +kernel
theorem dX2_offer_32 : decode cX2_offer 32 = .ok (.aload_n 0, 1) := by decide +kernel
theorem dX2_offer_33 : decode cX2_offer 33 = .ok (.getfield 18, 3) := by decide +kernel
theorem dX2_offer_36 : decode cX2_offer 36 = .ok (.if_icmp .ne 21, 3) := by decide +kernel
theorem dX2_offer_39 : decode cX2_offer 39 = .ok (.iload_n 1, 1) := by decide +kernel
theorem dX2_offer_40 : decode cX2_offer 40 = .ok (.invokestatic 21, 3) := by decide +kernel
theorem dX2_offer_43 : decode cX2_offer 43 = .ok (.aload_n 0, 1) := by decide +kernel
theorem dX2_offer_44 : decode cX2_offer 44 = .ok (.getfield 9, 3) := by decide +kernel
theorem dX2_offer_47 : decode cX2_offer 47 = .ok (.invokestatic 21, 3) := by decide +kernel
theorem dX2_offer_50 : decode cX2_offer 50 = .ok (.if_icmp .ge 7, 3) := by decide +kernel
theorem dX2_offer_53 : decode cX2_offer 53 = .ok (.iconst 1, 1) := by decide +kernel
theorem dX2_offer_54 : decode cX2_offer 54 = .ok (.goto 4, 3) := by decide +kernel
theorem dX2_offer_57 : decode cX2_offer 57 = .ok (.iconst 0, 1) := by decide +kernel
theorem dX2_offer_58 : decode cX2_offer 58 = .ok (.istore 4, 2) := by decide +kernel
theorem dX2_offer_60 : decode cX2_offer 60 = .ok (.iload 4, 2) := by decide +kernel
theorem dX2_offer_62 : decode cX2_offer 62 = .ok (.ifCond .eq 18, 3) := by decide +kernel
theorem dX2_offer_65 : decode cX2_offer 65 = .ok (.aload_n 0, 1) := by decide +kernel
theorem dX2_offer_66 : decode cX2_offer 66 = .ok (.iload_n 1, 1) := by decide +kernel
theorem dX2_offer_67 : decode cX2_offer 67 = .ok (.putfield 9, 3) := by decide +kernel
theorem dX2_offer_70 : decode cX2_offer 70 = .ok (.aload_n 0, 1) := by decide +kernel
theorem dX2_offer_71 : decode cX2_offer 71 = .ok (.iload_n 2, 1) := by decide +kernel
theorem dX2_offer_72 : decode cX2_offer 72 = .ok (.putfield 15, 3) := by decide +kernel
theorem dX2_offer_75 : decode cX2_offer 75 = .ok (.aload_n 0, 1) := by decide +kernel
theorem dX2_offer_76 : decode cX2_offer 76 = .ok (.iload_n 3, 1) := by decide +kernel
theorem dX2_offer_77 : decode cX2_offer 77 = .ok (.putfield 18, 3) := by decide +kernel
theorem dX2_offer_80 : decode cX2_offer 80 = .ok (.return_, 1) := by decide +kernel
theorem dX3_init_0 : decode cX3_init 0 = .ok (.aload_n 0, 1) := by decide +kernel
theorem dX3_init_1 : decode cX3_init 1 = .ok (.invokespecial 3, 3) := by decide +kernel
theorem dX3_init_4 : decode cX3_init 4 = .ok (.aload_n 0, 1) := by decide +kernel
theorem dX3_init_5 : decode cX3_init 5 = .ok (.bipush 40, 2) := by decide +kernel
theorem dX3_init_7 : decode cX3_init 7 = .ok (.newarray .int, 2) := by decide +kernel
theorem dX3_init_9 : decode cX3_init 9 = .ok (.putfield 9, 3) := by decide +kernel
theorem dX3_init_12 : decode cX3_init 12 = .ok (.aload_n 0, 1) := by decide +kernel
theorem dX3_init_13 : decode cX3_init 13 = .ok (.bipush 40, 2) := by decide +kernel
theorem dX3_init_15 : decode cX3_init 15 = .ok (.newarray .int, 2) := by decide +kernel
theorem dX3_init_17 : decode cX3_init 17 = .ok (.putfield 15, 3) := by decide +kernel
theorem dX3_init_20 : decode cX3_init 20 = .ok (.aload_n 0, 1) := by decide +kernel
theorem dX3_init_21 : decode cX3_init 21 = .ok (.getfield 15, 3) := by decide +kernel
theorem dX3_init_24 : decode cX3_init 24 = .ok (.iconst (-1), 1) := by decide +kernel
theorem dX3_init_25 : decode cX3_init 25 = .ok (.invokestatic 18, 3) := by decide +kernel
theorem dX3_init_28 : decode cX3_init 28 = .ok (.return_, 1) := by decide +kernel
theorem dX3_setMoments_0 : decode cX3_setMoments 0 = .ok (.aload_n 0, 1) := by decide +kernel
theorem dX3_setMoments_1 : decode cX3_setMoments 1 = .ok (.iconst 0, 1) := by decide +kernel
theorem dX3_setMoments_2 : decode cX3_setMoments 2 = .ok (.iload_n 2, 1) := by decide +kernel
theorem dX3_setMoments_3 : decode cX3_setMoments 3 = .ok (.bipush 40, 2) := by decide +kernel
theorem dX3_setMoments_5 : decode cX3_setMoments 5 = .ok (.invokestatic 24, 3) := by decide +kernel
theorem dX3_setMoments_8 : decode cX3_setMoments 8 = .ok (.invokestatic 30, 3) := by decide +kernel
theorem dX3_setMoments_11 : decode cX3_setMoments 11 = .ok (.putfield 33, 3) := by decide +kernel
theorem dX3_setMoments_14 : decode cX3_setMoments 14 = .ok (.aload_n 1, 1) := by decide +kernel
theorem dX3_setMoments_15 : decode cX3_setMoments 15 = .ok (.getfield 37, 3) := by decide +kernel
theorem dX3_setMoments_18 : decode cX3_setMoments 18 = .ok (.iconst 0, 1) := by decide +kernel
theorem dX3_setMoments_19 : decode cX3_setMoments 19 = .ok (.aload_n 0, 1) := by decide +kernel
theorem dX3_setMoments_20 : decode cX3_setMoments 20 = .ok (.getfield 9, 3) := by decide +kernel
theorem dX3_setMoments_23 : decode cX3_setMoments 23 = .ok (.iconst 0, 1) := by decide +kernel
theorem dX3_setMoments_24 : decode cX3_setMoments 24 = .ok (.aload_n 0, 1) := by decide +kernel
theorem dX3_setMoments_25 : decode cX3_setMoments 25 = .ok (.getfield 33, 3) := by decide +kernel
theorem dX3_setMoments_28 : decode cX3_setMoments 28 = .ok (.invokestatic 42, 3) := by decide +kernel
theorem dX3_setMoments_31 : decode cX3_setMoments 31 = .ok (.return_, 1) := by decide +kernel
theorem dX3_setVerdicts_0 : decode cX3_setVerdicts 0 = .ok (.iconst 0, 1) := by decide +kernel
theorem dX3_setVerdicts_1 : decode cX3_setVerdicts 1 = .ok (.istore_n 2, 1) := by decide +kernel
theorem dX3_setVerdicts_2 : decode cX3_setVerdicts 2 = .ok (.iload_n 2, 1) := by decide +kernel
theorem dX3_setVerdicts_3 : decode cX3_setVerdicts 3 = .ok (.bipush 40, 2) := by decide +kernel
theorem dX3_setVerdicts_5 : decode cX3_setVerdicts 5 = .ok (.if_icmp .ge 62, 3) := by decide +kernel
theorem dX3_setVerdicts_8 : decode cX3_setVerdicts 8 = .ok (.aload_n 1, 1) := by decide +kernel
theorem dX3_setVerdicts_9 : decode cX3_setVerdicts 9 = .ok (.iload_n 2, 1) := by decide +kernel
theorem dX3_setVerdicts_10 : decode cX3_setVerdicts 10 = .ok (.invokevirtual 48, 3) := by decide +kernel
theorem dX3_setVerdicts_13 : decode cX3_setVerdicts 13 = .ok (.ifCond .eq 26, 3) := by decide +kernel
theorem dX3_setVerdicts_16 : decode cX3_setVerdicts 16 = .ok (.aload_n 1, 1) := by decide +kernel
theorem dX3_setVerdicts_17 : decode cX3_setVerdicts 17 = .ok (.getfield 37, 3) := by decide +kernel
theorem dX3_setVerdicts_20 : decode cX3_setVerdicts 20 = .ok (.iload_n 2, 1) := by decide +kernel
theorem dX3_setVerdicts_21 : decode cX3_setVerdicts 21 = .ok (.iaload, 1) := by decide +kernel
theorem dX3_setVerdicts_22 : decode cX3_setVerdicts 22 = .ok (.ifCond .eq 13, 3) := by decide +kernel
theorem dX3_setVerdicts_25 : decode cX3_setVerdicts 25 = .ok (.aload_n 1, 1) := by decide +kernel
theorem dX3_setVerdicts_26 : decode cX3_setVerdicts 26 = .ok (.getfield 37, 3) := by decide +kernel
theorem dX3_setVerdicts_29 : decode cX3_setVerdicts 29 = .ok (.iload_n 2, 1) := by decide +kernel
theorem dX3_setVerdicts_30 : decode cX3_setVerdicts 30 = .ok (.iaload, 1) := by decide +kernel
theorem dX3_setVerdicts_31 : decode cX3_setVerdicts 31 = .ok (.iconst 1, 1) := by decide +kernel
theorem dX3_setVerdicts_32 : decode cX3_setVerdicts 32 = .ok (.if_icmp .ne 7, 3) := by decide +kernel
theorem dX3_setVerdicts_35 : decode cX3_setVerdicts 35 = .ok (.iconst 1, 1) := by decide +kernel
theorem dX3_setVerdicts_36 : decode cX3_setVerdicts 36 = .ok (.goto 4, 3) := by decide +kernel
theorem dX3_setVerdicts_39 : decode cX3_setVerdicts 39 = .ok (.iconst 0, 1) := by decide +kernel
theorem dX3_setVerdicts_40 : decode cX3_setVerdicts 40 = .ok (.istore_n 3, 1) := by decide +kernel
theorem dX3_setVerdicts_41 : decode cX3_setVerdicts 41 = .ok (.aload_n 0, 1) := by decide +kernel
theorem dX3_setVerdicts_42 : decode cX3_setVerdicts 42 = .ok (.getfield 15, 3) := by decide +kernel
theorem dX3_setVerdicts_45 : decode cX3_setVerdicts 45 = .ok (.iload_n 2, 1) := by decide +kernel
theorem dX3_setVerdicts_46 : decode cX3_setVerdicts 46 = .ok (.iload_n 3, 1) := by decide +kernel
theorem dX3_setVerdicts_47 : decode cX3_setVerdicts 47 = .ok (.ifCond .eq 12, 3) := by decide +kernel
theorem dX3_setVerdicts_50 : decode cX3_setVerdicts 50 = .ok (.aload_n 1, 1) := by decide +kernel
theorem dX3_setVerdicts_51 : decode cX3_setVerdicts 51 = .ok (.getfield 37, 3) := by decide +kernel
theorem dX3_setVerdicts_54 : decode cX3_setVerdicts 54 = .ok (.iload_n 2, 1) := by decide +kernel
theorem dX3_setVerdicts_55 : decode cX3_setVerdicts 55 = .ok (.iaload, 1) := by decide +kernel
theorem dX3_setVerdicts_56 : decode cX3_setVerdicts 56 = .ok (.goto 4, 3) := by decide +kernel
theorem dX3_setVerdicts_59 : decode cX3_setVerdicts 59 = .ok (.iconst (-1), 1) := by decide +kernel
theorem dX3_setVerdicts_60 : decode cX3_setVerdicts 60 = .ok (.iastore, 1) := by decide +kernel
theorem dX3_setVerdicts_61 : decode cX3_setVerdicts 61 = .ok (.iinc 2 1, 3) := by decide +kernel
theorem dX3_setVerdicts_64 : decode cX3_setVerdicts 64 = .ok (.goto (-62), 3) := by decide +kernel
theorem dX3_setVerdicts_67 : decode cX3_setVerdicts 67 = .ok (.aload_n 0, 1) := by decide +kernel
theorem dX3_setVerdicts_68 : decode cX3_setVerdicts 68 = .ok (.iconst 1, 1) := by decide +kernel
theorem dX3_setVerdicts_69 : decode cX3_setVerdicts 69 = .ok (.putfield 52, 3) := by decide +kernel
theorem dX3_setVerdicts_72 : decode cX3_setVerdicts 72 = .ok (.return_, 1) := by decide +kernel
theorem dX3_playUnder_0 : decode cX3_playUnder 0 = .ok (.aload_n 2, 1) := by decide +kernel
theorem dX3_playUnder_1 : decode cX3_playUnder 1 = .ok (.invokevirtual 56, 3) := by decide +kernel
theorem dX3_playUnder_4 : decode cX3_playUnder 4 = .ok (.iconst 0, 1) := by decide +kernel
theorem dX3_playUnder_5 : decode cX3_playUnder 5 = .ok (.istore_n 3, 1) := by decide +kernel
theorem dX3_playUnder_6 : decode cX3_playUnder 6 = .ok (.iload_n 3, 1) := by decide +kernel
theorem dX3_playUnder_7 : decode cX3_playUnder 7 = .ok (.aload_n 0, 1) := by decide +kernel
theorem dX3_playUnder_8 : decode cX3_playUnder 8 = .ok (.getfield 33, 3) := by decide +kernel
theorem dX3_playUnder_11 : decode cX3_playUnder 11 = .ok (.if_icmp .ge 29, 3) := by decide +kernel
theorem dX3_playUnder_14 : decode cX3_playUnder 14 = .ok (.aload_n 2, 1) := by decide +kernel
theorem dX3_playUnder_15 : decode cX3_playUnder 15 = .ok (.aload_n 1, 1) := by decide +kernel
theorem dX3_playUnder_16 : decode cX3_playUnder 16 = .ok (.invokevirtual 61, 3) := by decide +kernel
theorem dX3_playUnder_19 : decode cX3_playUnder 19 = .ok (.ifCond .ne 21, 3) := by decide +kernel
theorem dX3_playUnder_22 : decode cX3_playUnder 22 = .ok (.aload_n 2, 1) := by decide +kernel
theorem dX3_playUnder_23 : decode cX3_playUnder 23 = .ok (.aload_n 1, 1) := by decide +kernel
theorem dX3_playUnder_24 : decode cX3_playUnder 24 = .ok (.aload_n 0, 1) := by decide +kernel
theorem dX3_playUnder_25 : decode cX3_playUnder 25 = .ok (.getfield 9, 3) := by decide +kernel
theorem dX3_playUnder_28 : decode cX3_playUnder 28 = .ok (.iload_n 3, 1) := by decide +kernel
theorem dX3_playUnder_29 : decode cX3_playUnder 29 = .ok (.iaload, 1) := by decide +kernel
theorem dX3_playUnder_30 : decode cX3_playUnder 30 = .ok (.invokevirtual 65, 3) := by decide +kernel
theorem dX3_playUnder_33 : decode cX3_playUnder 33 = .ok (.pop, 1) := by decide +kernel
theorem dX3_playUnder_34 : decode cX3_playUnder 34 = .ok (.iinc 3 1, 3) := by decide +kernel
theorem dX3_playUnder_37 : decode cX3_playUnder 37 = .ok (.goto (-31), 3) := by decide +kernel
theorem dX3_playUnder_40 : decode cX3_playUnder 40 = .ok (.return_, 1) := by decide +kernel
theorem dX3_playByHalves_0 : decode cX3_playByHalves 0 = .ok (.aload_n 3, 1) := by decide +kernel
theorem dX3_playByHalves_1 : decode cX3_playByHalves 1 = .ok (.invokevirtual 56, 3) := by decide +kernel
theorem dX3_playByHalves_4 : decode cX3_playByHalves 4 = .ok (.iconst 0, 1) := by decide +kernel
theorem dX3_playByHalves_5 : decode cX3_playByHalves 5 = .ok (.istore 4, 2) := by decide +kernel
theorem dX3_playByHalves_7 : decode cX3_playByHalves 7 = .ok (.iload 4, 2) := by decide +kernel
theorem dX3_playByHalves_9 : decode cX3_playByHalves 9 = .ok (.aload_n 0, 1) := by decide +kernel
theorem dX3_playByHalves_10 : decode cX3_playByHalves 10 = .ok (.getfield 33, 3) := by decide +kernel
theorem dX3_playByHalves_13 : decode cX3_playByHalves 13 = .ok (.if_icmp .ge 37, 3) := by decide +kernel
theorem dX3_playByHalves_16 : decode cX3_playByHalves 16 = .ok (.aload_n 3, 1) := by decide +kernel
theorem dX3_playByHalves_17 : decode cX3_playByHalves 17 = .ok (.iload 4, 2) := by decide +kernel
theorem dX3_playByHalves_19 : decode cX3_playByHalves 19 = .ok (.aload_n 0, 1) := by decide +kernel
theorem dX3_playByHalves_20 : decode cX3_playByHalves 20 = .ok (.getfield 33, 3) := by decide +kernel
theorem dX3_playByHalves_23 : decode cX3_playByHalves 23 = .ok (.iconst 2, 1) := by decide +kernel
theorem dX3_playByHalves_24 : decode cX3_playByHalves 24 = .ok (.idiv, 1) := by decide +kernel
theorem dX3_playByHalves_25 : decode cX3_playByHalves 25 = .ok (.if_icmp .ge 7, 3) := by decide +kernel
theorem dX3_playByHalves_28 : decode cX3_playByHalves 28 = .ok (.aload_n 1, 1) := by decide +kernel
theorem dX3_playByHalves_29 : decode cX3_playByHalves 29 = .ok (.goto 4, 3) := by decide +kernel
theorem dX3_playByHalves_32 : decode cX3_playByHalves 32 = .ok (.aload_n 2, 1) := by decide +kernel
theorem dX3_playByHalves_33 : decode cX3_playByHalves 33 = .ok (.aload_n 0, 1) := by decide +kernel
theorem dX3_playByHalves_34 : decode cX3_playByHalves 34 = .ok (.getfield 9, 3) := by decide +kernel
theorem dX3_playByHalves_37 : decode cX3_playByHalves 37 = .ok (.iload 4, 2) := by decide +kernel
theorem dX3_playByHalves_39 : decode cX3_playByHalves 39 = .ok (.iaload, 1) := by decide +kernel
theorem dX3_playByHalves_40 : decode cX3_playByHalves 40 = .ok (.invokevirtual 65, 3) := by decide +kernel
theorem dX3_playByHalves_43 : decode cX3_playByHalves 43 = .ok (.pop, 1) := by decide +kernel
theorem dX3_playByHalves_44 : decode cX3_playByHalves 44 = .ok (.iinc 4 1, 3) := by decide +kernel
theorem dX3_playByHalves_47 : decode cX3_playByHalves 47 = .ok (.goto (-40), 3) := by decide +kernel
theorem dX3_playByHalves_50 : decode cX3_playByHalves 50 = .ok (.return_, 1) := by decide +kernel
theorem dX3_wayOf_0 : decode cX3_wayOf 0 = .ok (.iconst 4, 1) := by decide +kernel
theorem dX3_wayOf_1 : decode cX3_wayOf 1 = .ok (.istore 4, 2) := by decide +kernel
theorem dX3_wayOf_3 : decode cX3_wayOf 3 = .ok (.aload_n 3, 1) := by decide +kernel
theorem dX3_wayOf_4 : decode cX3_wayOf 4 = .ok (.invokevirtual 56, 3) := by decide +kernel
theorem dX3_wayOf_7 : decode cX3_wayOf 7 = .ok (.iconst 0, 1) := by decide +kernel
theorem dX3_wayOf_8 : decode cX3_wayOf 8 = .ok (.istore 5, 2) := by decide +kernel
theorem dX3_wayOf_10 : decode cX3_wayOf 10 = .ok (.iload 5, 2) := by decide +kernel
theorem dX3_wayOf_12 : decode cX3_wayOf 12 = .ok (.iload_n 1, 1) := by decide +kernel
theorem dX3_wayOf_13 : decode cX3_wayOf 13 = .ok (.if_icmp .gt 42, 3) := by decide +kernel
theorem dX3_wayOf_16 : decode cX3_wayOf 16 = .ok (.iload 5, 2) := by decide +kernel
theorem dX3_wayOf_18 : decode cX3_wayOf 18 = .ok (.aload_n 0, 1) := by decide +kernel
theorem dX3_wayOf_19 : decode cX3_wayOf 19 = .ok (.getfield 33, 3) := by decide +kernel
theorem dX3_wayOf_22 : decode cX3_wayOf 22 = .ok (.if_icmp .ge 33, 3) := by decide +kernel
theorem dX3_wayOf_25 : decode cX3_wayOf 25 = .ok (.aload_n 3, 1) := by decide +kernel
theorem dX3_wayOf_26 : decode cX3_wayOf 26 = .ok (.aload_n 2, 1) := by decide +kernel
theorem dX3_wayOf_27 : decode cX3_wayOf 27 = .ok (.invokevirtual 61, 3) := by decide +kernel
theorem dX3_wayOf_30 : decode cX3_wayOf 30 = .ok (.ifCond .eq 5, 3) := by decide +kernel
theorem dX3_wayOf_33 : decode cX3_wayOf 33 = .ok (.iconst 4, 1) := by decide +kernel
theorem dX3_wayOf_34 : decode cX3_wayOf 34 = .ok (.ireturn, 1) := by decide +kernel
theorem dX3_wayOf_35 : decode cX3_wayOf 35 = .ok (.aload_n 3, 1) := by decide +kernel
theorem dX3_wayOf_36 : decode cX3_wayOf 36 = .ok (.aload_n 2, 1) := by decide +kernel
theorem dX3_wayOf_37 : decode cX3_wayOf 37 = .ok (.aload_n 0, 1) := by decide +kernel
theorem dX3_wayOf_38 : decode cX3_wayOf 38 = .ok (.getfield 9, 3) := by decide +kernel
theorem dX3_wayOf_41 : decode cX3_wayOf 41 = .ok (.iload 5, 2) := by decide +kernel
theorem dX3_wayOf_43 : decode cX3_wayOf 43 = .ok (.iaload, 1) := by decide +kernel
theorem dX3_wayOf_44 : decode cX3_wayOf 44 = .ok (.invokevirtual 65, 3) := by decide +kernel
theorem dX3_wayOf_47 : decode cX3_wayOf 47 = .ok (.istore 4, 2) := by decide +kernel
theorem dX3_wayOf_49 : decode cX3_wayOf 49 = .ok (.iinc 5 1, 3) := by decide +kernel
theorem dX3_wayOf_52 : decode cX3_wayOf 52 = .ok (.goto (-42), 3) := by decide +kernel
theorem dX3_wayOf_55 : decode cX3_wayOf 55 = .ok (.iload 4, 2) := by decide +kernel
theorem dX3_wayOf_57 : decode cX3_wayOf 57 = .ok (.ireturn, 1) := by decide +kernel
theorem dX3_agreesWith_0 : decode cX3_agreesWith 0 = .ok (.aload_n 2, 1) := by decide +kernel
theorem dX3_agreesWith_1 : decode cX3_agreesWith 1 = .ok (.invokevirtual 56, 3) := by decide +kernel
theorem dX3_agreesWith_4 : decode cX3_agreesWith 4 = .ok (.iconst 0, 1) := by decide +kernel
theorem dX3_agreesWith_5 : decode cX3_agreesWith 5 = .ok (.istore_n 3, 1) := by decide +kernel
theorem dX3_agreesWith_6 : decode cX3_agreesWith 6 = .ok (.iload_n 3, 1) := by decide +kernel
theorem dX3_agreesWith_7 : decode cX3_agreesWith 7 = .ok (.aload_n 0, 1) := by decide +kernel
theorem dX3_agreesWith_8 : decode cX3_agreesWith 8 = .ok (.getfield 33, 3) := by decide +kernel
theorem dX3_agreesWith_11 : decode cX3_agreesWith 11 = .ok (.if_icmp .ge 63, 3) := by decide +kernel
theorem dX3_agreesWith_14 : decode cX3_agreesWith 14 = .ok (.aload_n 2, 1) := by decide +kernel
theorem dX3_agreesWith_15 : decode cX3_agreesWith 15 = .ok (.aload_n 1, 1) := by decide +kernel
theorem dX3_agreesWith_16 : decode cX3_agreesWith 16 = .ok (.invokevirtual 61, 3) := by decide +kernel
theorem dX3_agreesWith_19 : decode cX3_agreesWith 19 = .ok (.ifCond .ne 55, 3) := by decide +kernel
theorem dX3_agreesWith_22 : decode cX3_agreesWith 22 = .ok (.aload_n 2, 1) := by decide +kernel
theorem dX3_agreesWith_23 : decode cX3_agreesWith 23 = .ok (.aload_n 1, 1) := by decide +kernel
theorem dX3_agreesWith_24 : decode cX3_agreesWith 24 = .ok (.aload_n 0, 1) := by decide +kernel
theorem dX3_agreesWith_25 : decode cX3_agreesWith 25 = .ok (.getfield 9, 3) := by decide +kernel
theorem dX3_agreesWith_28 : decode cX3_agreesWith 28 = .ok (.iload_n 3, 1) := by decide +kernel
theorem dX3_agreesWith_29 : decode cX3_agreesWith 29 = .ok (.iaload, 1) := by decide +kernel
theorem dX3_agreesWith_30 : decode cX3_agreesWith 30 = .ok (.invokevirtual 65, 3) := by decide +kernel
theorem dX3_agreesWith_33 : decode cX3_agreesWith 33 = .ok (.istore 4, 2) := by decide +kernel
theorem dX3_agreesWith_35 : decode cX3_agreesWith 35 = .ok (.iload 4, 2) := by decide +kernel
theorem dX3_agreesWith_37 : decode cX3_agreesWith 37 = .ok (.iconst 1, 1) := by decide +kernel
theorem dX3_agreesWith_38 : decode cX3_agreesWith 38 = .ok (.if_icmp .ne 12, 3) := by decide +kernel
theorem dX3_agreesWith_41 : decode cX3_agreesWith 41 = .ok (.aload_n 0, 1) := by decide +kernel
theorem dX3_agreesWith_42 : decode cX3_agreesWith 42 = .ok (.getfield 15, 3) := by decide +kernel
theorem dX3_agreesWith_45 : decode cX3_agreesWith 45 = .ok (.iload_n 3, 1) := by decide +kernel
theorem dX3_agreesWith_46 : decode cX3_agreesWith 46 = .ok (.iaload, 1) := by decide +kernel
theorem dX3_agreesWith_47 : decode cX3_agreesWith 47 = .ok (.ifCond .eq 19, 3) := by decide +kernel
theorem dX3_agreesWith_50 : decode cX3_agreesWith 50 = .ok (.iload 4, 2) := by decide +kernel
theorem dX3_agreesWith_52 : decode cX3_agreesWith 52 = .ok (.iconst 2, 1) := by decide +kernel
theorem dX3_agreesWith_53 : decode cX3_agreesWith 53 = .ok (.if_icmp .ne 15, 3) := by decide +kernel
theorem dX3_agreesWith_56 : decode cX3_agreesWith 56 = .ok (.aload_n 0, 1) := by decide +kernel
theorem dX3_agreesWith_57 : decode cX3_agreesWith 57 = .ok (.getfield 15, 3) := by decide +kernel
theorem dX3_agreesWith_60 : decode cX3_agreesWith 60 = .ok (.iload_n 3, 1) := by decide +kernel
theorem dX3_agreesWith_61 : decode cX3_agreesWith 61 = .ok (.iaload, 1) := by decide +kernel
theorem dX3_agreesWith_62 : decode cX3_agreesWith 62 = .ok (.iconst 1, 1) := by decide +kernel
theorem dX3_agreesWith_63 : decode cX3_agreesWith 63 = .ok (.if_icmp .ne 5, 3) := by decide +kernel
theorem dX3_agreesWith_66 : decode cX3_agreesWith 66 = .ok (.iconst 0, 1) := by decide +kernel
theorem dX3_agreesWith_67 : decode cX3_agreesWith 67 = .ok (.ireturn, 1) := by decide +kernel
theorem dX3_agreesWith_68 : decode cX3_agreesWith 68 = .ok (.iinc 3 1, 3) := by decide +kernel
theorem dX3_agreesWith_71 : decode cX3_agreesWith 71 = .ok (.goto (-65), 3) := by decide +kernel
theorem dX3_agreesWith_74 : decode cX3_agreesWith 74 = .ok (.iconst 1, 1) := by decide +kernel
theorem dX3_agreesWith_75 : decode cX3_agreesWith 75 = .ok (.ireturn, 1) := by decide +kernel
theorem dX3_customOf_0 : decode cX3_customOf 0 = .ok (.iconst 0, 1) := by decide +kernel
theorem dX3_customOf_1 : decode cX3_customOf 1 = .ok (.istore 4, 2) := by decide +kernel
theorem dX3_customOf_3 : decode cX3_customOf 3 = .ok (.aload_n 3, 1) := by decide +kernel
theorem dX3_customOf_4 : decode cX3_customOf 4 = .ok (.invokevirtual 56, 3) := by decide +kernel
theorem dX3_customOf_7 : decode cX3_customOf 7 = .ok (.iconst 0, 1) := by decide +kernel
theorem dX3_customOf_8 : decode cX3_customOf 8 = .ok (.istore 5, 2) := by decide +kernel
theorem dX3_customOf_10 : decode cX3_customOf 10 = .ok (.iload 5, 2) := by decide +kernel
theorem dX3_customOf_12 : decode cX3_customOf 12 = .ok (.aload_n 0, 1) := by decide +kernel
theorem dX3_customOf_13 : decode cX3_customOf 13 = .ok (.getfield 33, 3) := by decide +kernel
theorem dX3_customOf_16 : decode cX3_customOf 16 = .ok (.if_icmp .ge 157, 3) := by decide +kernel
theorem dX3_customOf_19 : decode cX3_customOf 19 = .ok (.aload_n 0, 1) := by decide +kernel
theorem dX3_customOf_20 : decode cX3_customOf 20 = .ok (.getfield 9, 3) := by decide +kernel
theorem dX3_customOf_23 : decode cX3_customOf 23 = .ok (.iload 5, 2) := by decide +kernel
theorem dX3_customOf_25 : decode cX3_customOf 25 = .ok (.iaload, 1) := by decide +kernel
theorem dX3_customOf_26 : decode cX3_customOf 26 = .ok (.invokestatic 69, 3) := by decide +kernel
theorem dX3_customOf_29 : decode cX3_customOf 29 = .ok (.ifCond .eq 144, 3) := by decide +kernel
theorem dX3_customOf_32 : decode cX3_customOf 32 = .ok (.aload_n 0, 1) := by decide +kernel
theorem dX3_customOf_33 : decode cX3_customOf 33 = .ok (.getfield 9, 3) := by decide +kernel
theorem dX3_customOf_36 : decode cX3_customOf 36 = .ok (.iload 5, 2) := by decide +kernel
theorem dX3_customOf_38 : decode cX3_customOf 38 = .ok (.iaload, 1) := by decide +kernel
theorem dX3_customOf_39 : decode cX3_customOf 39 = .ok (.invokestatic 72, 3) := by decide +kernel
theorem dX3_customOf_42 : decode cX3_customOf 42 = .ok (.istore 6, 2) := by decide +kernel
theorem dX3_customOf_44 : decode cX3_customOf 44 = .ok (.aload_n 0, 1) := by decide +kernel
theorem dX3_customOf_45 : decode cX3_customOf 45 = .ok (.getfield 9, 3) := by decide +kernel
theorem dX3_customOf_48 : decode cX3_customOf 48 = .ok (.iload 5, 2) := by decide +kernel
theorem dX3_customOf_50 : decode cX3_customOf 50 = .ok (.iaload, 1) := by decide +kernel
theorem dX3_customOf_51 : decode cX3_customOf 51 = .ok (.invokestatic 76, 3) := by decide +kernel
theorem dX3_customOf_54 : decode cX3_customOf 54 = .ok (.istore 7, 2) := by decide +kernel
theorem dX3_customOf_56 : decode cX3_customOf 56 = .ok (.aload_n 3, 1) := by decide +kernel
theorem dX3_customOf_57 : decode cX3_customOf 57 = .ok (.iload 6, 2) := by decide +kernel
theorem dX3_customOf_59 : decode cX3_customOf 59 = .ok (.iload 7, 2) := by decide +kernel
theorem dX3_customOf_61 : decode cX3_customOf 61 = .ok (.invokevirtual 79, 3) := by decide +kernel
theorem dX3_customOf_64 : decode cX3_customOf 64 = .ok (.ifCond .ne 6, 3) := by decide +kernel
theorem dX3_customOf_67 : decode cX3_customOf 67 = .ok (.goto 100, 3) := by decide +kernel
theorem dX3_customOf_70 : decode cX3_customOf 70 = .ok (.aload_n 0, 1) := by decide +kernel
theorem dX3_customOf_71 : decode cX3_customOf 71 = .ok (.getfield 15, 3) := by decide +kernel
theorem dX3_customOf_74 : decode cX3_customOf 74 = .ok (.iload 5, 2) := by decide +kernel
theorem dX3_customOf_76 : decode cX3_customOf 76 = .ok (.iaload, 1) := by decide +kernel
theorem dX3_customOf_77 : decode cX3_customOf 77 = .ok (.iconst (-1), 1) := by decide +kernel
theorem dX3_customOf_78 : decode cX3_customOf 78 = .ok (.if_icmp .ne 6, 3) := by decide +kernel
theorem dX3_customOf_81 : decode cX3_customOf 81 = .ok (.goto 92, 3) := by decide +kernel
theorem dX3_customOf_84 : decode cX3_customOf 84 = .ok (.aload_n 0, 1) := by decide +kernel
theorem dX3_customOf_85 : decode cX3_customOf 85 = .ok (.getfield 9, 3) := by decide +kernel
theorem dX3_customOf_88 : decode cX3_customOf 88 = .ok (.iload 5, 2) := by decide +kernel
theorem dX3_customOf_90 : decode cX3_customOf 90 = .ok (.iaload, 1) := by decide +kernel
theorem dX3_customOf_91 : decode cX3_customOf 91 = .ok (.bipush 20, 2) := by decide +kernel
theorem dX3_customOf_93 : decode cX3_customOf 93 = .ok (.if_icmp .ge 43, 3) := by decide +kernel
theorem dX3_customOf_96 : decode cX3_customOf 96 = .ok (.iload 7, 2) := by decide +kernel
theorem dX3_customOf_98 : decode cX3_customOf 98 = .ok (.iload_n 1, 1) := by decide +kernel
theorem dX3_customOf_99 : decode cX3_customOf 99 = .ok (.if_icmp .ne 37, 3) := by decide +kernel
theorem dX3_customOf_102 : decode cX3_customOf 102 = .ok (.iload 6, 2) := by decide +kernel
theorem dX3_customOf_104 : decode cX3_customOf 104 = .ok (.aload_n 3, 1) := by decide +kernel
theorem dX3_customOf_105 : decode cX3_customOf 105 = .ok (.getfield 83, 3) := by decide +kernel
theorem dX3_customOf_108 : decode cX3_customOf 108 = .ok (.invokestatic 86, 3) := by decide +kernel
theorem dX3_customOf_111 : decode cX3_customOf 111 = .ok (.iload_n 2, 1) := by decide +kernel
theorem dX3_customOf_112 : decode cX3_customOf 112 = .ok (.if_icmp .ne 24, 3) := by decide +kernel
theorem dX3_customOf_115 : decode cX3_customOf 115 = .ok (.iload 4, 2) := by decide +kernel
theorem dX3_customOf_117 : decode cX3_customOf 117 = .ok (.aload_n 0, 1) := by decide +kernel
theorem dX3_customOf_118 : decode cX3_customOf 118 = .ok (.getfield 15, 3) := by decide +kernel
theorem dX3_customOf_121 : decode cX3_customOf 121 = .ok (.iload 5, 2) := by decide +kernel
theorem dX3_customOf_123 : decode cX3_customOf 123 = .ok (.iaload, 1) := by decide +kernel
theorem dX3_customOf_124 : decode cX3_customOf 124 = .ok (.iconst 1, 1) := by decide +kernel
theorem dX3_customOf_125 : decode cX3_customOf 125 = .ok (.if_icmp .ne 7, 3) := by decide +kernel
theorem dX3_customOf_128 : decode cX3_customOf 128 = .ok (.iconst 1, 1) := by decide +kernel
theorem dX3_customOf_129 : decode cX3_customOf 129 = .ok (.goto 4, 3) := by decide +kernel
theorem dX3_customOf_132 : decode cX3_customOf 132 = .ok (.iconst 2, 1) := by decide +kernel
theorem dX3_customOf_133 : decode cX3_customOf 133 = .ok (.ior, 1) := by decide +kernel
theorem dX3_customOf_134 : decode cX3_customOf 134 = .ok (.istore 4, 2) := by decide +kernel
theorem dX3_customOf_136 : decode cX3_customOf 136 = .ok (.aload_n 0, 1) := by decide +kernel
theorem dX3_customOf_137 : decode cX3_customOf 137 = .ok (.getfield 15, 3) := by decide +kernel
theorem dX3_customOf_140 : decode cX3_customOf 140 = .ok (.iload 5, 2) := by decide +kernel
theorem dX3_customOf_142 : decode cX3_customOf 142 = .ok (.iaload, 1) := by decide +kernel
theorem dX3_customOf_143 : decode cX3_customOf 143 = .ok (.iconst 1, 1) := by decide +kernel
theorem dX3_customOf_144 : decode cX3_customOf 144 = .ok (.if_icmp .ne 17, 3) := by decide +kernel
theorem dX3_customOf_147 : decode cX3_customOf 147 = .ok (.aload_n 3, 1) := by decide +kernel
theorem dX3_customOf_148 : decode cX3_customOf 148 = .ok (.getstatic 89, 3) := by decide +kernel
theorem dX3_customOf_151 : decode cX3_customOf 151 = .ok (.iload 6, 2) := by decide +kernel
theorem dX3_customOf_153 : decode cX3_customOf 153 = .ok (.iload 7, 2) := by decide +kernel
theorem dX3_customOf_155 : decode cX3_customOf 155 = .ok (.invokevirtual 92, 3) := by decide +kernel
theorem dX3_customOf_158 : decode cX3_customOf 158 = .ok (.goto 9, 3) := by decide +kernel
theorem dX3_customOf_161 : decode cX3_customOf 161 = .ok (.aload_n 3, 1) := by decide +kernel
theorem dX3_customOf_162 : decode cX3_customOf 162 = .ok (.iload 6, 2) := by decide +kernel
theorem dX3_customOf_164 : decode cX3_customOf 164 = .ok (.invokevirtual 96, 3) := by decide +kernel
theorem dX3_customOf_167 : decode cX3_customOf 167 = .ok (.iinc 5 1, 3) := by decide +kernel
theorem dX3_customOf_170 : decode cX3_customOf 170 = .ok (.goto (-160), 3) := by decide +kernel
theorem dX3_customOf_173 : decode cX3_customOf 173 = .ok (.iload 4, 2) := by decide +kernel
theorem dX3_customOf_175 : decode cX3_customOf 175 = .ok (.ireturn, 1) := by decide +kernel
theorem dX4_init_0 : decode cX4_init 0 = .ok (.aload_n 0, 1) := by decide +kernel
theorem dX4_init_1 : decode cX4_init 1 = .ok (.invokespecial 3, 3) := by decide +kernel
theorem dX4_init_4 : decode cX4_init 4 = .ok (.return_, 1) := by decide +kernel
theorem dX4_begin_0 : decode cX4_begin 0 = .ok (.aload_n 0, 1) := by decide +kernel
theorem dX4_begin_1 : decode cX4_begin 1 = .ok (.iconst 3, 1) := by decide +kernel
theorem dX4_begin_2 : decode cX4_begin 2 = .ok (.putfield 9, 3) := by decide +kernel
theorem dX4_begin_5 : decode cX4_begin 5 = .ok (.aload_n 0, 1) := by decide +kernel
theorem dX4_begin_6 : decode cX4_begin 6 = .ok (.iconst 2, 1) := by decide +kernel
theorem dX4_begin_7 : decode cX4_begin 7 = .ok (.putfield 15, 3) := by decide +kernel
theorem dX4_begin_10 : decode cX4_begin 10 = .ok (.aload_n 0, 1) := by decide +kernel
theorem dX4_begin_11 : decode cX4_begin 11 = .ok (.iconst 0, 1) := by decide +kernel
theorem dX4_begin_12 : decode cX4_begin 12 = .ok (.putfield 18, 3) := by decide +kernel
theorem dX4_begin_15 : decode cX4_begin 15 = .ok (.aload_n 0, 1) := by decide +kernel
theorem dX4_begin_16 : decode cX4_begin 16 = .ok (.iconst 0, 1) := by decide +kernel
theorem dX4_begin_17 : decode cX4_begin 17 = .ok (.putfield 21, 3) := by decide +kernel
theorem dX4_begin_20 : decode cX4_begin 20 = .ok (.aload_n 0, 1) := by decide +kernel
theorem dX4_begin_21 : decode cX4_begin 21 = .ok (.iconst 0, 1) := by decide +kernel
theorem dX4_begin_22 : decode cX4_begin 22 = .ok (.putfield 24, 3) := by decide +kernel
theorem dX4_begin_25 : decode cX4_begin 25 = .ok (.aload_n 0, 1) := by decide +kernel
theorem dX4_begin_26 : decode cX4_begin 26 = .ok (.iconst 0, 1) := by decide +kernel
theorem dX4_begin_27 : decode cX4_begin 27 = .ok (.putfield 27, 3) := by decide +kernel
theorem dX4_begin_30 : decode cX4_begin 30 = .ok (.aload_n 0, 1) := by decide +kernel
theorem dX4_begin_31 : decode cX4_begin 31 = .ok (.iconst 0, 1) := by decide +kernel
theorem dX4_begin_32 : decode cX4_begin 32 = .ok (.putfield 30, 3) := by decide +kernel
theorem dX4_begin_35 : decode cX4_begin 35 = .ok (.aload_n 0, 1) := by decide +kernel
theorem dX4_begin_36 : decode cX4_begin 36 = .ok (.iconst 0, 1) := by decide +kernel
theorem dX4_begin_37 : decode cX4_begin 37 = .ok (.putfield 33, 3) := by decide +kernel
theorem dX4_begin_40 : decode cX4_begin 40 = .ok (.aload_n 0, 1) := by decide +kernel
theorem dX4_begin_41 : decode cX4_begin 41 = .ok (.iconst 0, 1) := by decide +kernel
theorem dX4_begin_42 : decode cX4_begin 42 = .ok (.putfield 36, 3) := by decide +kernel
theorem dX4_begin_45 : decode cX4_begin 45 = .ok (.aload_n 0, 1) := by decide +kernel
theorem dX4_begin_46 : decode cX4_begin 46 = .ok (.iconst 0, 1) := by decide +kernel
theorem dX4_begin_47 : decode cX4_begin 47 = .ok (.putfield 39, 3) := by decide +kernel
theorem dX4_begin_50 : decode cX4_begin 50 = .ok (.return_, 1) := by decide +kernel
theorem dX4_ball_0 : decode cX4_ball 0 = .ok (.aload_n 0, 1) := by decide +kernel
theorem dX4_ball_1 : decode cX4_ball 1 = .ok (.getfield 9, 3) := by decide +kernel
theorem dX4_ball_4 : decode cX4_ball 4 = .ok (.iconst 3, 1) := by decide +kernel
theorem dX4_ball_5 : decode cX4_ball 5 = .ok (.imul, 1) := by decide +kernel
theorem dX4_ball_6 : decode cX4_ball 6 = .ok (.aload_n 0, 1) := by decide +kernel
theorem dX4_ball_7 : decode cX4_ball 7 = .ok (.getfield 15, 3) := by decide +kernel
theorem dX4_ball_10 : decode cX4_ball 10 = .ok (.iadd, 1) := by decide +kernel
theorem dX4_ball_11 : decode cX4_ball 11 = .ok (.iconst 3, 1) := by decide +kernel
theorem dX4_ball_12 : decode cX4_ball 12 = .ok (.imul, 1) := by decide +kernel
theorem dX4_ball_13 : decode cX4_ball 13 = .ok (.aload_n 0, 1) := by decide +kernel
theorem dX4_ball_14 : decode cX4_ball 14 = .ok (.getfield 18, 3) := by decide +kernel
theorem dX4_ball_17 : decode cX4_ball 17 = .ok (.iadd, 1) := by decide +kernel
theorem dX4_ball_18 : decode cX4_ball 18 = .ok (.ireturn, 1) := by decide +kernel
theorem dX4_setBall_0 : decode cX4_setBall 0 = .ok (.aload_n 0, 1) := by decide +kernel
theorem dX4_setBall_1 : decode cX4_setBall 1 = .ok (.iload_n 1, 1) := by decide +kernel
theorem dX4_setBall_2 : decode cX4_setBall 2 = .ok (.bipush 9, 2) := by decide +kernel
theorem dX4_setBall_4 : decode cX4_setBall 4 = .ok (.idiv, 1) := by decide +kernel
theorem dX4_setBall_5 : decode cX4_setBall 5 = .ok (.putfield 9, 3) := by decide +kernel
theorem dX4_setBall_8 : decode cX4_setBall 8 = .ok (.aload_n 0, 1) := by decide +kernel
theorem dX4_setBall_9 : decode cX4_setBall 9 = .ok (.iload_n 1, 1) := by decide +kernel
theorem dX4_setBall_10 : decode cX4_setBall 10 = .ok (.iconst 3, 1) := by decide +kernel
theorem dX4_setBall_11 : decode cX4_setBall 11 = .ok (.idiv, 1) := by decide +kernel
theorem dX4_setBall_12 : decode cX4_setBall 12 = .ok (.iconst 3, 1) := by decide +kernel
theorem dX4_setBall_13 : decode cX4_setBall 13 = .ok (.irem, 1) := by decide +kernel
theorem dX4_setBall_14 : decode cX4_setBall 14 = .ok (.putfield 15, 3) := by decide +kernel
theorem dX4_setBall_17 : decode cX4_setBall 17 = .ok (.aload_n 0, 1) := by decide +kernel
theorem dX4_setBall_18 : decode cX4_setBall 18 = .ok (.iload_n 1, 1) := by decide +kernel
theorem dX4_setBall_19 : decode cX4_setBall 19 = .ok (.iconst 3, 1) := by decide +kernel
theorem dX4_setBall_20 : decode cX4_setBall 20 = .ok (.irem, 1) := by decide +kernel
theorem dX4_setBall_21 : decode cX4_setBall 21 = .ok (.putfield 18, 3) := by decide +kernel
theorem dX4_setBall_24 : decode cX4_setBall 24 = .ok (.return_, 1) := by decide +kernel
theorem dX4_isEnded_0 : decode cX4_isEnded 0 = .ok (.aload_n 1, 1) := by decide +kernel
theorem dX4_isEnded_1 : decode cX4_isEnded 1 = .ok (.bipush 15, 2) := by decide +kernel
theorem dX4_isEnded_3 : decode cX4_isEnded 3 = .ok (.iaload, 1) := by decide +kernel
theorem dX4_isEnded_4 : decode cX4_isEnded 4 = .ok (.istore_n 2, 1) := by decide +kernel
theorem dX4_isEnded_5 : decode cX4_isEnded 5 = .ok (.aload_n 0, 1) := by decide +kernel
theorem dX4_isEnded_6 : decode cX4_isEnded 6 = .ok (.getfield 39, 3) := by decide +kernel
theorem dX4_isEnded_9 : decode cX4_isEnded 9 = .ok (.aload_n 1, 1) := by decide +kernel
theorem dX4_isEnded_10 : decode cX4_isEnded 10 = .ok (.bipush 16, 2) := by decide +kernel
theorem dX4_isEnded_12 : decode cX4_isEnded 12 = .ok (.iaload, 1) := by decide +kernel
theorem dX4_isEnded_13 : decode cX4_isEnded 13 = .ok (.if_icmp .ge 23, 3) := by decide +kernel
theorem dX4_isEnded_16 : decode cX4_isEnded 16 = .ok (.iload_n 2, 1) := by decide +kernel
theorem dX4_isEnded_17 : decode cX4_isEnded 17 = .ok (.ifCond .le 23, 3) := by decide +kernel
theorem dX4_isEnded_20 : decode cX4_isEnded 20 = .ok (.aload_n 0, 1) := by decide +kernel
theorem dX4_isEnded_21 : decode cX4_isEnded 21 = .ok (.getfield 24, 3) := by decide +kernel
theorem dX4_isEnded_24 : decode cX4_isEnded 24 = .ok (.iload_n 2, 1) := by decide +kernel
theorem dX4_isEnded_25 : decode cX4_isEnded 25 = .ok (.if_icmp .ge 11, 3) := by decide +kernel
theorem dX4_isEnded_28 : decode cX4_isEnded 28 = .ok (.aload_n 0, 1) := by decide +kernel
theorem dX4_isEnded_29 : decode cX4_isEnded 29 = .ok (.getfield 27, 3) := by decide +kernel
theorem dX4_isEnded_32 : decode cX4_isEnded 32 = .ok (.iload_n 2, 1) := by decide +kernel
theorem dX4_isEnded_33 : decode cX4_isEnded 33 = .ok (.if_icmp .lt 7, 3) := by decide +kernel
theorem dX4_isEnded_36 : decode cX4_isEnded 36 = .ok (.iconst 1, 1) := by decide +kernel
theorem dX4_isEnded_37 : decode cX4_isEnded 37 = .ok (.goto 4, 3) := by decide +kernel
theorem dX4_isEnded_40 : decode cX4_isEnded 40 = .ok (.iconst 0, 1) := by decide +kernel
theorem dX4_isEnded_41 : decode cX4_isEnded 41 = .ok (.ireturn, 1) := by decide +kernel
theorem dX4_step_0 : decode cX4_step 0 = .ok (.aload_n 0, 1) := by decide +kernel
theorem dX4_step_1 : decode cX4_step 1 = .ok (.dup, 1) := by decide +kernel
theorem dX4_step_2 : decode cX4_step 2 = .ok (.getfield 39, 3) := by decide +kernel
theorem dX4_step_5 : decode cX4_step 5 = .ok (.iconst 1, 1) := by decide +kernel
theorem dX4_step_6 : decode cX4_step 6 = .ok (.iadd, 1) := by decide +kernel
theorem dX4_step_7 : decode cX4_step 7 = .ok (.putfield 39, 3) := by decide +kernel
theorem dX4_step_10 : decode cX4_step 10 = .ok (.aload_n 0, 1) := by decide +kernel
theorem dX4_step_11 : decode cX4_step 11 = .ok (.iconst 0, 1) := by decide +kernel
theorem dX4_step_12 : decode cX4_step 12 = .ok (.putfield 21, 3) := by decide +kernel
theorem dX4_step_15 : decode cX4_step 15 = .ok (.iload_n 2, 1) := by decide +kernel
theorem dX4_step_16 : decode cX4_step 16 = .ok (.invokestatic 42, 3) := by decide +kernel
theorem dX4_step_19 : decode cX4_step 19 = .ok (.ifCond .ne 5, 3) := by decide +kernel
theorem dX4_step_22 : decode cX4_step 22 = .ok (.iconst 3, 1) := by decide +kernel
theorem dX4_step_23 : decode cX4_step 23 = .ok (.ireturn, 1) := by decide +kernel
theorem dX4_step_24 : decode cX4_step 24 = .ok (.iload_n 2, 1) := by decide +kernel
theorem dX4_step_25 : decode cX4_step 25 = .ok (.invokestatic 46, 3) := by decide +kernel
theorem dX4_step_28 : decode cX4_step 28 = .ok (.istore_n 3, 1) := by decide +kernel
theorem dX4_step_29 : decode cX4_step 29 = .ok (.iload_n 2, 1) := by decide +kernel
theorem dX4_step_30 : decode cX4_step 30 = .ok (.invokestatic 50, 3) := by decide +kernel
theorem dX4_step_33 : decode cX4_step 33 = .ok (.istore 4, 2) := by decide +kernel
theorem dX4_step_35 : decode cX4_step 35 = .ok (.aload_n 0, 1) := by decide +kernel
theorem dX4_step_36 : decode cX4_step 36 = .ok (.iload_n 3, 1) := by decide +kernel
theorem dX4_step_37 : decode cX4_step 37 = .ok (.iload 4, 2) := by decide +kernel
theorem dX4_step_39 : decode cX4_step 39 = .ok (.invokevirtual 53, 3) := by decide +kernel
theorem dX4_step_42 : decode cX4_step 42 = .ok (.ifCond .ne 5, 3) := by decide +kernel
theorem dX4_step_45 : decode cX4_step 45 = .ok (.iconst 0, 1) := by decide +kernel
theorem dX4_step_46 : decode cX4_step 46 = .ok (.ireturn, 1) := by decide +kernel
theorem dX4_step_47 : decode cX4_step 47 = .ok (.aload_n 0, 1) := by decide +kernel
theorem dX4_step_48 : decode cX4_step 48 = .ok (.aload_n 1, 1) := by decide +kernel
theorem dX4_step_49 : decode cX4_step 49 = .ok (.iload_n 2, 1) := by decide +kernel
theorem dX4_step_50 : decode cX4_step 50 = .ok (.invokevirtual 57, 3) := by decide +kernel
theorem dX4_step_53 : decode cX4_step 53 = .ok (.ifCond .eq 13, 3) := by decide +kernel
theorem dX4_step_56 : decode cX4_step 56 = .ok (.aload_n 0, 1) := by decide +kernel
theorem dX4_step_57 : decode cX4_step 57 = .ok (.aload_n 1, 1) := by decide +kernel
theorem dX4_step_58 : decode cX4_step 58 = .ok (.iload_n 3, 1) := by decide +kernel
theorem dX4_step_59 : decode cX4_step 59 = .ok (.iload 4, 2) := by decide +kernel
theorem dX4_step_61 : decode cX4_step 61 = .ok (.invokevirtual 61, 3) := by decide +kernel
theorem dX4_step_64 : decode cX4_step 64 = .ok (.iconst 1, 1) := by decide +kernel
theorem dX4_step_65 : decode cX4_step 65 = .ok (.ireturn, 1) := by decide +kernel
theorem dX4_step_66 : decode cX4_step 66 = .ok (.aload_n 0, 1) := by decide +kernel
theorem dX4_step_67 : decode cX4_step 67 = .ok (.iload_n 3, 1) := by decide +kernel
theorem dX4_step_68 : decode cX4_step 68 = .ok (.invokevirtual 65, 3) := by decide +kernel
theorem dX4_step_71 : decode cX4_step 71 = .ok (.iconst 2, 1) := by decide +kernel
theorem dX4_step_72 : decode cX4_step 72 = .ok (.ireturn, 1) := by decide +kernel
theorem dX4_canBe_0 : decode cX4_canBe 0 = .ok (.aload_n 0, 1) := by decide +kernel
theorem dX4_canBe_1 : decode cX4_canBe 1 = .ok (.getfield 15, 3) := by decide +kernel
theorem dX4_canBe_4 : decode cX4_canBe 4 = .ok (.iload_n 1, 1) := by decide +kernel
theorem dX4_canBe_5 : decode cX4_canBe 5 = .ok (.if_icmp .ne 7, 3) := by decide +kernel
theorem dX4_canBe_8 : decode cX4_canBe 8 = .ok (.iconst 1, 1) := by decide +kernel
theorem dX4_canBe_9 : decode cX4_canBe 9 = .ok (.goto 4, 3) := by decide +kernel
theorem dX4_canBe_12 : decode cX4_canBe 12 = .ok (.iconst 0, 1) := by decide +kernel
theorem dX4_canBe_13 : decode cX4_canBe 13 = .ok (.istore_n 3, 1) := by decide +kernel
theorem dX4_canBe_14 : decode cX4_canBe 14 = .ok (.iload_n 1, 1) := by decide +kernel
theorem dX4_canBe_15 : decode cX4_canBe 15 = .ok (.aload_n 0, 1) := by decide +kernel
theorem dX4_canBe_16 : decode cX4_canBe 16 = .ok (.getfield 9, 3) := by decide +kernel
theorem dX4_canBe_19 : decode cX4_canBe 19 = .ok (.invokestatic 69, 3) := by decide +kernel
theorem dX4_canBe_22 : decode cX4_canBe 22 = .ok (.istore 4, 2) := by decide +kernel
theorem dX4_canBe_24 : decode cX4_canBe 24 = .ok (.iload_n 2, 1) := by decide +kernel
theorem dX4_canBe_25 : decode cX4_canBe 25 = .ok (.tableswitch 194 0 9 #[55, 72, 55, 90, 104, 121, 121, 139, 155, 171], 55) := by decide +kernel
theorem dX4_canBe_80 : decode cX4_canBe 80 = .ok (.iload_n 3, 1) := by decide +kernel
theorem dX4_canBe_81 : decode cX4_canBe 81 = .ok (.ifCond .eq 14, 3) := by decide +kernel
theorem dX4_canBe_84 : decode cX4_canBe 84 = .ok (.aload_n 0, 1) := by decide +kernel
theorem dX4_canBe_85 : decode cX4_canBe 85 = .ok (.getfield 18, 3) := by decide +kernel
theorem dX4_canBe_88 : decode cX4_canBe 88 = .ok (.ifCond .ne 7, 3) := by decide +kernel
theorem dX4_canBe_91 : decode cX4_canBe 91 = .ok (.iconst 1, 1) := by decide +kernel
theorem dX4_canBe_92 : decode cX4_canBe 92 = .ok (.goto 4, 3) := by decide +kernel
theorem dX4_canBe_95 : decode cX4_canBe 95 = .ok (.iconst 0, 1) := by decide +kernel
theorem dX4_canBe_96 : decode cX4_canBe 96 = .ok (.ireturn, 1) := by decide +kernel
theorem dX4_canBe_97 : decode cX4_canBe 97 = .ok (.iload_n 3, 1) := by decide +kernel
theorem dX4_canBe_98 : decode cX4_canBe 98 = .ok (.ifCond .ne 15, 3) := by decide +kernel
theorem dX4_canBe_101 : decode cX4_canBe 101 = .ok (.aload_n 0, 1) := by decide +kernel
theorem dX4_canBe_102 : decode cX4_canBe 102 = .ok (.getfield 18, 3) := by decide +kernel
theorem dX4_canBe_105 : decode cX4_canBe 105 = .ok (.iconst 1, 1) := by decide +kernel
theorem dX4_canBe_106 : decode cX4_canBe 106 = .ok (.if_icmp .eq 7, 3) := by decide +kernel
theorem dX4_canBe_109 : decode cX4_canBe 109 = .ok (.iconst 1, 1) := by decide +kernel
theorem dX4_canBe_110 : decode cX4_canBe 110 = .ok (.goto 4, 3) := by decide +kernel
theorem dX4_canBe_113 : decode cX4_canBe 113 = .ok (.iconst 0, 1) := by decide +kernel
theorem dX4_canBe_114 : decode cX4_canBe 114 = .ok (.ireturn, 1) := by decide +kernel
theorem dX4_canBe_115 : decode cX4_canBe 115 = .ok (.aload_n 0, 1) := by decide +kernel
theorem dX4_canBe_116 : decode cX4_canBe 116 = .ok (.getfield 18, 3) := by decide +kernel
theorem dX4_canBe_119 : decode cX4_canBe 119 = .ok (.iconst 2, 1) := by decide +kernel
theorem dX4_canBe_120 : decode cX4_canBe 120 = .ok (.if_icmp .ne 7, 3) := by decide +kernel
theorem dX4_canBe_123 : decode cX4_canBe 123 = .ok (.iconst 1, 1) := by decide +kernel
theorem dX4_canBe_124 : decode cX4_canBe 124 = .ok (.goto 4, 3) := by decide +kernel
theorem dX4_canBe_127 : decode cX4_canBe 127 = .ok (.iconst 0, 1) := by decide +kernel
theorem dX4_canBe_128 : decode cX4_canBe 128 = .ok (.ireturn, 1) := by decide +kernel
theorem dX4_canBe_129 : decode cX4_canBe 129 = .ok (.iload_n 3, 1) := by decide +kernel
theorem dX4_canBe_130 : decode cX4_canBe 130 = .ok (.ifCond .eq 14, 3) := by decide +kernel
theorem dX4_canBe_133 : decode cX4_canBe 133 = .ok (.iload 4, 2) := by decide +kernel
theorem dX4_canBe_135 : decode cX4_canBe 135 = .ok (.bipush 6, 2) := by decide +kernel
theorem dX4_canBe_137 : decode cX4_canBe 137 = .ok (.if_icmp .ge 7, 3) := by decide +kernel
theorem dX4_canBe_140 : decode cX4_canBe 140 = .ok (.iconst 1, 1) := by decide +kernel
theorem dX4_canBe_141 : decode cX4_canBe 141 = .ok (.goto 4, 3) := by decide +kernel
theorem dX4_canBe_144 : decode cX4_canBe 144 = .ok (.iconst 0, 1) := by decide +kernel
theorem dX4_canBe_145 : decode cX4_canBe 145 = .ok (.ireturn, 1) := by decide +kernel
theorem dX4_canBe_146 : decode cX4_canBe 146 = .ok (.iload_n 3, 1) := by decide +kernel
theorem dX4_canBe_147 : decode cX4_canBe 147 = .ok (.ifCond .eq 15, 3) := by decide +kernel
theorem dX4_canBe_150 : decode cX4_canBe 150 = .ok (.aload_n 0, 1) := by decide +kernel
theorem dX4_canBe_151 : decode cX4_canBe 151 = .ok (.getfield 18, 3) := by decide +kernel
theorem dX4_canBe_154 : decode cX4_canBe 154 = .ok (.iconst 1, 1) := by decide +kernel
theorem dX4_canBe_155 : decode cX4_canBe 155 = .ok (.if_icmp .ne 7, 3) := by decide +kernel
theorem dX4_canBe_158 : decode cX4_canBe 158 = .ok (.iconst 1, 1) := by decide +kernel
theorem dX4_canBe_159 : decode cX4_canBe 159 = .ok (.goto 4, 3) := by decide +kernel
theorem dX4_canBe_162 : decode cX4_canBe 162 = .ok (.iconst 0, 1) := by decide +kernel
theorem dX4_canBe_163 : decode cX4_canBe 163 = .ok (.ireturn, 1) := by decide +kernel
theorem dX4_canBe_164 : decode cX4_canBe 164 = .ok (.aload_n 0, 1) := by decide +kernel
theorem dX4_canBe_165 : decode cX4_canBe 165 = .ok (.getfield 15, 3) := by decide +kernel
theorem dX4_canBe_168 : decode cX4_canBe 168 = .ok (.iconst 1, 1) := by decide +kernel
theorem dX4_canBe_169 : decode cX4_canBe 169 = .ok (.iload_n 1, 1) := by decide +kernel
theorem dX4_canBe_170 : decode cX4_canBe 170 = .ok (.isub, 1) := by decide +kernel
theorem dX4_canBe_171 : decode cX4_canBe 171 = .ok (.if_icmp .ne 7, 3) := by decide +kernel
theorem dX4_canBe_174 : decode cX4_canBe 174 = .ok (.iconst 1, 1) := by decide +kernel
theorem dX4_canBe_175 : decode cX4_canBe 175 = .ok (.goto 4, 3) := by decide +kernel
theorem dX4_canBe_178 : decode cX4_canBe 178 = .ok (.iconst 0, 1) := by decide +kernel
theorem dX4_canBe_179 : decode cX4_canBe 179 = .ok (.ireturn, 1) := by decide +kernel
theorem dX4_canBe_180 : decode cX4_canBe 180 = .ok (.iload_n 3, 1) := by decide +kernel
theorem dX4_canBe_181 : decode cX4_canBe 181 = .ok (.ifCond .eq 13, 3) := by decide +kernel
theorem dX4_canBe_184 : decode cX4_canBe 184 = .ok (.iload 4, 2) := by decide +kernel
theorem dX4_canBe_186 : decode cX4_canBe 186 = .ok (.iconst 4, 1) := by decide +kernel
theorem dX4_canBe_187 : decode cX4_canBe 187 = .ok (.if_icmp .lt 7, 3) := by decide +kernel
theorem dX4_canBe_190 : decode cX4_canBe 190 = .ok (.iconst 1, 1) := by decide +kernel
theorem dX4_canBe_191 : decode cX4_canBe 191 = .ok (.goto 4, 3) := by decide +kernel
theorem dX4_canBe_194 : decode cX4_canBe 194 = .ok (.iconst 0, 1) := by decide +kernel
theorem dX4_canBe_195 : decode cX4_canBe 195 = .ok (.ireturn, 1) := by decide +kernel
theorem dX4_canBe_196 : decode cX4_canBe 196 = .ok (.iload_n 3, 1) := by decide +kernel
theorem dX4_canBe_197 : decode cX4_canBe 197 = .ok (.ifCond .eq 20, 3) := by decide +kernel
theorem dX4_canBe_200 : decode cX4_canBe 200 = .ok (.aload_n 0, 1) := by decide +kernel
theorem dX4_canBe_201 : decode cX4_canBe 201 = .ok (.getfield 18, 3) := by decide +kernel
theorem dX4_canBe_204 : decode cX4_canBe 204 = .ok (.ifCond .ne 13, 3) := by decide +kernel
theorem dX4_canBe_207 : decode cX4_canBe 207 = .ok (.iload 4, 2) := by decide +kernel
theorem dX4_canBe_209 : decode cX4_canBe 209 = .ok (.iconst 5, 1) := by decide +kernel
theorem dX4_canBe_210 : decode cX4_canBe 210 = .ok (.if_icmp .lt 7, 3) := by decide +kernel
theorem dX4_canBe_213 : decode cX4_canBe 213 = .ok (.iconst 1, 1) := by decide +kernel
theorem dX4_canBe_214 : decode cX4_canBe 214 = .ok (.goto 4, 3) := by decide +kernel
theorem dX4_canBe_217 : decode cX4_canBe 217 = .ok (.iconst 0, 1) := by decide +kernel
theorem dX4_canBe_218 : decode cX4_canBe 218 = .ok (.ireturn, 1) := by decide +kernel
theorem dX4_canBe_219 : decode cX4_canBe 219 = .ok (.iconst 0, 1) := by decide +kernel
theorem dX4_canBe_220 : decode cX4_canBe 220 = .ok (.ireturn, 1) := by decide +kernel
theorem dX4_isLet_0 : decode cX4_isLet 0 = .ok (.iload_n 2, 1) := by decide +kernel
theorem dX4_isLet_1 : decode cX4_isLet 1 = .ok (.invokestatic 50, 3) := by decide +kernel
theorem dX4_isLet_4 : decode cX4_isLet 4 = .ok (.istore_n 3, 1) := by decide +kernel
theorem dX4_isLet_5 : decode cX4_isLet 5 = .ok (.iload_n 2, 1) := by decide +kernel
theorem dX4_isLet_6 : decode cX4_isLet 6 = .ok (.bipush 20, 2) := by decide +kernel
theorem dX4_isLet_8 : decode cX4_isLet 8 = .ok (.if_icmp .lt 33, 3) := by decide +kernel
theorem dX4_isLet_11 : decode cX4_isLet 11 = .ok (.aload_n 1, 1) := by decide +kernel
theorem dX4_isLet_12 : decode cX4_isLet 12 = .ok (.bipush 13, 2) := by decide +kernel
theorem dX4_isLet_14 : decode cX4_isLet 14 = .ok (.iaload, 1) := by decide +kernel
theorem dX4_isLet_15 : decode cX4_isLet 15 = .ok (.istore 4, 2) := by decide +kernel
theorem dX4_isLet_17 : decode cX4_isLet 17 = .ok (.iload 4, 2) := by decide +kernel
theorem dX4_isLet_19 : decode cX4_isLet 19 = .ok (.iconst 2, 1) := by decide +kernel
theorem dX4_isLet_20 : decode cX4_isLet 20 = .ok (.if_icmp .eq 19, 3) := by decide +kernel
theorem dX4_isLet_23 : decode cX4_isLet 23 = .ok (.iload 4, 2) := by decide +kernel
theorem dX4_isLet_25 : decode cX4_isLet 25 = .ok (.iconst 1, 1) := by decide +kernel
theorem dX4_isLet_26 : decode cX4_isLet 26 = .ok (.if_icmp .ne 15, 3) := by decide +kernel
theorem dX4_isLet_29 : decode cX4_isLet 29 = .ok (.iload_n 3, 1) := by decide +kernel
theorem dX4_isLet_30 : decode cX4_isLet 30 = .ok (.iconst 1, 1) := by decide +kernel
theorem dX4_isLet_31 : decode cX4_isLet 31 = .ok (.if_icmp .eq 8, 3) := by decide +kernel
theorem dX4_isLet_34 : decode cX4_isLet 34 = .ok (.iload_n 3, 1) := by decide +kernel
theorem dX4_isLet_35 : decode cX4_isLet 35 = .ok (.iconst 3, 1) := by decide +kernel
theorem dX4_isLet_36 : decode cX4_isLet 36 = .ok (.if_icmp .ne 5, 3) := by decide +kernel
theorem dX4_isLet_39 : decode cX4_isLet 39 = .ok (.iconst 0, 1) := by decide +kernel
theorem dX4_isLet_40 : decode cX4_isLet 40 = .ok (.ireturn, 1) := by decide +kernel
theorem dX4_isLet_41 : decode cX4_isLet 41 = .ok (.aload_n 1, 1) := by decide +kernel
theorem dX4_isLet_42 : decode cX4_isLet 42 = .ok (.iload_n 3, 1) := by decide +kernel
theorem dX4_isLet_43 : decode cX4_isLet 43 = .ok (.iaload, 1) := by decide +kernel
theorem dX4_isLet_44 : decode cX4_isLet 44 = .ok (.iload_n 2, 1) := by decide +kernel
theorem dX4_isLet_45 : decode cX4_isLet 45 = .ok (.invokestatic 46, 3) := by decide +kernel
theorem dX4_isLet_48 : decode cX4_isLet 48 = .ok (.aload_n 0, 1) := by decide +kernel
theorem dX4_isLet_49 : decode cX4_isLet 49 = .ok (.getfield 9, 3) := by decide +kernel
theorem dX4_isLet_52 : decode cX4_isLet 52 = .ok (.invokestatic 69, 3) := by decide +kernel
theorem dX4_isLet_55 : decode cX4_isLet 55 = .ok (.ishr, 1) := by decide +kernel
theorem dX4_isLet_56 : decode cX4_isLet 56 = .ok (.iconst 1, 1) := by decide +kernel
theorem dX4_isLet_57 : decode cX4_isLet 57 = .ok (.iand, 1) := by decide +kernel
theorem dX4_isLet_58 : decode cX4_isLet 58 = .ok (.iconst 1, 1) := by decide +kernel
theorem dX4_isLet_59 : decode cX4_isLet 59 = .ok (.if_icmp .ne 7, 3) := by decide +kernel
theorem dX4_isLet_62 : decode cX4_isLet 62 = .ok (.iconst 1, 1) := by decide +kernel
theorem dX4_isLet_63 : decode cX4_isLet 63 = .ok (.goto 4, 3) := by decide +kernel
theorem dX4_isLet_66 : decode cX4_isLet 66 = .ok (.iconst 0, 1) := by decide +kernel
theorem dX4_isLet_67 : decode cX4_isLet 67 = .ok (.ireturn, 1) := by decide +kernel
theorem dX4_stop_0 : decode cX4_stop 0 = .ok (.aload_n 0, 1) := by decide +kernel
theorem dX4_stop_1 : decode cX4_stop 1 = .ok (.dup, 1) := by decide +kernel
theorem dX4_stop_2 : decode cX4_stop 2 = .ok (.getfield 33, 3) := by decide +kernel
theorem dX4_stop_5 : decode cX4_stop 5 = .ok (.iconst 1, 1) := by decide +kernel
theorem dX4_stop_6 : decode cX4_stop 6 = .ok (.iadd, 1) := by decide +kernel
theorem dX4_stop_7 : decode cX4_stop 7 = .ok (.putfield 33, 3) := by decide +kernel
theorem dX4_stop_10 : decode cX4_stop 10 = .ok (.aload_n 0, 1) := by decide +kernel
theorem dX4_stop_11 : decode cX4_stop 11 = .ok (.iconst 1, 1) := by decide +kernel
theorem dX4_stop_12 : decode cX4_stop 12 = .ok (.iload_n 1, 1) := by decide +kernel
theorem dX4_stop_13 : decode cX4_stop 13 = .ok (.isub, 1) := by decide +kernel
theorem dX4_stop_14 : decode cX4_stop 14 = .ok (.putfield 15, 3) := by decide +kernel
theorem dX4_stop_17 : decode cX4_stop 17 = .ok (.aload_n 0, 1) := by decide +kernel
theorem dX4_stop_18 : decode cX4_stop 18 = .ok (.iconst 0, 1) := by decide +kernel
theorem dX4_stop_19 : decode cX4_stop 19 = .ok (.putfield 18, 3) := by decide +kernel
theorem dX4_stop_22 : decode cX4_stop 22 = .ok (.return_, 1) := by decide +kernel
theorem dX4_goOn_0 : decode cX4_goOn 0 = .ok (.iload_n 2, 1) := by decide +kernel
theorem dX4_goOn_1 : decode cX4_goOn 1 = .ok (.aload_n 0, 1) := by decide +kernel
theorem dX4_goOn_2 : decode cX4_goOn 2 = .ok (.getfield 9, 3) := by decide +kernel
theorem dX4_goOn_5 : decode cX4_goOn 5 = .ok (.invokestatic 69, 3) := by decide +kernel
theorem dX4_goOn_8 : decode cX4_goOn 8 = .ok (.istore 4, 2) := by decide +kernel
theorem dX4_goOn_10 : decode cX4_goOn 10 = .ok (.aload_n 0, 1) := by decide +kernel
theorem dX4_goOn_11 : decode cX4_goOn 11 = .ok (.dup, 1) := by decide +kernel
theorem dX4_goOn_12 : decode cX4_goOn 12 = .ok (.getfield 30, 3) := by decide +kernel
theorem dX4_goOn_15 : decode cX4_goOn 15 = .ok (.iconst 1, 1) := by decide +kernel
theorem dX4_goOn_16 : decode cX4_goOn 16 = .ok (.iadd, 1) := by decide +kernel
theorem dX4_goOn_17 : decode cX4_goOn 17 = .ok (.putfield 30, 3) := by decide +kernel
theorem dX4_goOn_20 : decode cX4_goOn 20 = .ok (.iload_n 3, 1) := by decide +kernel
theorem dX4_goOn_21 : decode cX4_goOn 21 = .ok (.tableswitch 191 0 7 #[47, 69, 82, 82, 95, 147, 47, 168], 47) := by decide +kernel
theorem dX4_goOn_68 : decode cX4_goOn 68 = .ok (.aload_n 0, 1) := by decide +kernel
theorem dX4_goOn_69 : decode cX4_goOn 69 = .ok (.iload_n 2, 1) := by decide +kernel
theorem dX4_goOn_70 : decode cX4_goOn 70 = .ok (.bipush 6, 2) := by decide +kernel
theorem dX4_goOn_72 : decode cX4_goOn 72 = .ok (.iload 4, 2) := by decide +kernel
theorem dX4_goOn_74 : decode cX4_goOn 74 = .ok (.iconst 2, 1) := by decide +kernel
theorem dX4_goOn_75 : decode cX4_goOn 75 = .ok (.iadd, 1) := by decide +kernel
theorem dX4_goOn_76 : decode cX4_goOn 76 = .ok (.invokestatic 73, 3) := by decide +kernel
theorem dX4_goOn_79 : decode cX4_goOn 79 = .ok (.invokestatic 69, 3) := by decide +kernel
theorem dX4_goOn_82 : decode cX4_goOn 82 = .ok (.iconst 2, 1) := by decide +kernel
theorem dX4_goOn_83 : decode cX4_goOn 83 = .ok (.iconst 2, 1) := by decide +kernel
theorem dX4_goOn_84 : decode cX4_goOn 84 = .ok (.invokevirtual 78, 3) := by decide +kernel
theorem dX4_goOn_87 : decode cX4_goOn 87 = .ok (.goto 175, 3) := by decide +kernel
theorem dX4_goOn_90 : decode cX4_goOn 90 = .ok (.aload_n 0, 1) := by decide +kernel
theorem dX4_goOn_91 : decode cX4_goOn 91 = .ok (.aload_n 0, 1) := by decide +kernel
theorem dX4_goOn_92 : decode cX4_goOn 92 = .ok (.getfield 9, 3) := by decide +kernel
theorem dX4_goOn_95 : decode cX4_goOn 95 = .ok (.iload_n 2, 1) := by decide +kernel
theorem dX4_goOn_96 : decode cX4_goOn 96 = .ok (.iconst 0, 1) := by decide +kernel
theorem dX4_goOn_97 : decode cX4_goOn 97 = .ok (.invokevirtual 78, 3) := by decide +kernel
theorem dX4_goOn_100 : decode cX4_goOn 100 = .ok (.goto 162, 3) := by decide +kernel
theorem dX4_goOn_103 : decode cX4_goOn 103 = .ok (.aload_n 0, 1) := by decide +kernel
theorem dX4_goOn_104 : decode cX4_goOn 104 = .ok (.aload_n 0, 1) := by decide +kernel
theorem dX4_goOn_105 : decode cX4_goOn 105 = .ok (.getfield 9, 3) := by decide +kernel
theorem dX4_goOn_108 : decode cX4_goOn 108 = .ok (.iload_n 2, 1) := by decide +kernel
theorem dX4_goOn_109 : decode cX4_goOn 109 = .ok (.iconst 1, 1) := by decide +kernel
theorem dX4_goOn_110 : decode cX4_goOn 110 = .ok (.invokevirtual 78, 3) := by decide +kernel
theorem dX4_goOn_113 : decode cX4_goOn 113 = .ok (.goto 149, 3) := by decide +kernel
theorem dX4_goOn_116 : decode cX4_goOn 116 = .ok (.aload_n 0, 1) := by decide +kernel
theorem dX4_goOn_117 : decode cX4_goOn 117 = .ok (.iload_n 2, 1) := by decide +kernel
theorem dX4_goOn_118 : decode cX4_goOn 118 = .ok (.iload 4, 2) := by decide +kernel
theorem dX4_goOn_120 : decode cX4_goOn 120 = .ok (.iconst 1, 1) := by decide +kernel
theorem dX4_goOn_121 : decode cX4_goOn 121 = .ok (.iadd, 1) := by decide +kernel
theorem dX4_goOn_122 : decode cX4_goOn 122 = .ok (.invokestatic 69, 3) := by decide +kernel
theorem dX4_goOn_125 : decode cX4_goOn 125 = .ok (.putfield 9, 3) := by decide +kernel
theorem dX4_goOn_128 : decode cX4_goOn 128 = .ok (.aload_n 0, 1) := by decide +kernel
theorem dX4_goOn_129 : decode cX4_goOn 129 = .ok (.getfield 18, 3) := by decide +kernel
theorem dX4_goOn_132 : decode cX4_goOn 132 = .ok (.iconst 1, 1) := by decide +kernel
theorem dX4_goOn_133 : decode cX4_goOn 133 = .ok (.if_icmp .ne 129, 3) := by decide +kernel
theorem dX4_goOn_136 : decode cX4_goOn 136 = .ok (.iload 4, 2) := by decide +kernel
theorem dX4_goOn_138 : decode cX4_goOn 138 = .ok (.iconst 1, 1) := by decide +kernel
theorem dX4_goOn_139 : decode cX4_goOn 139 = .ok (.iadd, 1) := by decide +kernel
theorem dX4_goOn_140 : decode cX4_goOn 140 = .ok (.bipush 6, 2) := by decide +kernel
theorem dX4_goOn_142 : decode cX4_goOn 142 = .ok (.if_icmp .ne 120, 3) := by decide +kernel
theorem dX4_goOn_145 : decode cX4_goOn 145 = .ok (.aload_n 1, 1) := by decide +kernel
theorem dX4_goOn_146 : decode cX4_goOn 146 = .ok (.bipush 10, 2) := by decide +kernel
theorem dX4_goOn_148 : decode cX4_goOn 148 = .ok (.iaload, 1) := by decide +kernel
theorem dX4_goOn_149 : decode cX4_goOn 149 = .ok (.ifCond .le 113, 3) := by decide +kernel
theorem dX4_goOn_152 : decode cX4_goOn 152 = .ok (.aload_n 0, 1) := by decide +kernel
theorem dX4_goOn_153 : decode cX4_goOn 153 = .ok (.iload_n 2, 1) := by decide +kernel
theorem dX4_goOn_154 : decode cX4_goOn 154 = .ok (.aload_n 1, 1) := by decide +kernel
theorem dX4_goOn_155 : decode cX4_goOn 155 = .ok (.bipush 10, 2) := by decide +kernel
theorem dX4_goOn_157 : decode cX4_goOn 157 = .ok (.iaload, 1) := by decide +kernel
theorem dX4_goOn_158 : decode cX4_goOn 158 = .ok (.aload_n 1, 1) := by decide +kernel
theorem dX4_goOn_159 : decode cX4_goOn 159 = .ok (.bipush 14, 2) := by decide +kernel
theorem dX4_goOn_161 : decode cX4_goOn 161 = .ok (.iaload, 1) := by decide +kernel
theorem dX4_goOn_162 : decode cX4_goOn 162 = .ok (.invokevirtual 82, 3) := by decide +kernel
theorem dX4_goOn_165 : decode cX4_goOn 165 = .ok (.goto 97, 3) := by decide +kernel
theorem dX4_goOn_168 : decode cX4_goOn 168 = .ok (.aload_n 0, 1) := by decide +kernel
theorem dX4_goOn_169 : decode cX4_goOn 169 = .ok (.iload_n 2, 1) := by decide +kernel
theorem dX4_goOn_170 : decode cX4_goOn 170 = .ok (.iconst 0, 1) := by decide +kernel
theorem dX4_goOn_171 : decode cX4_goOn 171 = .ok (.iload 4, 2) := by decide +kernel
theorem dX4_goOn_173 : decode cX4_goOn 173 = .ok (.iconst 1, 1) := by decide +kernel
theorem dX4_goOn_174 : decode cX4_goOn 174 = .ok (.isub, 1) := by decide +kernel
theorem dX4_goOn_175 : decode cX4_goOn 175 = .ok (.invokestatic 85, 3) := by decide +kernel
theorem dX4_goOn_178 : decode cX4_goOn 178 = .ok (.invokestatic 69, 3) := by decide +kernel
theorem dX4_goOn_181 : decode cX4_goOn 181 = .ok (.iconst 2, 1) := by decide +kernel
theorem dX4_goOn_182 : decode cX4_goOn 182 = .ok (.iconst 2, 1) := by decide +kernel
theorem dX4_goOn_183 : decode cX4_goOn 183 = .ok (.invokevirtual 78, 3) := by decide +kernel
theorem dX4_goOn_186 : decode cX4_goOn 186 = .ok (.goto 76, 3) := by decide +kernel
theorem dX4_goOn_189 : decode cX4_goOn 189 = .ok (.aload_n 0, 1) := by decide +kernel
theorem dX4_goOn_190 : decode cX4_goOn 190 = .ok (.dup, 1) := by decide +kernel
theorem dX4_goOn_191 : decode cX4_goOn 191 = .ok (.getfield 36, 3) := by decide +kernel
theorem dX4_goOn_194 : decode cX4_goOn 194 = .ok (.iconst 1, 1) := by decide +kernel
theorem dX4_goOn_195 : decode cX4_goOn 195 = .ok (.iadd, 1) := by decide +kernel
theorem dX4_goOn_196 : decode cX4_goOn 196 = .ok (.putfield 36, 3) := by decide +kernel
theorem dX4_goOn_199 : decode cX4_goOn 199 = .ok (.aload_n 0, 1) := by decide +kernel
theorem dX4_goOn_200 : decode cX4_goOn 200 = .ok (.aload_n 0, 1) := by decide +kernel
theorem dX4_goOn_201 : decode cX4_goOn 201 = .ok (.getfield 9, 3) := by decide +kernel
theorem dX4_goOn_204 : decode cX4_goOn 204 = .ok (.iconst 2, 1) := by decide +kernel
theorem dX4_goOn_205 : decode cX4_goOn 205 = .ok (.iconst 0, 1) := by decide +kernel
theorem dX4_goOn_206 : decode cX4_goOn 206 = .ok (.invokevirtual 78, 3) := by decide +kernel
theorem dX4_goOn_209 : decode cX4_goOn 209 = .ok (.goto 53, 3) := by decide +kernel
theorem dX4_goOn_212 : decode cX4_goOn 212 = .ok (.iload_n 3, 1) := by decide +kernel
theorem dX4_goOn_213 : decode cX4_goOn 213 = .ok (.bipush 8, 2) := by decide +kernel
theorem dX4_goOn_215 : decode cX4_goOn 215 = .ok (.if_icmp .ne 10, 3) := by decide +kernel
theorem dX4_goOn_218 : decode cX4_goOn 218 = .ok (.aload_n 1, 1) := by decide +kernel
theorem dX4_goOn_219 : decode cX4_goOn 219 = .ok (.bipush 11, 2) := by decide +kernel
theorem dX4_goOn_221 : decode cX4_goOn 221 = .ok (.iaload, 1) := by decide +kernel
theorem dX4_goOn_222 : decode cX4_goOn 222 = .ok (.goto 7, 3) := by decide +kernel
theorem dX4_goOn_225 : decode cX4_goOn 225 = .ok (.aload_n 1, 1) := by decide +kernel
theorem dX4_goOn_226 : decode cX4_goOn 226 = .ok (.bipush 12, 2) := by decide +kernel
theorem dX4_goOn_228 : decode cX4_goOn 228 = .ok (.iaload, 1) := by decide +kernel
theorem dX4_goOn_229 : decode cX4_goOn 229 = .ok (.istore 5, 2) := by decide +kernel
theorem dX4_goOn_231 : decode cX4_goOn 231 = .ok (.iload 5, 2) := by decide +kernel
theorem dX4_goOn_233 : decode cX4_goOn 233 = .ok (.ifCond .le 17, 3) := by decide +kernel
theorem dX4_goOn_236 : decode cX4_goOn 236 = .ok (.aload_n 0, 1) := by decide +kernel
theorem dX4_goOn_237 : decode cX4_goOn 237 = .ok (.iload_n 2, 1) := by decide +kernel
theorem dX4_goOn_238 : decode cX4_goOn 238 = .ok (.iload 5, 2) := by decide +kernel
theorem dX4_goOn_240 : decode cX4_goOn 240 = .ok (.aload_n 1, 1) := by decide +kernel
theorem dX4_goOn_241 : decode cX4_goOn 241 = .ok (.bipush 14, 2) := by decide +kernel
theorem dX4_goOn_243 : decode cX4_goOn 243 = .ok (.iaload, 1) := by decide +kernel
theorem dX4_goOn_244 : decode cX4_goOn 244 = .ok (.invokevirtual 82, 3) := by decide +kernel
theorem dX4_goOn_247 : decode cX4_goOn 247 = .ok (.goto 15, 3) := by decide +kernel
theorem dX4_goOn_250 : decode cX4_goOn 250 = .ok (.aload_n 0, 1) := by decide +kernel
theorem dX4_goOn_251 : decode cX4_goOn 251 = .ok (.iload_n 2, 1) := by decide +kernel
theorem dX4_goOn_252 : decode cX4_goOn 252 = .ok (.bipush 6, 2) := by decide +kernel
theorem dX4_goOn_254 : decode cX4_goOn 254 = .ok (.invokestatic 69, 3) := by decide +kernel
theorem dX4_goOn_257 : decode cX4_goOn 257 = .ok (.iconst 2, 1) := by decide +kernel
theorem dX4_goOn_258 : decode cX4_goOn 258 = .ok (.iconst 0, 1) := by decide +kernel
theorem dX4_goOn_259 : decode cX4_goOn 259 = .ok (.invokevirtual 78, 3) := by decide +kernel
theorem dX4_goOn_262 : decode cX4_goOn 262 = .ok (.return_, 1) := by decide +kernel
theorem dX4_becomes_0 : decode cX4_becomes 0 = .ok (.aload_n 0, 1) := by decide +kernel
theorem dX4_becomes_1 : decode cX4_becomes 1 = .ok (.iload_n 1, 1) := by decide +kernel
theorem dX4_becomes_2 : decode cX4_becomes 2 = .ok (.putfield 9, 3) := by decide +kernel
theorem dX4_becomes_5 : decode cX4_becomes 5 = .ok (.aload_n 0, 1) := by decide +kernel
theorem dX4_becomes_6 : decode cX4_becomes 6 = .ok (.iload_n 2, 1) := by decide +kernel
theorem dX4_becomes_7 : decode cX4_becomes 7 = .ok (.putfield 15, 3) := by decide +kernel
theorem dX4_becomes_10 : decode cX4_becomes 10 = .ok (.aload_n 0, 1) := by decide +kernel
theorem dX4_becomes_11 : decode cX4_becomes 11 = .ok (.iload_n 3, 1) := by decide +kernel
theorem dX4_becomes_12 : decode cX4_becomes 12 = .ok (.putfield 18, 3) := by decide +kernel
theorem dX4_becomes_15 : decode cX4_becomes 15 = .ok (.return_, 1) := by decide +kernel
theorem dX4_score_0 : decode cX4_score 0 = .ok (.aload_n 0, 1) := by decide +kernel
theorem dX4_score_1 : decode cX4_score 1 = .ok (.iload_n 2, 1) := by decide +kernel
theorem dX4_score_2 : decode cX4_score 2 = .ok (.putfield 21, 3) := by decide +kernel
theorem dX4_score_5 : decode cX4_score 5 = .ok (.iload_n 1, 1) := by decide +kernel
theorem dX4_score_6 : decode cX4_score 6 = .ok (.ifCond .ne 16, 3) := by decide +kernel
theorem dX4_score_9 : decode cX4_score 9 = .ok (.aload_n 0, 1) := by decide +kernel
theorem dX4_score_10 : decode cX4_score 10 = .ok (.dup, 1) := by decide +kernel
theorem dX4_score_11 : decode cX4_score 11 = .ok (.getfield 24, 3) := by decide +kernel
theorem dX4_score_14 : decode cX4_score 14 = .ok (.iload_n 2, 1) := by decide +kernel
theorem dX4_score_15 : decode cX4_score 15 = .ok (.iadd, 1) := by decide +kernel
theorem dX4_score_16 : decode cX4_score 16 = .ok (.putfield 24, 3) := by decide +kernel
theorem dX4_score_19 : decode cX4_score 19 = .ok (.goto 13, 3) := by decide +kernel
theorem dX4_score_22 : decode cX4_score 22 = .ok (.aload_n 0, 1) := by decide +kernel
theorem dX4_score_23 : decode cX4_score 23 = .ok (.dup, 1) := by decide +kernel
theorem dX4_score_24 : decode cX4_score 24 = .ok (.getfield 27, 3) := by decide +kernel
theorem dX4_score_27 : decode cX4_score 27 = .ok (.iload_n 2, 1) := by decide +kernel
theorem dX4_score_28 : decode cX4_score 28 = .ok (.iadd, 1) := by decide +kernel
theorem dX4_score_29 : decode cX4_score 29 = .ok (.putfield 27, 3) := by decide +kernel
theorem dX4_score_32 : decode cX4_score 32 = .ok (.aload_n 0, 1) := by decide +kernel
theorem dX4_score_33 : decode cX4_score 33 = .ok (.iconst 3, 1) := by decide +kernel
theorem dX4_score_34 : decode cX4_score 34 = .ok (.putfield 9, 3) := by decide +kernel
theorem dX4_score_37 : decode cX4_score 37 = .ok (.aload_n 0, 1) := by decide +kernel
theorem dX4_score_38 : decode cX4_score 38 = .ok (.iconst 0, 1) := by decide +kernel
theorem dX4_score_39 : decode cX4_score 39 = .ok (.putfield 18, 3) := by decide +kernel
theorem dX4_score_42 : decode cX4_score 42 = .ok (.aload_n 0, 1) := by decide +kernel
theorem dX4_score_43 : decode cX4_score 43 = .ok (.iconst 2, 1) := by decide +kernel
theorem dX4_score_44 : decode cX4_score 44 = .ok (.putfield 15, 3) := by decide +kernel
theorem dX4_score_47 : decode cX4_score 47 = .ok (.iload_n 3, 1) := by decide +kernel
theorem dX4_score_48 : decode cX4_score 48 = .ok (.ifCond .eq 19, 3) := by decide +kernel
theorem dX4_score_51 : decode cX4_score 51 = .ok (.aload_n 0, 1) := by decide +kernel
theorem dX4_score_52 : decode cX4_score 52 = .ok (.iload_n 3, 1) := by decide +kernel
theorem dX4_score_53 : decode cX4_score 53 = .ok (.iconst 1, 1) := by decide +kernel
theorem dX4_score_54 : decode cX4_score 54 = .ok (.if_icmp .ne 9, 3) := by decide +kernel
theorem dX4_score_57 : decode cX4_score 57 = .ok (.iconst 1, 1) := by decide +kernel
theorem dX4_score_58 : decode cX4_score 58 = .ok (.iload_n 1, 1) := by decide +kernel
theorem dX4_score_59 : decode cX4_score 59 = .ok (.isub, 1) := by decide +kernel
theorem dX4_score_60 : decode cX4_score 60 = .ok (.goto 4, 3) := by decide +kernel
theorem dX4_score_63 : decode cX4_score 63 = .ok (.iload_n 1, 1) := by decide +kernel
theorem dX4_score_64 : decode cX4_score 64 = .ok (.putfield 15, 3) := by decide +kernel
theorem dX4_score_67 : decode cX4_score 67 = .ok (.return_, 1) := by decide +kernel
theorem dX4_winner_0 : decode cX4_winner 0 = .ok (.aload_n 0, 1) := by decide +kernel
theorem dX4_winner_1 : decode cX4_winner 1 = .ok (.getfield 24, 3) := by decide +kernel
theorem dX4_winner_4 : decode cX4_winner 4 = .ok (.aload_n 0, 1) := by decide +kernel
theorem dX4_winner_5 : decode cX4_winner 5 = .ok (.getfield 27, 3) := by decide +kernel
theorem dX4_winner_8 : decode cX4_winner 8 = .ok (.if_icmp .ne 5, 3) := by decide +kernel
theorem dX4_winner_11 : decode cX4_winner 11 = .ok (.iconst (-1), 1) := by decide +kernel
theorem dX4_winner_12 : decode cX4_winner 12 = .ok (.ireturn, 1) := by decide +kernel
theorem dX4_winner_13 : decode cX4_winner 13 = .ok (.aload_n 0, 1) := by decide +kernel
theorem dX4_winner_14 : decode cX4_winner 14 = .ok (.getfield 24, 3) := by decide +kernel
theorem dX4_winner_17 : decode cX4_winner 17 = .ok (.aload_n 0, 1) := by decide +kernel
theorem dX4_winner_18 : decode cX4_winner 18 = .ok (.getfield 27, 3) := by decide +kernel
theorem dX4_winner_21 : decode cX4_winner 21 = .ok (.if_icmp .le 7, 3) := by decide +kernel
theorem dX4_winner_24 : decode cX4_winner 24 = .ok (.iconst 0, 1) := by decide +kernel
theorem dX4_winner_25 : decode cX4_winner 25 = .ok (.goto 4, 3) := by decide +kernel
theorem dX4_winner_28 : decode cX4_winner 28 = .ok (.iconst 1, 1) := by decide +kernel
theorem dX4_winner_29 : decode cX4_winner 29 = .ok (.ireturn, 1) := by decide +kernel
theorem dX4_answer_0 : decode cX4_answer 0 = .ok (.iload_n 1, 1) := by decide +kernel
theorem dX4_answer_1 : decode cX4_answer 1 = .ok (.tableswitch 96 0 8 #[51, 56, 61, 66, 71, 76, 81, 86, 91], 51) := by decide +kernel
theorem dX4_answer_52 : decode cX4_answer 52 = .ok (.aload_n 0, 1) := by decide +kernel
theorem dX4_answer_53 : decode cX4_answer 53 = .ok (.getfield 24, 3) := by decide +kernel
theorem dX4_answer_56 : decode cX4_answer 56 = .ok (.ireturn, 1) := by decide +kernel
theorem dX4_answer_57 : decode cX4_answer 57 = .ok (.aload_n 0, 1) := by decide +kernel
theorem dX4_answer_58 : decode cX4_answer 58 = .ok (.getfield 27, 3) := by decide +kernel
theorem dX4_answer_61 : decode cX4_answer 61 = .ok (.ireturn, 1) := by decide +kernel
theorem dX4_answer_62 : decode cX4_answer 62 = .ok (.aload_n 0, 1) := by decide +kernel
theorem dX4_answer_63 : decode cX4_answer 63 = .ok (.getfield 30, 3) := by decide +kernel
theorem dX4_answer_66 : decode cX4_answer 66 = .ok (.ireturn, 1) := by decide +kernel
theorem dX4_answer_67 : decode cX4_answer 67 = .ok (.aload_n 0, 1) := by decide +kernel
theorem dX4_answer_68 : decode cX4_answer 68 = .ok (.getfield 33, 3) := by decide +kernel
theorem dX4_answer_71 : decode cX4_answer 71 = .ok (.ireturn, 1) := by decide +kernel
theorem dX4_answer_72 : decode cX4_answer 72 = .ok (.aload_n 0, 1) := by decide +kernel
theorem dX4_answer_73 : decode cX4_answer 73 = .ok (.getfield 36, 3) := by decide +kernel
theorem dX4_answer_76 : decode cX4_answer 76 = .ok (.ireturn, 1) := by decide +kernel
theorem dX4_answer_77 : decode cX4_answer 77 = .ok (.aload_n 0, 1) := by decide +kernel
theorem dX4_answer_78 : decode cX4_answer 78 = .ok (.getfield 39, 3) := by decide +kernel
theorem dX4_answer_81 : decode cX4_answer 81 = .ok (.ireturn, 1) := by decide +kernel
theorem dX4_answer_82 : decode cX4_answer 82 = .ok (.aload_n 0, 1) := by decide +kernel
theorem dX4_answer_83 : decode cX4_answer 83 = .ok (.invokevirtual 88, 3) := by decide +kernel
theorem dX4_answer_86 : decode cX4_answer 86 = .ok (.ireturn, 1) := by decide +kernel
theorem dX4_answer_87 : decode cX4_answer 87 = .ok (.aload_n 0, 1) := by decide +kernel
theorem dX4_answer_88 : decode cX4_answer 88 = .ok (.getfield 9, 3) := by decide +kernel
theorem dX4_answer_91 : decode cX4_answer 91 = .ok (.ireturn, 1) := by decide +kernel
theorem dX4_answer_92 : decode cX4_answer 92 = .ok (.aload_n 0, 1) := by decide +kernel
theorem dX4_answer_93 : decode cX4_answer 93 = .ok (.getfield 15, 3) := by decide +kernel
theorem dX4_answer_96 : decode cX4_answer 96 = .ok (.ireturn, 1) := by decide +kernel
theorem dX4_answer_97 : decode cX4_answer 97 = .ok (.bipush (-2), 2) := by decide +kernel
theorem dX4_answer_99 : decode cX4_answer 99 = .ok (.ireturn, 1) := by decide +kernel
theorem dX5_init_0 : decode cX5_init 0 = .ok (.aload_n 0, 1) := by decide +kernel
theorem dX5_init_1 : decode cX5_init 1 = .ok (.invokespecial 3, 3) := by decide +kernel
theorem dX5_init_4 : decode cX5_init 4 = .ok (.aload_n 0, 1) := by decide +kernel
theorem dX5_init_5 : decode cX5_init 5 = .ok (.bipush 63, 2) := by decide +kernel
theorem dX5_init_7 : decode cX5_init 7 = .ok (.newarray .int, 2) := by decide +kernel
theorem dX5_init_9 : decode cX5_init 9 = .ok (.putfield 9, 3) := by decide +kernel
theorem dX5_init_12 : decode cX5_init 12 = .ok (.aload_n 0, 1) := by decide +kernel
theorem dX5_init_13 : decode cX5_init 13 = .ok (.bipush 63, 2) := by decide +kernel
theorem dX5_init_15 : decode cX5_init 15 = .ok (.newarray .int, 2) := by decide +kernel
theorem dX5_init_17 : decode cX5_init 17 = .ok (.putfield 15, 3) := by decide +kernel
theorem dX5_init_20 : decode cX5_init 20 = .ok (.aload_n 0, 1) := by decide +kernel
theorem dX5_init_21 : decode cX5_init 21 = .ok (.bipush 63, 2) := by decide +kernel
theorem dX5_init_23 : decode cX5_init 23 = .ok (.newarray .int, 2) := by decide +kernel
theorem dX5_init_25 : decode cX5_init 25 = .ok (.putfield 18, 3) := by decide +kernel
theorem dX5_init_28 : decode cX5_init 28 = .ok (.aload_n 0, 1) := by decide +kernel
theorem dX5_init_29 : decode cX5_init 29 = .ok (.bipush 63, 2) := by decide +kernel
theorem dX5_init_31 : decode cX5_init 31 = .ok (.newarray .int, 2) := by decide +kernel
theorem dX5_init_33 : decode cX5_init 33 = .ok (.putfield 21, 3) := by decide +kernel
theorem dX5_init_36 : decode cX5_init 36 = .ok (.aload_n 0, 1) := by decide +kernel
theorem dX5_init_37 : decode cX5_init 37 = .ok (.bipush 6, 2) := by decide +kernel
theorem dX5_init_39 : decode cX5_init 39 = .ok (.newarray .int, 2) := by decide +kernel
theorem dX5_init_41 : decode cX5_init 41 = .ok (.putfield 24, 3) := by decide +kernel
theorem dX5_init_44 : decode cX5_init 44 = .ok (.aload_n 0, 1) := by decide +kernel
theorem dX5_init_45 : decode cX5_init 45 = .ok (.new 27, 3) := by decide +kernel
theorem dX5_init_48 : decode cX5_init 48 = .ok (.dup, 1) := by decide +kernel
theorem dX5_init_49 : decode cX5_init 49 = .ok (.invokespecial 29, 3) := by decide +kernel
theorem dX5_init_52 : decode cX5_init 52 = .ok (.putfield 30, 3) := by decide +kernel
theorem dX5_init_55 : decode cX5_init 55 = .ok (.aload_n 0, 1) := by decide +kernel
theorem dX5_init_56 : decode cX5_init 56 = .ok (.new 27, 3) := by decide +kernel
theorem dX5_init_59 : decode cX5_init 59 = .ok (.dup, 1) := by decide +kernel
theorem dX5_init_60 : decode cX5_init 60 = .ok (.invokespecial 29, 3) := by decide +kernel
theorem dX5_init_63 : decode cX5_init 63 = .ok (.putfield 34, 3) := by decide +kernel
theorem dX5_init_66 : decode cX5_init 66 = .ok (.return_, 1) := by decide +kernel
theorem dX5_part_0 : decode cX5_part 0 = .ok (.aload_n 0, 1) := by decide +kernel
theorem dX5_part_1 : decode cX5_part 1 = .ok (.iconst 0, 1) := by decide +kernel
theorem dX5_part_2 : decode cX5_part 2 = .ok (.putfield 37, 3) := by decide +kernel
theorem dX5_part_5 : decode cX5_part 5 = .ok (.aload_n 0, 1) := by decide +kernel
theorem dX5_part_6 : decode cX5_part 6 = .ok (.invokevirtual 41, 3) := by decide +kernel
theorem dX5_part_9 : decode cX5_part 9 = .ok (.iconst 0, 1) := by decide +kernel
theorem dX5_part_10 : decode cX5_part 10 = .ok (.istore_n 3, 1) := by decide +kernel
theorem dX5_part_11 : decode cX5_part 11 = .ok (.iload_n 3, 1) := by decide +kernel
theorem dX5_part_12 : decode cX5_part 12 = .ok (.bipush 63, 2) := by decide +kernel
theorem dX5_part_14 : decode cX5_part 14 = .ok (.if_icmp .ge 157, 3) := by decide +kernel
theorem dX5_part_17 : decode cX5_part 17 = .ok (.iload_n 3, 1) := by decide +kernel
theorem dX5_part_18 : decode cX5_part 18 = .ok (.aload_n 0, 1) := by decide +kernel
theorem dX5_part_19 : decode cX5_part 19 = .ok (.getfield 44, 3) := by decide +kernel
theorem dX5_part_22 : decode cX5_part 22 = .ok (.if_icmp .ge 149, 3) := by decide +kernel
theorem dX5_part_25 : decode cX5_part 25 = .ok (.aload_n 0, 1) := by decide +kernel
theorem dX5_part_26 : decode cX5_part 26 = .ok (.getfield 9, 3) := by decide +kernel
theorem dX5_part_29 : decode cX5_part 29 = .ok (.iload_n 3, 1) := by decide +kernel
theorem dX5_part_30 : decode cX5_part 30 = .ok (.iaload, 1) := by decide +kernel
theorem dX5_part_31 : decode cX5_part 31 = .ok (.istore 4, 2) := by decide +kernel
theorem dX5_part_33 : decode cX5_part 33 = .ok (.aload_n 0, 1) := by decide +kernel
theorem dX5_part_34 : decode cX5_part 34 = .ok (.getfield 15, 3) := by decide +kernel
theorem dX5_part_37 : decode cX5_part 37 = .ok (.iload 4, 2) := by decide +kernel
theorem dX5_part_39 : decode cX5_part 39 = .ok (.iaload, 1) := by decide +kernel
theorem dX5_part_40 : decode cX5_part 40 = .ok (.bipush 6, 2) := by decide +kernel
theorem dX5_part_42 : decode cX5_part 42 = .ok (.if_icmp .lt 4, 3) := by decide +kernel
theorem dX5_part_45 : decode cX5_part 45 = .ok (.return_, 1) := by decide +kernel
theorem dX5_part_46 : decode cX5_part 46 = .ok (.iconst 0, 1) := by decide +kernel
theorem dX5_part_47 : decode cX5_part 47 = .ok (.istore 5, 2) := by decide +kernel
theorem dX5_part_49 : decode cX5_part 49 = .ok (.iload 5, 2) := by decide +kernel
theorem dX5_part_51 : decode cX5_part 51 = .ok (.bipush 40, 2) := by decide +kernel
theorem dX5_part_53 : decode cX5_part 53 = .ok (.if_icmp .ge 112, 3) := by decide +kernel
theorem dX5_part_56 : decode cX5_part 56 = .ok (.aload_n 0, 1) := by decide +kernel
theorem dX5_part_57 : decode cX5_part 57 = .ok (.getfield 30, 3) := by decide +kernel
theorem dX5_part_60 : decode cX5_part 60 = .ok (.iload 4, 2) := by decide +kernel
theorem dX5_part_62 : decode cX5_part 62 = .ok (.invokevirtual 47, 3) := by decide +kernel
theorem dX5_part_65 : decode cX5_part 65 = .ok (.aload_n 0, 1) := by decide +kernel
theorem dX5_part_66 : decode cX5_part 66 = .ok (.getfield 34, 3) := by decide +kernel
theorem dX5_part_69 : decode cX5_part 69 = .ok (.iload 4, 2) := by decide +kernel
theorem dX5_part_71 : decode cX5_part 71 = .ok (.invokevirtual 47, 3) := by decide +kernel
theorem dX5_part_74 : decode cX5_part 74 = .ok (.aload_n 0, 1) := by decide +kernel
theorem dX5_part_75 : decode cX5_part 75 = .ok (.getfield 30, 3) := by decide +kernel
theorem dX5_part_78 : decode cX5_part 78 = .ok (.aload_n 1, 1) := by decide +kernel
theorem dX5_part_79 : decode cX5_part 79 = .ok (.iload 5, 2) := by decide +kernel
theorem dX5_part_81 : decode cX5_part 81 = .ok (.invokevirtual 51, 3) := by decide +kernel
theorem dX5_part_84 : decode cX5_part 84 = .ok (.istore 6, 2) := by decide +kernel
theorem dX5_part_86 : decode cX5_part 86 = .ok (.iload 6, 2) := by decide +kernel
theorem dX5_part_88 : decode cX5_part 88 = .ok (.aload_n 0, 1) := by decide +kernel
theorem dX5_part_89 : decode cX5_part 89 = .ok (.getfield 34, 3) := by decide +kernel
theorem dX5_part_92 : decode cX5_part 92 = .ok (.aload_n 2, 1) := by decide +kernel
theorem dX5_part_93 : decode cX5_part 93 = .ok (.iload 5, 2) := by decide +kernel
theorem dX5_part_95 : decode cX5_part 95 = .ok (.invokevirtual 51, 3) := by decide +kernel
theorem dX5_part_98 : decode cX5_part 98 = .ok (.if_icmp .ne 37, 3) := by decide +kernel
theorem dX5_part_101 : decode cX5_part 101 = .ok (.aload_n 0, 1) := by decide +kernel
theorem dX5_part_102 : decode cX5_part 102 = .ok (.getfield 30, 3) := by decide +kernel
theorem dX5_part_105 : decode cX5_part 105 = .ok (.getfield 55, 3) := by decide +kernel
theorem dX5_part_108 : decode cX5_part 108 = .ok (.aload_n 0, 1) := by decide +kernel
theorem dX5_part_109 : decode cX5_part 109 = .ok (.getfield 34, 3) := by decide +kernel
theorem dX5_part_112 : decode cX5_part 112 = .ok (.getfield 55, 3) := by decide +kernel
theorem dX5_part_115 : decode cX5_part 115 = .ok (.if_icmp .ne 20, 3) := by decide +kernel
theorem dX5_part_118 : decode cX5_part 118 = .ok (.aload_n 0, 1) := by decide +kernel
theorem dX5_part_119 : decode cX5_part 119 = .ok (.getfield 30, 3) := by decide +kernel
theorem dX5_part_122 : decode cX5_part 122 = .ok (.invokevirtual 58, 3) := by decide +kernel
theorem dX5_part_125 : decode cX5_part 125 = .ok (.aload_n 0, 1) := by decide +kernel
theorem dX5_part_126 : decode cX5_part 126 = .ok (.getfield 34, 3) := by decide +kernel
theorem dX5_part_129 : decode cX5_part 129 = .ok (.invokevirtual 58, 3) := by decide +kernel
theorem dX5_part_132 : decode cX5_part 132 = .ok (.if_icmp .eq 12, 3) := by decide +kernel
theorem dX5_part_135 : decode cX5_part 135 = .ok (.aload_n 0, 1) := by decide +kernel
theorem dX5_part_136 : decode cX5_part 136 = .ok (.iload 4, 2) := by decide +kernel
theorem dX5_part_138 : decode cX5_part 138 = .ok (.iload 5, 2) := by decide +kernel
theorem dX5_part_140 : decode cX5_part 140 = .ok (.invokevirtual 62, 3) := by decide +kernel
theorem dX5_part_143 : decode cX5_part 143 = .ok (.return_, 1) := by decide +kernel
theorem dX5_part_144 : decode cX5_part 144 = .ok (.aload_n 0, 1) := by decide +kernel
theorem dX5_part_145 : decode cX5_part 145 = .ok (.aload_n 0, 1) := by decide +kernel
theorem dX5_part_146 : decode cX5_part 146 = .ok (.getfield 30, 3) := by decide +kernel
theorem dX5_part_149 : decode cX5_part 149 = .ok (.invokevirtual 58, 3) := by decide +kernel
theorem dX5_part_152 : decode cX5_part 152 = .ok (.iload 4, 2) := by decide +kernel
theorem dX5_part_154 : decode cX5_part 154 = .ok (.iload 5, 2) := by decide +kernel
theorem dX5_part_156 : decode cX5_part 156 = .ok (.invokevirtual 66, 3) := by decide +kernel
theorem dX5_part_159 : decode cX5_part 159 = .ok (.iinc 5 1, 3) := by decide +kernel
theorem dX5_part_162 : decode cX5_part 162 = .ok (.goto (-113), 3) := by decide +kernel
theorem dX5_part_165 : decode cX5_part 165 = .ok (.iinc 3 1, 3) := by decide +kernel
theorem dX5_part_168 : decode cX5_part 168 = .ok (.goto (-157), 3) := by decide +kernel
theorem dX5_part_171 : decode cX5_part 171 = .ok (.return_, 1) := by decide +kernel
theorem dX5_momentsToScore_0 : decode cX5_momentsToScore 0 = .ok (.aload_n 0, 1) := by decide +kernel
theorem dX5_momentsToScore_1 : decode cX5_momentsToScore 1 = .ok (.invokevirtual 41, 3) := by decide +kernel
theorem dX5_momentsToScore_4 : decode cX5_momentsToScore 4 = .ok (.iconst 0, 1) := by decide +kernel
theorem dX5_momentsToScore_5 : decode cX5_momentsToScore 5 = .ok (.istore_n 3, 1) := by decide +kernel
theorem dX5_momentsToScore_6 : decode cX5_momentsToScore 6 = .ok (.iload_n 3, 1) := by decide +kernel
theorem dX5_momentsToScore_7 : decode cX5_momentsToScore 7 = .ok (.bipush 63, 2) := by decide +kernel
theorem dX5_momentsToScore_9 : decode cX5_momentsToScore 9 = .ok (.if_icmp .ge 119, 3) := by decide +kernel
theorem dX5_momentsToScore_12 : decode cX5_momentsToScore 12 = .ok (.iload_n 3, 1) := by decide +kernel
theorem dX5_momentsToScore_13 : decode cX5_momentsToScore 13 = .ok (.aload_n 0, 1) := by decide +kernel
theorem dX5_momentsToScore_14 : decode cX5_momentsToScore 14 = .ok (.getfield 44, 3) := by decide +kernel
theorem dX5_momentsToScore_17 : decode cX5_momentsToScore 17 = .ok (.if_icmp .ge 111, 3) := by decide +kernel
theorem dX5_momentsToScore_20 : decode cX5_momentsToScore 20 = .ok (.aload_n 0, 1) := by decide +kernel
theorem dX5_momentsToScore_21 : decode cX5_momentsToScore 21 = .ok (.getfield 9, 3) := by decide +kernel
theorem dX5_momentsToScore_24 : decode cX5_momentsToScore 24 = .ok (.iload_n 3, 1) := by decide +kernel
theorem dX5_momentsToScore_25 : decode cX5_momentsToScore 25 = .ok (.iaload, 1) := by decide +kernel
theorem dX5_momentsToScore_26 : decode cX5_momentsToScore 26 = .ok (.istore 4, 2) := by decide +kernel
theorem dX5_momentsToScore_28 : decode cX5_momentsToScore 28 = .ok (.aload_n 0, 1) := by decide +kernel
theorem dX5_momentsToScore_29 : decode cX5_momentsToScore 29 = .ok (.getfield 15, 3) := by decide +kernel
theorem dX5_momentsToScore_32 : decode cX5_momentsToScore 32 = .ok (.iload 4, 2) := by decide +kernel
theorem dX5_momentsToScore_34 : decode cX5_momentsToScore 34 = .ok (.iaload, 1) := by decide +kernel
theorem dX5_momentsToScore_35 : decode cX5_momentsToScore 35 = .ok (.bipush 20, 2) := by decide +kernel
theorem dX5_momentsToScore_37 : decode cX5_momentsToScore 37 = .ok (.if_icmp .lt 5, 3) := by decide +kernel
theorem dX5_momentsToScore_40 : decode cX5_momentsToScore 40 = .ok (.iconst (-1), 1) := by decide +kernel
theorem dX5_momentsToScore_41 : decode cX5_momentsToScore 41 = .ok (.ireturn, 1) := by decide +kernel
theorem dX5_momentsToScore_42 : decode cX5_momentsToScore 42 = .ok (.iconst 0, 1) := by decide +kernel
theorem dX5_momentsToScore_43 : decode cX5_momentsToScore 43 = .ok (.istore 5, 2) := by decide +kernel
theorem dX5_momentsToScore_45 : decode cX5_momentsToScore 45 = .ok (.iload 5, 2) := by decide +kernel
theorem dX5_momentsToScore_47 : decode cX5_momentsToScore 47 = .ok (.bipush 40, 2) := by decide +kernel
theorem dX5_momentsToScore_49 : decode cX5_momentsToScore 49 = .ok (.if_icmp .ge 73, 3) := by decide +kernel
theorem dX5_momentsToScore_52 : decode cX5_momentsToScore 52 = .ok (.aload_n 0, 1) := by decide +kernel
theorem dX5_momentsToScore_53 : decode cX5_momentsToScore 53 = .ok (.getfield 30, 3) := by decide +kernel
theorem dX5_momentsToScore_56 : decode cX5_momentsToScore 56 = .ok (.iload 4, 2) := by decide +kernel
theorem dX5_momentsToScore_58 : decode cX5_momentsToScore 58 = .ok (.invokevirtual 47, 3) := by decide +kernel
theorem dX5_momentsToScore_61 : decode cX5_momentsToScore 61 = .ok (.aload_n 0, 1) := by decide +kernel
theorem dX5_momentsToScore_62 : decode cX5_momentsToScore 62 = .ok (.getfield 30, 3) := by decide +kernel
theorem dX5_momentsToScore_65 : decode cX5_momentsToScore 65 = .ok (.aload_n 1, 1) := by decide +kernel
theorem dX5_momentsToScore_66 : decode cX5_momentsToScore 66 = .ok (.iload 5, 2) := by decide +kernel
theorem dX5_momentsToScore_68 : decode cX5_momentsToScore 68 = .ok (.invokevirtual 51, 3) := by decide +kernel
theorem dX5_momentsToScore_71 : decode cX5_momentsToScore 71 = .ok (.pop, 1) := by decide +kernel
theorem dX5_momentsToScore_72 : decode cX5_momentsToScore 72 = .ok (.aload_n 0, 1) := by decide +kernel
theorem dX5_momentsToScore_73 : decode cX5_momentsToScore 73 = .ok (.getfield 30, 3) := by decide +kernel
theorem dX5_momentsToScore_76 : decode cX5_momentsToScore 76 = .ok (.getfield 55, 3) := by decide +kernel
theorem dX5_momentsToScore_79 : decode cX5_momentsToScore 79 = .ok (.ifCond .le 22, 3) := by decide +kernel
theorem dX5_momentsToScore_82 : decode cX5_momentsToScore 82 = .ok (.iload 5, 2) := by decide +kernel
theorem dX5_momentsToScore_84 : decode cX5_momentsToScore 84 = .ok (.invokestatic 70, 3) := by decide +kernel
theorem dX5_momentsToScore_87 : decode cX5_momentsToScore 87 = .ok (.iload_n 2, 1) := by decide +kernel
theorem dX5_momentsToScore_88 : decode cX5_momentsToScore 88 = .ok (.if_icmp .ne 13, 3) := by decide +kernel
theorem dX5_momentsToScore_91 : decode cX5_momentsToScore 91 = .ok (.aload_n 0, 1) := by decide +kernel
theorem dX5_momentsToScore_92 : decode cX5_momentsToScore 92 = .ok (.getfield 15, 3) := by decide +kernel
theorem dX5_momentsToScore_95 : decode cX5_momentsToScore 95 = .ok (.iload 4, 2) := by decide +kernel
theorem dX5_momentsToScore_97 : decode cX5_momentsToScore 97 = .ok (.iaload, 1) := by decide +kernel
theorem dX5_momentsToScore_98 : decode cX5_momentsToScore 98 = .ok (.iconst 1, 1) := by decide +kernel
theorem dX5_momentsToScore_99 : decode cX5_momentsToScore 99 = .ok (.iadd, 1) := by decide +kernel
theorem dX5_momentsToScore_100 : decode cX5_momentsToScore 100 = .ok (.ireturn, 1) := by decide +kernel
theorem dX5_momentsToScore_101 : decode cX5_momentsToScore 101 = .ok (.aload_n 0, 1) := by decide +kernel
theorem dX5_momentsToScore_102 : decode cX5_momentsToScore 102 = .ok (.aload_n 0, 1) := by decide +kernel
theorem dX5_momentsToScore_103 : decode cX5_momentsToScore 103 = .ok (.getfield 30, 3) := by decide +kernel
theorem dX5_momentsToScore_106 : decode cX5_momentsToScore 106 = .ok (.invokevirtual 58, 3) := by decide +kernel
theorem dX5_momentsToScore_109 : decode cX5_momentsToScore 109 = .ok (.iload 4, 2) := by decide +kernel
theorem dX5_momentsToScore_111 : decode cX5_momentsToScore 111 = .ok (.iload 5, 2) := by decide +kernel
theorem dX5_momentsToScore_113 : decode cX5_momentsToScore 113 = .ok (.invokevirtual 66, 3) := by decide +kernel
theorem dX5_momentsToScore_116 : decode cX5_momentsToScore 116 = .ok (.iinc 5 1, 3) := by decide +kernel
theorem dX5_momentsToScore_119 : decode cX5_momentsToScore 119 = .ok (.goto (-74), 3) := by decide +kernel
theorem dX5_momentsToScore_122 : decode cX5_momentsToScore 122 = .ok (.iinc 3 1, 3) := by decide +kernel
theorem dX5_momentsToScore_125 : decode cX5_momentsToScore 125 = .ok (.goto (-119), 3) := by decide +kernel
theorem dX5_momentsToScore_128 : decode cX5_momentsToScore 128 = .ok (.iconst (-1), 1) := by decide +kernel
theorem dX5_momentsToScore_129 : decode cX5_momentsToScore 129 = .ok (.ireturn, 1) := by decide +kernel
theorem dX5_start_0 : decode cX5_start 0 = .ok (.aload_n 0, 1) := by decide +kernel
theorem dX5_start_1 : decode cX5_start 1 = .ok (.getfield 15, 3) := by decide +kernel
theorem dX5_start_4 : decode cX5_start 4 = .ok (.iconst (-1), 1) := by decide +kernel
theorem dX5_start_5 : decode cX5_start 5 = .ok (.invokestatic 74, 3) := by decide +kernel
theorem dX5_start_8 : decode cX5_start 8 = .ok (.aload_n 0, 1) := by decide +kernel
theorem dX5_start_9 : decode cX5_start 9 = .ok (.getfield 30, 3) := by decide +kernel
theorem dX5_start_12 : decode cX5_start 12 = .ok (.invokevirtual 80, 3) := by decide +kernel
theorem dX5_start_15 : decode cX5_start 15 = .ok (.aload_n 0, 1) := by decide +kernel
theorem dX5_start_16 : decode cX5_start 16 = .ok (.getfield 34, 3) := by decide +kernel
theorem dX5_start_19 : decode cX5_start 19 = .ok (.invokevirtual 80, 3) := by decide +kernel
theorem dX5_start_22 : decode cX5_start 22 = .ok (.aload_n 0, 1) := by decide +kernel
theorem dX5_start_23 : decode cX5_start 23 = .ok (.getfield 30, 3) := by decide +kernel
theorem dX5_start_26 : decode cX5_start 26 = .ok (.invokevirtual 58, 3) := by decide +kernel
theorem dX5_start_29 : decode cX5_start 29 = .ok (.istore_n 1, 1) := by decide +kernel
theorem dX5_start_30 : decode cX5_start 30 = .ok (.aload_n 0, 1) := by decide +kernel
theorem dX5_start_31 : decode cX5_start 31 = .ok (.getfield 15, 3) := by decide +kernel
theorem dX5_start_34 : decode cX5_start 34 = .ok (.iload_n 1, 1) := by decide +kernel
theorem dX5_start_35 : decode cX5_start 35 = .ok (.iconst 0, 1) := by decide +kernel
theorem dX5_start_36 : decode cX5_start 36 = .ok (.iastore, 1) := by decide +kernel
theorem dX5_start_37 : decode cX5_start 37 = .ok (.aload_n 0, 1) := by decide +kernel
theorem dX5_start_38 : decode cX5_start 38 = .ok (.getfield 9, 3) := by decide +kernel
theorem dX5_start_41 : decode cX5_start 41 = .ok (.iconst 0, 1) := by decide +kernel
theorem dX5_start_42 : decode cX5_start 42 = .ok (.iload_n 1, 1) := by decide +kernel
theorem dX5_start_43 : decode cX5_start 43 = .ok (.iastore, 1) := by decide +kernel
theorem dX5_start_44 : decode cX5_start 44 = .ok (.aload_n 0, 1) := by decide +kernel
theorem dX5_start_45 : decode cX5_start 45 = .ok (.iconst 1, 1) := by decide +kernel
theorem dX5_start_46 : decode cX5_start 46 = .ok (.putfield 44, 3) := by decide +kernel
theorem dX5_start_49 : decode cX5_start 49 = .ok (.return_, 1) := by decide +kernel
theorem dX5_reach_0 : decode cX5_reach 0 = .ok (.aload_n 0, 1) := by decide +kernel
theorem dX5_reach_1 : decode cX5_reach 1 = .ok (.getfield 15, 3) := by decide +kernel
theorem dX5_reach_4 : decode cX5_reach 4 = .ok (.iload_n 1, 1) := by decide +kernel
theorem dX5_reach_5 : decode cX5_reach 5 = .ok (.iaload, 1) := by decide +kernel
theorem dX5_reach_6 : decode cX5_reach 6 = .ok (.iconst (-1), 1) := by decide +kernel
theorem dX5_reach_7 : decode cX5_reach 7 = .ok (.if_icmp .ne 12, 3) := by decide +kernel
theorem dX5_reach_10 : decode cX5_reach 10 = .ok (.aload_n 0, 1) := by decide +kernel
theorem dX5_reach_11 : decode cX5_reach 11 = .ok (.getfield 44, 3) := by decide +kernel
theorem dX5_reach_14 : decode cX5_reach 14 = .ok (.bipush 63, 2) := by decide +kernel
theorem dX5_reach_16 : decode cX5_reach 16 = .ok (.if_icmp .lt 4, 3) := by decide +kernel
theorem dX5_reach_19 : decode cX5_reach 19 = .ok (.return_, 1) := by decide +kernel
theorem dX5_reach_20 : decode cX5_reach 20 = .ok (.aload_n 0, 1) := by decide +kernel
theorem dX5_reach_21 : decode cX5_reach 21 = .ok (.getfield 15, 3) := by decide +kernel
theorem dX5_reach_24 : decode cX5_reach 24 = .ok (.iload_n 1, 1) := by decide +kernel
theorem dX5_reach_25 : decode cX5_reach 25 = .ok (.aload_n 0, 1) := by decide +kernel
theorem dX5_reach_26 : decode cX5_reach 26 = .ok (.getfield 15, 3) := by decide +kernel
theorem dX5_reach_29 : decode cX5_reach 29 = .ok (.iload_n 2, 1) := by decide +kernel
theorem dX5_reach_30 : decode cX5_reach 30 = .ok (.iaload, 1) := by decide +kernel
theorem dX5_reach_31 : decode cX5_reach 31 = .ok (.iconst 1, 1) := by decide +kernel
theorem dX5_reach_32 : decode cX5_reach 32 = .ok (.iadd, 1) := by decide +kernel
theorem dX5_reach_33 : decode cX5_reach 33 = .ok (.iastore, 1) := by decide +kernel
theorem dX5_reach_34 : decode cX5_reach 34 = .ok (.aload_n 0, 1) := by decide +kernel
theorem dX5_reach_35 : decode cX5_reach 35 = .ok (.getfield 18, 3) := by decide +kernel
theorem dX5_reach_38 : decode cX5_reach 38 = .ok (.iload_n 1, 1) := by decide +kernel
theorem dX5_reach_39 : decode cX5_reach 39 = .ok (.iload_n 2, 1) := by decide +kernel
theorem dX5_reach_40 : decode cX5_reach 40 = .ok (.iastore, 1) := by decide +kernel
theorem dX5_reach_41 : decode cX5_reach 41 = .ok (.aload_n 0, 1) := by decide +kernel
theorem dX5_reach_42 : decode cX5_reach 42 = .ok (.getfield 21, 3) := by decide +kernel
theorem dX5_reach_45 : decode cX5_reach 45 = .ok (.iload_n 1, 1) := by decide +kernel
theorem dX5_reach_46 : decode cX5_reach 46 = .ok (.iload_n 3, 1) := by decide +kernel
theorem dX5_reach_47 : decode cX5_reach 47 = .ok (.iastore, 1) := by decide +kernel
theorem dX5_reach_48 : decode cX5_reach 48 = .ok (.aload_n 0, 1) := by decide +kernel
theorem dX5_reach_49 : decode cX5_reach 49 = .ok (.getfield 9, 3) := by decide +kernel
theorem dX5_reach_52 : decode cX5_reach 52 = .ok (.aload_n 0, 1) := by decide +kernel
theorem dX5_reach_53 : decode cX5_reach 53 = .ok (.getfield 44, 3) := by decide +kernel
theorem dX5_reach_56 : decode cX5_reach 56 = .ok (.iload_n 1, 1) := by decide +kernel
theorem dX5_reach_57 : decode cX5_reach 57 = .ok (.iastore, 1) := by decide +kernel
theorem dX5_reach_58 : decode cX5_reach 58 = .ok (.aload_n 0, 1) := by decide +kernel
theorem dX5_reach_59 : decode cX5_reach 59 = .ok (.dup, 1) := by decide +kernel
theorem dX5_reach_60 : decode cX5_reach 60 = .ok (.getfield 44, 3) := by decide +kernel
theorem dX5_reach_63 : decode cX5_reach 63 = .ok (.iconst 1, 1) := by decide +kernel
theorem dX5_reach_64 : decode cX5_reach 64 = .ok (.iadd, 1) := by decide +kernel
theorem dX5_reach_65 : decode cX5_reach 65 = .ok (.putfield 44, 3) := by decide +kernel
theorem dX5_reach_68 : decode cX5_reach 68 = .ok (.return_, 1) := by decide +kernel
theorem dX5_traceRow_0 : decode cX5_traceRow 0 = .ok (.iload_n 1, 1) := by decide +kernel
theorem dX5_traceRow_1 : decode cX5_traceRow 1 = .ok (.istore_n 3, 1) := by decide +kernel
theorem dX5_traceRow_2 : decode cX5_traceRow 2 = .ok (.aload_n 0, 1) := by decide +kernel
theorem dX5_traceRow_3 : decode cX5_traceRow 3 = .ok (.aload_n 0, 1) := by decide +kernel
theorem dX5_traceRow_4 : decode cX5_traceRow 4 = .ok (.getfield 15, 3) := by decide +kernel
theorem dX5_traceRow_7 : decode cX5_traceRow 7 = .ok (.iload_n 1, 1) := by decide +kernel
theorem dX5_traceRow_8 : decode cX5_traceRow 8 = .ok (.iaload, 1) := by decide +kernel
theorem dX5_traceRow_9 : decode cX5_traceRow 9 = .ok (.iconst 1, 1) := by decide +kernel
theorem dX5_traceRow_10 : decode cX5_traceRow 10 = .ok (.iadd, 1) := by decide +kernel
theorem dX5_traceRow_11 : decode cX5_traceRow 11 = .ok (.putfield 37, 3) := by decide +kernel
theorem dX5_traceRow_14 : decode cX5_traceRow 14 = .ok (.aload_n 0, 1) := by decide +kernel
theorem dX5_traceRow_15 : decode cX5_traceRow 15 = .ok (.getfield 24, 3) := by decide +kernel
theorem dX5_traceRow_18 : decode cX5_traceRow 18 = .ok (.aload_n 0, 1) := by decide +kernel
theorem dX5_traceRow_19 : decode cX5_traceRow 19 = .ok (.getfield 37, 3) := by decide +kernel
theorem dX5_traceRow_22 : decode cX5_traceRow 22 = .ok (.iconst 1, 1) := by decide +kernel
theorem dX5_traceRow_23 : decode cX5_traceRow 23 = .ok (.isub, 1) := by decide +kernel
theorem dX5_traceRow_24 : decode cX5_traceRow 24 = .ok (.iload_n 2, 1) := by decide +kernel
theorem dX5_traceRow_25 : decode cX5_traceRow 25 = .ok (.iastore, 1) := by decide +kernel
theorem dX5_traceRow_26 : decode cX5_traceRow 26 = .ok (.aload_n 0, 1) := by decide +kernel
theorem dX5_traceRow_27 : decode cX5_traceRow 27 = .ok (.getfield 37, 3) := by decide +kernel
theorem dX5_traceRow_30 : decode cX5_traceRow 30 = .ok (.iconst 2, 1) := by decide +kernel
theorem dX5_traceRow_31 : decode cX5_traceRow 31 = .ok (.isub, 1) := by decide +kernel
theorem dX5_traceRow_32 : decode cX5_traceRow 32 = .ok (.istore 4, 2) := by decide +kernel
theorem dX5_traceRow_34 : decode cX5_traceRow 34 = .ok (.iload 4, 2) := by decide +kernel
theorem dX5_traceRow_36 : decode cX5_traceRow 36 = .ok (.ifCond .lt 29, 3) := by decide +kernel
theorem dX5_traceRow_39 : decode cX5_traceRow 39 = .ok (.aload_n 0, 1) := by decide +kernel
theorem dX5_traceRow_40 : decode cX5_traceRow 40 = .ok (.getfield 24, 3) := by decide +kernel
theorem dX5_traceRow_43 : decode cX5_traceRow 43 = .ok (.iload 4, 2) := by decide +kernel
theorem dX5_traceRow_45 : decode cX5_traceRow 45 = .ok (.aload_n 0, 1) := by decide +kernel
theorem dX5_traceRow_46 : decode cX5_traceRow 46 = .ok (.getfield 21, 3) := by decide +kernel
theorem dX5_traceRow_49 : decode cX5_traceRow 49 = .ok (.iload_n 3, 1) := by decide +kernel
theorem dX5_traceRow_50 : decode cX5_traceRow 50 = .ok (.iaload, 1) := by decide +kernel
theorem dX5_traceRow_51 : decode cX5_traceRow 51 = .ok (.iastore, 1) := by decide +kernel
theorem dX5_traceRow_52 : decode cX5_traceRow 52 = .ok (.aload_n 0, 1) := by decide +kernel
theorem dX5_traceRow_53 : decode cX5_traceRow 53 = .ok (.getfield 18, 3) := by decide +kernel
theorem dX5_traceRow_56 : decode cX5_traceRow 56 = .ok (.iload_n 3, 1) := by decide +kernel
theorem dX5_traceRow_57 : decode cX5_traceRow 57 = .ok (.iaload, 1) := by decide +kernel
theorem dX5_traceRow_58 : decode cX5_traceRow 58 = .ok (.istore_n 3, 1) := by decide +kernel
theorem dX5_traceRow_59 : decode cX5_traceRow 59 = .ok (.iinc 4 (-1), 3) := by decide +kernel
theorem dX5_traceRow_62 : decode cX5_traceRow 62 = .ok (.goto (-28), 3) := by decide +kernel
theorem dX5_traceRow_65 : decode cX5_traceRow 65 = .ok (.return_, 1) := by decide +kernel
theorem dX6_init_0 : decode cX6_init 0 = .ok (.aload_n 0, 1) := by decide +kernel
theorem dX6_init_1 : decode cX6_init 1 = .ok (.invokespecial 3, 3) := by decide +kernel
theorem dX6_init_4 : decode cX6_init 4 = .ok (.aload_n 0, 1) := by decide +kernel
theorem dX6_init_5 : decode cX6_init 5 = .ok (.bipush 60, 2) := by decide +kernel
theorem dX6_init_7 : decode cX6_init 7 = .ok (.newarray .int, 2) := by decide +kernel
theorem dX6_init_9 : decode cX6_init 9 = .ok (.putfield 9, 3) := by decide +kernel
theorem dX6_init_12 : decode cX6_init 12 = .ok (.aload_n 0, 1) := by decide +kernel
theorem dX6_init_13 : decode cX6_init 13 = .ok (.iconst 1, 1) := by decide +kernel
theorem dX6_init_14 : decode cX6_init 14 = .ok (.putfield 15, 3) := by decide +kernel
theorem dX6_init_17 : decode cX6_init 17 = .ok (.return_, 1) := by decide +kernel
theorem dX6_renew_0 : decode cX6_renew 0 = .ok (.aload_n 0, 1) := by decide +kernel
theorem dX6_renew_1 : decode cX6_renew 1 = .ok (.getfield 9, 3) := by decide +kernel
theorem dX6_renew_4 : decode cX6_renew 4 = .ok (.iconst 0, 1) := by decide +kernel
theorem dX6_renew_5 : decode cX6_renew 5 = .ok (.invokestatic 19, 3) := by decide +kernel
theorem dX6_renew_8 : decode cX6_renew 8 = .ok (.aload_n 0, 1) := by decide +kernel
theorem dX6_renew_9 : decode cX6_renew 9 = .ok (.iconst 0, 1) := by decide +kernel
theorem dX6_renew_10 : decode cX6_renew 10 = .ok (.putfield 15, 3) := by decide +kernel
theorem dX6_renew_13 : decode cX6_renew 13 = .ok (.aload_n 0, 1) := by decide +kernel
theorem dX6_renew_14 : decode cX6_renew 14 = .ok (.iload_n 1, 1) := by decide +kernel
theorem dX6_renew_15 : decode cX6_renew 15 = .ok (.putfield 25, 3) := by decide +kernel
theorem dX6_renew_18 : decode cX6_renew 18 = .ok (.aload_n 0, 1) := by decide +kernel
theorem dX6_renew_19 : decode cX6_renew 19 = .ok (.iload_n 2, 1) := by decide +kernel
theorem dX6_renew_20 : decode cX6_renew 20 = .ok (.putfield 29, 3) := by decide +kernel
theorem dX6_renew_23 : decode cX6_renew 23 = .ok (.return_, 1) := by decide +kernel
theorem dX6_has_0 : decode cX6_has 0 = .ok (.iload_n 1, 1) := by decide +kernel
theorem dX6_has_1 : decode cX6_has 1 = .ok (.ifCond .lt 15, 3) := by decide +kernel
theorem dX6_has_4 : decode cX6_has 4 = .ok (.iload_n 1, 1) := by decide +kernel
theorem dX6_has_5 : decode cX6_has 5 = .ok (.aload_n 0, 1) := by decide +kernel
theorem dX6_has_6 : decode cX6_has 6 = .ok (.getfield 29, 3) := by decide +kernel
theorem dX6_has_9 : decode cX6_has 9 = .ok (.if_icmp .ge 7, 3) := by decide +kernel
theorem dX6_has_12 : decode cX6_has 12 = .ok (.iconst 1, 1) := by decide +kernel
theorem dX6_has_13 : decode cX6_has 13 = .ok (.goto 4, 3) := by decide +kernel
theorem dX6_has_16 : decode cX6_has 16 = .ok (.iconst 0, 1) := by decide +kernel
theorem dX6_has_17 : decode cX6_has 17 = .ok (.ireturn, 1) := by decide +kernel
theorem dX6_hasRow_0 : decode cX6_hasRow 0 = .ok (.iload_n 1, 1) := by decide +kernel
theorem dX6_hasRow_1 : decode cX6_hasRow 1 = .ok (.ifCond .lt 29, 3) := by decide +kernel
theorem dX6_hasRow_4 : decode cX6_hasRow 4 = .ok (.iload_n 2, 1) := by decide +kernel
theorem dX6_hasRow_5 : decode cX6_hasRow 5 = .ok (.ifCond .lt 25, 3) := by decide +kernel
theorem dX6_hasRow_8 : decode cX6_hasRow 8 = .ok (.iload_n 2, 1) := by decide +kernel
theorem dX6_hasRow_9 : decode cX6_hasRow 9 = .ok (.aload_n 0, 1) := by decide +kernel
theorem dX6_hasRow_10 : decode cX6_hasRow 10 = .ok (.getfield 29, 3) := by decide +kernel
theorem dX6_hasRow_13 : decode cX6_hasRow 13 = .ok (.if_icmp .gt 17, 3) := by decide +kernel
theorem dX6_hasRow_16 : decode cX6_hasRow 16 = .ok (.iload_n 1, 1) := by decide +kernel
theorem dX6_hasRow_17 : decode cX6_hasRow 17 = .ok (.aload_n 0, 1) := by decide +kernel
theorem dX6_hasRow_18 : decode cX6_hasRow 18 = .ok (.getfield 29, 3) := by decide +kernel
theorem dX6_hasRow_21 : decode cX6_hasRow 21 = .ok (.iload_n 2, 1) := by decide +kernel
theorem dX6_hasRow_22 : decode cX6_hasRow 22 = .ok (.isub, 1) := by decide +kernel
theorem dX6_hasRow_23 : decode cX6_hasRow 23 = .ok (.if_icmp .gt 7, 3) := by decide +kernel
theorem dX6_hasRow_26 : decode cX6_hasRow 26 = .ok (.iconst 1, 1) := by decide +kernel
theorem dX6_hasRow_27 : decode cX6_hasRow 27 = .ok (.goto 4, 3) := by decide +kernel
theorem dX6_hasRow_30 : decode cX6_hasRow 30 = .ok (.iconst 0, 1) := by decide +kernel
theorem dX6_hasRow_31 : decode cX6_hasRow 31 = .ok (.ireturn, 1) := by decide +kernel
theorem dX6_setItem_0 : decode cX6_setItem 0 = .ok (.aload_n 0, 1) := by decide +kernel
theorem dX6_setItem_1 : decode cX6_setItem 1 = .ok (.iload_n 1, 1) := by decide +kernel
theorem dX6_setItem_2 : decode cX6_setItem 2 = .ok (.invokevirtual 32, 3) := by decide +kernel
theorem dX6_setItem_5 : decode cX6_setItem 5 = .ok (.ifCond .ne 4, 3) := by decide +kernel
theorem dX6_setItem_8 : decode cX6_setItem 8 = .ok (.return_, 1) := by decide +kernel
theorem dX6_setItem_9 : decode cX6_setItem 9 = .ok (.aload_n 0, 1) := by decide +kernel
theorem dX6_setItem_10 : decode cX6_setItem 10 = .ok (.getfield 25, 3) := by decide +kernel
theorem dX6_setItem_13 : decode cX6_setItem 13 = .ok (.ifCond .ne 14, 3) := by decide +kernel
theorem dX6_setItem_16 : decode cX6_setItem 16 = .ok (.aload_n 0, 1) := by decide +kernel
theorem dX6_setItem_17 : decode cX6_setItem 17 = .ok (.getfield 9, 3) := by decide +kernel
theorem dX6_setItem_20 : decode cX6_setItem 20 = .ok (.iload_n 1, 1) := by decide +kernel
theorem dX6_setItem_21 : decode cX6_setItem 21 = .ok (.iload_n 2, 1) := by decide +kernel
theorem dX6_setItem_22 : decode cX6_setItem 22 = .ok (.i2b, 1) := by decide +kernel
theorem dX6_setItem_23 : decode cX6_setItem 23 = .ok (.iastore, 1) := by decide +kernel
theorem dX6_setItem_24 : decode cX6_setItem 24 = .ok (.goto 23, 3) := by decide +kernel
theorem dX6_setItem_27 : decode cX6_setItem 27 = .ok (.aload_n 0, 1) := by decide +kernel
theorem dX6_setItem_28 : decode cX6_setItem 28 = .ok (.getfield 9, 3) := by decide +kernel
theorem dX6_setItem_31 : decode cX6_setItem 31 = .ok (.iload_n 1, 1) := by decide +kernel
theorem dX6_setItem_32 : decode cX6_setItem 32 = .ok (.aload_n 0, 1) := by decide +kernel
theorem dX6_setItem_33 : decode cX6_setItem 33 = .ok (.getfield 25, 3) := by decide +kernel
theorem dX6_setItem_36 : decode cX6_setItem 36 = .ok (.iconst 1, 1) := by decide +kernel
theorem dX6_setItem_37 : decode cX6_setItem 37 = .ok (.if_icmp .ne 8, 3) := by decide +kernel
theorem dX6_setItem_40 : decode cX6_setItem 40 = .ok (.iload_n 2, 1) := by decide +kernel
theorem dX6_setItem_41 : decode cX6_setItem 41 = .ok (.i2s, 1) := by decide +kernel
theorem dX6_setItem_42 : decode cX6_setItem 42 = .ok (.goto 4, 3) := by decide +kernel
theorem dX6_setItem_45 : decode cX6_setItem 45 = .ok (.iload_n 2, 1) := by decide +kernel
theorem dX6_setItem_46 : decode cX6_setItem 46 = .ok (.iastore, 1) := by decide +kernel
theorem dX6_setItem_47 : decode cX6_setItem 47 = .ok (.return_, 1) := by decide +kernel
theorem dX7_init_0 : decode cX7_init 0 = .ok (.aload_n 0, 1) := by decide +kernel
theorem dX7_init_1 : decode cX7_init 1 = .ok (.invokespecial 3, 3) := by decide +kernel
theorem dX7_init_4 : decode cX7_init 4 = .ok (.aload_n 0, 1) := by decide +kernel
theorem dX7_init_5 : decode cX7_init 5 = .ok (.sipush 144, 3) := by decide +kernel
theorem dX7_init_8 : decode cX7_init 8 = .ok (.newarray .int, 2) := by decide +kernel
theorem dX7_init_10 : decode cX7_init 10 = .ok (.putfield 9, 3) := by decide +kernel
theorem dX7_init_13 : decode cX7_init 13 = .ok (.aload_n 0, 1) := by decide +kernel
theorem dX7_init_14 : decode cX7_init 14 = .ok (.sipush 4096, 3) := by decide +kernel
theorem dX7_init_17 : decode cX7_init 17 = .ok (.newarray .int, 2) := by decide +kernel
theorem dX7_init_19 : decode cX7_init 19 = .ok (.putfield 15, 3) := by decide +kernel
theorem dX7_init_22 : decode cX7_init 22 = .ok (.aload_n 0, 1) := by decide +kernel
theorem dX7_init_23 : decode cX7_init 23 = .ok (.getfield 9, 3) := by decide +kernel
theorem dX7_init_26 : decode cX7_init 26 = .ok (.bipush 50, 2) := by decide +kernel
theorem dX7_init_28 : decode cX7_init 28 = .ok (.invokestatic 18, 3) := by decide +kernel
theorem dX7_init_31 : decode cX7_init 31 = .ok (.return_, 1) := by decide +kernel
theorem dX7_setBetween_0 : decode cX7_setBetween 0 = .ok (.aload_n 0, 1) := by decide +kernel
theorem dX7_setBetween_1 : decode cX7_setBetween 1 = .ok (.getfield 9, 3) := by decide +kernel
theorem dX7_setBetween_4 : decode cX7_setBetween 4 = .ok (.iload_n 1, 1) := by decide +kernel
theorem dX7_setBetween_5 : decode cX7_setBetween 5 = .ok (.bipush 12, 2) := by decide +kernel
theorem dX7_setBetween_7 : decode cX7_setBetween 7 = .ok (.imul, 1) := by decide +kernel
theorem dX7_setBetween_8 : decode cX7_setBetween 8 = .ok (.iload_n 2, 1) := by decide +kernel
theorem dX7_setBetween_9 : decode cX7_setBetween 9 = .ok (.iadd, 1) := by decide +kernel
theorem dX7_setBetween_10 : decode cX7_setBetween 10 = .ok (.iaload, 1) := by decide +kernel
theorem dX7_setBetween_11 : decode cX7_setBetween 11 = .ok (.istore 4, 2) := by decide +kernel
theorem dX7_setBetween_13 : decode cX7_setBetween 13 = .ok (.aload_n 0, 1) := by decide +kernel
theorem dX7_setBetween_14 : decode cX7_setBetween 14 = .ok (.getfield 9, 3) := by decide +kernel
theorem dX7_setBetween_17 : decode cX7_setBetween 17 = .ok (.iload_n 1, 1) := by decide +kernel
theorem dX7_setBetween_18 : decode cX7_setBetween 18 = .ok (.bipush 12, 2) := by decide +kernel
theorem dX7_setBetween_20 : decode cX7_setBetween 20 = .ok (.imul, 1) := by decide +kernel
theorem dX7_setBetween_21 : decode cX7_setBetween 21 = .ok (.iload_n 2, 1) := by decide +kernel
theorem dX7_setBetween_22 : decode cX7_setBetween 22 = .ok (.iadd, 1) := by decide +kernel
theorem dX7_setBetween_23 : decode cX7_setBetween 23 = .ok (.iload_n 3, 1) := by decide +kernel
theorem dX7_setBetween_24 : decode cX7_setBetween 24 = .ok (.iastore, 1) := by decide +kernel
theorem dX7_setBetween_25 : decode cX7_setBetween 25 = .ok (.aload_n 0, 1) := by decide +kernel
theorem dX7_setBetween_26 : decode cX7_setBetween 26 = .ok (.getfield 9, 3) := by decide +kernel
theorem dX7_setBetween_29 : decode cX7_setBetween 29 = .ok (.iload_n 2, 1) := by decide +kernel
theorem dX7_setBetween_30 : decode cX7_setBetween 30 = .ok (.bipush 12, 2) := by decide +kernel
theorem dX7_setBetween_32 : decode cX7_setBetween 32 = .ok (.imul, 1) := by decide +kernel
theorem dX7_setBetween_33 : decode cX7_setBetween 33 = .ok (.iload_n 1, 1) := by decide +kernel
theorem dX7_setBetween_34 : decode cX7_setBetween 34 = .ok (.iadd, 1) := by decide +kernel
theorem dX7_setBetween_35 : decode cX7_setBetween 35 = .ok (.iload_n 3, 1) := by decide +kernel
theorem dX7_setBetween_36 : decode cX7_setBetween 36 = .ok (.iastore, 1) := by decide +kernel
theorem dX7_setBetween_37 : decode cX7_setBetween 37 = .ok (.iload 4, 2) := by decide +kernel
theorem dX7_setBetween_39 : decode cX7_setBetween 39 = .ok (.ireturn, 1) := by decide +kernel
theorem dX7_countDraws_0 : decode cX7_countDraws 0 = .ok (.aload_n 0, 1) := by decide +kernel
theorem dX7_countDraws_1 : decode cX7_countDraws 1 = .ok (.getfield 15, 3) := by decide +kernel
theorem dX7_countDraws_4 : decode cX7_countDraws 4 = .ok (.iconst 0, 1) := by decide +kernel
theorem dX7_countDraws_5 : decode cX7_countDraws 5 = .ok (.iconst 1, 1) := by decide +kernel
theorem dX7_countDraws_6 : decode cX7_countDraws 6 = .ok (.iastore, 1) := by decide +kernel
theorem dX7_countDraws_7 : decode cX7_countDraws 7 = .ok (.iconst 1, 1) := by decide +kernel
theorem dX7_countDraws_8 : decode cX7_countDraws 8 = .ok (.istore_n 3, 1) := by decide +kernel
theorem dX7_countDraws_9 : decode cX7_countDraws 9 = .ok (.iload_n 3, 1) := by decide +kernel
theorem dX7_countDraws_10 : decode cX7_countDraws 10 = .ok (.iload_n 1, 1) := by decide +kernel
theorem dX7_countDraws_11 : decode cX7_countDraws 11 = .ok (.if_icmp .gt 87, 3) := by decide +kernel
theorem dX7_countDraws_14 : decode cX7_countDraws 14 = .ok (.iload_n 3, 1) := by decide +kernel
theorem dX7_countDraws_15 : decode cX7_countDraws 15 = .ok (.iload_n 1, 1) := by decide +kernel
theorem dX7_countDraws_16 : decode cX7_countDraws 16 = .ok (.invokestatic 24, 3) := by decide +kernel
theorem dX7_countDraws_19 : decode cX7_countDraws 19 = .ok (.ifCond .eq 73, 3) := by decide +kernel
theorem dX7_countDraws_22 : decode cX7_countDraws 22 = .ok (.iload_n 3, 1) := by decide +kernel
theorem dX7_countDraws_23 : decode cX7_countDraws 23 = .ok (.invokestatic 28, 3) := by decide +kernel
theorem dX7_countDraws_26 : decode cX7_countDraws 26 = .ok (.istore 4, 2) := by decide +kernel
theorem dX7_countDraws_28 : decode cX7_countDraws 28 = .ok (.iconst 0, 1) := by decide +kernel
theorem dX7_countDraws_29 : decode cX7_countDraws 29 = .ok (.istore 5, 2) := by decide +kernel
theorem dX7_countDraws_31 : decode cX7_countDraws 31 = .ok (.iload 4, 2) := by decide +kernel
theorem dX7_countDraws_33 : decode cX7_countDraws 33 = .ok (.iconst 1, 1) := by decide +kernel
theorem dX7_countDraws_34 : decode cX7_countDraws 34 = .ok (.iadd, 1) := by decide +kernel
theorem dX7_countDraws_35 : decode cX7_countDraws 35 = .ok (.istore 6, 2) := by decide +kernel
theorem dX7_countDraws_37 : decode cX7_countDraws 37 = .ok (.iload 6, 2) := by decide +kernel
theorem dX7_countDraws_39 : decode cX7_countDraws 39 = .ok (.bipush 12, 2) := by decide +kernel
theorem dX7_countDraws_41 : decode cX7_countDraws 41 = .ok (.if_icmp .ge 43, 3) := by decide +kernel
theorem dX7_countDraws_44 : decode cX7_countDraws 44 = .ok (.aload_n 0, 1) := by decide +kernel
theorem dX7_countDraws_45 : decode cX7_countDraws 45 = .ok (.iload_n 3, 1) := by decide +kernel
theorem dX7_countDraws_46 : decode cX7_countDraws 46 = .ok (.iload 4, 2) := by decide +kernel
theorem dX7_countDraws_48 : decode cX7_countDraws 48 = .ok (.iload 6, 2) := by decide +kernel
theorem dX7_countDraws_50 : decode cX7_countDraws 50 = .ok (.iload_n 2, 1) := by decide +kernel
theorem dX7_countDraws_51 : decode cX7_countDraws 51 = .ok (.invokevirtual 34, 3) := by decide +kernel
theorem dX7_countDraws_54 : decode cX7_countDraws 54 = .ok (.ifCond .eq 24, 3) := by decide +kernel
theorem dX7_countDraws_57 : decode cX7_countDraws 57 = .ok (.iload 5, 2) := by decide +kernel
theorem dX7_countDraws_59 : decode cX7_countDraws 59 = .ok (.aload_n 0, 1) := by decide +kernel
theorem dX7_countDraws_60 : decode cX7_countDraws 60 = .ok (.getfield 15, 3) := by decide +kernel
theorem dX7_countDraws_63 : decode cX7_countDraws 63 = .ok (.iload_n 3, 1) := by decide +kernel
theorem dX7_countDraws_64 : decode cX7_countDraws 64 = .ok (.iconst 1, 1) := by decide +kernel
theorem dX7_countDraws_65 : decode cX7_countDraws 65 = .ok (.iload 4, 2) := by decide +kernel
theorem dX7_countDraws_67 : decode cX7_countDraws 67 = .ok (.ishl, 1) := by decide +kernel
theorem dX7_countDraws_68 : decode cX7_countDraws 68 = .ok (.ixor, 1) := by decide +kernel
theorem dX7_countDraws_69 : decode cX7_countDraws 69 = .ok (.iconst 1, 1) := by decide +kernel
theorem dX7_countDraws_70 : decode cX7_countDraws 70 = .ok (.iload 6, 2) := by decide +kernel
theorem dX7_countDraws_72 : decode cX7_countDraws 72 = .ok (.ishl, 1) := by decide +kernel
theorem dX7_countDraws_73 : decode cX7_countDraws 73 = .ok (.ixor, 1) := by decide +kernel
theorem dX7_countDraws_74 : decode cX7_countDraws 74 = .ok (.iaload, 1) := by decide +kernel
theorem dX7_countDraws_75 : decode cX7_countDraws 75 = .ok (.iadd, 1) := by decide +kernel
theorem dX7_countDraws_76 : decode cX7_countDraws 76 = .ok (.istore 5, 2) := by decide +kernel
theorem dX7_countDraws_78 : decode cX7_countDraws 78 = .ok (.iinc 6 1, 3) := by decide +kernel
theorem dX7_countDraws_81 : decode cX7_countDraws 81 = .ok (.goto (-44), 3) := by decide +kernel
theorem dX7_countDraws_84 : decode cX7_countDraws 84 = .ok (.aload_n 0, 1) := by decide +kernel
theorem dX7_countDraws_85 : decode cX7_countDraws 85 = .ok (.getfield 15, 3) := by decide +kernel
theorem dX7_countDraws_88 : decode cX7_countDraws 88 = .ok (.iload_n 3, 1) := by decide +kernel
theorem dX7_countDraws_89 : decode cX7_countDraws 89 = .ok (.iload 5, 2) := by decide +kernel
theorem dX7_countDraws_91 : decode cX7_countDraws 91 = .ok (.iastore, 1) := by decide +kernel
theorem dX7_countDraws_92 : decode cX7_countDraws 92 = .ok (.iinc 3 1, 3) := by decide +kernel
theorem dX7_countDraws_95 : decode cX7_countDraws 95 = .ok (.goto (-86), 3) := by decide +kernel
theorem dX7_countDraws_98 : decode cX7_countDraws 98 = .ok (.aload_n 0, 1) := by decide +kernel
theorem dX7_countDraws_99 : decode cX7_countDraws 99 = .ok (.getfield 15, 3) := by decide +kernel
theorem dX7_countDraws_102 : decode cX7_countDraws 102 = .ok (.iload_n 1, 1) := by decide +kernel
theorem dX7_countDraws_103 : decode cX7_countDraws 103 = .ok (.iaload, 1) := by decide +kernel
theorem dX7_countDraws_104 : decode cX7_countDraws 104 = .ok (.ireturn, 1) := by decide +kernel
theorem dX7_leastTogether_0 : decode cX7_leastTogether 0 = .ok (.aload_n 0, 1) := by decide +kernel
theorem dX7_leastTogether_1 : decode cX7_leastTogether 1 = .ok (.getfield 15, 3) := by decide +kernel
theorem dX7_leastTogether_4 : decode cX7_leastTogether 4 = .ok (.iconst 0, 1) := by decide +kernel
theorem dX7_leastTogether_5 : decode cX7_leastTogether 5 = .ok (.iconst 0, 1) := by decide +kernel
theorem dX7_leastTogether_6 : decode cX7_leastTogether 6 = .ok (.iastore, 1) := by decide +kernel
theorem dX7_leastTogether_7 : decode cX7_leastTogether 7 = .ok (.iconst 1, 1) := by decide +kernel
theorem dX7_leastTogether_8 : decode cX7_leastTogether 8 = .ok (.istore_n 3, 1) := by decide +kernel
theorem dX7_leastTogether_9 : decode cX7_leastTogether 9 = .ok (.iload_n 3, 1) := by decide +kernel
theorem dX7_leastTogether_10 : decode cX7_leastTogether 10 = .ok (.iload_n 1, 1) := by decide +kernel
theorem dX7_leastTogether_11 : decode cX7_leastTogether 11 = .ok (.if_icmp .gt 96, 3) := by decide +kernel
theorem dX7_leastTogether_14 : decode cX7_leastTogether 14 = .ok (.iload_n 3, 1) := by decide +kernel
theorem dX7_leastTogether_15 : decode cX7_leastTogether 15 = .ok (.iload_n 1, 1) := by decide +kernel
theorem dX7_leastTogether_16 : decode cX7_leastTogether 16 = .ok (.invokestatic 24, 3) := by decide +kernel
theorem dX7_leastTogether_19 : decode cX7_leastTogether 19 = .ok (.ifCond .eq 82, 3) := by decide +kernel
theorem dX7_leastTogether_22 : decode cX7_leastTogether 22 = .ok (.aload_n 0, 1) := by decide +kernel
theorem dX7_leastTogether_23 : decode cX7_leastTogether 23 = .ok (.getfield 15, 3) := by decide +kernel
theorem dX7_leastTogether_26 : decode cX7_leastTogether 26 = .ok (.iload_n 3, 1) := by decide +kernel
theorem dX7_leastTogether_27 : decode cX7_leastTogether 27 = .ok (.iconst (-1), 1) := by decide +kernel
theorem dX7_leastTogether_28 : decode cX7_leastTogether 28 = .ok (.iastore, 1) := by decide +kernel
theorem dX7_leastTogether_29 : decode cX7_leastTogether 29 = .ok (.iload_n 3, 1) := by decide +kernel
theorem dX7_leastTogether_30 : decode cX7_leastTogether 30 = .ok (.invokestatic 28, 3) := by decide +kernel
theorem dX7_leastTogether_33 : decode cX7_leastTogether 33 = .ok (.istore 4, 2) := by decide +kernel
theorem dX7_leastTogether_35 : decode cX7_leastTogether 35 = .ok (.iload 4, 2) := by decide +kernel
theorem dX7_leastTogether_37 : decode cX7_leastTogether 37 = .ok (.iconst 1, 1) := by decide +kernel
theorem dX7_leastTogether_38 : decode cX7_leastTogether 38 = .ok (.iadd, 1) := by decide +kernel
theorem dX7_leastTogether_39 : decode cX7_leastTogether 39 = .ok (.istore 5, 2) := by decide +kernel
theorem dX7_leastTogether_41 : decode cX7_leastTogether 41 = .ok (.iload 5, 2) := by decide +kernel
theorem dX7_leastTogether_43 : decode cX7_leastTogether 43 = .ok (.bipush 12, 2) := by decide +kernel
theorem dX7_leastTogether_45 : decode cX7_leastTogether 45 = .ok (.if_icmp .ge 56, 3) := by decide +kernel
theorem dX7_leastTogether_48 : decode cX7_leastTogether 48 = .ok (.aload_n 0, 1) := by decide +kernel
theorem dX7_leastTogether_49 : decode cX7_leastTogether 49 = .ok (.iload_n 3, 1) := by decide +kernel
theorem dX7_leastTogether_50 : decode cX7_leastTogether 50 = .ok (.iload 4, 2) := by decide +kernel
theorem dX7_leastTogether_52 : decode cX7_leastTogether 52 = .ok (.iload 5, 2) := by decide +kernel
theorem dX7_leastTogether_54 : decode cX7_leastTogether 54 = .ok (.iload_n 2, 1) := by decide +kernel
theorem dX7_leastTogether_55 : decode cX7_leastTogether 55 = .ok (.invokevirtual 38, 3) := by decide +kernel
theorem dX7_leastTogether_58 : decode cX7_leastTogether 58 = .ok (.istore 6, 2) := by decide +kernel
theorem dX7_leastTogether_60 : decode cX7_leastTogether 60 = .ok (.iload 6, 2) := by decide +kernel
theorem dX7_leastTogether_62 : decode cX7_leastTogether 62 = .ok (.iconst (-1), 1) := by decide +kernel
theorem dX7_leastTogether_63 : decode cX7_leastTogether 63 = .ok (.if_icmp .eq 32, 3) := by decide +kernel
theorem dX7_leastTogether_66 : decode cX7_leastTogether 66 = .ok (.aload_n 0, 1) := by decide +kernel
theorem dX7_leastTogether_67 : decode cX7_leastTogether 67 = .ok (.getfield 15, 3) := by decide +kernel
theorem dX7_leastTogether_70 : decode cX7_leastTogether 70 = .ok (.iload_n 3, 1) := by decide +kernel
theorem dX7_leastTogether_71 : decode cX7_leastTogether 71 = .ok (.iaload, 1) := by decide +kernel
theorem dX7_leastTogether_72 : decode cX7_leastTogether 72 = .ok (.iconst (-1), 1) := by decide +kernel
theorem dX7_leastTogether_73 : decode cX7_leastTogether 73 = .ok (.if_icmp .eq 14, 3) := by decide +kernel
theorem dX7_leastTogether_76 : decode cX7_leastTogether 76 = .ok (.iload 6, 2) := by decide +kernel
theorem dX7_leastTogether_78 : decode cX7_leastTogether 78 = .ok (.aload_n 0, 1) := by decide +kernel
theorem dX7_leastTogether_79 : decode cX7_leastTogether 79 = .ok (.getfield 15, 3) := by decide +kernel
theorem dX7_leastTogether_82 : decode cX7_leastTogether 82 = .ok (.iload_n 3, 1) := by decide +kernel
theorem dX7_leastTogether_83 : decode cX7_leastTogether 83 = .ok (.iaload, 1) := by decide +kernel
theorem dX7_leastTogether_84 : decode cX7_leastTogether 84 = .ok (.if_icmp .ge 11, 3) := by decide +kernel
theorem dX7_leastTogether_87 : decode cX7_leastTogether 87 = .ok (.aload_n 0, 1) := by decide +kernel
theorem dX7_leastTogether_88 : decode cX7_leastTogether 88 = .ok (.getfield 15, 3) := by decide +kernel
theorem dX7_leastTogether_91 : decode cX7_leastTogether 91 = .ok (.iload_n 3, 1) := by decide +kernel
theorem dX7_leastTogether_92 : decode cX7_leastTogether 92 = .ok (.iload 6, 2) := by decide +kernel
theorem dX7_leastTogether_94 : decode cX7_leastTogether 94 = .ok (.iastore, 1) := by decide +kernel
theorem dX7_leastTogether_95 : decode cX7_leastTogether 95 = .ok (.iinc 5 1, 3) := by decide +kernel
theorem dX7_leastTogether_98 : decode cX7_leastTogether 98 = .ok (.goto (-57), 3) := by decide +kernel
theorem dX7_leastTogether_101 : decode cX7_leastTogether 101 = .ok (.iinc 3 1, 3) := by decide +kernel
theorem dX7_leastTogether_104 : decode cX7_leastTogether 104 = .ok (.goto (-95), 3) := by decide +kernel
theorem dX7_leastTogether_107 : decode cX7_leastTogether 107 = .ok (.aload_n 0, 1) := by decide +kernel
theorem dX7_leastTogether_108 : decode cX7_leastTogether 108 = .ok (.getfield 15, 3) := by decide +kernel
theorem dX7_leastTogether_111 : decode cX7_leastTogether 111 = .ok (.iload_n 1, 1) := by decide +kernel
theorem dX7_leastTogether_112 : decode cX7_leastTogether 112 = .ok (.iaload, 1) := by decide +kernel
theorem dX7_leastTogether_113 : decode cX7_leastTogether 113 = .ok (.ireturn, 1) := by decide +kernel
theorem dX7_mateOf_0 : decode cX7_mateOf 0 = .ok (.iload_n 2, 1) := by decide +kernel
theorem dX7_mateOf_1 : decode cX7_mateOf 1 = .ok (.istore 4, 2) := by decide +kernel
theorem dX7_mateOf_3 : decode cX7_mateOf 3 = .ok (.iconst 0, 1) := by decide +kernel
theorem dX7_mateOf_4 : decode cX7_mateOf 4 = .ok (.istore 5, 2) := by decide +kernel
theorem dX7_mateOf_6 : decode cX7_mateOf 6 = .ok (.iload 5, 2) := by decide +kernel
theorem dX7_mateOf_8 : decode cX7_mateOf 8 = .ok (.bipush 6, 2) := by decide +kernel
theorem dX7_mateOf_10 : decode cX7_mateOf 10 = .ok (.if_icmp .ge 95, 3) := by decide +kernel
theorem dX7_mateOf_13 : decode cX7_mateOf 13 = .ok (.iload 4, 2) := by decide +kernel
theorem dX7_mateOf_15 : decode cX7_mateOf 15 = .ok (.ifCond .eq 90, 3) := by decide +kernel
theorem dX7_mateOf_18 : decode cX7_mateOf 18 = .ok (.iload 4, 2) := by decide +kernel
theorem dX7_mateOf_20 : decode cX7_mateOf 20 = .ok (.invokestatic 28, 3) := by decide +kernel
theorem dX7_mateOf_23 : decode cX7_mateOf 23 = .ok (.istore 6, 2) := by decide +kernel
theorem dX7_mateOf_25 : decode cX7_mateOf 25 = .ok (.iload 6, 2) := by decide +kernel
theorem dX7_mateOf_27 : decode cX7_mateOf 27 = .ok (.iconst 1, 1) := by decide +kernel
theorem dX7_mateOf_28 : decode cX7_mateOf 28 = .ok (.iadd, 1) := by decide +kernel
theorem dX7_mateOf_29 : decode cX7_mateOf 29 = .ok (.istore 7, 2) := by decide +kernel
theorem dX7_mateOf_31 : decode cX7_mateOf 31 = .ok (.iload 7, 2) := by decide +kernel
theorem dX7_mateOf_33 : decode cX7_mateOf 33 = .ok (.bipush 11, 2) := by decide +kernel
theorem dX7_mateOf_35 : decode cX7_mateOf 35 = .ok (.if_icmp .ge 30, 3) := by decide +kernel
theorem dX7_mateOf_38 : decode cX7_mateOf 38 = .ok (.aload_n 0, 1) := by decide +kernel
theorem dX7_mateOf_39 : decode cX7_mateOf 39 = .ok (.iload 4, 2) := by decide +kernel
theorem dX7_mateOf_41 : decode cX7_mateOf 41 = .ok (.iload 6, 2) := by decide +kernel
theorem dX7_mateOf_43 : decode cX7_mateOf 43 = .ok (.iload 7, 2) := by decide +kernel
theorem dX7_mateOf_45 : decode cX7_mateOf 45 = .ok (.iload_n 3, 1) := by decide +kernel
theorem dX7_mateOf_46 : decode cX7_mateOf 46 = .ok (.invokevirtual 38, 3) := by decide +kernel
theorem dX7_mateOf_49 : decode cX7_mateOf 49 = .ok (.aload_n 0, 1) := by decide +kernel
theorem dX7_mateOf_50 : decode cX7_mateOf 50 = .ok (.getfield 15, 3) := by decide +kernel
theorem dX7_mateOf_53 : decode cX7_mateOf 53 = .ok (.iload 4, 2) := by decide +kernel
theorem dX7_mateOf_55 : decode cX7_mateOf 55 = .ok (.iaload, 1) := by decide +kernel
theorem dX7_mateOf_56 : decode cX7_mateOf 56 = .ok (.if_icmp .eq 9, 3) := by decide +kernel
theorem dX7_mateOf_59 : decode cX7_mateOf 59 = .ok (.iinc 7 1, 3) := by decide +kernel
theorem dX7_mateOf_62 : decode cX7_mateOf 62 = .ok (.goto (-31), 3) := by decide +kernel
theorem dX7_mateOf_65 : decode cX7_mateOf 65 = .ok (.iload_n 1, 1) := by decide +kernel
theorem dX7_mateOf_66 : decode cX7_mateOf 66 = .ok (.iload 6, 2) := by decide +kernel
theorem dX7_mateOf_68 : decode cX7_mateOf 68 = .ok (.if_icmp .ne 6, 3) := by decide +kernel
theorem dX7_mateOf_71 : decode cX7_mateOf 71 = .ok (.iload 7, 2) := by decide +kernel
theorem dX7_mateOf_73 : decode cX7_mateOf 73 = .ok (.ireturn, 1) := by decide +kernel
theorem dX7_mateOf_74 : decode cX7_mateOf 74 = .ok (.iload_n 1, 1) := by decide +kernel
theorem dX7_mateOf_75 : decode cX7_mateOf 75 = .ok (.iload 7, 2) := by decide +kernel
theorem dX7_mateOf_77 : decode cX7_mateOf 77 = .ok (.if_icmp .ne 6, 3) := by decide +kernel
theorem dX7_mateOf_80 : decode cX7_mateOf 80 = .ok (.iload 6, 2) := by decide +kernel
theorem dX7_mateOf_82 : decode cX7_mateOf 82 = .ok (.ireturn, 1) := by decide +kernel
theorem dX7_mateOf_83 : decode cX7_mateOf 83 = .ok (.iload 4, 2) := by decide +kernel
theorem dX7_mateOf_85 : decode cX7_mateOf 85 = .ok (.iconst 1, 1) := by decide +kernel
theorem dX7_mateOf_86 : decode cX7_mateOf 86 = .ok (.iload 6, 2) := by decide +kernel
theorem dX7_mateOf_88 : decode cX7_mateOf 88 = .ok (.ishl, 1) := by decide +kernel
theorem dX7_mateOf_89 : decode cX7_mateOf 89 = .ok (.iconst 1, 1) := by decide +kernel
theorem dX7_mateOf_90 : decode cX7_mateOf 90 = .ok (.iload 7, 2) := by decide +kernel
theorem dX7_mateOf_92 : decode cX7_mateOf 92 = .ok (.ishl, 1) := by decide +kernel
theorem dX7_mateOf_93 : decode cX7_mateOf 93 = .ok (.ior, 1) := by decide +kernel
theorem dX7_mateOf_94 : decode cX7_mateOf 94 = .ok (.iconst (-1), 1) := by decide +kernel
theorem dX7_mateOf_95 : decode cX7_mateOf 95 = .ok (.ixor, 1) := by decide +kernel
theorem dX7_mateOf_96 : decode cX7_mateOf 96 = .ok (.iand, 1) := by decide +kernel
theorem dX7_mateOf_97 : decode cX7_mateOf 97 = .ok (.istore 4, 2) := by decide +kernel
theorem dX7_mateOf_99 : decode cX7_mateOf 99 = .ok (.iinc 5 1, 3) := by decide +kernel
theorem dX7_mateOf_102 : decode cX7_mateOf 102 = .ok (.goto (-96), 3) := by decide +kernel
theorem dX7_mateOf_105 : decode cX7_mateOf 105 = .ok (.iconst (-1), 1) := by decide +kernel
theorem dX7_mateOf_106 : decode cX7_mateOf 106 = .ok (.ireturn, 1) := by decide +kernel
theorem dX7_isPart_0 : decode cX7_isPart 0 = .ok (.iload_n 0, 1) := by decide +kernel
theorem dX7_isPart_1 : decode cX7_isPart 1 = .ok (.iload_n 1, 1) := by decide +kernel
theorem dX7_isPart_2 : decode cX7_isPart 2 = .ok (.iconst (-1), 1) := by decide +kernel
theorem dX7_isPart_3 : decode cX7_isPart 3 = .ok (.ixor, 1) := by decide +kernel
theorem dX7_isPart_4 : decode cX7_isPart 4 = .ok (.iand, 1) := by decide +kernel
theorem dX7_isPart_5 : decode cX7_isPart 5 = .ok (.ifCond .ne 16, 3) := by decide +kernel
theorem dX7_isPart_8 : decode cX7_isPart 8 = .ok (.iload_n 0, 1) := by decide +kernel
theorem dX7_isPart_9 : decode cX7_isPart 9 = .ok (.invokestatic 42, 3) := by decide +kernel
theorem dX7_isPart_12 : decode cX7_isPart 12 = .ok (.iconst 2, 1) := by decide +kernel
theorem dX7_isPart_13 : decode cX7_isPart 13 = .ok (.irem, 1) := by decide +kernel
theorem dX7_isPart_14 : decode cX7_isPart 14 = .ok (.ifCond .ne 7, 3) := by decide +kernel
theorem dX7_isPart_17 : decode cX7_isPart 17 = .ok (.iconst 1, 1) := by decide +kernel
theorem dX7_isPart_18 : decode cX7_isPart 18 = .ok (.goto 4, 3) := by decide +kernel
theorem dX7_isPart_21 : decode cX7_isPart 21 = .ok (.iconst 0, 1) := by decide +kernel
theorem dX7_isPart_22 : decode cX7_isPart 22 = .ok (.ireturn, 1) := by decide +kernel
theorem dX7_canMeet_0 : decode cX7_canMeet 0 = .ok (.iload_n 1, 1) := by decide +kernel
theorem dX7_canMeet_1 : decode cX7_canMeet 1 = .ok (.iload_n 3, 1) := by decide +kernel
theorem dX7_canMeet_2 : decode cX7_canMeet 2 = .ok (.ishr, 1) := by decide +kernel
theorem dX7_canMeet_3 : decode cX7_canMeet 3 = .ok (.iconst 1, 1) := by decide +kernel
theorem dX7_canMeet_4 : decode cX7_canMeet 4 = .ok (.iand, 1) := by decide +kernel
theorem dX7_canMeet_5 : decode cX7_canMeet 5 = .ok (.iconst 1, 1) := by decide +kernel
theorem dX7_canMeet_6 : decode cX7_canMeet 6 = .ok (.if_icmp .ne 23, 3) := by decide +kernel
theorem dX7_canMeet_9 : decode cX7_canMeet 9 = .ok (.aload_n 0, 1) := by decide +kernel
theorem dX7_canMeet_10 : decode cX7_canMeet 10 = .ok (.getfield 9, 3) := by decide +kernel
theorem dX7_canMeet_13 : decode cX7_canMeet 13 = .ok (.iload_n 2, 1) := by decide +kernel
theorem dX7_canMeet_14 : decode cX7_canMeet 14 = .ok (.bipush 12, 2) := by decide +kernel
theorem dX7_canMeet_16 : decode cX7_canMeet 16 = .ok (.imul, 1) := by decide +kernel
theorem dX7_canMeet_17 : decode cX7_canMeet 17 = .ok (.iload_n 3, 1) := by decide +kernel
theorem dX7_canMeet_18 : decode cX7_canMeet 18 = .ok (.iadd, 1) := by decide +kernel
theorem dX7_canMeet_19 : decode cX7_canMeet 19 = .ok (.iaload, 1) := by decide +kernel
theorem dX7_canMeet_20 : decode cX7_canMeet 20 = .ok (.iload 4, 2) := by decide +kernel
theorem dX7_canMeet_22 : decode cX7_canMeet 22 = .ok (.if_icmp .gt 7, 3) := by decide +kernel
theorem dX7_canMeet_25 : decode cX7_canMeet 25 = .ok (.iconst 1, 1) := by decide +kernel
theorem dX7_canMeet_26 : decode cX7_canMeet 26 = .ok (.goto 4, 3) := by decide +kernel
theorem dX7_canMeet_29 : decode cX7_canMeet 29 = .ok (.iconst 0, 1) := by decide +kernel
theorem dX7_canMeet_30 : decode cX7_canMeet 30 = .ok (.ireturn, 1) := by decide +kernel
theorem dX7_togetherWith_0 : decode cX7_togetherWith 0 = .ok (.aload_n 0, 1) := by decide +kernel
theorem dX7_togetherWith_1 : decode cX7_togetherWith 1 = .ok (.iload_n 1, 1) := by decide +kernel
theorem dX7_togetherWith_2 : decode cX7_togetherWith 2 = .ok (.iload_n 2, 1) := by decide +kernel
theorem dX7_togetherWith_3 : decode cX7_togetherWith 3 = .ok (.iload_n 3, 1) := by decide +kernel
theorem dX7_togetherWith_4 : decode cX7_togetherWith 4 = .ok (.iload 4, 2) := by decide +kernel
theorem dX7_togetherWith_6 : decode cX7_togetherWith 6 = .ok (.invokevirtual 34, 3) := by decide +kernel
theorem dX7_togetherWith_9 : decode cX7_togetherWith 9 = .ok (.ifCond .ne 5, 3) := by decide +kernel
theorem dX7_togetherWith_12 : decode cX7_togetherWith 12 = .ok (.iconst (-1), 1) := by decide +kernel
theorem dX7_togetherWith_13 : decode cX7_togetherWith 13 = .ok (.ireturn, 1) := by decide +kernel
theorem dX7_togetherWith_14 : decode cX7_togetherWith 14 = .ok (.aload_n 0, 1) := by decide +kernel
theorem dX7_togetherWith_15 : decode cX7_togetherWith 15 = .ok (.getfield 15, 3) := by decide +kernel
theorem dX7_togetherWith_18 : decode cX7_togetherWith 18 = .ok (.iload_n 1, 1) := by decide +kernel
theorem dX7_togetherWith_19 : decode cX7_togetherWith 19 = .ok (.iconst 1, 1) := by decide +kernel
theorem dX7_togetherWith_20 : decode cX7_togetherWith 20 = .ok (.iload_n 2, 1) := by decide +kernel
theorem dX7_togetherWith_21 : decode cX7_togetherWith 21 = .ok (.ishl, 1) := by decide +kernel
theorem dX7_togetherWith_22 : decode cX7_togetherWith 22 = .ok (.ixor, 1) := by decide +kernel
theorem dX7_togetherWith_23 : decode cX7_togetherWith 23 = .ok (.iconst 1, 1) := by decide +kernel
theorem dX7_togetherWith_24 : decode cX7_togetherWith 24 = .ok (.iload_n 3, 1) := by decide +kernel
theorem dX7_togetherWith_25 : decode cX7_togetherWith 25 = .ok (.ishl, 1) := by decide +kernel
theorem dX7_togetherWith_26 : decode cX7_togetherWith 26 = .ok (.ixor, 1) := by decide +kernel
theorem dX7_togetherWith_27 : decode cX7_togetherWith 27 = .ok (.iaload, 1) := by decide +kernel
theorem dX7_togetherWith_28 : decode cX7_togetherWith 28 = .ok (.istore 5, 2) := by decide +kernel
theorem dX7_togetherWith_30 : decode cX7_togetherWith 30 = .ok (.iload 5, 2) := by decide +kernel
theorem dX7_togetherWith_32 : decode cX7_togetherWith 32 = .ok (.iconst (-1), 1) := by decide +kernel
theorem dX7_togetherWith_33 : decode cX7_togetherWith 33 = .ok (.if_icmp .ne 7, 3) := by decide +kernel
theorem dX7_togetherWith_36 : decode cX7_togetherWith 36 = .ok (.iconst (-1), 1) := by decide +kernel
theorem dX7_togetherWith_37 : decode cX7_togetherWith 37 = .ok (.goto 17, 3) := by decide +kernel
theorem dX7_togetherWith_40 : decode cX7_togetherWith 40 = .ok (.iload 5, 2) := by decide +kernel
theorem dX7_togetherWith_42 : decode cX7_togetherWith 42 = .ok (.aload_n 0, 1) := by decide +kernel
theorem dX7_togetherWith_43 : decode cX7_togetherWith 43 = .ok (.getfield 9, 3) := by decide +kernel
theorem dX7_togetherWith_46 : decode cX7_togetherWith 46 = .ok (.iload_n 2, 1) := by decide +kernel
theorem dX7_togetherWith_47 : decode cX7_togetherWith 47 = .ok (.bipush 12, 2) := by decide +kernel
theorem dX7_togetherWith_49 : decode cX7_togetherWith 49 = .ok (.imul, 1) := by decide +kernel
theorem dX7_togetherWith_50 : decode cX7_togetherWith 50 = .ok (.iload_n 3, 1) := by decide +kernel
theorem dX7_togetherWith_51 : decode cX7_togetherWith 51 = .ok (.iadd, 1) := by decide +kernel
theorem dX7_togetherWith_52 : decode cX7_togetherWith 52 = .ok (.iaload, 1) := by decide +kernel
theorem dX7_togetherWith_53 : decode cX7_togetherWith 53 = .ok (.iadd, 1) := by decide +kernel
theorem dX7_togetherWith_54 : decode cX7_togetherWith 54 = .ok (.ireturn, 1) := by decide +kernel
theorem dX8_init_0 : decode cX8_init 0 = .ok (.aload_n 0, 1) := by decide +kernel
theorem dX8_init_1 : decode cX8_init 1 = .ok (.invokespecial 3, 3) := by decide +kernel
theorem dX8_init_4 : decode cX8_init 4 = .ok (.aload_n 0, 1) := by decide +kernel
theorem dX8_init_5 : decode cX8_init 5 = .ok (.bipush 11, 2) := by decide +kernel
theorem dX8_init_7 : decode cX8_init 7 = .ok (.anewarray 9, 3) := by decide +kernel
theorem dX8_init_10 : decode cX8_init 10 = .ok (.putfield 11, 3) := by decide +kernel
theorem dX8_init_13 : decode cX8_init 13 = .ok (.aload_n 0, 1) := by decide +kernel
theorem dX8_init_14 : decode cX8_init 14 = .ok (.bipush 12, 2) := by decide +kernel
theorem dX8_init_16 : decode cX8_init 16 = .ok (.anewarray 15, 3) := by decide +kernel
theorem dX8_init_19 : decode cX8_init 19 = .ok (.putfield 17, 3) := by decide +kernel
theorem dX8_init_22 : decode cX8_init 22 = .ok (.aload_n 0, 1) := by decide +kernel
theorem dX8_init_23 : decode cX8_init 23 = .ok (.bipush 12, 2) := by decide +kernel
theorem dX8_init_25 : decode cX8_init 25 = .ok (.anewarray 21, 3) := by decide +kernel
theorem dX8_init_28 : decode cX8_init 28 = .ok (.putfield 23, 3) := by decide +kernel
theorem dX8_init_31 : decode cX8_init 31 = .ok (.aload_n 0, 1) := by decide +kernel
theorem dX8_init_32 : decode cX8_init 32 = .ok (.iconst 4, 1) := by decide +kernel
theorem dX8_init_33 : decode cX8_init 33 = .ok (.anewarray 27, 3) := by decide +kernel
theorem dX8_init_36 : decode cX8_init 36 = .ok (.putfield 29, 3) := by decide +kernel
theorem dX8_init_39 : decode cX8_init 39 = .ok (.aload_n 0, 1) := by decide +kernel
theorem dX8_init_40 : decode cX8_init 40 = .ok (.getstatic 33, 3) := by decide +kernel
theorem dX8_init_43 : decode cX8_init 43 = .ok (.invokevirtual 37, 3) := by decide +kernel
theorem dX8_init_46 : decode cX8_init 46 = .ok (.checkcast 38, 3) := by decide +kernel
theorem dX8_init_49 : decode cX8_init 49 = .ok (.putfield 42, 3) := by decide +kernel
theorem dX8_init_52 : decode cX8_init 52 = .ok (.aload_n 0, 1) := by decide +kernel
theorem dX8_init_53 : decode cX8_init 53 = .ok (.bipush 17, 2) := by decide +kernel
theorem dX8_init_55 : decode cX8_init 55 = .ok (.newarray .int, 2) := by decide +kernel
theorem dX8_init_57 : decode cX8_init 57 = .ok (.putfield 45, 3) := by decide +kernel
theorem dX8_init_60 : decode cX8_init 60 = .ok (.aload_n 0, 1) := by decide +kernel
theorem dX8_init_61 : decode cX8_init 61 = .ok (.new 48, 3) := by decide +kernel
theorem dX8_init_64 : decode cX8_init 64 = .ok (.dup, 1) := by decide +kernel
theorem dX8_init_65 : decode cX8_init 65 = .ok (.invokespecial 50, 3) := by decide +kernel
theorem dX8_init_68 : decode cX8_init 68 = .ok (.putfield 51, 3) := by decide +kernel
theorem dX8_init_71 : decode cX8_init 71 = .ok (.aload_n 0, 1) := by decide +kernel
theorem dX8_init_72 : decode cX8_init 72 = .ok (.new 55, 3) := by decide +kernel
theorem dX8_init_75 : decode cX8_init 75 = .ok (.dup, 1) := by decide +kernel
theorem dX8_init_76 : decode cX8_init 76 = .ok (.invokespecial 57, 3) := by decide +kernel
theorem dX8_init_79 : decode cX8_init 79 = .ok (.putfield 58, 3) := by decide +kernel
theorem dX8_init_82 : decode cX8_init 82 = .ok (.aload_n 0, 1) := by decide +kernel
theorem dX8_init_83 : decode cX8_init 83 = .ok (.new 62, 3) := by decide +kernel
theorem dX8_init_86 : decode cX8_init 86 = .ok (.dup, 1) := by decide +kernel
theorem dX8_init_87 : decode cX8_init 87 = .ok (.invokespecial 64, 3) := by decide +kernel
theorem dX8_init_90 : decode cX8_init 90 = .ok (.putfield 65, 3) := by decide +kernel
theorem dX8_init_93 : decode cX8_init 93 = .ok (.aload_n 0, 1) := by decide +kernel
theorem dX8_init_94 : decode cX8_init 94 = .ok (.new 69, 3) := by decide +kernel
theorem dX8_init_97 : decode cX8_init 97 = .ok (.dup, 1) := by decide +kernel
theorem dX8_init_98 : decode cX8_init 98 = .ok (.invokespecial 71, 3) := by decide +kernel
theorem dX8_init_101 : decode cX8_init 101 = .ok (.putfield 72, 3) := by decide +kernel
theorem dX8_init_104 : decode cX8_init 104 = .ok (.aload_n 0, 1) := by decide +kernel
theorem dX8_init_105 : decode cX8_init 105 = .ok (.iconst 2, 1) := by decide +kernel
theorem dX8_init_106 : decode cX8_init 106 = .ok (.putfield 76, 3) := by decide +kernel
theorem dX8_init_109 : decode cX8_init 109 = .ok (.aload_n 0, 1) := by decide +kernel
theorem dX8_init_110 : decode cX8_init 110 = .ok (.iconst 3, 1) := by decide +kernel
theorem dX8_init_111 : decode cX8_init 111 = .ok (.putfield 80, 3) := by decide +kernel
theorem dX8_init_114 : decode cX8_init 114 = .ok (.aload_n 0, 1) := by decide +kernel
theorem dX8_init_115 : decode cX8_init 115 = .ok (.iconst 1, 1) := by decide +kernel
theorem dX8_init_116 : decode cX8_init 116 = .ok (.putfield 83, 3) := by decide +kernel
theorem dX8_init_119 : decode cX8_init 119 = .ok (.iconst 0, 1) := by decide +kernel
theorem dX8_init_120 : decode cX8_init 120 = .ok (.istore_n 1, 1) := by decide +kernel
theorem dX8_init_121 : decode cX8_init 121 = .ok (.iload_n 1, 1) := by decide +kernel
theorem dX8_init_122 : decode cX8_init 122 = .ok (.bipush 11, 2) := by decide +kernel
theorem dX8_init_124 : decode cX8_init 124 = .ok (.if_icmp .ge 22, 3) := by decide +kernel
theorem dX8_init_127 : decode cX8_init 127 = .ok (.aload_n 0, 1) := by decide +kernel
theorem dX8_init_128 : decode cX8_init 128 = .ok (.getfield 11, 3) := by decide +kernel
theorem dX8_init_131 : decode cX8_init 131 = .ok (.iload_n 1, 1) := by decide +kernel
theorem dX8_init_132 : decode cX8_init 132 = .ok (.new 9, 3) := by decide +kernel
theorem dX8_init_135 : decode cX8_init 135 = .ok (.dup, 1) := by decide +kernel
theorem dX8_init_136 : decode cX8_init 136 = .ok (.invokespecial 86, 3) := by decide +kernel
theorem dX8_init_139 : decode cX8_init 139 = .ok (.aastore, 1) := by decide +kernel
theorem dX8_init_140 : decode cX8_init 140 = .ok (.iinc 1 1, 3) := by decide +kernel
theorem dX8_init_143 : decode cX8_init 143 = .ok (.goto (-22), 3) := by decide +kernel
theorem dX8_init_146 : decode cX8_init 146 = .ok (.iconst 0, 1) := by decide +kernel
theorem dX8_init_147 : decode cX8_init 147 = .ok (.istore_n 1, 1) := by decide +kernel
theorem dX8_init_148 : decode cX8_init 148 = .ok (.iload_n 1, 1) := by decide +kernel
theorem dX8_init_149 : decode cX8_init 149 = .ok (.bipush 12, 2) := by decide +kernel
theorem dX8_init_151 : decode cX8_init 151 = .ok (.if_icmp .ge 22, 3) := by decide +kernel
theorem dX8_init_154 : decode cX8_init 154 = .ok (.aload_n 0, 1) := by decide +kernel
theorem dX8_init_155 : decode cX8_init 155 = .ok (.getfield 17, 3) := by decide +kernel
theorem dX8_init_158 : decode cX8_init 158 = .ok (.iload_n 1, 1) := by decide +kernel
theorem dX8_init_159 : decode cX8_init 159 = .ok (.new 15, 3) := by decide +kernel
theorem dX8_init_162 : decode cX8_init 162 = .ok (.dup, 1) := by decide +kernel
theorem dX8_init_163 : decode cX8_init 163 = .ok (.invokespecial 87, 3) := by decide +kernel
theorem dX8_init_166 : decode cX8_init 166 = .ok (.aastore, 1) := by decide +kernel
theorem dX8_init_167 : decode cX8_init 167 = .ok (.iinc 1 1, 3) := by decide +kernel
theorem dX8_init_170 : decode cX8_init 170 = .ok (.goto (-22), 3) := by decide +kernel
theorem dX8_init_173 : decode cX8_init 173 = .ok (.iconst 0, 1) := by decide +kernel
theorem dX8_init_174 : decode cX8_init 174 = .ok (.istore_n 1, 1) := by decide +kernel
theorem dX8_init_175 : decode cX8_init 175 = .ok (.iload_n 1, 1) := by decide +kernel
theorem dX8_init_176 : decode cX8_init 176 = .ok (.bipush 12, 2) := by decide +kernel
theorem dX8_init_178 : decode cX8_init 178 = .ok (.if_icmp .ge 22, 3) := by decide +kernel
theorem dX8_init_181 : decode cX8_init 181 = .ok (.aload_n 0, 1) := by decide +kernel
theorem dX8_init_182 : decode cX8_init 182 = .ok (.getfield 23, 3) := by decide +kernel
theorem dX8_init_185 : decode cX8_init 185 = .ok (.iload_n 1, 1) := by decide +kernel
theorem dX8_init_186 : decode cX8_init 186 = .ok (.new 21, 3) := by decide +kernel
theorem dX8_init_189 : decode cX8_init 189 = .ok (.dup, 1) := by decide +kernel
theorem dX8_init_190 : decode cX8_init 190 = .ok (.invokespecial 88, 3) := by decide +kernel
theorem dX8_init_193 : decode cX8_init 193 = .ok (.aastore, 1) := by decide +kernel
theorem dX8_init_194 : decode cX8_init 194 = .ok (.iinc 1 1, 3) := by decide +kernel
theorem dX8_init_197 : decode cX8_init 197 = .ok (.goto (-22), 3) := by decide +kernel
theorem dX8_init_200 : decode cX8_init 200 = .ok (.iconst 0, 1) := by decide +kernel
theorem dX8_init_201 : decode cX8_init 201 = .ok (.istore_n 1, 1) := by decide +kernel
theorem dX8_init_202 : decode cX8_init 202 = .ok (.iload_n 1, 1) := by decide +kernel
theorem dX8_init_203 : decode cX8_init 203 = .ok (.iconst 4, 1) := by decide +kernel
theorem dX8_init_204 : decode cX8_init 204 = .ok (.if_icmp .ge 22, 3) := by decide +kernel
theorem dX8_init_207 : decode cX8_init 207 = .ok (.aload_n 0, 1) := by decide +kernel
theorem dX8_init_208 : decode cX8_init 208 = .ok (.getfield 29, 3) := by decide +kernel
theorem dX8_init_211 : decode cX8_init 211 = .ok (.iload_n 1, 1) := by decide +kernel
theorem dX8_init_212 : decode cX8_init 212 = .ok (.new 27, 3) := by decide +kernel
theorem dX8_init_215 : decode cX8_init 215 = .ok (.dup, 1) := by decide +kernel
theorem dX8_init_216 : decode cX8_init 216 = .ok (.invokespecial 89, 3) := by decide +kernel
theorem dX8_init_219 : decode cX8_init 219 = .ok (.aastore, 1) := by decide +kernel
theorem dX8_init_220 : decode cX8_init 220 = .ok (.iinc 1 1, 3) := by decide +kernel
theorem dX8_init_223 : decode cX8_init 223 = .ok (.goto (-21), 3) := by decide +kernel
theorem dX8_init_226 : decode cX8_init 226 = .ok (.return_, 1) := by decide +kernel
theorem dX8_type_0 : decode cX8_type 0 = .ok (.iload_n 1, 1) := by decide +kernel
theorem dX8_type_1 : decode cX8_type 1 = .ok (.invokestatic 90, 3) := by decide +kernel
theorem dX8_type_4 : decode cX8_type 4 = .ok (.ifCond .eq 14, 3) := by decide +kernel
theorem dX8_type_7 : decode cX8_type 7 = .ok (.iload_n 2, 1) := by decide +kernel
theorem dX8_type_8 : decode cX8_type 8 = .ok (.ifCond .lt 10, 3) := by decide +kernel
theorem dX8_type_11 : decode cX8_type 11 = .ok (.iload_n 2, 1) := by decide +kernel
theorem dX8_type_12 : decode cX8_type 12 = .ok (.sipush 255, 3) := by decide +kernel
theorem dX8_type_15 : decode cX8_type 15 = .ok (.if_icmp .le 6, 3) := by decide +kernel
theorem dX8_type_18 : decode cX8_type 18 = .ok (.bipush (-2), 2) := by decide +kernel
theorem dX8_type_20 : decode cX8_type 20 = .ok (.ireturn, 1) := by decide +kernel
theorem dX8_type_21 : decode cX8_type 21 = .ok (.aload_n 0, 1) := by decide +kernel
theorem dX8_type_22 : decode cX8_type 22 = .ok (.getfield 11, 3) := by decide +kernel
theorem dX8_type_25 : decode cX8_type 25 = .ok (.iload_n 1, 1) := by decide +kernel
theorem dX8_type_26 : decode cX8_type 26 = .ok (.aaload, 1) := by decide +kernel
theorem dX8_type_27 : decode cX8_type 27 = .ok (.iload_n 2, 1) := by decide +kernel
theorem dX8_type_28 : decode cX8_type 28 = .ok (.invokevirtual 94, 3) := by decide +kernel
theorem dX8_type_31 : decode cX8_type 31 = .ok (.ireturn, 1) := by decide +kernel
theorem dX8_wipe_0 : decode cX8_wipe 0 = .ok (.iload_n 1, 1) := by decide +kernel
theorem dX8_wipe_1 : decode cX8_wipe 1 = .ok (.invokestatic 90, 3) := by decide +kernel
theorem dX8_wipe_4 : decode cX8_wipe 4 = .ok (.ifCond .ne 6, 3) := by decide +kernel
theorem dX8_wipe_7 : decode cX8_wipe 7 = .ok (.bipush (-2), 2) := by decide +kernel
theorem dX8_wipe_9 : decode cX8_wipe 9 = .ok (.ireturn, 1) := by decide +kernel
theorem dX8_wipe_10 : decode cX8_wipe 10 = .ok (.aload_n 0, 1) := by decide +kernel
theorem dX8_wipe_11 : decode cX8_wipe 11 = .ok (.getfield 11, 3) := by decide +kernel
theorem dX8_wipe_14 : decode cX8_wipe 14 = .ok (.iload_n 1, 1) := by decide +kernel
theorem dX8_wipe_15 : decode cX8_wipe 15 = .ok (.aaload, 1) := by decide +kernel
theorem dX8_wipe_16 : decode cX8_wipe 16 = .ok (.invokevirtual 98, 3) := by decide +kernel
theorem dX8_wipe_19 : decode cX8_wipe 19 = .ok (.ireturn, 1) := by decide +kernel
theorem dX8_fault_0 : decode cX8_fault 0 = .ok (.iload_n 1, 1) := by decide +kernel
theorem dX8_fault_1 : decode cX8_fault 1 = .ok (.invokestatic 90, 3) := by decide +kernel
theorem dX8_fault_4 : decode cX8_fault 4 = .ok (.ifCond .ne 6, 3) := by decide +kernel
theorem dX8_fault_7 : decode cX8_fault 7 = .ok (.bipush (-2), 2) := by decide +kernel
theorem dX8_fault_9 : decode cX8_fault 9 = .ok (.ireturn, 1) := by decide +kernel
theorem dX8_fault_10 : decode cX8_fault 10 = .ok (.aload_n 0, 1) := by decide +kernel
theorem dX8_fault_11 : decode cX8_fault 11 = .ok (.getfield 11, 3) := by decide +kernel
theorem dX8_fault_14 : decode cX8_fault 14 = .ok (.iload_n 1, 1) := by decide +kernel
theorem dX8_fault_15 : decode cX8_fault 15 = .ok (.aaload, 1) := by decide +kernel
theorem dX8_fault_16 : decode cX8_fault 16 = .ok (.getfield 102, 3) := by decide +kernel
theorem dX8_fault_19 : decode cX8_fault 19 = .ok (.ireturn, 1) := by decide +kernel
theorem dX8_item_0 : decode cX8_item 0 = .ok (.iload_n 1, 1) := by decide +kernel
theorem dX8_item_1 : decode cX8_item 1 = .ok (.invokestatic 90, 3) := by decide +kernel
theorem dX8_item_4 : decode cX8_item 4 = .ok (.ifCond .eq 10, 3) := by decide +kernel
theorem dX8_item_7 : decode cX8_item 7 = .ok (.iload_n 2, 1) := by decide +kernel
theorem dX8_item_8 : decode cX8_item 8 = .ok (.invokestatic 105, 3) := by decide +kernel
theorem dX8_item_11 : decode cX8_item 11 = .ok (.ifCond .ne 6, 3) := by decide +kernel
theorem dX8_item_14 : decode cX8_item 14 = .ok (.bipush (-2), 2) := by decide +kernel
theorem dX8_item_16 : decode cX8_item 16 = .ok (.ireturn, 1) := by decide +kernel
theorem dX8_item_17 : decode cX8_item 17 = .ok (.aload_n 0, 1) := by decide +kernel
theorem dX8_item_18 : decode cX8_item 18 = .ok (.getfield 11, 3) := by decide +kernel
theorem dX8_item_21 : decode cX8_item 21 = .ok (.iload_n 1, 1) := by decide +kernel
theorem dX8_item_22 : decode cX8_item 22 = .ok (.aaload, 1) := by decide +kernel
theorem dX8_item_23 : decode cX8_item 23 = .ok (.getfield 108, 3) := by decide +kernel
theorem dX8_item_26 : decode cX8_item 26 = .ok (.iload_n 2, 1) := by decide +kernel
theorem dX8_item_27 : decode cX8_item 27 = .ok (.iaload, 1) := by decide +kernel
theorem dX8_item_28 : decode cX8_item 28 = .ok (.ireturn, 1) := by decide +kernel
theorem dX8_why_0 : decode cX8_why 0 = .ok (.iload_n 1, 1) := by decide +kernel
theorem dX8_why_1 : decode cX8_why 1 = .ok (.invokestatic 90, 3) := by decide +kernel
theorem dX8_why_4 : decode cX8_why 4 = .ok (.ifCond .eq 17, 3) := by decide +kernel
theorem dX8_why_7 : decode cX8_why 7 = .ok (.iload_n 2, 1) := by decide +kernel
theorem dX8_why_8 : decode cX8_why 8 = .ok (.invokestatic 111, 3) := by decide +kernel
theorem dX8_why_11 : decode cX8_why 11 = .ok (.ifCond .eq 10, 3) := by decide +kernel
theorem dX8_why_14 : decode cX8_why 14 = .ok (.iload_n 3, 1) := by decide +kernel
theorem dX8_why_15 : decode cX8_why 15 = .ok (.invokestatic 114, 3) := by decide +kernel
theorem dX8_why_18 : decode cX8_why 18 = .ok (.ifCond .ne 6, 3) := by decide +kernel
theorem dX8_why_21 : decode cX8_why 21 = .ok (.bipush (-2), 2) := by decide +kernel
theorem dX8_why_23 : decode cX8_why 23 = .ok (.ireturn, 1) := by decide +kernel
theorem dX8_why_24 : decode cX8_why 24 = .ok (.aload_n 0, 1) := by decide +kernel
theorem dX8_why_25 : decode cX8_why 25 = .ok (.getfield 11, 3) := by decide +kernel
theorem dX8_why_28 : decode cX8_why 28 = .ok (.iload_n 1, 1) := by decide +kernel
theorem dX8_why_29 : decode cX8_why 29 = .ok (.aaload, 1) := by decide +kernel
theorem dX8_why_30 : decode cX8_why 30 = .ok (.getfield 117, 3) := by decide +kernel
theorem dX8_why_33 : decode cX8_why 33 = .ok (.iload_n 2, 1) := by decide +kernel
theorem dX8_why_34 : decode cX8_why 34 = .ok (.bipush 7, 2) := by decide +kernel
theorem dX8_why_36 : decode cX8_why 36 = .ok (.imul, 1) := by decide +kernel
theorem dX8_why_37 : decode cX8_why 37 = .ok (.iload_n 3, 1) := by decide +kernel
theorem dX8_why_38 : decode cX8_why 38 = .ok (.iadd, 1) := by decide +kernel
theorem dX8_why_39 : decode cX8_why 39 = .ok (.iaload, 1) := by decide +kernel
theorem dX8_why_40 : decode cX8_why 40 = .ok (.ireturn, 1) := by decide +kernel
theorem dX8_differ_0 : decode cX8_differ 0 = .ok (.iload_n 1, 1) := by decide +kernel
theorem dX8_differ_1 : decode cX8_differ 1 = .ok (.invokestatic 90, 3) := by decide +kernel
theorem dX8_differ_4 : decode cX8_differ 4 = .ok (.ifCond .eq 10, 3) := by decide +kernel
theorem dX8_differ_7 : decode cX8_differ 7 = .ok (.iload_n 2, 1) := by decide +kernel
theorem dX8_differ_8 : decode cX8_differ 8 = .ok (.invokestatic 90, 3) := by decide +kernel
theorem dX8_differ_11 : decode cX8_differ 11 = .ok (.ifCond .ne 6, 3) := by decide +kernel
theorem dX8_differ_14 : decode cX8_differ 14 = .ok (.bipush (-2), 2) := by decide +kernel
theorem dX8_differ_16 : decode cX8_differ 16 = .ok (.ireturn, 1) := by decide +kernel
theorem dX8_differ_17 : decode cX8_differ 17 = .ok (.aload_n 0, 1) := by decide +kernel
theorem dX8_differ_18 : decode cX8_differ 18 = .ok (.getfield 11, 3) := by decide +kernel
theorem dX8_differ_21 : decode cX8_differ 21 = .ok (.iload_n 1, 1) := by decide +kernel
theorem dX8_differ_22 : decode cX8_differ 22 = .ok (.aaload, 1) := by decide +kernel
theorem dX8_differ_23 : decode cX8_differ 23 = .ok (.getfield 108, 3) := by decide +kernel
theorem dX8_differ_26 : decode cX8_differ 26 = .ok (.aload_n 0, 1) := by decide +kernel
theorem dX8_differ_27 : decode cX8_differ 27 = .ok (.getfield 11, 3) := by decide +kernel
theorem dX8_differ_30 : decode cX8_differ 30 = .ok (.iload_n 2, 1) := by decide +kernel
theorem dX8_differ_31 : decode cX8_differ 31 = .ok (.aaload, 1) := by decide +kernel
theorem dX8_differ_32 : decode cX8_differ 32 = .ok (.getfield 108, 3) := by decide +kernel
theorem dX8_differ_35 : decode cX8_differ 35 = .ok (.invokestatic 120, 3) := by decide +kernel
theorem dX8_differ_38 : decode cX8_differ 38 = .ok (.ireturn, 1) := by decide +kernel
theorem dX8_match_0 : decode cX8_match 0 = .ok (.iload_n 1, 1) := by decide +kernel
theorem dX8_match_1 : decode cX8_match 1 = .ok (.invokestatic 124, 3) := by decide +kernel
theorem dX8_match_4 : decode cX8_match 4 = .ok (.ifCond .eq 13, 3) := by decide +kernel
theorem dX8_match_7 : decode cX8_match 7 = .ok (.iload_n 2, 1) := by decide +kernel
theorem dX8_match_8 : decode cX8_match 8 = .ok (.ifCond .lt 9, 3) := by decide +kernel
theorem dX8_match_11 : decode cX8_match 11 = .ok (.iload_n 2, 1) := by decide +kernel
theorem dX8_match_12 : decode cX8_match 12 = .ok (.bipush 40, 2) := by decide +kernel
theorem dX8_match_14 : decode cX8_match 14 = .ok (.if_icmp .le 6, 3) := by decide +kernel
theorem dX8_match_17 : decode cX8_match 17 = .ok (.bipush (-2), 2) := by decide +kernel
theorem dX8_match_19 : decode cX8_match 19 = .ok (.ireturn, 1) := by decide +kernel
theorem dX8_match_20 : decode cX8_match 20 = .ok (.aload_n 0, 1) := by decide +kernel
theorem dX8_match_21 : decode cX8_match 21 = .ok (.getfield 29, 3) := by decide +kernel
theorem dX8_match_24 : decode cX8_match 24 = .ok (.iload_n 1, 1) := by decide +kernel
theorem dX8_match_25 : decode cX8_match 25 = .ok (.aaload, 1) := by decide +kernel
theorem dX8_match_26 : decode cX8_match 26 = .ok (.getfield 127, 3) := by decide +kernel
theorem dX8_match_29 : decode cX8_match 29 = .ok (.ifCond .eq 9, 3) := by decide +kernel
theorem dX8_match_32 : decode cX8_match 32 = .ok (.aload_n 0, 1) := by decide +kernel
theorem dX8_match_33 : decode cX8_match 33 = .ok (.iconst 1, 1) := by decide +kernel
theorem dX8_match_34 : decode cX8_match 34 = .ok (.invokevirtual 131, 3) := by decide +kernel
theorem dX8_match_37 : decode cX8_match 37 = .ok (.ireturn, 1) := by decide +kernel
theorem dX8_match_38 : decode cX8_match 38 = .ok (.iload_n 2, 1) := by decide +kernel
theorem dX8_match_39 : decode cX8_match 39 = .ok (.aload_n 0, 1) := by decide +kernel
theorem dX8_match_40 : decode cX8_match 40 = .ok (.getfield 29, 3) := by decide +kernel
theorem dX8_match_43 : decode cX8_match 43 = .ok (.iload_n 1, 1) := by decide +kernel
theorem dX8_match_44 : decode cX8_match 44 = .ok (.aaload, 1) := by decide +kernel
theorem dX8_match_45 : decode cX8_match 45 = .ok (.getfield 134, 3) := by decide +kernel
theorem dX8_match_48 : decode cX8_match 48 = .ok (.if_icmp .le 9, 3) := by decide +kernel
theorem dX8_match_51 : decode cX8_match 51 = .ok (.aload_n 0, 1) := by decide +kernel
theorem dX8_match_52 : decode cX8_match 52 = .ok (.iconst 2, 1) := by decide +kernel
theorem dX8_match_53 : decode cX8_match 53 = .ok (.invokevirtual 131, 3) := by decide +kernel
theorem dX8_match_56 : decode cX8_match 56 = .ok (.ireturn, 1) := by decide +kernel
theorem dX8_match_57 : decode cX8_match 57 = .ok (.aload_n 0, 1) := by decide +kernel
theorem dX8_match_58 : decode cX8_match 58 = .ok (.getfield 137, 3) := by decide +kernel
theorem dX8_match_61 : decode cX8_match 61 = .ok (.bipush 12, 2) := by decide +kernel
theorem dX8_match_63 : decode cX8_match 63 = .ok (.if_icmp .lt 6, 3) := by decide +kernel
theorem dX8_match_66 : decode cX8_match 66 = .ok (.bipush (-4), 2) := by decide +kernel
theorem dX8_match_68 : decode cX8_match 68 = .ok (.ireturn, 1) := by decide +kernel
theorem dX8_match_69 : decode cX8_match 69 = .ok (.aload_n 0, 1) := by decide +kernel
theorem dX8_match_70 : decode cX8_match 70 = .ok (.getfield 17, 3) := by decide +kernel
theorem dX8_match_73 : decode cX8_match 73 = .ok (.aload_n 0, 1) := by decide +kernel
theorem dX8_match_74 : decode cX8_match 74 = .ok (.getfield 137, 3) := by decide +kernel
theorem dX8_match_77 : decode cX8_match 77 = .ok (.aaload, 1) := by decide +kernel
theorem dX8_match_78 : decode cX8_match 78 = .ok (.aload_n 0, 1) := by decide +kernel
theorem dX8_match_79 : decode cX8_match 79 = .ok (.getfield 29, 3) := by decide +kernel
theorem dX8_match_82 : decode cX8_match 82 = .ok (.iload_n 1, 1) := by decide +kernel
theorem dX8_match_83 : decode cX8_match 83 = .ok (.aaload, 1) := by decide +kernel
theorem dX8_match_84 : decode cX8_match 84 = .ok (.iload_n 2, 1) := by decide +kernel
theorem dX8_match_85 : decode cX8_match 85 = .ok (.invokevirtual 140, 3) := by decide +kernel
theorem dX8_match_88 : decode cX8_match 88 = .ok (.aload_n 0, 1) := by decide +kernel
theorem dX8_match_89 : decode cX8_match 89 = .ok (.dup, 1) := by decide +kernel
theorem dX8_match_90 : decode cX8_match 90 = .ok (.getfield 137, 3) := by decide +kernel
theorem dX8_match_93 : decode cX8_match 93 = .ok (.iconst 1, 1) := by decide +kernel
theorem dX8_match_94 : decode cX8_match 94 = .ok (.iadd, 1) := by decide +kernel
theorem dX8_match_95 : decode cX8_match 95 = .ok (.putfield 137, 3) := by decide +kernel
theorem dX8_match_98 : decode cX8_match 98 = .ok (.aload_n 0, 1) := by decide +kernel
theorem dX8_match_99 : decode cX8_match 99 = .ok (.getfield 137, 3) := by decide +kernel
theorem dX8_match_102 : decode cX8_match 102 = .ok (.iconst 1, 1) := by decide +kernel
theorem dX8_match_103 : decode cX8_match 103 = .ok (.isub, 1) := by decide +kernel
theorem dX8_match_104 : decode cX8_match 104 = .ok (.ireturn, 1) := by decide +kernel
theorem dX8_verdicts_0 : decode cX8_verdicts 0 = .ok (.aload_n 0, 1) := by decide +kernel
theorem dX8_verdicts_1 : decode cX8_verdicts 1 = .ok (.iload_n 1, 1) := by decide +kernel
theorem dX8_verdicts_2 : decode cX8_verdicts 2 = .ok (.invokevirtual 144, 3) := by decide +kernel
theorem dX8_verdicts_5 : decode cX8_verdicts 5 = .ok (.ifCond .eq 10, 3) := by decide +kernel
theorem dX8_verdicts_8 : decode cX8_verdicts 8 = .ok (.iload_n 2, 1) := by decide +kernel
theorem dX8_verdicts_9 : decode cX8_verdicts 9 = .ok (.invokestatic 124, 3) := by decide +kernel
theorem dX8_verdicts_12 : decode cX8_verdicts 12 = .ok (.ifCond .ne 6, 3) := by decide +kernel
theorem dX8_verdicts_15 : decode cX8_verdicts 15 = .ok (.bipush (-2), 2) := by decide +kernel
theorem dX8_verdicts_17 : decode cX8_verdicts 17 = .ok (.ireturn, 1) := by decide +kernel
theorem dX8_verdicts_18 : decode cX8_verdicts 18 = .ok (.aload_n 0, 1) := by decide +kernel
theorem dX8_verdicts_19 : decode cX8_verdicts 19 = .ok (.getfield 29, 3) := by decide +kernel
theorem dX8_verdicts_22 : decode cX8_verdicts 22 = .ok (.iload_n 2, 1) := by decide +kernel
theorem dX8_verdicts_23 : decode cX8_verdicts 23 = .ok (.aaload, 1) := by decide +kernel
theorem dX8_verdicts_24 : decode cX8_verdicts 24 = .ok (.getfield 127, 3) := by decide +kernel
theorem dX8_verdicts_27 : decode cX8_verdicts 27 = .ok (.ifCond .eq 9, 3) := by decide +kernel
theorem dX8_verdicts_30 : decode cX8_verdicts 30 = .ok (.aload_n 0, 1) := by decide +kernel
theorem dX8_verdicts_31 : decode cX8_verdicts 31 = .ok (.iconst 1, 1) := by decide +kernel
theorem dX8_verdicts_32 : decode cX8_verdicts 32 = .ok (.invokevirtual 131, 3) := by decide +kernel
theorem dX8_verdicts_35 : decode cX8_verdicts 35 = .ok (.ireturn, 1) := by decide +kernel
theorem dX8_verdicts_36 : decode cX8_verdicts 36 = .ok (.aload_n 0, 1) := by decide +kernel
theorem dX8_verdicts_37 : decode cX8_verdicts 37 = .ok (.getfield 17, 3) := by decide +kernel
theorem dX8_verdicts_40 : decode cX8_verdicts 40 = .ok (.iload_n 1, 1) := by decide +kernel
theorem dX8_verdicts_41 : decode cX8_verdicts 41 = .ok (.aaload, 1) := by decide +kernel
theorem dX8_verdicts_42 : decode cX8_verdicts 42 = .ok (.aload_n 0, 1) := by decide +kernel
theorem dX8_verdicts_43 : decode cX8_verdicts 43 = .ok (.getfield 29, 3) := by decide +kernel
theorem dX8_verdicts_46 : decode cX8_verdicts 46 = .ok (.iload_n 2, 1) := by decide +kernel
theorem dX8_verdicts_47 : decode cX8_verdicts 47 = .ok (.aaload, 1) := by decide +kernel
theorem dX8_verdicts_48 : decode cX8_verdicts 48 = .ok (.invokevirtual 147, 3) := by decide +kernel
theorem dX8_verdicts_51 : decode cX8_verdicts 51 = .ok (.iconst 1, 1) := by decide +kernel
theorem dX8_verdicts_52 : decode cX8_verdicts 52 = .ok (.ireturn, 1) := by decide +kernel
theorem dX8_played_0 : decode cX8_played 0 = .ok (.aload_n 0, 1) := by decide +kernel
theorem dX8_played_1 : decode cX8_played 1 = .ok (.iload_n 1, 1) := by decide +kernel
theorem dX8_played_2 : decode cX8_played 2 = .ok (.invokevirtual 144, 3) := by decide +kernel
theorem dX8_played_5 : decode cX8_played 5 = .ok (.ifCond .eq 33, 3) := by decide +kernel
theorem dX8_played_8 : decode cX8_played 8 = .ok (.iload_n 2, 1) := by decide +kernel
theorem dX8_played_9 : decode cX8_played 9 = .ok (.invokestatic 90, 3) := by decide +kernel
theorem dX8_played_12 : decode cX8_played 12 = .ok (.ifCond .eq 26, 3) := by decide +kernel
theorem dX8_played_15 : decode cX8_played 15 = .ok (.iload_n 3, 1) := by decide +kernel
theorem dX8_played_16 : decode cX8_played 16 = .ok (.invokestatic 90, 3) := by decide +kernel
theorem dX8_played_19 : decode cX8_played 19 = .ok (.ifCond .eq 19, 3) := by decide +kernel
theorem dX8_played_22 : decode cX8_played 22 = .ok (.iload 4, 2) := by decide +kernel
theorem dX8_played_24 : decode cX8_played 24 = .ok (.invokestatic 151, 3) := by decide +kernel
theorem dX8_played_27 : decode cX8_played 27 = .ok (.ifCond .eq 11, 3) := by decide +kernel
theorem dX8_played_30 : decode cX8_played 30 = .ok (.iload 5, 2) := by decide +kernel
theorem dX8_played_32 : decode cX8_played 32 = .ok (.invokestatic 154, 3) := by decide +kernel
theorem dX8_played_35 : decode cX8_played 35 = .ok (.ifCond .ne 6, 3) := by decide +kernel
theorem dX8_played_38 : decode cX8_played 38 = .ok (.bipush (-2), 2) := by decide +kernel
theorem dX8_played_40 : decode cX8_played 40 = .ok (.ireturn, 1) := by decide +kernel
theorem dX8_played_41 : decode cX8_played 41 = .ok (.aload_n 0, 1) := by decide +kernel
theorem dX8_played_42 : decode cX8_played 42 = .ok (.aload_n 0, 1) := by decide +kernel
theorem dX8_played_43 : decode cX8_played 43 = .ok (.getfield 11, 3) := by decide +kernel
theorem dX8_played_46 : decode cX8_played 46 = .ok (.iload_n 2, 1) := by decide +kernel
theorem dX8_played_47 : decode cX8_played 47 = .ok (.aaload, 1) := by decide +kernel
theorem dX8_played_48 : decode cX8_played 48 = .ok (.getfield 108, 3) := by decide +kernel
theorem dX8_played_51 : decode cX8_played 51 = .ok (.aload_n 0, 1) := by decide +kernel
theorem dX8_played_52 : decode cX8_played 52 = .ok (.getfield 11, 3) := by decide +kernel
theorem dX8_played_55 : decode cX8_played 55 = .ok (.iload_n 3, 1) := by decide +kernel
theorem dX8_played_56 : decode cX8_played 56 = .ok (.aaload, 1) := by decide +kernel
theorem dX8_played_57 : decode cX8_played 57 = .ok (.getfield 108, 3) := by decide +kernel
theorem dX8_played_60 : decode cX8_played 60 = .ok (.iload 4, 2) := by decide +kernel
theorem dX8_played_62 : decode cX8_played 62 = .ok (.invokevirtual 157, 3) := by decide +kernel
theorem dX8_played_65 : decode cX8_played 65 = .ok (.aload_n 0, 1) := by decide +kernel
theorem dX8_played_66 : decode cX8_played 66 = .ok (.getfield 17, 3) := by decide +kernel
theorem dX8_played_69 : decode cX8_played 69 = .ok (.iload_n 1, 1) := by decide +kernel
theorem dX8_played_70 : decode cX8_played 70 = .ok (.aaload, 1) := by decide +kernel
theorem dX8_played_71 : decode cX8_played 71 = .ok (.aload_n 0, 1) := by decide +kernel
theorem dX8_played_72 : decode cX8_played 72 = .ok (.getfield 45, 3) := by decide +kernel
theorem dX8_played_75 : decode cX8_played 75 = .ok (.aload_n 0, 1) := by decide +kernel
theorem dX8_played_76 : decode cX8_played 76 = .ok (.getfield 51, 3) := by decide +kernel
theorem dX8_played_79 : decode cX8_played 79 = .ok (.invokevirtual 161, 3) := by decide +kernel
theorem dX8_played_82 : decode cX8_played 82 = .ok (.aload_n 0, 1) := by decide +kernel
theorem dX8_played_83 : decode cX8_played 83 = .ok (.getfield 51, 3) := by decide +kernel
theorem dX8_played_86 : decode cX8_played 86 = .ok (.iload 5, 2) := by decide +kernel
theorem dX8_played_88 : decode cX8_played 88 = .ok (.invokevirtual 165, 3) := by decide +kernel
theorem dX8_played_91 : decode cX8_played 91 = .ok (.ireturn, 1) := by decide +kernel
theorem dX8_goes_0 : decode cX8_goes 0 = .ok (.aload_n 0, 1) := by decide +kernel
theorem dX8_goes_1 : decode cX8_goes 1 = .ok (.iload_n 1, 1) := by decide +kernel
theorem dX8_goes_2 : decode cX8_goes 2 = .ok (.invokevirtual 144, 3) := by decide +kernel
theorem dX8_goes_5 : decode cX8_goes 5 = .ok (.ifCond .eq 27, 3) := by decide +kernel
theorem dX8_goes_8 : decode cX8_goes 8 = .ok (.iload_n 2, 1) := by decide +kernel
theorem dX8_goes_9 : decode cX8_goes 9 = .ok (.invokestatic 90, 3) := by decide +kernel
theorem dX8_goes_12 : decode cX8_goes 12 = .ok (.ifCond .eq 20, 3) := by decide +kernel
theorem dX8_goes_15 : decode cX8_goes 15 = .ok (.iload_n 3, 1) := by decide +kernel
theorem dX8_goes_16 : decode cX8_goes 16 = .ok (.ifCond .lt 16, 3) := by decide +kernel
theorem dX8_goes_19 : decode cX8_goes 19 = .ok (.iload_n 3, 1) := by decide +kernel
theorem dX8_goes_20 : decode cX8_goes 20 = .ok (.aload_n 0, 1) := by decide +kernel
theorem dX8_goes_21 : decode cX8_goes 21 = .ok (.getfield 17, 3) := by decide +kernel
theorem dX8_goes_24 : decode cX8_goes 24 = .ok (.iload_n 1, 1) := by decide +kernel
theorem dX8_goes_25 : decode cX8_goes 25 = .ok (.aaload, 1) := by decide +kernel
theorem dX8_goes_26 : decode cX8_goes 26 = .ok (.getfield 168, 3) := by decide +kernel
theorem dX8_goes_29 : decode cX8_goes 29 = .ok (.if_icmp .lt 6, 3) := by decide +kernel
theorem dX8_goes_32 : decode cX8_goes 32 = .ok (.bipush (-2), 2) := by decide +kernel
theorem dX8_goes_34 : decode cX8_goes 34 = .ok (.ireturn, 1) := by decide +kernel
theorem dX8_goes_35 : decode cX8_goes 35 = .ok (.aload_n 0, 1) := by decide +kernel
theorem dX8_goes_36 : decode cX8_goes 36 = .ok (.getfield 17, 3) := by decide +kernel
theorem dX8_goes_39 : decode cX8_goes 39 = .ok (.iload_n 1, 1) := by decide +kernel
theorem dX8_goes_40 : decode cX8_goes 40 = .ok (.aaload, 1) := by decide +kernel
theorem dX8_goes_41 : decode cX8_goes 41 = .ok (.iload_n 3, 1) := by decide +kernel
theorem dX8_goes_42 : decode cX8_goes 42 = .ok (.aload_n 0, 1) := by decide +kernel
theorem dX8_goes_43 : decode cX8_goes 43 = .ok (.getfield 11, 3) := by decide +kernel
theorem dX8_goes_46 : decode cX8_goes 46 = .ok (.iload_n 2, 1) := by decide +kernel
theorem dX8_goes_47 : decode cX8_goes 47 = .ok (.aaload, 1) := by decide +kernel
theorem dX8_goes_48 : decode cX8_goes 48 = .ok (.getfield 108, 3) := by decide +kernel
theorem dX8_goes_51 : decode cX8_goes 51 = .ok (.aload_n 0, 1) := by decide +kernel
theorem dX8_goes_52 : decode cX8_goes 52 = .ok (.getfield 51, 3) := by decide +kernel
theorem dX8_goes_55 : decode cX8_goes 55 = .ok (.invokevirtual 169, 3) := by decide +kernel
theorem dX8_goes_58 : decode cX8_goes 58 = .ok (.ireturn, 1) := by decide +kernel
theorem dX8_turned_0 : decode cX8_turned 0 = .ok (.iload_n 1, 1) := by decide +kernel
theorem dX8_turned_1 : decode cX8_turned 1 = .ok (.invokestatic 90, 3) := by decide +kernel
theorem dX8_turned_4 : decode cX8_turned 4 = .ok (.ifCond .eq 10, 3) := by decide +kernel
theorem dX8_turned_7 : decode cX8_turned 7 = .ok (.iload_n 2, 1) := by decide +kernel
theorem dX8_turned_8 : decode cX8_turned 8 = .ok (.invokestatic 90, 3) := by decide +kernel
theorem dX8_turned_11 : decode cX8_turned 11 = .ok (.ifCond .ne 6, 3) := by decide +kernel
theorem dX8_turned_14 : decode cX8_turned 14 = .ok (.bipush (-2), 2) := by decide +kernel
theorem dX8_turned_16 : decode cX8_turned 16 = .ok (.ireturn, 1) := by decide +kernel
theorem dX8_turned_17 : decode cX8_turned 17 = .ok (.iconst 0, 1) := by decide +kernel
theorem dX8_turned_18 : decode cX8_turned 18 = .ok (.istore_n 3, 1) := by decide +kernel
theorem dX8_turned_19 : decode cX8_turned 19 = .ok (.iconst 0, 1) := by decide +kernel
theorem dX8_turned_20 : decode cX8_turned 20 = .ok (.istore 4, 2) := by decide +kernel
theorem dX8_turned_22 : decode cX8_turned 22 = .ok (.iload 4, 2) := by decide +kernel
theorem dX8_turned_24 : decode cX8_turned 24 = .ok (.aload_n 0, 1) := by decide +kernel
theorem dX8_turned_25 : decode cX8_turned 25 = .ok (.getfield 137, 3) := by decide +kernel
theorem dX8_turned_28 : decode cX8_turned 28 = .ok (.if_icmp .ge 79, 3) := by decide +kernel
theorem dX8_turned_31 : decode cX8_turned 31 = .ok (.aload_n 0, 1) := by decide +kernel
theorem dX8_turned_32 : decode cX8_turned 32 = .ok (.getfield 17, 3) := by decide +kernel
theorem dX8_turned_35 : decode cX8_turned 35 = .ok (.iload 4, 2) := by decide +kernel
theorem dX8_turned_37 : decode cX8_turned 37 = .ok (.aaload, 1) := by decide +kernel
theorem dX8_turned_38 : decode cX8_turned 38 = .ok (.aload_n 0, 1) := by decide +kernel
theorem dX8_turned_39 : decode cX8_turned 39 = .ok (.getfield 11, 3) := by decide +kernel
theorem dX8_turned_42 : decode cX8_turned 42 = .ok (.iload_n 1, 1) := by decide +kernel
theorem dX8_turned_43 : decode cX8_turned 43 = .ok (.aaload, 1) := by decide +kernel
theorem dX8_turned_44 : decode cX8_turned 44 = .ok (.getfield 108, 3) := by decide +kernel
theorem dX8_turned_47 : decode cX8_turned 47 = .ok (.aload_n 0, 1) := by decide +kernel
theorem dX8_turned_48 : decode cX8_turned 48 = .ok (.getfield 51, 3) := by decide +kernel
theorem dX8_turned_51 : decode cX8_turned 51 = .ok (.invokevirtual 161, 3) := by decide +kernel
theorem dX8_turned_54 : decode cX8_turned 54 = .ok (.aload_n 0, 1) := by decide +kernel
theorem dX8_turned_55 : decode cX8_turned 55 = .ok (.getfield 51, 3) := by decide +kernel
theorem dX8_turned_58 : decode cX8_turned 58 = .ok (.invokevirtual 173, 3) := by decide +kernel
theorem dX8_turned_61 : decode cX8_turned 61 = .ok (.istore 5, 2) := by decide +kernel
theorem dX8_turned_63 : decode cX8_turned 63 = .ok (.aload_n 0, 1) := by decide +kernel
theorem dX8_turned_64 : decode cX8_turned 64 = .ok (.getfield 17, 3) := by decide +kernel
theorem dX8_turned_67 : decode cX8_turned 67 = .ok (.iload 4, 2) := by decide +kernel
theorem dX8_turned_69 : decode cX8_turned 69 = .ok (.aaload, 1) := by decide +kernel
theorem dX8_turned_70 : decode cX8_turned 70 = .ok (.aload_n 0, 1) := by decide +kernel
theorem dX8_turned_71 : decode cX8_turned 71 = .ok (.getfield 11, 3) := by decide +kernel
theorem dX8_turned_74 : decode cX8_turned 74 = .ok (.iload_n 2, 1) := by decide +kernel
theorem dX8_turned_75 : decode cX8_turned 75 = .ok (.aaload, 1) := by decide +kernel
theorem dX8_turned_76 : decode cX8_turned 76 = .ok (.getfield 108, 3) := by decide +kernel
theorem dX8_turned_79 : decode cX8_turned 79 = .ok (.aload_n 0, 1) := by decide +kernel
theorem dX8_turned_80 : decode cX8_turned 80 = .ok (.getfield 51, 3) := by decide +kernel
theorem dX8_turned_83 : decode cX8_turned 83 = .ok (.invokevirtual 161, 3) := by decide +kernel
theorem dX8_turned_86 : decode cX8_turned 86 = .ok (.aload_n 0, 1) := by decide +kernel
theorem dX8_turned_87 : decode cX8_turned 87 = .ok (.getfield 51, 3) := by decide +kernel
theorem dX8_turned_90 : decode cX8_turned 90 = .ok (.invokevirtual 173, 3) := by decide +kernel
theorem dX8_turned_93 : decode cX8_turned 93 = .ok (.iload 5, 2) := by decide +kernel
theorem dX8_turned_95 : decode cX8_turned 95 = .ok (.if_icmp .eq 6, 3) := by decide +kernel
theorem dX8_turned_98 : decode cX8_turned 98 = .ok (.iinc 3 1, 3) := by decide +kernel
theorem dX8_turned_101 : decode cX8_turned 101 = .ok (.iinc 4 1, 3) := by decide +kernel
theorem dX8_turned_104 : decode cX8_turned 104 = .ok (.goto (-82), 3) := by decide +kernel
theorem dX8_turned_107 : decode cX8_turned 107 = .ok (.iload_n 3, 1) := by decide +kernel
theorem dX8_turned_108 : decode cX8_turned 108 = .ok (.ireturn, 1) := by decide +kernel
theorem dX8_found_0 : decode cX8_found 0 = .ok (.iload_n 1, 1) := by decide +kernel
theorem dX8_found_1 : decode cX8_found 1 = .ok (.invokestatic 111, 3) := by decide +kernel
theorem dX8_found_4 : decode cX8_found 4 = .ok (.ifCond .eq 10, 3) := by decide +kernel
theorem dX8_found_7 : decode cX8_found 7 = .ok (.iload_n 2, 1) := by decide +kernel
theorem dX8_found_8 : decode cX8_found 8 = .ok (.invokestatic 114, 3) := by decide +kernel
theorem dX8_found_11 : decode cX8_found 11 = .ok (.ifCond .ne 6, 3) := by decide +kernel
theorem dX8_found_14 : decode cX8_found 14 = .ok (.bipush (-2), 2) := by decide +kernel
theorem dX8_found_16 : decode cX8_found 16 = .ok (.ireturn, 1) := by decide +kernel
theorem dX8_found_17 : decode cX8_found 17 = .ok (.iconst 0, 1) := by decide +kernel
theorem dX8_found_18 : decode cX8_found 18 = .ok (.istore_n 3, 1) := by decide +kernel
theorem dX8_found_19 : decode cX8_found 19 = .ok (.iconst 0, 1) := by decide +kernel
theorem dX8_found_20 : decode cX8_found 20 = .ok (.istore 4, 2) := by decide +kernel
theorem dX8_found_22 : decode cX8_found 22 = .ok (.iload 4, 2) := by decide +kernel
theorem dX8_found_24 : decode cX8_found 24 = .ok (.aload_n 0, 1) := by decide +kernel
theorem dX8_found_25 : decode cX8_found 25 = .ok (.getfield 137, 3) := by decide +kernel
theorem dX8_found_28 : decode cX8_found 28 = .ok (.if_icmp .ge 28, 3) := by decide +kernel
theorem dX8_found_31 : decode cX8_found 31 = .ok (.iload_n 3, 1) := by decide +kernel
theorem dX8_found_32 : decode cX8_found 32 = .ok (.aload_n 0, 1) := by decide +kernel
theorem dX8_found_33 : decode cX8_found 33 = .ok (.getfield 17, 3) := by decide +kernel
theorem dX8_found_36 : decode cX8_found 36 = .ok (.iload 4, 2) := by decide +kernel
theorem dX8_found_38 : decode cX8_found 38 = .ok (.aaload, 1) := by decide +kernel
theorem dX8_found_39 : decode cX8_found 39 = .ok (.iload_n 1, 1) := by decide +kernel
theorem dX8_found_40 : decode cX8_found 40 = .ok (.iload_n 2, 1) := by decide +kernel
theorem dX8_found_41 : decode cX8_found 41 = .ok (.aload_n 0, 1) := by decide +kernel
theorem dX8_found_42 : decode cX8_found 42 = .ok (.getfield 51, 3) := by decide +kernel
theorem dX8_found_45 : decode cX8_found 45 = .ok (.invokevirtual 176, 3) := by decide +kernel
theorem dX8_found_48 : decode cX8_found 48 = .ok (.ior, 1) := by decide +kernel
theorem dX8_found_49 : decode cX8_found 49 = .ok (.istore_n 3, 1) := by decide +kernel
theorem dX8_found_50 : decode cX8_found 50 = .ok (.iinc 4 1, 3) := by decide +kernel
theorem dX8_found_53 : decode cX8_found 53 = .ok (.goto (-31), 3) := by decide +kernel
theorem dX8_found_56 : decode cX8_found 56 = .ok (.iload_n 3, 1) := by decide +kernel
theorem dX8_found_57 : decode cX8_found 57 = .ok (.ireturn, 1) := by decide +kernel
theorem dX8_fits_0 : decode cX8_fits 0 = .ok (.iload_n 1, 1) := by decide +kernel
theorem dX8_fits_1 : decode cX8_fits 1 = .ok (.invokestatic 90, 3) := by decide +kernel
theorem dX8_fits_4 : decode cX8_fits 4 = .ok (.ifCond .eq 11, 3) := by decide +kernel
theorem dX8_fits_7 : decode cX8_fits 7 = .ok (.aload_n 0, 1) := by decide +kernel
theorem dX8_fits_8 : decode cX8_fits 8 = .ok (.iload_n 2, 1) := by decide +kernel
theorem dX8_fits_9 : decode cX8_fits 9 = .ok (.invokevirtual 144, 3) := by decide +kernel
theorem dX8_fits_12 : decode cX8_fits 12 = .ok (.ifCond .ne 6, 3) := by decide +kernel
theorem dX8_fits_15 : decode cX8_fits 15 = .ok (.bipush (-2), 2) := by decide +kernel
theorem dX8_fits_17 : decode cX8_fits 17 = .ok (.ireturn, 1) := by decide +kernel
theorem dX8_fits_18 : decode cX8_fits 18 = .ok (.aload_n 0, 1) := by decide +kernel
theorem dX8_fits_19 : decode cX8_fits 19 = .ok (.getfield 17, 3) := by decide +kernel
theorem dX8_fits_22 : decode cX8_fits 22 = .ok (.iload_n 2, 1) := by decide +kernel
theorem dX8_fits_23 : decode cX8_fits 23 = .ok (.aaload, 1) := by decide +kernel
theorem dX8_fits_24 : decode cX8_fits 24 = .ok (.getfield 180, 3) := by decide +kernel
theorem dX8_fits_27 : decode cX8_fits 27 = .ok (.ifCond .ne 6, 3) := by decide +kernel
theorem dX8_fits_30 : decode cX8_fits 30 = .ok (.bipush (-3), 2) := by decide +kernel
theorem dX8_fits_32 : decode cX8_fits 32 = .ok (.ireturn, 1) := by decide +kernel
theorem dX8_fits_33 : decode cX8_fits 33 = .ok (.aload_n 0, 1) := by decide +kernel
theorem dX8_fits_34 : decode cX8_fits 34 = .ok (.getfield 17, 3) := by decide +kernel
theorem dX8_fits_37 : decode cX8_fits 37 = .ok (.iload_n 2, 1) := by decide +kernel
theorem dX8_fits_38 : decode cX8_fits 38 = .ok (.aaload, 1) := by decide +kernel
theorem dX8_fits_39 : decode cX8_fits 39 = .ok (.aload_n 0, 1) := by decide +kernel
theorem dX8_fits_40 : decode cX8_fits 40 = .ok (.getfield 11, 3) := by decide +kernel
theorem dX8_fits_43 : decode cX8_fits 43 = .ok (.iload_n 1, 1) := by decide +kernel
theorem dX8_fits_44 : decode cX8_fits 44 = .ok (.aaload, 1) := by decide +kernel
theorem dX8_fits_45 : decode cX8_fits 45 = .ok (.getfield 108, 3) := by decide +kernel
theorem dX8_fits_48 : decode cX8_fits 48 = .ok (.aload_n 0, 1) := by decide +kernel
theorem dX8_fits_49 : decode cX8_fits 49 = .ok (.getfield 51, 3) := by decide +kernel
theorem dX8_fits_52 : decode cX8_fits 52 = .ok (.invokevirtual 183, 3) := by decide +kernel
theorem dX8_fits_55 : decode cX8_fits 55 = .ok (.ifCond .eq 7, 3) := by decide +kernel
theorem dX8_fits_58 : decode cX8_fits 58 = .ok (.iconst 1, 1) := by decide +kernel
theorem dX8_fits_59 : decode cX8_fits 59 = .ok (.goto 4, 3) := by decide +kernel
theorem dX8_fits_62 : decode cX8_fits 62 = .ok (.iconst 0, 1) := by decide +kernel
theorem dX8_fits_63 : decode cX8_fits 63 = .ok (.ireturn, 1) := by decide +kernel
theorem dX8_fitting_0 : decode cX8_fitting 0 = .ok (.iconst 0, 1) := by decide +kernel
theorem dX8_fitting_1 : decode cX8_fitting 1 = .ok (.istore_n 1, 1) := by decide +kernel
theorem dX8_fitting_2 : decode cX8_fitting 2 = .ok (.iconst 0, 1) := by decide +kernel
theorem dX8_fitting_3 : decode cX8_fitting 3 = .ok (.istore_n 2, 1) := by decide +kernel
theorem dX8_fitting_4 : decode cX8_fitting 4 = .ok (.iload_n 2, 1) := by decide +kernel
theorem dX8_fitting_5 : decode cX8_fitting 5 = .ok (.bipush 11, 2) := by decide +kernel
theorem dX8_fitting_7 : decode cX8_fitting 7 = .ok (.if_icmp .ge 31, 3) := by decide +kernel
theorem dX8_fitting_10 : decode cX8_fitting 10 = .ok (.aload_n 0, 1) := by decide +kernel
theorem dX8_fitting_11 : decode cX8_fitting 11 = .ok (.aload_n 0, 1) := by decide +kernel
theorem dX8_fitting_12 : decode cX8_fitting 12 = .ok (.getfield 11, 3) := by decide +kernel
theorem dX8_fitting_15 : decode cX8_fitting 15 = .ok (.iload_n 2, 1) := by decide +kernel
theorem dX8_fitting_16 : decode cX8_fitting 16 = .ok (.aaload, 1) := by decide +kernel
theorem dX8_fitting_17 : decode cX8_fitting 17 = .ok (.getfield 108, 3) := by decide +kernel
theorem dX8_fitting_20 : decode cX8_fitting 20 = .ok (.invokevirtual 187, 3) := by decide +kernel
theorem dX8_fitting_23 : decode cX8_fitting 23 = .ok (.ifCond .eq 9, 3) := by decide +kernel
theorem dX8_fitting_26 : decode cX8_fitting 26 = .ok (.iload_n 1, 1) := by decide +kernel
theorem dX8_fitting_27 : decode cX8_fitting 27 = .ok (.iconst 1, 1) := by decide +kernel
theorem dX8_fitting_28 : decode cX8_fitting 28 = .ok (.iload_n 2, 1) := by decide +kernel
theorem dX8_fitting_29 : decode cX8_fitting 29 = .ok (.ishl, 1) := by decide +kernel
theorem dX8_fitting_30 : decode cX8_fitting 30 = .ok (.ior, 1) := by decide +kernel
theorem dX8_fitting_31 : decode cX8_fitting 31 = .ok (.istore_n 1, 1) := by decide +kernel
theorem dX8_fitting_32 : decode cX8_fitting 32 = .ok (.iinc 2 1, 3) := by decide +kernel
theorem dX8_fitting_35 : decode cX8_fitting 35 = .ok (.goto (-31), 3) := by decide +kernel
theorem dX8_fitting_38 : decode cX8_fitting 38 = .ok (.iload_n 1, 1) := by decide +kernel
theorem dX8_fitting_39 : decode cX8_fitting 39 = .ok (.ireturn, 1) := by decide +kernel
theorem dX8_parts_0 : decode cX8_parts 0 = .ok (.iload_n 1, 1) := by decide +kernel
theorem dX8_parts_1 : decode cX8_parts 1 = .ok (.invokestatic 90, 3) := by decide +kernel
theorem dX8_parts_4 : decode cX8_parts 4 = .ok (.ifCond .eq 10, 3) := by decide +kernel
theorem dX8_parts_7 : decode cX8_parts 7 = .ok (.iload_n 2, 1) := by decide +kernel
theorem dX8_parts_8 : decode cX8_parts 8 = .ok (.invokestatic 90, 3) := by decide +kernel
theorem dX8_parts_11 : decode cX8_parts 11 = .ok (.ifCond .ne 6, 3) := by decide +kernel
theorem dX8_parts_14 : decode cX8_parts 14 = .ok (.bipush (-2), 2) := by decide +kernel
theorem dX8_parts_16 : decode cX8_parts 16 = .ok (.ireturn, 1) := by decide +kernel
theorem dX8_parts_17 : decode cX8_parts 17 = .ok (.aload_n 0, 1) := by decide +kernel
theorem dX8_parts_18 : decode cX8_parts 18 = .ok (.getfield 58, 3) := by decide +kernel
theorem dX8_parts_21 : decode cX8_parts 21 = .ok (.aload_n 0, 1) := by decide +kernel
theorem dX8_parts_22 : decode cX8_parts 22 = .ok (.getfield 11, 3) := by decide +kernel
theorem dX8_parts_25 : decode cX8_parts 25 = .ok (.iload_n 1, 1) := by decide +kernel
theorem dX8_parts_26 : decode cX8_parts 26 = .ok (.aaload, 1) := by decide +kernel
theorem dX8_parts_27 : decode cX8_parts 27 = .ok (.getfield 108, 3) := by decide +kernel
theorem dX8_parts_30 : decode cX8_parts 30 = .ok (.aload_n 0, 1) := by decide +kernel
theorem dX8_parts_31 : decode cX8_parts 31 = .ok (.getfield 11, 3) := by decide +kernel
theorem dX8_parts_34 : decode cX8_parts 34 = .ok (.iload_n 2, 1) := by decide +kernel
theorem dX8_parts_35 : decode cX8_parts 35 = .ok (.aaload, 1) := by decide +kernel
theorem dX8_parts_36 : decode cX8_parts 36 = .ok (.getfield 108, 3) := by decide +kernel
theorem dX8_parts_39 : decode cX8_parts 39 = .ok (.invokevirtual 191, 3) := by decide +kernel
theorem dX8_parts_42 : decode cX8_parts 42 = .ok (.aload_n 0, 1) := by decide +kernel
theorem dX8_parts_43 : decode cX8_parts 43 = .ok (.getfield 58, 3) := by decide +kernel
theorem dX8_parts_46 : decode cX8_parts 46 = .ok (.getfield 195, 3) := by decide +kernel
theorem dX8_parts_49 : decode cX8_parts 49 = .ok (.ifCond .ne 7, 3) := by decide +kernel
theorem dX8_parts_52 : decode cX8_parts 52 = .ok (.iconst (-1), 1) := by decide +kernel
theorem dX8_parts_53 : decode cX8_parts 53 = .ok (.goto 10, 3) := by decide +kernel
theorem dX8_parts_56 : decode cX8_parts 56 = .ok (.aload_n 0, 1) := by decide +kernel
theorem dX8_parts_57 : decode cX8_parts 57 = .ok (.getfield 58, 3) := by decide +kernel
theorem dX8_parts_60 : decode cX8_parts 60 = .ok (.getfield 195, 3) := by decide +kernel
theorem dX8_parts_63 : decode cX8_parts 63 = .ok (.ireturn, 1) := by decide +kernel
theorem dX8_parting_0 : decode cX8_parting 0 = .ok (.iload_n 1, 1) := by decide +kernel
theorem dX8_parting_1 : decode cX8_parting 1 = .ok (.invokestatic 90, 3) := by decide +kernel
theorem dX8_parting_4 : decode cX8_parting 4 = .ok (.ifCond .eq 14, 3) := by decide +kernel
theorem dX8_parting_7 : decode cX8_parting 7 = .ok (.iload_n 2, 1) := by decide +kernel
theorem dX8_parting_8 : decode cX8_parting 8 = .ok (.invokestatic 90, 3) := by decide +kernel
theorem dX8_parting_11 : decode cX8_parting 11 = .ok (.ifCond .eq 7, 3) := by decide +kernel
theorem dX8_parting_14 : decode cX8_parting 14 = .ok (.iload_n 3, 1) := by decide +kernel
theorem dX8_parting_15 : decode cX8_parting 15 = .ok (.ifCond .ge 6, 3) := by decide +kernel
theorem dX8_parting_18 : decode cX8_parting 18 = .ok (.bipush (-2), 2) := by decide +kernel
theorem dX8_parting_20 : decode cX8_parting 20 = .ok (.ireturn, 1) := by decide +kernel
theorem dX8_parting_21 : decode cX8_parting 21 = .ok (.aload_n 0, 1) := by decide +kernel
theorem dX8_parting_22 : decode cX8_parting 22 = .ok (.getfield 58, 3) := by decide +kernel
theorem dX8_parting_25 : decode cX8_parting 25 = .ok (.aload_n 0, 1) := by decide +kernel
theorem dX8_parting_26 : decode cX8_parting 26 = .ok (.getfield 11, 3) := by decide +kernel
theorem dX8_parting_29 : decode cX8_parting 29 = .ok (.iload_n 1, 1) := by decide +kernel
theorem dX8_parting_30 : decode cX8_parting 30 = .ok (.aaload, 1) := by decide +kernel
theorem dX8_parting_31 : decode cX8_parting 31 = .ok (.getfield 108, 3) := by decide +kernel
theorem dX8_parting_34 : decode cX8_parting 34 = .ok (.aload_n 0, 1) := by decide +kernel
theorem dX8_parting_35 : decode cX8_parting 35 = .ok (.getfield 11, 3) := by decide +kernel
theorem dX8_parting_38 : decode cX8_parting 38 = .ok (.iload_n 2, 1) := by decide +kernel
theorem dX8_parting_39 : decode cX8_parting 39 = .ok (.aaload, 1) := by decide +kernel
theorem dX8_parting_40 : decode cX8_parting 40 = .ok (.getfield 108, 3) := by decide +kernel
theorem dX8_parting_43 : decode cX8_parting 43 = .ok (.invokevirtual 191, 3) := by decide +kernel
theorem dX8_parting_46 : decode cX8_parting 46 = .ok (.iload_n 3, 1) := by decide +kernel
theorem dX8_parting_47 : decode cX8_parting 47 = .ok (.aload_n 0, 1) := by decide +kernel
theorem dX8_parting_48 : decode cX8_parting 48 = .ok (.getfield 58, 3) := by decide +kernel
theorem dX8_parting_51 : decode cX8_parting 51 = .ok (.getfield 195, 3) := by decide +kernel
theorem dX8_parting_54 : decode cX8_parting 54 = .ok (.if_icmp .ge 15, 3) := by decide +kernel
theorem dX8_parting_57 : decode cX8_parting 57 = .ok (.aload_n 0, 1) := by decide +kernel
theorem dX8_parting_58 : decode cX8_parting 58 = .ok (.getfield 58, 3) := by decide +kernel
theorem dX8_parting_61 : decode cX8_parting 61 = .ok (.getfield 198, 3) := by decide +kernel
theorem dX8_parting_64 : decode cX8_parting 64 = .ok (.iload_n 3, 1) := by decide +kernel
theorem dX8_parting_65 : decode cX8_parting 65 = .ok (.iaload, 1) := by decide +kernel
theorem dX8_parting_66 : decode cX8_parting 66 = .ok (.goto 4, 3) := by decide +kernel
theorem dX8_parting_69 : decode cX8_parting 69 = .ok (.iconst (-1), 1) := by decide +kernel
theorem dX8_parting_70 : decode cX8_parting 70 = .ok (.ireturn, 1) := by decide +kernel
theorem dX8_fewest_0 : decode cX8_fewest 0 = .ok (.iload_n 1, 1) := by decide +kernel
theorem dX8_fewest_1 : decode cX8_fewest 1 = .ok (.invokestatic 90, 3) := by decide +kernel
theorem dX8_fewest_4 : decode cX8_fewest 4 = .ok (.ifCond .eq 12, 3) := by decide +kernel
theorem dX8_fewest_7 : decode cX8_fewest 7 = .ok (.iload_n 2, 1) := by decide +kernel
theorem dX8_fewest_8 : decode cX8_fewest 8 = .ok (.ifCond .lt 8, 3) := by decide +kernel
theorem dX8_fewest_11 : decode cX8_fewest 11 = .ok (.iload_n 2, 1) := by decide +kernel
theorem dX8_fewest_12 : decode cX8_fewest 12 = .ok (.iconst 1, 1) := by decide +kernel
theorem dX8_fewest_13 : decode cX8_fewest 13 = .ok (.if_icmp .le 6, 3) := by decide +kernel
theorem dX8_fewest_16 : decode cX8_fewest 16 = .ok (.bipush (-2), 2) := by decide +kernel
theorem dX8_fewest_18 : decode cX8_fewest 18 = .ok (.ireturn, 1) := by decide +kernel
theorem dX8_fewest_19 : decode cX8_fewest 19 = .ok (.aload_n 0, 1) := by decide +kernel
theorem dX8_fewest_20 : decode cX8_fewest 20 = .ok (.getfield 58, 3) := by decide +kernel
theorem dX8_fewest_23 : decode cX8_fewest 23 = .ok (.aload_n 0, 1) := by decide +kernel
theorem dX8_fewest_24 : decode cX8_fewest 24 = .ok (.getfield 11, 3) := by decide +kernel
theorem dX8_fewest_27 : decode cX8_fewest 27 = .ok (.iload_n 1, 1) := by decide +kernel
theorem dX8_fewest_28 : decode cX8_fewest 28 = .ok (.aaload, 1) := by decide +kernel
theorem dX8_fewest_29 : decode cX8_fewest 29 = .ok (.getfield 108, 3) := by decide +kernel
theorem dX8_fewest_32 : decode cX8_fewest 32 = .ok (.iload_n 2, 1) := by decide +kernel
theorem dX8_fewest_33 : decode cX8_fewest 33 = .ok (.invokevirtual 201, 3) := by decide +kernel
theorem dX8_fewest_36 : decode cX8_fewest 36 = .ok (.ireturn, 1) := by decide +kernel
theorem dX8_club_0 : decode cX8_club 0 = .ok (.iload_n 1, 1) := by decide +kernel
theorem dX8_club_1 : decode cX8_club 1 = .ok (.invokestatic 90, 3) := by decide +kernel
theorem dX8_club_4 : decode cX8_club 4 = .ok (.ifCond .eq 10, 3) := by decide +kernel
theorem dX8_club_7 : decode cX8_club 7 = .ok (.iload_n 2, 1) := by decide +kernel
theorem dX8_club_8 : decode cX8_club 8 = .ok (.invokestatic 151, 3) := by decide +kernel
theorem dX8_club_11 : decode cX8_club 11 = .ok (.ifCond .ne 6, 3) := by decide +kernel
theorem dX8_club_14 : decode cX8_club 14 = .ok (.bipush (-2), 2) := by decide +kernel
theorem dX8_club_16 : decode cX8_club 16 = .ok (.ireturn, 1) := by decide +kernel
theorem dX8_club_17 : decode cX8_club 17 = .ok (.aload_n 0, 1) := by decide +kernel
theorem dX8_club_18 : decode cX8_club 18 = .ok (.getfield 205, 3) := by decide +kernel
theorem dX8_club_21 : decode cX8_club 21 = .ok (.bipush 12, 2) := by decide +kernel
theorem dX8_club_23 : decode cX8_club 23 = .ok (.if_icmp .lt 6, 3) := by decide +kernel
theorem dX8_club_26 : decode cX8_club 26 = .ok (.bipush (-4), 2) := by decide +kernel
theorem dX8_club_28 : decode cX8_club 28 = .ok (.ireturn, 1) := by decide +kernel
theorem dX8_club_29 : decode cX8_club 29 = .ok (.aload_n 0, 1) := by decide +kernel
theorem dX8_club_30 : decode cX8_club 30 = .ok (.getfield 23, 3) := by decide +kernel
theorem dX8_club_33 : decode cX8_club 33 = .ok (.aload_n 0, 1) := by decide +kernel
theorem dX8_club_34 : decode cX8_club 34 = .ok (.getfield 205, 3) := by decide +kernel
theorem dX8_club_37 : decode cX8_club 37 = .ok (.aaload, 1) := by decide +kernel
theorem dX8_club_38 : decode cX8_club 38 = .ok (.iload_n 1, 1) := by decide +kernel
theorem dX8_club_39 : decode cX8_club 39 = .ok (.putfield 208, 3) := by decide +kernel
theorem dX8_club_42 : decode cX8_club 42 = .ok (.aload_n 0, 1) := by decide +kernel
theorem dX8_club_43 : decode cX8_club 43 = .ok (.getfield 23, 3) := by decide +kernel
theorem dX8_club_46 : decode cX8_club 46 = .ok (.aload_n 0, 1) := by decide +kernel
theorem dX8_club_47 : decode cX8_club 47 = .ok (.getfield 205, 3) := by decide +kernel
theorem dX8_club_50 : decode cX8_club 50 = .ok (.aaload, 1) := by decide +kernel
theorem dX8_club_51 : decode cX8_club 51 = .ok (.iload_n 2, 1) := by decide +kernel
theorem dX8_club_52 : decode cX8_club 52 = .ok (.putfield 211, 3) := by decide +kernel
theorem dX8_club_55 : decode cX8_club 55 = .ok (.aload_n 0, 1) := by decide +kernel
theorem dX8_club_56 : decode cX8_club 56 = .ok (.dup, 1) := by decide +kernel
theorem dX8_club_57 : decode cX8_club 57 = .ok (.getfield 205, 3) := by decide +kernel
theorem dX8_club_60 : decode cX8_club 60 = .ok (.iconst 1, 1) := by decide +kernel
theorem dX8_club_61 : decode cX8_club 61 = .ok (.iadd, 1) := by decide +kernel
theorem dX8_club_62 : decode cX8_club 62 = .ok (.putfield 205, 3) := by decide +kernel
theorem dX8_club_65 : decode cX8_club 65 = .ok (.aload_n 0, 1) := by decide +kernel
theorem dX8_club_66 : decode cX8_club 66 = .ok (.getfield 205, 3) := by decide +kernel
theorem dX8_club_69 : decode cX8_club 69 = .ok (.iconst 1, 1) := by decide +kernel
theorem dX8_club_70 : decode cX8_club 70 = .ok (.isub, 1) := by decide +kernel
theorem dX8_club_71 : decode cX8_club 71 = .ok (.ireturn, 1) := by decide +kernel
theorem dX8_change_0 : decode cX8_change 0 = .ok (.aload_n 0, 1) := by decide +kernel
theorem dX8_change_1 : decode cX8_change 1 = .ok (.iload_n 1, 1) := by decide +kernel
theorem dX8_change_2 : decode cX8_change 2 = .ok (.invokevirtual 214, 3) := by decide +kernel
theorem dX8_change_5 : decode cX8_change 5 = .ok (.ifCond .ne 6, 3) := by decide +kernel
theorem dX8_change_8 : decode cX8_change 8 = .ok (.bipush (-2), 2) := by decide +kernel
theorem dX8_change_10 : decode cX8_change 10 = .ok (.ireturn, 1) := by decide +kernel
theorem dX8_change_11 : decode cX8_change 11 = .ok (.aload_n 0, 1) := by decide +kernel
theorem dX8_change_12 : decode cX8_change 12 = .ok (.getfield 23, 3) := by decide +kernel
theorem dX8_change_15 : decode cX8_change 15 = .ok (.iload_n 1, 1) := by decide +kernel
theorem dX8_change_16 : decode cX8_change 16 = .ok (.aaload, 1) := by decide +kernel
theorem dX8_change_17 : decode cX8_change 17 = .ok (.astore 4, 2) := by decide +kernel
theorem dX8_change_19 : decode cX8_change 19 = .ok (.iload_n 2, 1) := by decide +kernel
theorem dX8_change_20 : decode cX8_change 20 = .ok (.ifCond .ne 26, 3) := by decide +kernel
theorem dX8_change_23 : decode cX8_change 23 = .ok (.iload_n 3, 1) := by decide +kernel
theorem dX8_change_24 : decode cX8_change 24 = .ok (.invokestatic 90, 3) := by decide +kernel
theorem dX8_change_27 : decode cX8_change 27 = .ok (.ifCond .eq 19, 3) := by decide +kernel
theorem dX8_change_30 : decode cX8_change 30 = .ok (.aload 4, 2) := by decide +kernel
theorem dX8_change_32 : decode cX8_change 32 = .ok (.getfield 208, 3) := by decide +kernel
theorem dX8_change_35 : decode cX8_change 35 = .ok (.istore 5, 2) := by decide +kernel
theorem dX8_change_37 : decode cX8_change 37 = .ok (.aload 4, 2) := by decide +kernel
theorem dX8_change_39 : decode cX8_change 39 = .ok (.iload_n 3, 1) := by decide +kernel
theorem dX8_change_40 : decode cX8_change 40 = .ok (.putfield 208, 3) := by decide +kernel
theorem dX8_change_43 : decode cX8_change 43 = .ok (.goto 35, 3) := by decide +kernel
theorem dX8_change_46 : decode cX8_change 46 = .ok (.iload_n 2, 1) := by decide +kernel
theorem dX8_change_47 : decode cX8_change 47 = .ok (.iconst 1, 1) := by decide +kernel
theorem dX8_change_48 : decode cX8_change 48 = .ok (.if_icmp .ne 26, 3) := by decide +kernel
theorem dX8_change_51 : decode cX8_change 51 = .ok (.iload_n 3, 1) := by decide +kernel
theorem dX8_change_52 : decode cX8_change 52 = .ok (.invokestatic 151, 3) := by decide +kernel
theorem dX8_change_55 : decode cX8_change 55 = .ok (.ifCond .eq 19, 3) := by decide +kernel
theorem dX8_change_58 : decode cX8_change 58 = .ok (.aload 4, 2) := by decide +kernel
theorem dX8_change_60 : decode cX8_change 60 = .ok (.getfield 211, 3) := by decide +kernel
theorem dX8_change_63 : decode cX8_change 63 = .ok (.istore 5, 2) := by decide +kernel
theorem dX8_change_65 : decode cX8_change 65 = .ok (.aload 4, 2) := by decide +kernel
theorem dX8_change_67 : decode cX8_change 67 = .ok (.iload_n 3, 1) := by decide +kernel
theorem dX8_change_68 : decode cX8_change 68 = .ok (.putfield 211, 3) := by decide +kernel
theorem dX8_change_71 : decode cX8_change 71 = .ok (.goto 7, 3) := by decide +kernel
theorem dX8_change_74 : decode cX8_change 74 = .ok (.bipush (-2), 2) := by decide +kernel
theorem dX8_change_76 : decode cX8_change 76 = .ok (.istore 5, 2) := by decide +kernel
theorem dX8_change_78 : decode cX8_change 78 = .ok (.iload 5, 2) := by decide +kernel
theorem dX8_change_80 : decode cX8_change 80 = .ok (.ireturn, 1) := by decide +kernel
theorem dX8_agree_0 : decode cX8_agree 0 = .ok (.aload_n 0, 1) := by decide +kernel
theorem dX8_agree_1 : decode cX8_agree 1 = .ok (.iload_n 1, 1) := by decide +kernel
theorem dX8_agree_2 : decode cX8_agree 2 = .ok (.iload_n 2, 1) := by decide +kernel
theorem dX8_agree_3 : decode cX8_agree 3 = .ok (.invokevirtual 217, 3) := by decide +kernel
theorem dX8_agree_6 : decode cX8_agree 6 = .ok (.ifCond .ne 6, 3) := by decide +kernel
theorem dX8_agree_9 : decode cX8_agree 9 = .ok (.bipush (-2), 2) := by decide +kernel
theorem dX8_agree_11 : decode cX8_agree 11 = .ok (.ireturn, 1) := by decide +kernel
theorem dX8_agree_12 : decode cX8_agree 12 = .ok (.aload_n 0, 1) := by decide +kernel
theorem dX8_agree_13 : decode cX8_agree 13 = .ok (.iload_n 1, 1) := by decide +kernel
theorem dX8_agree_14 : decode cX8_agree 14 = .ok (.iload_n 2, 1) := by decide +kernel
theorem dX8_agree_15 : decode cX8_agree 15 = .ok (.invokevirtual 221, 3) := by decide +kernel
theorem dX8_agree_18 : decode cX8_agree 18 = .ok (.ifCond .ne 7, 3) := by decide +kernel
theorem dX8_agree_21 : decode cX8_agree 21 = .ok (.iconst 1, 1) := by decide +kernel
theorem dX8_agree_22 : decode cX8_agree 22 = .ok (.goto 4, 3) := by decide +kernel
theorem dX8_agree_25 : decode cX8_agree 25 = .ok (.iconst 0, 1) := by decide +kernel
theorem dX8_agree_26 : decode cX8_agree 26 = .ok (.ireturn, 1) := by decide +kernel
theorem dX8_gives_0 : decode cX8_gives 0 = .ok (.aload_n 0, 1) := by decide +kernel
theorem dX8_gives_1 : decode cX8_gives 1 = .ok (.iload_n 1, 1) := by decide +kernel
theorem dX8_gives_2 : decode cX8_gives 2 = .ok (.iload_n 2, 1) := by decide +kernel
theorem dX8_gives_3 : decode cX8_gives 3 = .ok (.invokevirtual 217, 3) := by decide +kernel
theorem dX8_gives_6 : decode cX8_gives 6 = .ok (.ifCond .ne 6, 3) := by decide +kernel
theorem dX8_gives_9 : decode cX8_gives 9 = .ok (.bipush (-2), 2) := by decide +kernel
theorem dX8_gives_11 : decode cX8_gives 11 = .ok (.ireturn, 1) := by decide +kernel
theorem dX8_gives_12 : decode cX8_gives 12 = .ok (.aload_n 0, 1) := by decide +kernel
theorem dX8_gives_13 : decode cX8_gives 13 = .ok (.iload_n 1, 1) := by decide +kernel
theorem dX8_gives_14 : decode cX8_gives 14 = .ok (.iload_n 2, 1) := by decide +kernel
theorem dX8_gives_15 : decode cX8_gives 15 = .ok (.invokevirtual 221, 3) := by decide +kernel
theorem dX8_gives_18 : decode cX8_gives 18 = .ok (.ifCond .eq 6, 3) := by decide +kernel
theorem dX8_gives_21 : decode cX8_gives 21 = .ok (.bipush (-3), 2) := by decide +kernel
theorem dX8_gives_23 : decode cX8_gives 23 = .ok (.ireturn, 1) := by decide +kernel
theorem dX8_gives_24 : decode cX8_gives 24 = .ok (.aload_n 0, 1) := by decide +kernel
theorem dX8_gives_25 : decode cX8_gives 25 = .ok (.iload_n 1, 1) := by decide +kernel
theorem dX8_gives_26 : decode cX8_gives 26 = .ok (.iload_n 2, 1) := by decide +kernel
theorem dX8_gives_27 : decode cX8_gives 27 = .ok (.invokevirtual 225, 3) := by decide +kernel
theorem dX8_gives_30 : decode cX8_gives 30 = .ok (.ireturn, 1) := by decide +kernel
theorem dX8_between_0 : decode cX8_between 0 = .ok (.aload_n 0, 1) := by decide +kernel
theorem dX8_between_1 : decode cX8_between 1 = .ok (.iload_n 1, 1) := by decide +kernel
theorem dX8_between_2 : decode cX8_between 2 = .ok (.iload_n 2, 1) := by decide +kernel
theorem dX8_between_3 : decode cX8_between 3 = .ok (.invokevirtual 217, 3) := by decide +kernel
theorem dX8_between_6 : decode cX8_between 6 = .ok (.ifCond .eq 19, 3) := by decide +kernel
theorem dX8_between_9 : decode cX8_between 9 = .ok (.aload_n 0, 1) := by decide +kernel
theorem dX8_between_10 : decode cX8_between 10 = .ok (.iload_n 3, 1) := by decide +kernel
theorem dX8_between_11 : decode cX8_between 11 = .ok (.invokevirtual 144, 3) := by decide +kernel
theorem dX8_between_14 : decode cX8_between 14 = .ok (.ifCond .eq 11, 3) := by decide +kernel
theorem dX8_between_17 : decode cX8_between 17 = .ok (.iload 4, 2) := by decide +kernel
theorem dX8_between_19 : decode cX8_between 19 = .ok (.invokestatic 154, 3) := by decide +kernel
theorem dX8_between_22 : decode cX8_between 22 = .ok (.ifCond .ne 6, 3) := by decide +kernel
theorem dX8_between_25 : decode cX8_between 25 = .ok (.bipush (-2), 2) := by decide +kernel
theorem dX8_between_27 : decode cX8_between 27 = .ok (.ireturn, 1) := by decide +kernel
theorem dX8_between_28 : decode cX8_between 28 = .ok (.aload_n 0, 1) := by decide +kernel
theorem dX8_between_29 : decode cX8_between 29 = .ok (.iload_n 1, 1) := by decide +kernel
theorem dX8_between_30 : decode cX8_between 30 = .ok (.iload_n 2, 1) := by decide +kernel
theorem dX8_between_31 : decode cX8_between 31 = .ok (.invokevirtual 221, 3) := by decide +kernel
theorem dX8_between_34 : decode cX8_between 34 = .ok (.ifCond .eq 6, 3) := by decide +kernel
theorem dX8_between_37 : decode cX8_between 37 = .ok (.bipush (-3), 2) := by decide +kernel
theorem dX8_between_39 : decode cX8_between 39 = .ok (.ireturn, 1) := by decide +kernel
theorem dX8_between_40 : decode cX8_between 40 = .ok (.iload_n 1, 1) := by decide +kernel
theorem dX8_between_41 : decode cX8_between 41 = .ok (.iload_n 2, 1) := by decide +kernel
theorem dX8_between_42 : decode cX8_between 42 = .ok (.invokestatic 228, 3) := by decide +kernel
theorem dX8_between_45 : decode cX8_between 45 = .ok (.istore 5, 2) := by decide +kernel
theorem dX8_between_47 : decode cX8_between 47 = .ok (.iload_n 1, 1) := by decide +kernel
theorem dX8_between_48 : decode cX8_between 48 = .ok (.iload_n 2, 1) := by decide +kernel
theorem dX8_between_49 : decode cX8_between 49 = .ok (.invokestatic 233, 3) := by decide +kernel
theorem dX8_between_52 : decode cX8_between 52 = .ok (.istore 6, 2) := by decide +kernel
theorem dX8_between_54 : decode cX8_between 54 = .ok (.aload_n 0, 1) := by decide +kernel
theorem dX8_between_55 : decode cX8_between 55 = .ok (.aload_n 0, 1) := by decide +kernel
theorem dX8_between_56 : decode cX8_between 56 = .ok (.iload 5, 2) := by decide +kernel
theorem dX8_between_58 : decode cX8_between 58 = .ok (.invokevirtual 236, 3) := by decide +kernel
theorem dX8_between_61 : decode cX8_between 61 = .ok (.aload_n 0, 1) := by decide +kernel
theorem dX8_between_62 : decode cX8_between 62 = .ok (.iload 6, 2) := by decide +kernel
theorem dX8_between_64 : decode cX8_between 64 = .ok (.invokevirtual 236, 3) := by decide +kernel
theorem dX8_between_67 : decode cX8_between 67 = .ok (.aload_n 0, 1) := by decide +kernel
theorem dX8_between_68 : decode cX8_between 68 = .ok (.iload 5, 2) := by decide +kernel
theorem dX8_between_70 : decode cX8_between 70 = .ok (.iload 6, 2) := by decide +kernel
theorem dX8_between_72 : decode cX8_between 72 = .ok (.invokevirtual 225, 3) := by decide +kernel
theorem dX8_between_75 : decode cX8_between 75 = .ok (.invokevirtual 157, 3) := by decide +kernel
theorem dX8_between_78 : decode cX8_between 78 = .ok (.aload_n 0, 1) := by decide +kernel
theorem dX8_between_79 : decode cX8_between 79 = .ok (.getfield 17, 3) := by decide +kernel
theorem dX8_between_82 : decode cX8_between 82 = .ok (.iload_n 3, 1) := by decide +kernel
theorem dX8_between_83 : decode cX8_between 83 = .ok (.aaload, 1) := by decide +kernel
theorem dX8_between_84 : decode cX8_between 84 = .ok (.aload_n 0, 1) := by decide +kernel
theorem dX8_between_85 : decode cX8_between 85 = .ok (.getfield 45, 3) := by decide +kernel
theorem dX8_between_88 : decode cX8_between 88 = .ok (.aload_n 0, 1) := by decide +kernel
theorem dX8_between_89 : decode cX8_between 89 = .ok (.getfield 51, 3) := by decide +kernel
theorem dX8_between_92 : decode cX8_between 92 = .ok (.invokevirtual 161, 3) := by decide +kernel
theorem dX8_between_95 : decode cX8_between 95 = .ok (.aload_n 0, 1) := by decide +kernel
theorem dX8_between_96 : decode cX8_between 96 = .ok (.getfield 51, 3) := by decide +kernel
theorem dX8_between_99 : decode cX8_between 99 = .ok (.iload 4, 2) := by decide +kernel
theorem dX8_between_101 : decode cX8_between 101 = .ok (.invokevirtual 165, 3) := by decide +kernel
theorem dX8_between_104 : decode cX8_between 104 = .ok (.ireturn, 1) := by decide +kernel
theorem dX8_halves_0 : decode cX8_halves 0 = .ok (.aload_n 0, 1) := by decide +kernel
theorem dX8_halves_1 : decode cX8_halves 1 = .ok (.iload_n 1, 1) := by decide +kernel
theorem dX8_halves_2 : decode cX8_halves 2 = .ok (.iload_n 2, 1) := by decide +kernel
theorem dX8_halves_3 : decode cX8_halves 3 = .ok (.invokevirtual 217, 3) := by decide +kernel
theorem dX8_halves_6 : decode cX8_halves 6 = .ok (.ifCond .eq 19, 3) := by decide +kernel
theorem dX8_halves_9 : decode cX8_halves 9 = .ok (.aload_n 0, 1) := by decide +kernel
theorem dX8_halves_10 : decode cX8_halves 10 = .ok (.iload_n 3, 1) := by decide +kernel
theorem dX8_halves_11 : decode cX8_halves 11 = .ok (.invokevirtual 144, 3) := by decide +kernel
theorem dX8_halves_14 : decode cX8_halves 14 = .ok (.ifCond .eq 11, 3) := by decide +kernel
theorem dX8_halves_17 : decode cX8_halves 17 = .ok (.iload 4, 2) := by decide +kernel
theorem dX8_halves_19 : decode cX8_halves 19 = .ok (.invokestatic 154, 3) := by decide +kernel
theorem dX8_halves_22 : decode cX8_halves 22 = .ok (.ifCond .ne 6, 3) := by decide +kernel
theorem dX8_halves_25 : decode cX8_halves 25 = .ok (.bipush (-2), 2) := by decide +kernel
theorem dX8_halves_27 : decode cX8_halves 27 = .ok (.ireturn, 1) := by decide +kernel
theorem dX8_halves_28 : decode cX8_halves 28 = .ok (.aload_n 0, 1) := by decide +kernel
theorem dX8_halves_29 : decode cX8_halves 29 = .ok (.getfield 17, 3) := by decide +kernel
theorem dX8_halves_32 : decode cX8_halves 32 = .ok (.iload_n 3, 1) := by decide +kernel
theorem dX8_halves_33 : decode cX8_halves 33 = .ok (.aaload, 1) := by decide +kernel
theorem dX8_halves_34 : decode cX8_halves 34 = .ok (.aload_n 0, 1) := by decide +kernel
theorem dX8_halves_35 : decode cX8_halves 35 = .ok (.iload_n 1, 1) := by decide +kernel
theorem dX8_halves_36 : decode cX8_halves 36 = .ok (.invokevirtual 236, 3) := by decide +kernel
theorem dX8_halves_39 : decode cX8_halves 39 = .ok (.aload_n 0, 1) := by decide +kernel
theorem dX8_halves_40 : decode cX8_halves 40 = .ok (.iload_n 2, 1) := by decide +kernel
theorem dX8_halves_41 : decode cX8_halves 41 = .ok (.invokevirtual 236, 3) := by decide +kernel
theorem dX8_halves_44 : decode cX8_halves 44 = .ok (.aload_n 0, 1) := by decide +kernel
theorem dX8_halves_45 : decode cX8_halves 45 = .ok (.getfield 51, 3) := by decide +kernel
theorem dX8_halves_48 : decode cX8_halves 48 = .ok (.invokevirtual 240, 3) := by decide +kernel
theorem dX8_halves_51 : decode cX8_halves 51 = .ok (.aload_n 0, 1) := by decide +kernel
theorem dX8_halves_52 : decode cX8_halves 52 = .ok (.getfield 51, 3) := by decide +kernel
theorem dX8_halves_55 : decode cX8_halves 55 = .ok (.iload 4, 2) := by decide +kernel
theorem dX8_halves_57 : decode cX8_halves 57 = .ok (.invokevirtual 165, 3) := by decide +kernel
theorem dX8_halves_60 : decode cX8_halves 60 = .ok (.ireturn, 1) := by decide +kernel
theorem dX8_member_0 : decode cX8_member 0 = .ok (.aload_n 0, 1) := by decide +kernel
theorem dX8_member_1 : decode cX8_member 1 = .ok (.iload_n 1, 1) := by decide +kernel
theorem dX8_member_2 : decode cX8_member 2 = .ok (.invokevirtual 214, 3) := by decide +kernel
theorem dX8_member_5 : decode cX8_member 5 = .ok (.ifCond .ne 6, 3) := by decide +kernel
theorem dX8_member_8 : decode cX8_member 8 = .ok (.bipush (-2), 2) := by decide +kernel
theorem dX8_member_10 : decode cX8_member 10 = .ok (.ireturn, 1) := by decide +kernel
theorem dX8_member_11 : decode cX8_member 11 = .ok (.aload_n 0, 1) := by decide +kernel
theorem dX8_member_12 : decode cX8_member 12 = .ok (.getfield 23, 3) := by decide +kernel
theorem dX8_member_15 : decode cX8_member 15 = .ok (.iload_n 1, 1) := by decide +kernel
theorem dX8_member_16 : decode cX8_member 16 = .ok (.aaload, 1) := by decide +kernel
theorem dX8_member_17 : decode cX8_member 17 = .ok (.getfield 244, 3) := by decide +kernel
theorem dX8_member_20 : decode cX8_member 20 = .ok (.iload_n 2, 1) := by decide +kernel
theorem dX8_member_21 : decode cX8_member 21 = .ok (.if_icmp .ne 5, 3) := by decide +kernel
theorem dX8_member_24 : decode cX8_member 24 = .ok (.iconst 0, 1) := by decide +kernel
theorem dX8_member_25 : decode cX8_member 25 = .ok (.ireturn, 1) := by decide +kernel
theorem dX8_member_26 : decode cX8_member 26 = .ok (.aload_n 0, 1) := by decide +kernel
theorem dX8_member_27 : decode cX8_member 27 = .ok (.getfield 23, 3) := by decide +kernel
theorem dX8_member_30 : decode cX8_member 30 = .ok (.iload_n 1, 1) := by decide +kernel
theorem dX8_member_31 : decode cX8_member 31 = .ok (.aaload, 1) := by decide +kernel
theorem dX8_member_32 : decode cX8_member 32 = .ok (.iload_n 2, 1) := by decide +kernel
theorem dX8_member_33 : decode cX8_member 33 = .ok (.putfield 244, 3) := by decide +kernel
theorem dX8_member_36 : decode cX8_member 36 = .ok (.iconst 1, 1) := by decide +kernel
theorem dX8_member_37 : decode cX8_member 37 = .ok (.ireturn, 1) := by decide +kernel
theorem dX8_rule_0 : decode cX8_rule 0 = .ok (.bipush (-2), 2) := by decide +kernel
theorem dX8_rule_2 : decode cX8_rule 2 = .ok (.istore_n 3, 1) := by decide +kernel
theorem dX8_rule_3 : decode cX8_rule 3 = .ok (.iload_n 1, 1) := by decide +kernel
theorem dX8_rule_4 : decode cX8_rule 4 = .ok (.ifCond .ne 29, 3) := by decide +kernel
theorem dX8_rule_7 : decode cX8_rule 7 = .ok (.iload_n 2, 1) := by decide +kernel
theorem dX8_rule_8 : decode cX8_rule 8 = .ok (.iconst 1, 1) := by decide +kernel
theorem dX8_rule_9 : decode cX8_rule 9 = .ok (.if_icmp .lt 24, 3) := by decide +kernel
theorem dX8_rule_12 : decode cX8_rule 12 = .ok (.iload_n 2, 1) := by decide +kernel
theorem dX8_rule_13 : decode cX8_rule 13 = .ok (.aload_n 0, 1) := by decide +kernel
theorem dX8_rule_14 : decode cX8_rule 14 = .ok (.getfield 80, 3) := by decide +kernel
theorem dX8_rule_17 : decode cX8_rule 17 = .ok (.if_icmp .gt 16, 3) := by decide +kernel
theorem dX8_rule_20 : decode cX8_rule 20 = .ok (.aload_n 0, 1) := by decide +kernel
theorem dX8_rule_21 : decode cX8_rule 21 = .ok (.getfield 76, 3) := by decide +kernel
theorem dX8_rule_24 : decode cX8_rule 24 = .ok (.istore_n 3, 1) := by decide +kernel
theorem dX8_rule_25 : decode cX8_rule 25 = .ok (.aload_n 0, 1) := by decide +kernel
theorem dX8_rule_26 : decode cX8_rule 26 = .ok (.iload_n 2, 1) := by decide +kernel
theorem dX8_rule_27 : decode cX8_rule 27 = .ok (.putfield 76, 3) := by decide +kernel
theorem dX8_rule_30 : decode cX8_rule 30 = .ok (.goto 60, 3) := by decide +kernel
theorem dX8_rule_33 : decode cX8_rule 33 = .ok (.iload_n 1, 1) := by decide +kernel
theorem dX8_rule_34 : decode cX8_rule 34 = .ok (.iconst 1, 1) := by decide +kernel
theorem dX8_rule_35 : decode cX8_rule 35 = .ok (.if_icmp .ne 30, 3) := by decide +kernel
theorem dX8_rule_38 : decode cX8_rule 38 = .ok (.iload_n 2, 1) := by decide +kernel
theorem dX8_rule_39 : decode cX8_rule 39 = .ok (.aload_n 0, 1) := by decide +kernel
theorem dX8_rule_40 : decode cX8_rule 40 = .ok (.getfield 76, 3) := by decide +kernel
theorem dX8_rule_43 : decode cX8_rule 43 = .ok (.if_icmp .lt 22, 3) := by decide +kernel
theorem dX8_rule_46 : decode cX8_rule 46 = .ok (.iload_n 2, 1) := by decide +kernel
theorem dX8_rule_47 : decode cX8_rule 47 = .ok (.bipush 9, 2) := by decide +kernel
theorem dX8_rule_49 : decode cX8_rule 49 = .ok (.if_icmp .gt 16, 3) := by decide +kernel
theorem dX8_rule_52 : decode cX8_rule 52 = .ok (.aload_n 0, 1) := by decide +kernel
theorem dX8_rule_53 : decode cX8_rule 53 = .ok (.getfield 80, 3) := by decide +kernel
theorem dX8_rule_56 : decode cX8_rule 56 = .ok (.istore_n 3, 1) := by decide +kernel
theorem dX8_rule_57 : decode cX8_rule 57 = .ok (.aload_n 0, 1) := by decide +kernel
theorem dX8_rule_58 : decode cX8_rule 58 = .ok (.iload_n 2, 1) := by decide +kernel
theorem dX8_rule_59 : decode cX8_rule 59 = .ok (.putfield 80, 3) := by decide +kernel
theorem dX8_rule_62 : decode cX8_rule 62 = .ok (.goto 28, 3) := by decide +kernel
theorem dX8_rule_65 : decode cX8_rule 65 = .ok (.iload_n 1, 1) := by decide +kernel
theorem dX8_rule_66 : decode cX8_rule 66 = .ok (.iconst 2, 1) := by decide +kernel
theorem dX8_rule_67 : decode cX8_rule 67 = .ok (.if_icmp .ne 23, 3) := by decide +kernel
theorem dX8_rule_70 : decode cX8_rule 70 = .ok (.iload_n 2, 1) := by decide +kernel
theorem dX8_rule_71 : decode cX8_rule 71 = .ok (.ifCond .lt 19, 3) := by decide +kernel
theorem dX8_rule_74 : decode cX8_rule 74 = .ok (.iload_n 2, 1) := by decide +kernel
theorem dX8_rule_75 : decode cX8_rule 75 = .ok (.bipush 12, 2) := by decide +kernel
theorem dX8_rule_77 : decode cX8_rule 77 = .ok (.if_icmp .gt 13, 3) := by decide +kernel
theorem dX8_rule_80 : decode cX8_rule 80 = .ok (.aload_n 0, 1) := by decide +kernel
theorem dX8_rule_81 : decode cX8_rule 81 = .ok (.getfield 83, 3) := by decide +kernel
theorem dX8_rule_84 : decode cX8_rule 84 = .ok (.istore_n 3, 1) := by decide +kernel
theorem dX8_rule_85 : decode cX8_rule 85 = .ok (.aload_n 0, 1) := by decide +kernel
theorem dX8_rule_86 : decode cX8_rule 86 = .ok (.iload_n 2, 1) := by decide +kernel
theorem dX8_rule_87 : decode cX8_rule 87 = .ok (.putfield 83, 3) := by decide +kernel
theorem dX8_rule_90 : decode cX8_rule 90 = .ok (.iload_n 3, 1) := by decide +kernel
theorem dX8_rule_91 : decode cX8_rule 91 = .ok (.ireturn, 1) := by decide +kernel
theorem dX8_law_0 : decode cX8_law 0 = .ok (.iload_n 1, 1) := by decide +kernel
theorem dX8_law_1 : decode cX8_law 1 = .ok (.invokestatic 105, 3) := by decide +kernel
theorem dX8_law_4 : decode cX8_law 4 = .ok (.ifCond .ne 6, 3) := by decide +kernel
theorem dX8_law_7 : decode cX8_law 7 = .ok (.bipush (-2), 2) := by decide +kernel
theorem dX8_law_9 : decode cX8_law 9 = .ok (.ireturn, 1) := by decide +kernel
theorem dX8_law_10 : decode cX8_law 10 = .ok (.aload_n 0, 1) := by decide +kernel
theorem dX8_law_11 : decode cX8_law 11 = .ok (.getfield 42, 3) := by decide +kernel
theorem dX8_law_14 : decode cX8_law 14 = .ok (.iload_n 1, 1) := by decide +kernel
theorem dX8_law_15 : decode cX8_law 15 = .ok (.iaload, 1) := by decide +kernel
theorem dX8_law_16 : decode cX8_law 16 = .ok (.ireturn, 1) := by decide +kernel
theorem dX8_enact_0 : decode cX8_enact 0 = .ok (.iload_n 1, 1) := by decide +kernel
theorem dX8_enact_1 : decode cX8_enact 1 = .ok (.invokestatic 90, 3) := by decide +kernel
theorem dX8_enact_4 : decode cX8_enact 4 = .ok (.ifCond .ne 6, 3) := by decide +kernel
theorem dX8_enact_7 : decode cX8_enact 7 = .ok (.bipush (-2), 2) := by decide +kernel
theorem dX8_enact_9 : decode cX8_enact 9 = .ok (.ireturn, 1) := by decide +kernel
theorem dX8_enact_10 : decode cX8_enact 10 = .ok (.aload_n 0, 1) := by decide +kernel
theorem dX8_enact_11 : decode cX8_enact 11 = .ok (.getfield 11, 3) := by decide +kernel
theorem dX8_enact_14 : decode cX8_enact 14 = .ok (.iload_n 1, 1) := by decide +kernel
theorem dX8_enact_15 : decode cX8_enact 15 = .ok (.aaload, 1) := by decide +kernel
theorem dX8_enact_16 : decode cX8_enact 16 = .ok (.getfield 108, 3) := by decide +kernel
theorem dX8_enact_19 : decode cX8_enact 19 = .ok (.iconst 0, 1) := by decide +kernel
theorem dX8_enact_20 : decode cX8_enact 20 = .ok (.aload_n 0, 1) := by decide +kernel
theorem dX8_enact_21 : decode cX8_enact 21 = .ok (.getfield 42, 3) := by decide +kernel
theorem dX8_enact_24 : decode cX8_enact 24 = .ok (.iconst 0, 1) := by decide +kernel
theorem dX8_enact_25 : decode cX8_enact 25 = .ok (.bipush 17, 2) := by decide +kernel
theorem dX8_enact_27 : decode cX8_enact 27 = .ok (.invokestatic 247, 3) := by decide +kernel
theorem dX8_enact_30 : decode cX8_enact 30 = .ok (.iconst 1, 1) := by decide +kernel
theorem dX8_enact_31 : decode cX8_enact 31 = .ok (.ireturn, 1) := by decide +kernel
theorem dX8_motion_0 : decode cX8_motion 0 = .ok (.iload_n 1, 1) := by decide +kernel
theorem dX8_motion_1 : decode cX8_motion 1 = .ok (.invokestatic 105, 3) := by decide +kernel
theorem dX8_motion_4 : decode cX8_motion 4 = .ok (.ifCond .eq 19, 3) := by decide +kernel
theorem dX8_motion_7 : decode cX8_motion 7 = .ok (.iload_n 2, 1) := by decide +kernel
theorem dX8_motion_8 : decode cX8_motion 8 = .ok (.invokestatic 90, 3) := by decide +kernel
theorem dX8_motion_11 : decode cX8_motion 11 = .ok (.ifCond .eq 12, 3) := by decide +kernel
theorem dX8_motion_14 : decode cX8_motion 14 = .ok (.iload_n 3, 1) := by decide +kernel
theorem dX8_motion_15 : decode cX8_motion 15 = .ok (.ifCond .lt 8, 3) := by decide +kernel
theorem dX8_motion_18 : decode cX8_motion 18 = .ok (.iload_n 3, 1) := by decide +kernel
theorem dX8_motion_19 : decode cX8_motion 19 = .ok (.iconst 3, 1) := by decide +kernel
theorem dX8_motion_20 : decode cX8_motion 20 = .ok (.if_icmp .le 6, 3) := by decide +kernel
theorem dX8_motion_23 : decode cX8_motion 23 = .ok (.bipush (-2), 2) := by decide +kernel
theorem dX8_motion_25 : decode cX8_motion 25 = .ok (.ireturn, 1) := by decide +kernel
theorem dX8_motion_26 : decode cX8_motion 26 = .ok (.aload_n 0, 1) := by decide +kernel
theorem dX8_motion_27 : decode cX8_motion 27 = .ok (.getfield 11, 3) := by decide +kernel
theorem dX8_motion_30 : decode cX8_motion 30 = .ok (.iload_n 2, 1) := by decide +kernel
theorem dX8_motion_31 : decode cX8_motion 31 = .ok (.aaload, 1) := by decide +kernel
theorem dX8_motion_32 : decode cX8_motion 32 = .ok (.getfield 108, 3) := by decide +kernel
theorem dX8_motion_35 : decode cX8_motion 35 = .ok (.iload_n 1, 1) := by decide +kernel
theorem dX8_motion_36 : decode cX8_motion 36 = .ok (.iaload, 1) := by decide +kernel
theorem dX8_motion_37 : decode cX8_motion 37 = .ok (.istore 4, 2) := by decide +kernel
theorem dX8_motion_39 : decode cX8_motion 39 = .ok (.iload_n 3, 1) := by decide +kernel
theorem dX8_motion_40 : decode cX8_motion 40 = .ok (.tableswitch 60 0 2 #[28, 36, 44], 28) := by decide +kernel
theorem dX8_motion_68 : decode cX8_motion 68 = .ok (.aload_n 0, 1) := by decide +kernel
theorem dX8_motion_69 : decode cX8_motion 69 = .ok (.iload_n 1, 1) := by decide +kernel
theorem dX8_motion_70 : decode cX8_motion 70 = .ok (.iload 4, 2) := by decide +kernel
theorem dX8_motion_72 : decode cX8_motion 72 = .ok (.invokevirtual 253, 3) := by decide +kernel
theorem dX8_motion_75 : decode cX8_motion 75 = .ok (.ireturn, 1) := by decide +kernel
theorem dX8_motion_76 : decode cX8_motion 76 = .ok (.aload_n 0, 1) := by decide +kernel
theorem dX8_motion_77 : decode cX8_motion 77 = .ok (.iload_n 1, 1) := by decide +kernel
theorem dX8_motion_78 : decode cX8_motion 78 = .ok (.iload 4, 2) := by decide +kernel
theorem dX8_motion_80 : decode cX8_motion 80 = .ok (.invokevirtual 256, 3) := by decide +kernel
theorem dX8_motion_83 : decode cX8_motion 83 = .ok (.ireturn, 1) := by decide +kernel
theorem dX8_motion_84 : decode cX8_motion 84 = .ok (.aload_n 0, 1) := by decide +kernel
theorem dX8_motion_85 : decode cX8_motion 85 = .ok (.iload_n 1, 1) := by decide +kernel
theorem dX8_motion_86 : decode cX8_motion 86 = .ok (.iload 4, 2) := by decide +kernel
theorem dX8_motion_88 : decode cX8_motion 88 = .ok (.invokevirtual 259, 3) := by decide +kernel
theorem dX8_motion_91 : decode cX8_motion 91 = .ok (.ifCond .eq 7, 3) := by decide +kernel
theorem dX8_motion_94 : decode cX8_motion 94 = .ok (.iconst 1, 1) := by decide +kernel
theorem dX8_motion_95 : decode cX8_motion 95 = .ok (.goto 4, 3) := by decide +kernel
theorem dX8_motion_98 : decode cX8_motion 98 = .ok (.iconst 0, 1) := by decide +kernel
theorem dX8_motion_99 : decode cX8_motion 99 = .ok (.ireturn, 1) := by decide +kernel
theorem dX8_motion_100 : decode cX8_motion 100 = .ok (.aload_n 0, 1) := by decide +kernel
theorem dX8_motion_101 : decode cX8_motion 101 = .ok (.iload_n 1, 1) := by decide +kernel
theorem dX8_motion_102 : decode cX8_motion 102 = .ok (.iload 4, 2) := by decide +kernel
theorem dX8_motion_104 : decode cX8_motion 104 = .ok (.invokevirtual 262, 3) := by decide +kernel
theorem dX8_motion_107 : decode cX8_motion 107 = .ok (.ireturn, 1) := by decide +kernel
theorem dX8_put_0 : decode cX8_put 0 = .ok (.iload_n 1, 1) := by decide +kernel
theorem dX8_put_1 : decode cX8_put 1 = .ok (.invokestatic 105, 3) := by decide +kernel
theorem dX8_put_4 : decode cX8_put 4 = .ok (.ifCond .eq 10, 3) := by decide +kernel
theorem dX8_put_7 : decode cX8_put 7 = .ok (.iload_n 2, 1) := by decide +kernel
theorem dX8_put_8 : decode cX8_put 8 = .ok (.invokestatic 90, 3) := by decide +kernel
theorem dX8_put_11 : decode cX8_put 11 = .ok (.ifCond .ne 6, 3) := by decide +kernel
theorem dX8_put_14 : decode cX8_put 14 = .ok (.bipush (-2), 2) := by decide +kernel
theorem dX8_put_16 : decode cX8_put 16 = .ok (.ireturn, 1) := by decide +kernel
theorem dX8_put_17 : decode cX8_put 17 = .ok (.aload_n 0, 1) := by decide +kernel
theorem dX8_put_18 : decode cX8_put 18 = .ok (.getfield 11, 3) := by decide +kernel
theorem dX8_put_21 : decode cX8_put 21 = .ok (.iload_n 2, 1) := by decide +kernel
theorem dX8_put_22 : decode cX8_put 22 = .ok (.aaload, 1) := by decide +kernel
theorem dX8_put_23 : decode cX8_put 23 = .ok (.getfield 108, 3) := by decide +kernel
theorem dX8_put_26 : decode cX8_put 26 = .ok (.iload_n 1, 1) := by decide +kernel
theorem dX8_put_27 : decode cX8_put 27 = .ok (.iaload, 1) := by decide +kernel
theorem dX8_put_28 : decode cX8_put 28 = .ok (.istore_n 3, 1) := by decide +kernel
theorem dX8_put_29 : decode cX8_put 29 = .ok (.aload_n 0, 1) := by decide +kernel
theorem dX8_put_30 : decode cX8_put 30 = .ok (.iload_n 1, 1) := by decide +kernel
theorem dX8_put_31 : decode cX8_put 31 = .ok (.iload_n 3, 1) := by decide +kernel
theorem dX8_put_32 : decode cX8_put 32 = .ok (.invokevirtual 259, 3) := by decide +kernel
theorem dX8_put_35 : decode cX8_put 35 = .ok (.ifCond .ne 5, 3) := by decide +kernel
theorem dX8_put_38 : decode cX8_put 38 = .ok (.iconst 0, 1) := by decide +kernel
theorem dX8_put_39 : decode cX8_put 39 = .ok (.ireturn, 1) := by decide +kernel
theorem dX8_put_40 : decode cX8_put 40 = .ok (.aload_n 0, 1) := by decide +kernel
