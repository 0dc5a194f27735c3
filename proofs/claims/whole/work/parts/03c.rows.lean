theorem dX6_is_36 : decode cX6_is 36 = .ok (.aload_n 1, 1) := by decide +kernel
theorem dX6_is_37 : decode cX6_is 37 = .ok (.invokevirtual 221, 3) := by decide +kernel
theorem dX6_is_40 : decode cX6_is 40 = .ok (.if_icmp .ge 29, 3) := by decide +kernel
theorem dX6_is_43 : decode cX6_is 43 = .ok (.aload_n 0, 1) := by decide +kernel
theorem dX6_is_44 : decode cX6_is 44 = .ok (.aload_n 0, 1) := by decide +kernel
theorem dX6_is_45 : decode cX6_is 45 = .ok (.getfield 25, 3) := by decide +kernel
theorem dX6_is_48 : decode cX6_is 48 = .ok (.iload_n 2, 1) := by decide +kernel
theorem dX6_is_49 : decode cX6_is 49 = .ok (.iadd, 1) := by decide +kernel
theorem dX6_is_50 : decode cX6_is 50 = .ok (.invokevirtual 225, 3) := by decide +kernel
theorem dX6_is_53 : decode cX6_is 53 = .ok (.aload_n 1, 1) := by decide +kernel
theorem dX6_is_54 : decode cX6_is 54 = .ok (.iload_n 2, 1) := by decide +kernel
theorem dX6_is_55 : decode cX6_is 55 = .ok (.invokevirtual 229, 3) := by decide +kernel
theorem dX6_is_58 : decode cX6_is 58 = .ok (.if_icmp .eq 5, 3) := by decide +kernel
theorem dX6_is_61 : decode cX6_is 61 = .ok (.iconst 0, 1) := by decide +kernel
theorem dX6_is_62 : decode cX6_is 62 = .ok (.ireturn, 1) := by decide +kernel
theorem dX6_is_63 : decode cX6_is 63 = .ok (.iinc 2 1, 3) := by decide +kernel
theorem dX6_is_66 : decode cX6_is 66 = .ok (.goto (-31), 3) := by decide +kernel
theorem dX6_is_69 : decode cX6_is 69 = .ok (.iconst 1, 1) := by decide +kernel
theorem dX6_is_70 : decode cX6_is 70 = .ok (.ireturn, 1) := by decide +kernel
theorem dX6_next_0 : decode cX6_next 0 = .ok (.aload_n 0, 1) := by decide +kernel
theorem dX6_next_1 : decode cX6_next 1 = .ok (.aload_n 0, 1) := by decide +kernel
theorem dX6_next_2 : decode cX6_next 2 = .ok (.getfield 28, 3) := by decide +kernel
theorem dX6_next_5 : decode cX6_next 5 = .ok (.putfield 25, 3) := by decide +kernel
theorem dX6_next_8 : decode cX6_next 8 = .ok (.aload_n 0, 1) := by decide +kernel
theorem dX6_next_9 : decode cX6_next 9 = .ok (.getfield 25, 3) := by decide +kernel
theorem dX6_next_12 : decode cX6_next 12 = .ok (.aload_n 0, 1) := by decide +kernel
theorem dX6_next_13 : decode cX6_next 13 = .ok (.getfield 22, 3) := by decide +kernel
theorem dX6_next_16 : decode cX6_next 16 = .ok (.if_icmp .ge 30, 3) := by decide +kernel
theorem dX6_next_19 : decode cX6_next 19 = .ok (.aload_n 0, 1) := by decide +kernel
theorem dX6_next_20 : decode cX6_next 20 = .ok (.aload_n 0, 1) := by decide +kernel
theorem dX6_next_21 : decode cX6_next 21 = .ok (.getfield 25, 3) := by decide +kernel
theorem dX6_next_24 : decode cX6_next 24 = .ok (.invokevirtual 225, 3) := by decide +kernel
theorem dX6_next_27 : decode cX6_next 27 = .ok (.invokestatic 233, 3) := by decide +kernel
theorem dX6_next_30 : decode cX6_next 30 = .ok (.ifCond .eq 16, 3) := by decide +kernel
theorem dX6_next_33 : decode cX6_next 33 = .ok (.aload_n 0, 1) := by decide +kernel
theorem dX6_next_34 : decode cX6_next 34 = .ok (.dup, 1) := by decide +kernel
theorem dX6_next_35 : decode cX6_next 35 = .ok (.getfield 25, 3) := by decide +kernel
theorem dX6_next_38 : decode cX6_next 38 = .ok (.iconst 1, 1) := by decide +kernel
theorem dX6_next_39 : decode cX6_next 39 = .ok (.iadd, 1) := by decide +kernel
theorem dX6_next_40 : decode cX6_next 40 = .ok (.putfield 25, 3) := by decide +kernel
theorem dX6_next_43 : decode cX6_next 43 = .ok (.goto (-35), 3) := by decide +kernel
theorem dX6_next_46 : decode cX6_next 46 = .ok (.aload_n 0, 1) := by decide +kernel
theorem dX6_next_47 : decode cX6_next 47 = .ok (.getfield 25, 3) := by decide +kernel
theorem dX6_next_50 : decode cX6_next 50 = .ok (.aload_n 0, 1) := by decide +kernel
theorem dX6_next_51 : decode cX6_next 51 = .ok (.getfield 22, 3) := by decide +kernel
theorem dX6_next_54 : decode cX6_next 54 = .ok (.if_icmp .lt 17, 3) := by decide +kernel
theorem dX6_next_57 : decode cX6_next 57 = .ok (.aload_n 0, 1) := by decide +kernel
theorem dX6_next_58 : decode cX6_next 58 = .ok (.aload_n 0, 1) := by decide +kernel
theorem dX6_next_59 : decode cX6_next 59 = .ok (.getfield 25, 3) := by decide +kernel
theorem dX6_next_62 : decode cX6_next 62 = .ok (.putfield 28, 3) := by decide +kernel
theorem dX6_next_65 : decode cX6_next 65 = .ok (.aload_n 0, 1) := by decide +kernel
theorem dX6_next_66 : decode cX6_next 66 = .ok (.iconst 3, 1) := by decide +kernel
theorem dX6_next_67 : decode cX6_next 67 = .ok (.putfield 31, 3) := by decide +kernel
theorem dX6_next_70 : decode cX6_next 70 = .ok (.return_, 1) := by decide +kernel
theorem dX6_next_71 : decode cX6_next 71 = .ok (.aload_n 0, 1) := by decide +kernel
theorem dX6_next_72 : decode cX6_next 72 = .ok (.aload_n 0, 1) := by decide +kernel
theorem dX6_next_73 : decode cX6_next 73 = .ok (.getfield 25, 3) := by decide +kernel
theorem dX6_next_76 : decode cX6_next 76 = .ok (.iconst 1, 1) := by decide +kernel
theorem dX6_next_77 : decode cX6_next 77 = .ok (.iadd, 1) := by decide +kernel
theorem dX6_next_78 : decode cX6_next 78 = .ok (.putfield 28, 3) := by decide +kernel
theorem dX6_next_81 : decode cX6_next 81 = .ok (.aload_n 0, 1) := by decide +kernel
theorem dX6_next_82 : decode cX6_next 82 = .ok (.aload_n 0, 1) := by decide +kernel
theorem dX6_next_83 : decode cX6_next 83 = .ok (.getfield 25, 3) := by decide +kernel
theorem dX6_next_86 : decode cX6_next 86 = .ok (.invokevirtual 225, 3) := by decide +kernel
theorem dX6_next_89 : decode cX6_next 89 = .ok (.istore_n 1, 1) := by decide +kernel
theorem dX6_next_90 : decode cX6_next 90 = .ok (.iload_n 1, 1) := by decide +kernel
theorem dX6_next_91 : decode cX6_next 91 = .ok (.invokestatic 236, 3) := by decide +kernel
theorem dX6_next_94 : decode cX6_next 94 = .ok (.ifCond .eq 46, 3) := by decide +kernel
theorem dX6_next_97 : decode cX6_next 97 = .ok (.aload_n 0, 1) := by decide +kernel
theorem dX6_next_98 : decode cX6_next 98 = .ok (.iconst 0, 1) := by decide +kernel
theorem dX6_next_99 : decode cX6_next 99 = .ok (.putfield 31, 3) := by decide +kernel
theorem dX6_next_102 : decode cX6_next 102 = .ok (.aload_n 0, 1) := by decide +kernel
theorem dX6_next_103 : decode cX6_next 103 = .ok (.getfield 28, 3) := by decide +kernel
theorem dX6_next_106 : decode cX6_next 106 = .ok (.aload_n 0, 1) := by decide +kernel
theorem dX6_next_107 : decode cX6_next 107 = .ok (.getfield 22, 3) := by decide +kernel
theorem dX6_next_110 : decode cX6_next 110 = .ok (.if_icmp .ge 163, 3) := by decide +kernel
theorem dX6_next_113 : decode cX6_next 113 = .ok (.aload_n 0, 1) := by decide +kernel
theorem dX6_next_114 : decode cX6_next 114 = .ok (.aload_n 0, 1) := by decide +kernel
theorem dX6_next_115 : decode cX6_next 115 = .ok (.getfield 28, 3) := by decide +kernel
theorem dX6_next_118 : decode cX6_next 118 = .ok (.invokevirtual 225, 3) := by decide +kernel
theorem dX6_next_121 : decode cX6_next 121 = .ok (.invokestatic 236, 3) := by decide +kernel
theorem dX6_next_124 : decode cX6_next 124 = .ok (.ifCond .eq 149, 3) := by decide +kernel
theorem dX6_next_127 : decode cX6_next 127 = .ok (.aload_n 0, 1) := by decide +kernel
theorem dX6_next_128 : decode cX6_next 128 = .ok (.dup, 1) := by decide +kernel
theorem dX6_next_129 : decode cX6_next 129 = .ok (.getfield 28, 3) := by decide +kernel
theorem dX6_next_132 : decode cX6_next 132 = .ok (.iconst 1, 1) := by decide +kernel
theorem dX6_next_133 : decode cX6_next 133 = .ok (.iadd, 1) := by decide +kernel
theorem dX6_next_134 : decode cX6_next 134 = .ok (.putfield 28, 3) := by decide +kernel
theorem dX6_next_137 : decode cX6_next 137 = .ok (.goto (-35), 3) := by decide +kernel
theorem dX6_next_140 : decode cX6_next 140 = .ok (.iload_n 1, 1) := by decide +kernel
theorem dX6_next_141 : decode cX6_next 141 = .ok (.invokestatic 239, 3) := by decide +kernel
theorem dX6_next_144 : decode cX6_next 144 = .ok (.ifCond .eq 110, 3) := by decide +kernel
theorem dX6_next_147 : decode cX6_next 147 = .ok (.aload_n 0, 1) := by decide +kernel
theorem dX6_next_148 : decode cX6_next 148 = .ok (.iload_n 1, 1) := by decide +kernel
theorem dX6_next_149 : decode cX6_next 149 = .ok (.bipush 48, 2) := by decide +kernel
theorem dX6_next_151 : decode cX6_next 151 = .ok (.isub, 1) := by decide +kernel
theorem dX6_next_152 : decode cX6_next 152 = .ok (.putfield 34, 3) := by decide +kernel
theorem dX6_next_155 : decode cX6_next 155 = .ok (.aload_n 0, 1) := by decide +kernel
theorem dX6_next_156 : decode cX6_next 156 = .ok (.getfield 28, 3) := by decide +kernel
theorem dX6_next_159 : decode cX6_next 159 = .ok (.aload_n 0, 1) := by decide +kernel
theorem dX6_next_160 : decode cX6_next 160 = .ok (.getfield 22, 3) := by decide +kernel
theorem dX6_next_163 : decode cX6_next 163 = .ok (.if_icmp .ge 66, 3) := by decide +kernel
theorem dX6_next_166 : decode cX6_next 166 = .ok (.aload_n 0, 1) := by decide +kernel
theorem dX6_next_167 : decode cX6_next 167 = .ok (.aload_n 0, 1) := by decide +kernel
theorem dX6_next_168 : decode cX6_next 168 = .ok (.getfield 28, 3) := by decide +kernel
theorem dX6_next_171 : decode cX6_next 171 = .ok (.invokevirtual 225, 3) := by decide +kernel
theorem dX6_next_174 : decode cX6_next 174 = .ok (.invokestatic 239, 3) := by decide +kernel
theorem dX6_next_177 : decode cX6_next 177 = .ok (.ifCond .eq 52, 3) := by decide +kernel
theorem dX6_next_180 : decode cX6_next 180 = .ok (.aload_n 0, 1) := by decide +kernel
theorem dX6_next_181 : decode cX6_next 181 = .ok (.getfield 28, 3) := by decide +kernel
theorem dX6_next_184 : decode cX6_next 184 = .ok (.aload_n 0, 1) := by decide +kernel
theorem dX6_next_185 : decode cX6_next 185 = .ok (.getfield 25, 3) := by decide +kernel
theorem dX6_next_188 : decode cX6_next 188 = .ok (.isub, 1) := by decide +kernel
theorem dX6_next_189 : decode cX6_next 189 = .ok (.iconst 3, 1) := by decide +kernel
theorem dX6_next_190 : decode cX6_next 190 = .ok (.if_icmp .ge 26, 3) := by decide +kernel
theorem dX6_next_193 : decode cX6_next 193 = .ok (.aload_n 0, 1) := by decide +kernel
theorem dX6_next_194 : decode cX6_next 194 = .ok (.aload_n 0, 1) := by decide +kernel
theorem dX6_next_195 : decode cX6_next 195 = .ok (.getfield 34, 3) := by decide +kernel
theorem dX6_next_198 : decode cX6_next 198 = .ok (.bipush 10, 2) := by decide +kernel
theorem dX6_next_200 : decode cX6_next 200 = .ok (.imul, 1) := by decide +kernel
theorem dX6_next_201 : decode cX6_next 201 = .ok (.aload_n 0, 1) := by decide +kernel
theorem dX6_next_202 : decode cX6_next 202 = .ok (.aload_n 0, 1) := by decide +kernel
theorem dX6_next_203 : decode cX6_next 203 = .ok (.getfield 28, 3) := by decide +kernel
theorem dX6_next_206 : decode cX6_next 206 = .ok (.invokevirtual 225, 3) := by decide +kernel
theorem dX6_next_209 : decode cX6_next 209 = .ok (.iadd, 1) := by decide +kernel
theorem dX6_next_210 : decode cX6_next 210 = .ok (.bipush 48, 2) := by decide +kernel
theorem dX6_next_212 : decode cX6_next 212 = .ok (.isub, 1) := by decide +kernel
theorem dX6_next_213 : decode cX6_next 213 = .ok (.putfield 34, 3) := by decide +kernel
theorem dX6_next_216 : decode cX6_next 216 = .ok (.aload_n 0, 1) := by decide +kernel
theorem dX6_next_217 : decode cX6_next 217 = .ok (.dup, 1) := by decide +kernel
theorem dX6_next_218 : decode cX6_next 218 = .ok (.getfield 28, 3) := by decide +kernel
theorem dX6_next_221 : decode cX6_next 221 = .ok (.iconst 1, 1) := by decide +kernel
theorem dX6_next_222 : decode cX6_next 222 = .ok (.iadd, 1) := by decide +kernel
theorem dX6_next_223 : decode cX6_next 223 = .ok (.putfield 28, 3) := by decide +kernel
theorem dX6_next_226 : decode cX6_next 226 = .ok (.goto (-71), 3) := by decide +kernel
theorem dX6_next_229 : decode cX6_next 229 = .ok (.aload_n 0, 1) := by decide +kernel
theorem dX6_next_230 : decode cX6_next 230 = .ok (.aload_n 0, 1) := by decide +kernel
theorem dX6_next_231 : decode cX6_next 231 = .ok (.getfield 28, 3) := by decide +kernel
theorem dX6_next_234 : decode cX6_next 234 = .ok (.aload_n 0, 1) := by decide +kernel
theorem dX6_next_235 : decode cX6_next 235 = .ok (.getfield 25, 3) := by decide +kernel
theorem dX6_next_238 : decode cX6_next 238 = .ok (.isub, 1) := by decide +kernel
theorem dX6_next_239 : decode cX6_next 239 = .ok (.iconst 3, 1) := by decide +kernel
theorem dX6_next_240 : decode cX6_next 240 = .ok (.if_icmp .le 7, 3) := by decide +kernel
theorem dX6_next_243 : decode cX6_next 243 = .ok (.iconst 4, 1) := by decide +kernel
theorem dX6_next_244 : decode cX6_next 244 = .ok (.goto 4, 3) := by decide +kernel
theorem dX6_next_247 : decode cX6_next 247 = .ok (.iconst 1, 1) := by decide +kernel
theorem dX6_next_248 : decode cX6_next 248 = .ok (.putfield 31, 3) := by decide +kernel
theorem dX6_next_251 : decode cX6_next 251 = .ok (.goto 22, 3) := by decide +kernel
theorem dX6_next_254 : decode cX6_next 254 = .ok (.aload_n 0, 1) := by decide +kernel
theorem dX6_next_255 : decode cX6_next 255 = .ok (.ldc 242, 2) := by decide +kernel
theorem dX6_next_257 : decode cX6_next 257 = .ok (.iload_n 1, 1) := by decide +kernel
theorem dX6_next_258 : decode cX6_next 258 = .ok (.i2c, 1) := by decide +kernel
theorem dX6_next_259 : decode cX6_next 259 = .ok (.invokevirtual 244, 3) := by decide +kernel
theorem dX6_next_262 : decode cX6_next 262 = .ok (.ifCond .lt 7, 3) := by decide +kernel
theorem dX6_next_265 : decode cX6_next 265 = .ok (.iconst 2, 1) := by decide +kernel
theorem dX6_next_266 : decode cX6_next 266 = .ok (.goto 4, 3) := by decide +kernel
theorem dX6_next_269 : decode cX6_next 269 = .ok (.iconst 4, 1) := by decide +kernel
theorem dX6_next_270 : decode cX6_next 270 = .ok (.putfield 31, 3) := by decide +kernel
theorem dX6_next_273 : decode cX6_next 273 = .ok (.return_, 1) := by decide +kernel
theorem dX6_byteAt_0 : decode cX6_byteAt 0 = .ok (.iload_n 1, 1) := by decide +kernel
theorem dX6_byteAt_1 : decode cX6_byteAt 1 = .ok (.ifCond .lt 25, 3) := by decide +kernel
theorem dX6_byteAt_4 : decode cX6_byteAt 4 = .ok (.iload_n 1, 1) := by decide +kernel
theorem dX6_byteAt_5 : decode cX6_byteAt 5 = .ok (.aload_n 0, 1) := by decide +kernel
theorem dX6_byteAt_6 : decode cX6_byteAt 6 = .ok (.getfield 18, 3) := by decide +kernel
theorem dX6_byteAt_9 : decode cX6_byteAt 9 = .ok (.arraylength, 1) := by decide +kernel
theorem dX6_byteAt_10 : decode cX6_byteAt 10 = .ok (.if_icmp .ge 16, 3) := by decide +kernel
theorem dX6_byteAt_13 : decode cX6_byteAt 13 = .ok (.aload_n 0, 1) := by decide +kernel
theorem dX6_byteAt_14 : decode cX6_byteAt 14 = .ok (.getfield 18, 3) := by decide +kernel
theorem dX6_byteAt_17 : decode cX6_byteAt 17 = .ok (.iload_n 1, 1) := by decide +kernel
theorem dX6_byteAt_18 : decode cX6_byteAt 18 = .ok (.baload, 1) := by decide +kernel
theorem dX6_byteAt_19 : decode cX6_byteAt 19 = .ok (.sipush 255, 3) := by decide +kernel
theorem dX6_byteAt_22 : decode cX6_byteAt 22 = .ok (.iand, 1) := by decide +kernel
theorem dX6_byteAt_23 : decode cX6_byteAt 23 = .ok (.goto 4, 3) := by decide +kernel
theorem dX6_byteAt_26 : decode cX6_byteAt 26 = .ok (.iconst 0, 1) := by decide +kernel
theorem dX6_byteAt_27 : decode cX6_byteAt 27 = .ok (.ireturn, 1) := by decide +kernel
theorem dX6_isBlank_0 : decode cX6_isBlank 0 = .ok (.iload_n 0, 1) := by decide +kernel
theorem dX6_isBlank_1 : decode cX6_isBlank 1 = .ok (.bipush 10, 2) := by decide +kernel
theorem dX6_isBlank_3 : decode cX6_isBlank 3 = .ok (.if_icmp .eq 9, 3) := by decide +kernel
theorem dX6_isBlank_6 : decode cX6_isBlank 6 = .ok (.iload_n 0, 1) := by decide +kernel
theorem dX6_isBlank_7 : decode cX6_isBlank 7 = .ok (.bipush 32, 2) := by decide +kernel
theorem dX6_isBlank_9 : decode cX6_isBlank 9 = .ok (.if_icmp .ne 7, 3) := by decide +kernel
theorem dX6_isBlank_12 : decode cX6_isBlank 12 = .ok (.iconst 1, 1) := by decide +kernel
theorem dX6_isBlank_13 : decode cX6_isBlank 13 = .ok (.goto 4, 3) := by decide +kernel
theorem dX6_isBlank_16 : decode cX6_isBlank 16 = .ok (.iconst 0, 1) := by decide +kernel
theorem dX6_isBlank_17 : decode cX6_isBlank 17 = .ok (.ireturn, 1) := by decide +kernel
theorem dX6_isLetter_0 : decode cX6_isLetter 0 = .ok (.iload_n 0, 1) := by decide +kernel
theorem dX6_isLetter_1 : decode cX6_isLetter 1 = .ok (.bipush 97, 2) := by decide +kernel
theorem dX6_isLetter_3 : decode cX6_isLetter 3 = .ok (.if_icmp .lt 13, 3) := by decide +kernel
theorem dX6_isLetter_6 : decode cX6_isLetter 6 = .ok (.iload_n 0, 1) := by decide +kernel
theorem dX6_isLetter_7 : decode cX6_isLetter 7 = .ok (.bipush 122, 2) := by decide +kernel
theorem dX6_isLetter_9 : decode cX6_isLetter 9 = .ok (.if_icmp .gt 7, 3) := by decide +kernel
theorem dX6_isLetter_12 : decode cX6_isLetter 12 = .ok (.iconst 1, 1) := by decide +kernel
theorem dX6_isLetter_13 : decode cX6_isLetter 13 = .ok (.goto 4, 3) := by decide +kernel
theorem dX6_isLetter_16 : decode cX6_isLetter 16 = .ok (.iconst 0, 1) := by decide +kernel
theorem dX6_isLetter_17 : decode cX6_isLetter 17 = .ok (.ireturn, 1) := by decide +kernel
theorem dX6_isDigit_0 : decode cX6_isDigit 0 = .ok (.iload_n 0, 1) := by decide +kernel
theorem dX6_isDigit_1 : decode cX6_isDigit 1 = .ok (.bipush 48, 2) := by decide +kernel
theorem dX6_isDigit_3 : decode cX6_isDigit 3 = .ok (.if_icmp .lt 13, 3) := by decide +kernel
theorem dX6_isDigit_6 : decode cX6_isDigit 6 = .ok (.iload_n 0, 1) := by decide +kernel
theorem dX6_isDigit_7 : decode cX6_isDigit 7 = .ok (.bipush 57, 2) := by decide +kernel
theorem dX6_isDigit_9 : decode cX6_isDigit 9 = .ok (.if_icmp .gt 7, 3) := by decide +kernel
theorem dX6_isDigit_12 : decode cX6_isDigit 12 = .ok (.iconst 1, 1) := by decide +kernel
theorem dX6_isDigit_13 : decode cX6_isDigit 13 = .ok (.goto 4, 3) := by decide +kernel
theorem dX6_isDigit_16 : decode cX6_isDigit 16 = .ok (.iconst 0, 1) := by decide +kernel
theorem dX6_isDigit_17 : decode cX6_isDigit 17 = .ok (.ireturn, 1) := by decide +kernel
theorem dX7_init_0 : decode cX7_init 0 = .ok (.aload_n 0, 1) := by decide +kernel
theorem dX7_init_1 : decode cX7_init 1 = .ok (.invokespecial 3, 3) := by decide +kernel
theorem dX7_init_4 : decode cX7_init 4 = .ok (.aload_n 0, 1) := by decide +kernel
theorem dX7_init_5 : decode cX7_init 5 = .ok (.bipush 7, 2) := by decide +kernel
theorem dX7_init_7 : decode cX7_init 7 = .ok (.newarray .int, 2) := by decide +kernel
theorem dX7_init_9 : decode cX7_init 9 = .ok (.putfield 11, 3) := by decide +kernel
theorem dX7_init_12 : decode cX7_init 12 = .ok (.aload_n 0, 1) := by decide +kernel
theorem dX7_init_13 : decode cX7_init 13 = .ok (.bipush 64, 2) := by decide +kernel
theorem dX7_init_15 : decode cX7_init 15 = .ok (.newarray .int, 2) := by decide +kernel
theorem dX7_init_17 : decode cX7_init 17 = .ok (.putfield 15, 3) := by decide +kernel
theorem dX7_init_20 : decode cX7_init 20 = .ok (.return_, 1) := by decide +kernel
theorem dX7_about_0 : decode cX7_about 0 = .ok (.aload_n 0, 1) := by decide +kernel
theorem dX7_about_1 : decode cX7_about 1 = .ok (.getfield 11, 3) := by decide +kernel
theorem dX7_about_4 : decode cX7_about 4 = .ok (.iconst 0, 1) := by decide +kernel
theorem dX7_about_5 : decode cX7_about 5 = .ok (.aload_n 1, 1) := by decide +kernel
theorem dX7_about_6 : decode cX7_about 6 = .ok (.iload_n 2, 1) := by decide +kernel
theorem dX7_about_7 : decode cX7_about 7 = .ok (.bipush 6, 2) := by decide +kernel
theorem dX7_about_9 : decode cX7_about 9 = .ok (.invokevirtual 20, 3) := by decide +kernel
theorem dX7_about_12 : decode cX7_about 12 = .ok (.iastore, 1) := by decide +kernel
theorem dX7_about_13 : decode cX7_about 13 = .ok (.aload_n 0, 1) := by decide +kernel
theorem dX7_about_14 : decode cX7_about 14 = .ok (.getfield 11, 3) := by decide +kernel
theorem dX7_about_17 : decode cX7_about 17 = .ok (.iconst 1, 1) := by decide +kernel
theorem dX7_about_18 : decode cX7_about 18 = .ok (.aload_n 1, 1) := by decide +kernel
theorem dX7_about_19 : decode cX7_about 19 = .ok (.iload_n 2, 1) := by decide +kernel
theorem dX7_about_20 : decode cX7_about 20 = .ok (.iconst 0, 1) := by decide +kernel
theorem dX7_about_21 : decode cX7_about 21 = .ok (.invokevirtual 20, 3) := by decide +kernel
theorem dX7_about_24 : decode cX7_about 24 = .ok (.iastore, 1) := by decide +kernel
theorem dX7_about_25 : decode cX7_about 25 = .ok (.aload_n 0, 1) := by decide +kernel
theorem dX7_about_26 : decode cX7_about 26 = .ok (.getfield 11, 3) := by decide +kernel
theorem dX7_about_29 : decode cX7_about 29 = .ok (.iconst 3, 1) := by decide +kernel
theorem dX7_about_30 : decode cX7_about 30 = .ok (.aload_n 1, 1) := by decide +kernel
theorem dX7_about_31 : decode cX7_about 31 = .ok (.iload_n 2, 1) := by decide +kernel
theorem dX7_about_32 : decode cX7_about 32 = .ok (.iconst 3, 1) := by decide +kernel
theorem dX7_about_33 : decode cX7_about 33 = .ok (.invokevirtual 20, 3) := by decide +kernel
theorem dX7_about_36 : decode cX7_about 36 = .ok (.iastore, 1) := by decide +kernel
theorem dX7_about_37 : decode cX7_about 37 = .ok (.aload_n 0, 1) := by decide +kernel
theorem dX7_about_38 : decode cX7_about 38 = .ok (.getfield 11, 3) := by decide +kernel
theorem dX7_about_41 : decode cX7_about 41 = .ok (.iconst 4, 1) := by decide +kernel
theorem dX7_about_42 : decode cX7_about 42 = .ok (.aload_n 1, 1) := by decide +kernel
theorem dX7_about_43 : decode cX7_about 43 = .ok (.iload_n 2, 1) := by decide +kernel
theorem dX7_about_44 : decode cX7_about 44 = .ok (.iconst 4, 1) := by decide +kernel
theorem dX7_about_45 : decode cX7_about 45 = .ok (.invokevirtual 20, 3) := by decide +kernel
theorem dX7_about_48 : decode cX7_about 48 = .ok (.iastore, 1) := by decide +kernel
theorem dX7_about_49 : decode cX7_about 49 = .ok (.aload_n 0, 1) := by decide +kernel
theorem dX7_about_50 : decode cX7_about 50 = .ok (.getfield 11, 3) := by decide +kernel
theorem dX7_about_53 : decode cX7_about 53 = .ok (.iconst 5, 1) := by decide +kernel
theorem dX7_about_54 : decode cX7_about 54 = .ok (.aload_n 1, 1) := by decide +kernel
theorem dX7_about_55 : decode cX7_about 55 = .ok (.iload_n 2, 1) := by decide +kernel
theorem dX7_about_56 : decode cX7_about 56 = .ok (.iconst 1, 1) := by decide +kernel
theorem dX7_about_57 : decode cX7_about 57 = .ok (.invokevirtual 20, 3) := by decide +kernel
theorem dX7_about_60 : decode cX7_about 60 = .ok (.iastore, 1) := by decide +kernel
theorem dX7_about_61 : decode cX7_about 61 = .ok (.aload_n 0, 1) := by decide +kernel
theorem dX7_about_62 : decode cX7_about 62 = .ok (.getfield 11, 3) := by decide +kernel
theorem dX7_about_65 : decode cX7_about 65 = .ok (.bipush 6, 2) := by decide +kernel
theorem dX7_about_67 : decode cX7_about 67 = .ok (.aload_n 1, 1) := by decide +kernel
theorem dX7_about_68 : decode cX7_about 68 = .ok (.iload_n 2, 1) := by decide +kernel
theorem dX7_about_69 : decode cX7_about 69 = .ok (.iconst 5, 1) := by decide +kernel
theorem dX7_about_70 : decode cX7_about 70 = .ok (.invokevirtual 20, 3) := by decide +kernel
theorem dX7_about_73 : decode cX7_about 73 = .ok (.iastore, 1) := by decide +kernel
theorem dX7_about_74 : decode cX7_about 74 = .ok (.return_, 1) := by decide +kernel
theorem dX7_worthOf_0 : decode cX7_worthOf 0 = .ok (.aload_n 0, 1) := by decide +kernel
theorem dX7_worthOf_1 : decode cX7_worthOf 1 = .ok (.getfield 11, 3) := by decide +kernel
theorem dX7_worthOf_4 : decode cX7_worthOf 4 = .ok (.iconst 2, 1) := by decide +kernel
theorem dX7_worthOf_5 : decode cX7_worthOf 5 = .ok (.iload_n 2, 1) := by decide +kernel
theorem dX7_worthOf_6 : decode cX7_worthOf 6 = .ok (.iastore, 1) := by decide +kernel
theorem dX7_worthOf_7 : decode cX7_worthOf 7 = .ok (.aload_n 0, 1) := by decide +kernel
theorem dX7_worthOf_8 : decode cX7_worthOf 8 = .ok (.aload_n 1, 1) := by decide +kernel
theorem dX7_worthOf_9 : decode cX7_worthOf 9 = .ok (.getfield 24, 3) := by decide +kernel
theorem dX7_worthOf_12 : decode cX7_worthOf 12 = .ok (.invokevirtual 29, 3) := by decide +kernel
theorem dX7_worthOf_15 : decode cX7_worthOf 15 = .ok (.bipush (-9), 2) := by decide +kernel
theorem dX7_worthOf_17 : decode cX7_worthOf 17 = .ok (.bipush 9, 2) := by decide +kernel
theorem dX7_worthOf_19 : decode cX7_worthOf 19 = .ok (.invokestatic 33, 3) := by decide +kernel
theorem dX7_worthOf_22 : decode cX7_worthOf 22 = .ok (.ireturn, 1) := by decide +kernel
theorem dX7_grownOf_0 : decode cX7_grownOf 0 = .ok (.aload_n 0, 1) := by decide +kernel
theorem dX7_grownOf_1 : decode cX7_grownOf 1 = .ok (.aload_n 1, 1) := by decide +kernel
theorem dX7_grownOf_2 : decode cX7_grownOf 2 = .ok (.getfield 37, 3) := by decide +kernel
theorem dX7_grownOf_5 : decode cX7_grownOf 5 = .ok (.invokevirtual 29, 3) := by decide +kernel
theorem dX7_grownOf_8 : decode cX7_grownOf 8 = .ok (.iconst 0, 1) := by decide +kernel
theorem dX7_grownOf_9 : decode cX7_grownOf 9 = .ok (.aload_n 1, 1) := by decide +kernel
theorem dX7_grownOf_10 : decode cX7_grownOf 10 = .ok (.getfield 40, 3) := by decide +kernel
theorem dX7_grownOf_13 : decode cX7_grownOf 13 = .ok (.invokestatic 33, 3) := by decide +kernel
theorem dX7_grownOf_16 : decode cX7_grownOf 16 = .ok (.ireturn, 1) := by decide +kernel
theorem dX7_tell_0 : decode cX7_tell 0 = .ok (.iconst 0, 1) := by decide +kernel
theorem dX7_tell_1 : decode cX7_tell 1 = .ok (.istore_n 2, 1) := by decide +kernel
theorem dX7_tell_2 : decode cX7_tell 2 = .ok (.iconst 0, 1) := by decide +kernel
theorem dX7_tell_3 : decode cX7_tell 3 = .ok (.istore_n 3, 1) := by decide +kernel
theorem dX7_tell_4 : decode cX7_tell 4 = .ok (.iload_n 3, 1) := by decide +kernel
theorem dX7_tell_5 : decode cX7_tell 5 = .ok (.aload_n 1, 1) := by decide +kernel
theorem dX7_tell_6 : decode cX7_tell 6 = .ok (.arraylength, 1) := by decide +kernel
theorem dX7_tell_7 : decode cX7_tell 7 = .ok (.if_icmp .ge 188, 3) := by decide +kernel
theorem dX7_tell_10 : decode cX7_tell 10 = .ok (.aload_n 1, 1) := by decide +kernel
theorem dX7_tell_11 : decode cX7_tell 11 = .ok (.iload_n 3, 1) := by decide +kernel
theorem dX7_tell_12 : decode cX7_tell 12 = .ok (.iaload, 1) := by decide +kernel
theorem dX7_tell_13 : decode cX7_tell 13 = .ok (.istore 4, 2) := by decide +kernel
theorem dX7_tell_15 : decode cX7_tell 15 = .ok (.iload 4, 2) := by decide +kernel
theorem dX7_tell_17 : decode cX7_tell 17 = .ok (.ifCond .ge 10, 3) := by decide +kernel
theorem dX7_tell_20 : decode cX7_tell 20 = .ok (.iload 4, 2) := by decide +kernel
theorem dX7_tell_22 : decode cX7_tell 22 = .ok (.bipush (-11), 2) := by decide +kernel
theorem dX7_tell_24 : decode cX7_tell 24 = .ok (.if_icmp .gt 43, 3) := by decide +kernel
theorem dX7_tell_27 : decode cX7_tell 27 = .ok (.iload_n 2, 1) := by decide +kernel
theorem dX7_tell_28 : decode cX7_tell 28 = .ok (.aload_n 0, 1) := by decide +kernel
theorem dX7_tell_29 : decode cX7_tell 29 = .ok (.getfield 15, 3) := by decide +kernel
theorem dX7_tell_32 : decode cX7_tell 32 = .ok (.arraylength, 1) := by decide +kernel
theorem dX7_tell_33 : decode cX7_tell 33 = .ok (.if_icmp .ge 156, 3) := by decide +kernel
theorem dX7_tell_36 : decode cX7_tell 36 = .ok (.aload_n 0, 1) := by decide +kernel
theorem dX7_tell_37 : decode cX7_tell 37 = .ok (.getfield 15, 3) := by decide +kernel
theorem dX7_tell_40 : decode cX7_tell 40 = .ok (.iload_n 2, 1) := by decide +kernel
theorem dX7_tell_41 : decode cX7_tell 41 = .ok (.iload 4, 2) := by decide +kernel
theorem dX7_tell_43 : decode cX7_tell 43 = .ok (.ifCond .lt 8, 3) := by decide +kernel
theorem dX7_tell_46 : decode cX7_tell 46 = .ok (.iload 4, 2) := by decide +kernel
theorem dX7_tell_48 : decode cX7_tell 48 = .ok (.goto 12, 3) := by decide +kernel
theorem dX7_tell_51 : decode cX7_tell 51 = .ok (.aload_n 0, 1) := by decide +kernel
theorem dX7_tell_52 : decode cX7_tell 52 = .ok (.bipush (-11), 2) := by decide +kernel
theorem dX7_tell_54 : decode cX7_tell 54 = .ok (.iload 4, 2) := by decide +kernel
theorem dX7_tell_56 : decode cX7_tell 56 = .ok (.isub, 1) := by decide +kernel
theorem dX7_tell_57 : decode cX7_tell 57 = .ok (.invokevirtual 44, 3) := by decide +kernel
theorem dX7_tell_60 : decode cX7_tell 60 = .ok (.iastore, 1) := by decide +kernel
theorem dX7_tell_61 : decode cX7_tell 61 = .ok (.iinc 2 1, 3) := by decide +kernel
theorem dX7_tell_64 : decode cX7_tell 64 = .ok (.goto 125, 3) := by decide +kernel
theorem dX7_tell_67 : decode cX7_tell 67 = .ok (.iload 4, 2) := by decide +kernel
theorem dX7_tell_69 : decode cX7_tell 69 = .ok (.bipush (-9), 2) := by decide +kernel
theorem dX7_tell_71 : decode cX7_tell 71 = .ok (.if_icmp .ne 29, 3) := by decide +kernel
theorem dX7_tell_74 : decode cX7_tell 74 = .ok (.iload_n 2, 1) := by decide +kernel
theorem dX7_tell_75 : decode cX7_tell 75 = .ok (.iconst 1, 1) := by decide +kernel
theorem dX7_tell_76 : decode cX7_tell 76 = .ok (.if_icmp .lt 113, 3) := by decide +kernel
theorem dX7_tell_79 : decode cX7_tell 79 = .ok (.aload_n 0, 1) := by decide +kernel
theorem dX7_tell_80 : decode cX7_tell 80 = .ok (.getfield 15, 3) := by decide +kernel
theorem dX7_tell_83 : decode cX7_tell 83 = .ok (.iload_n 2, 1) := by decide +kernel
theorem dX7_tell_84 : decode cX7_tell 84 = .ok (.iconst 1, 1) := by decide +kernel
theorem dX7_tell_85 : decode cX7_tell 85 = .ok (.isub, 1) := by decide +kernel
theorem dX7_tell_86 : decode cX7_tell 86 = .ok (.iconst 1, 1) := by decide +kernel
theorem dX7_tell_87 : decode cX7_tell 87 = .ok (.aload_n 0, 1) := by decide +kernel
theorem dX7_tell_88 : decode cX7_tell 88 = .ok (.getfield 15, 3) := by decide +kernel
theorem dX7_tell_91 : decode cX7_tell 91 = .ok (.iload_n 2, 1) := by decide +kernel
theorem dX7_tell_92 : decode cX7_tell 92 = .ok (.iconst 1, 1) := by decide +kernel
theorem dX7_tell_93 : decode cX7_tell 93 = .ok (.isub, 1) := by decide +kernel
theorem dX7_tell_94 : decode cX7_tell 94 = .ok (.iaload, 1) := by decide +kernel
theorem dX7_tell_95 : decode cX7_tell 95 = .ok (.isub, 1) := by decide +kernel
theorem dX7_tell_96 : decode cX7_tell 96 = .ok (.iastore, 1) := by decide +kernel
theorem dX7_tell_97 : decode cX7_tell 97 = .ok (.goto 92, 3) := by decide +kernel
theorem dX7_tell_100 : decode cX7_tell 100 = .ok (.iload 4, 2) := by decide +kernel
theorem dX7_tell_102 : decode cX7_tell 102 = .ok (.bipush (-10), 2) := by decide +kernel
theorem dX7_tell_104 : decode cX7_tell 104 = .ok (.if_icmp .ne 50, 3) := by decide +kernel
theorem dX7_tell_107 : decode cX7_tell 107 = .ok (.iload_n 2, 1) := by decide +kernel
theorem dX7_tell_108 : decode cX7_tell 108 = .ok (.iconst 3, 1) := by decide +kernel
theorem dX7_tell_109 : decode cX7_tell 109 = .ok (.if_icmp .lt 80, 3) := by decide +kernel
theorem dX7_tell_112 : decode cX7_tell 112 = .ok (.iinc 2 (-2), 3) := by decide +kernel
theorem dX7_tell_115 : decode cX7_tell 115 = .ok (.aload_n 0, 1) := by decide +kernel
theorem dX7_tell_116 : decode cX7_tell 116 = .ok (.getfield 15, 3) := by decide +kernel
theorem dX7_tell_119 : decode cX7_tell 119 = .ok (.iload_n 2, 1) := by decide +kernel
theorem dX7_tell_120 : decode cX7_tell 120 = .ok (.iconst 1, 1) := by decide +kernel
theorem dX7_tell_121 : decode cX7_tell 121 = .ok (.isub, 1) := by decide +kernel
theorem dX7_tell_122 : decode cX7_tell 122 = .ok (.aload_n 0, 1) := by decide +kernel
theorem dX7_tell_123 : decode cX7_tell 123 = .ok (.getfield 15, 3) := by decide +kernel
theorem dX7_tell_126 : decode cX7_tell 126 = .ok (.iload_n 2, 1) := by decide +kernel
theorem dX7_tell_127 : decode cX7_tell 127 = .ok (.iconst 1, 1) := by decide +kernel
theorem dX7_tell_128 : decode cX7_tell 128 = .ok (.isub, 1) := by decide +kernel
theorem dX7_tell_129 : decode cX7_tell 129 = .ok (.iaload, 1) := by decide +kernel
theorem dX7_tell_130 : decode cX7_tell 130 = .ok (.ifCond .eq 12, 3) := by decide +kernel
theorem dX7_tell_133 : decode cX7_tell 133 = .ok (.aload_n 0, 1) := by decide +kernel
theorem dX7_tell_134 : decode cX7_tell 134 = .ok (.getfield 15, 3) := by decide +kernel
theorem dX7_tell_137 : decode cX7_tell 137 = .ok (.iload_n 2, 1) := by decide +kernel
theorem dX7_tell_138 : decode cX7_tell 138 = .ok (.iaload, 1) := by decide +kernel
theorem dX7_tell_139 : decode cX7_tell 139 = .ok (.goto 11, 3) := by decide +kernel
theorem dX7_tell_142 : decode cX7_tell 142 = .ok (.aload_n 0, 1) := by decide +kernel
theorem dX7_tell_143 : decode cX7_tell 143 = .ok (.getfield 15, 3) := by decide +kernel
theorem dX7_tell_146 : decode cX7_tell 146 = .ok (.iload_n 2, 1) := by decide +kernel
theorem dX7_tell_147 : decode cX7_tell 147 = .ok (.iconst 1, 1) := by decide +kernel
theorem dX7_tell_148 : decode cX7_tell 148 = .ok (.iadd, 1) := by decide +kernel
theorem dX7_tell_149 : decode cX7_tell 149 = .ok (.iaload, 1) := by decide +kernel
theorem dX7_tell_150 : decode cX7_tell 150 = .ok (.iastore, 1) := by decide +kernel
theorem dX7_tell_151 : decode cX7_tell 151 = .ok (.goto 38, 3) := by decide +kernel
theorem dX7_tell_154 : decode cX7_tell 154 = .ok (.iload_n 2, 1) := by decide +kernel
theorem dX7_tell_155 : decode cX7_tell 155 = .ok (.iconst 2, 1) := by decide +kernel
theorem dX7_tell_156 : decode cX7_tell 156 = .ok (.if_icmp .lt 33, 3) := by decide +kernel
theorem dX7_tell_159 : decode cX7_tell 159 = .ok (.iinc 2 (-1), 3) := by decide +kernel
theorem dX7_tell_162 : decode cX7_tell 162 = .ok (.aload_n 0, 1) := by decide +kernel
theorem dX7_tell_163 : decode cX7_tell 163 = .ok (.getfield 15, 3) := by decide +kernel
theorem dX7_tell_166 : decode cX7_tell 166 = .ok (.iload_n 2, 1) := by decide +kernel
theorem dX7_tell_167 : decode cX7_tell 167 = .ok (.iconst 1, 1) := by decide +kernel
theorem dX7_tell_168 : decode cX7_tell 168 = .ok (.isub, 1) := by decide +kernel
theorem dX7_tell_169 : decode cX7_tell 169 = .ok (.iload 4, 2) := by decide +kernel
theorem dX7_tell_171 : decode cX7_tell 171 = .ok (.aload_n 0, 1) := by decide +kernel
theorem dX7_tell_172 : decode cX7_tell 172 = .ok (.getfield 15, 3) := by decide +kernel
theorem dX7_tell_175 : decode cX7_tell 175 = .ok (.iload_n 2, 1) := by decide +kernel
theorem dX7_tell_176 : decode cX7_tell 176 = .ok (.iconst 1, 1) := by decide +kernel
theorem dX7_tell_177 : decode cX7_tell 177 = .ok (.isub, 1) := by decide +kernel
theorem dX7_tell_178 : decode cX7_tell 178 = .ok (.iaload, 1) := by decide +kernel
theorem dX7_tell_179 : decode cX7_tell 179 = .ok (.aload_n 0, 1) := by decide +kernel
theorem dX7_tell_180 : decode cX7_tell 180 = .ok (.getfield 15, 3) := by decide +kernel
theorem dX7_tell_183 : decode cX7_tell 183 = .ok (.iload_n 2, 1) := by decide +kernel
theorem dX7_tell_184 : decode cX7_tell 184 = .ok (.iaload, 1) := by decide +kernel
theorem dX7_tell_185 : decode cX7_tell 185 = .ok (.invokestatic 48, 3) := by decide +kernel
theorem dX7_tell_188 : decode cX7_tell 188 = .ok (.iastore, 1) := by decide +kernel
theorem dX7_tell_189 : decode cX7_tell 189 = .ok (.iinc 3 1, 3) := by decide +kernel
theorem dX7_tell_192 : decode cX7_tell 192 = .ok (.goto (-188), 3) := by decide +kernel
theorem dX7_tell_195 : decode cX7_tell 195 = .ok (.aload_n 0, 1) := by decide +kernel
theorem dX7_tell_196 : decode cX7_tell 196 = .ok (.getfield 15, 3) := by decide +kernel
theorem dX7_tell_199 : decode cX7_tell 199 = .ok (.iconst 0, 1) := by decide +kernel
theorem dX7_tell_200 : decode cX7_tell 200 = .ok (.iaload, 1) := by decide +kernel
theorem dX7_tell_201 : decode cX7_tell 201 = .ok (.ireturn, 1) := by decide +kernel
theorem dX7_joined_0 : decode cX7_joined 0 = .ok (.iload_n 0, 1) := by decide +kernel
theorem dX7_joined_1 : decode cX7_joined 1 = .ok (.tableswitch 76 (-8) (-4) #[72, 68, 57, 46, 35], 35) := by decide +kernel
theorem dX7_joined_36 : decode cX7_joined 36 = .ok (.iload_n 1, 1) := by decide +kernel
theorem dX7_joined_37 : decode cX7_joined 37 = .ok (.iload_n 2, 1) := by decide +kernel
theorem dX7_joined_38 : decode cX7_joined 38 = .ok (.if_icmp .ne 7, 3) := by decide +kernel
theorem dX7_joined_41 : decode cX7_joined 41 = .ok (.iconst 1, 1) := by decide +kernel
theorem dX7_joined_42 : decode cX7_joined 42 = .ok (.goto 4, 3) := by decide +kernel
theorem dX7_joined_45 : decode cX7_joined 45 = .ok (.iconst 0, 1) := by decide +kernel
theorem dX7_joined_46 : decode cX7_joined 46 = .ok (.ireturn, 1) := by decide +kernel
theorem dX7_joined_47 : decode cX7_joined 47 = .ok (.iload_n 1, 1) := by decide +kernel
theorem dX7_joined_48 : decode cX7_joined 48 = .ok (.iload_n 2, 1) := by decide +kernel
theorem dX7_joined_49 : decode cX7_joined 49 = .ok (.if_icmp .ge 7, 3) := by decide +kernel
theorem dX7_joined_52 : decode cX7_joined 52 = .ok (.iconst 1, 1) := by decide +kernel
theorem dX7_joined_53 : decode cX7_joined 53 = .ok (.goto 4, 3) := by decide +kernel
theorem dX7_joined_56 : decode cX7_joined 56 = .ok (.iconst 0, 1) := by decide +kernel
theorem dX7_joined_57 : decode cX7_joined 57 = .ok (.ireturn, 1) := by decide +kernel
theorem dX7_joined_58 : decode cX7_joined 58 = .ok (.iload_n 1, 1) := by decide +kernel
theorem dX7_joined_59 : decode cX7_joined 59 = .ok (.iload_n 2, 1) := by decide +kernel
theorem dX7_joined_60 : decode cX7_joined 60 = .ok (.if_icmp .le 7, 3) := by decide +kernel
theorem dX7_joined_63 : decode cX7_joined 63 = .ok (.iconst 1, 1) := by decide +kernel
theorem dX7_joined_64 : decode cX7_joined 64 = .ok (.goto 4, 3) := by decide +kernel
theorem dX7_joined_67 : decode cX7_joined 67 = .ok (.iconst 0, 1) := by decide +kernel
theorem dX7_joined_68 : decode cX7_joined 68 = .ok (.ireturn, 1) := by decide +kernel
theorem dX7_joined_69 : decode cX7_joined 69 = .ok (.iload_n 1, 1) := by decide +kernel
theorem dX7_joined_70 : decode cX7_joined 70 = .ok (.iload_n 2, 1) := by decide +kernel
theorem dX7_joined_71 : decode cX7_joined 71 = .ok (.iand, 1) := by decide +kernel
theorem dX7_joined_72 : decode cX7_joined 72 = .ok (.ireturn, 1) := by decide +kernel
theorem dX7_joined_73 : decode cX7_joined 73 = .ok (.iload_n 1, 1) := by decide +kernel
theorem dX7_joined_74 : decode cX7_joined 74 = .ok (.iload_n 2, 1) := by decide +kernel
theorem dX7_joined_75 : decode cX7_joined 75 = .ok (.ior, 1) := by decide +kernel
theorem dX7_joined_76 : decode cX7_joined 76 = .ok (.ireturn, 1) := by decide +kernel
theorem dX7_joined_77 : decode cX7_joined 77 = .ok (.iload_n 0, 1) := by decide +kernel
theorem dX7_joined_78 : decode cX7_joined 78 = .ok (.iconst (-1), 1) := by decide +kernel
theorem dX7_joined_79 : decode cX7_joined 79 = .ok (.if_icmp .ne 10, 3) := by decide +kernel
theorem dX7_joined_82 : decode cX7_joined 82 = .ok (.iload_n 1, 1) := by decide +kernel
theorem dX7_joined_83 : decode cX7_joined 83 = .ok (.iload_n 2, 1) := by decide +kernel
theorem dX7_joined_84 : decode cX7_joined 84 = .ok (.iadd, 1) := by decide +kernel
theorem dX7_joined_85 : decode cX7_joined 85 = .ok (.i2l, 1) := by decide +kernel
theorem dX7_joined_86 : decode cX7_joined 86 = .ok (.goto 21, 3) := by decide +kernel
theorem dX7_joined_89 : decode cX7_joined 89 = .ok (.iload_n 0, 1) := by decide +kernel
theorem dX7_joined_90 : decode cX7_joined 90 = .ok (.bipush (-2), 2) := by decide +kernel
theorem dX7_joined_92 : decode cX7_joined 92 = .ok (.if_icmp .ne 10, 3) := by decide +kernel
theorem dX7_joined_95 : decode cX7_joined 95 = .ok (.iload_n 1, 1) := by decide +kernel
theorem dX7_joined_96 : decode cX7_joined 96 = .ok (.iload_n 2, 1) := by decide +kernel
theorem dX7_joined_97 : decode cX7_joined 97 = .ok (.isub, 1) := by decide +kernel
theorem dX7_joined_98 : decode cX7_joined 98 = .ok (.i2l, 1) := by decide +kernel
theorem dX7_joined_99 : decode cX7_joined 99 = .ok (.goto 8, 3) := by decide +kernel
theorem dX7_joined_102 : decode cX7_joined 102 = .ok (.iload_n 1, 1) := by decide +kernel
theorem dX7_joined_103 : decode cX7_joined 103 = .ok (.i2l, 1) := by decide +kernel
theorem dX7_joined_104 : decode cX7_joined 104 = .ok (.iload_n 2, 1) := by decide +kernel
theorem dX7_joined_105 : decode cX7_joined 105 = .ok (.i2l, 1) := by decide +kernel
theorem dX7_joined_106 : decode cX7_joined 106 = .ok (.lmul, 1) := by decide +kernel
theorem dX7_joined_107 : decode cX7_joined 107 = .ok (.lstore_n 3, 1) := by decide +kernel
theorem dX7_joined_108 : decode cX7_joined 108 = .ok (.lload_n 3, 1) := by decide +kernel
theorem dX7_joined_109 : decode cX7_joined 109 = .ok (.ldc2_w 51, 3) := by decide +kernel
theorem dX7_joined_112 : decode cX7_joined 112 = .ok (.lcmp, 1) := by decide +kernel
theorem dX7_joined_113 : decode cX7_joined 113 = .ok (.ifCond .le 8, 3) := by decide +kernel
theorem dX7_joined_116 : decode cX7_joined 116 = .ok (.ldc 53, 2) := by decide +kernel
theorem dX7_joined_118 : decode cX7_joined 118 = .ok (.goto 18, 3) := by decide +kernel
theorem dX7_joined_121 : decode cX7_joined 121 = .ok (.lload_n 3, 1) := by decide +kernel
theorem dX7_joined_122 : decode cX7_joined 122 = .ok (.ldc2_w 54, 3) := by decide +kernel
theorem dX7_joined_125 : decode cX7_joined 125 = .ok (.lcmp, 1) := by decide +kernel
theorem dX7_joined_126 : decode cX7_joined 126 = .ok (.ifCond .ge 8, 3) := by decide +kernel
theorem dX7_joined_129 : decode cX7_joined 129 = .ok (.ldc 56, 2) := by decide +kernel
theorem dX7_joined_131 : decode cX7_joined 131 = .ok (.goto 5, 3) := by decide +kernel
theorem dX7_joined_134 : decode cX7_joined 134 = .ok (.lload_n 3, 1) := by decide +kernel
theorem dX7_joined_135 : decode cX7_joined 135 = .ok (.l2i, 1) := by decide +kernel
theorem dX7_joined_136 : decode cX7_joined 136 = .ok (.ireturn, 1) := by decide +kernel
theorem dX7_factAt_0 : decode cX7_factAt 0 = .ok (.iload_n 1, 1) := by decide +kernel
theorem dX7_factAt_1 : decode cX7_factAt 1 = .ok (.ifCond .lt 21, 3) := by decide +kernel
theorem dX7_factAt_4 : decode cX7_factAt 4 = .ok (.iload_n 1, 1) := by decide +kernel
theorem dX7_factAt_5 : decode cX7_factAt 5 = .ok (.aload_n 0, 1) := by decide +kernel
theorem dX7_factAt_6 : decode cX7_factAt 6 = .ok (.getfield 11, 3) := by decide +kernel
theorem dX7_factAt_9 : decode cX7_factAt 9 = .ok (.arraylength, 1) := by decide +kernel
theorem dX7_factAt_10 : decode cX7_factAt 10 = .ok (.if_icmp .ge 12, 3) := by decide +kernel
theorem dX7_factAt_13 : decode cX7_factAt 13 = .ok (.aload_n 0, 1) := by decide +kernel
theorem dX7_factAt_14 : decode cX7_factAt 14 = .ok (.getfield 11, 3) := by decide +kernel
theorem dX7_factAt_17 : decode cX7_factAt 17 = .ok (.iload_n 1, 1) := by decide +kernel
theorem dX7_factAt_18 : decode cX7_factAt 18 = .ok (.iaload, 1) := by decide +kernel
theorem dX7_factAt_19 : decode cX7_factAt 19 = .ok (.goto 4, 3) := by decide +kernel
theorem dX7_factAt_22 : decode cX7_factAt 22 = .ok (.iconst 0, 1) := by decide +kernel
theorem dX7_factAt_23 : decode cX7_factAt 23 = .ok (.ireturn, 1) := by decide +kernel
theorem dX8_init_0 : decode cX8_init 0 = .ok (.aload_n 0, 1) := by decide +kernel
theorem dX8_init_1 : decode cX8_init 1 = .ok (.invokespecial 3, 3) := by decide +kernel
theorem dX8_init_4 : decode cX8_init 4 = .ok (.aload_n 0, 1) := by decide +kernel
theorem dX8_init_5 : decode cX8_init 5 = .ok (.iconst 1, 1) := by decide +kernel
theorem dX8_init_6 : decode cX8_init 6 = .ok (.putfield 9, 3) := by decide +kernel
theorem dX8_init_9 : decode cX8_init 9 = .ok (.aload_n 0, 1) := by decide +kernel
theorem dX8_init_10 : decode cX8_init 10 = .ok (.iconst 1, 1) := by decide +kernel
theorem dX8_init_11 : decode cX8_init 11 = .ok (.putfield 15, 3) := by decide +kernel
theorem dX8_init_14 : decode cX8_init 14 = .ok (.aload_n 0, 1) := by decide +kernel
theorem dX8_init_15 : decode cX8_init 15 = .ok (.iconst 0, 1) := by decide +kernel
theorem dX8_init_16 : decode cX8_init 16 = .ok (.putfield 18, 3) := by decide +kernel
theorem dX8_init_19 : decode cX8_init 19 = .ok (.aload_n 0, 1) := by decide +kernel
theorem dX8_init_20 : decode cX8_init 20 = .ok (.iconst 0, 1) := by decide +kernel
theorem dX8_init_21 : decode cX8_init 21 = .ok (.putfield 21, 3) := by decide +kernel
theorem dX8_init_24 : decode cX8_init 24 = .ok (.aload_n 0, 1) := by decide +kernel
theorem dX8_init_25 : decode cX8_init 25 = .ok (.iconst 0, 1) := by decide +kernel
theorem dX8_init_26 : decode cX8_init 26 = .ok (.putfield 24, 3) := by decide +kernel
theorem dX8_init_29 : decode cX8_init 29 = .ok (.aload_n 0, 1) := by decide +kernel
theorem dX8_init_30 : decode cX8_init 30 = .ok (.iconst 0, 1) := by decide +kernel
theorem dX8_init_31 : decode cX8_init 31 = .ok (.putfield 27, 3) := by decide +kernel
theorem dX8_init_34 : decode cX8_init 34 = .ok (.aload_n 0, 1) := by decide +kernel
theorem dX8_init_35 : decode cX8_init 35 = .ok (.bipush 6, 2) := by decide +kernel
theorem dX8_init_37 : decode cX8_init 37 = .ok (.newarray .int, 2) := by decide +kernel
theorem dX8_init_39 : decode cX8_init 39 = .ok (.putfield 30, 3) := by decide +kernel
theorem dX8_init_42 : decode cX8_init 42 = .ok (.aload_n 0, 1) := by decide +kernel
theorem dX8_init_43 : decode cX8_init 43 = .ok (.bipush 6, 2) := by decide +kernel
theorem dX8_init_45 : decode cX8_init 45 = .ok (.newarray .int, 2) := by decide +kernel
theorem dX8_init_47 : decode cX8_init 47 = .ok (.putfield 34, 3) := by decide +kernel
theorem dX8_init_50 : decode cX8_init 50 = .ok (.aload_n 0, 1) := by decide +kernel
theorem dX8_init_51 : decode cX8_init 51 = .ok (.getstatic 37, 3) := by decide +kernel
theorem dX8_init_54 : decode cX8_init 54 = .ok (.putfield 40, 3) := by decide +kernel
theorem dX8_init_57 : decode cX8_init 57 = .ok (.aload_n 0, 1) := by decide +kernel
theorem dX8_init_58 : decode cX8_init 58 = .ok (.getstatic 43, 3) := by decide +kernel
theorem dX8_init_61 : decode cX8_init 61 = .ok (.putfield 46, 3) := by decide +kernel
theorem dX8_init_64 : decode cX8_init 64 = .ok (.return_, 1) := by decide +kernel
theorem dX8_hasTrade_0 : decode cX8_hasTrade 0 = .ok (.lload_n 1, 1) := by decide +kernel
theorem dX8_hasTrade_1 : decode cX8_hasTrade 1 = .ok (.lconst 0, 1) := by decide +kernel
theorem dX8_hasTrade_2 : decode cX8_hasTrade 2 = .ok (.lcmp, 1) := by decide +kernel
theorem dX8_hasTrade_3 : decode cX8_hasTrade 3 = .ok (.ifCond .lt 17, 3) := by decide +kernel
theorem dX8_hasTrade_6 : decode cX8_hasTrade 6 = .ok (.lload_n 1, 1) := by decide +kernel
theorem dX8_hasTrade_7 : decode cX8_hasTrade 7 = .ok (.aload_n 0, 1) := by decide +kernel
theorem dX8_hasTrade_8 : decode cX8_hasTrade 8 = .ok (.getfield 15, 3) := by decide +kernel
theorem dX8_hasTrade_11 : decode cX8_hasTrade 11 = .ok (.i2l, 1) := by decide +kernel
theorem dX8_hasTrade_12 : decode cX8_hasTrade 12 = .ok (.lcmp, 1) := by decide +kernel
theorem dX8_hasTrade_13 : decode cX8_hasTrade 13 = .ok (.ifCond .ge 7, 3) := by decide +kernel
theorem dX8_hasTrade_16 : decode cX8_hasTrade 16 = .ok (.iconst 1, 1) := by decide +kernel
theorem dX8_hasTrade_17 : decode cX8_hasTrade 17 = .ok (.goto 4, 3) := by decide +kernel
theorem dX8_hasTrade_20 : decode cX8_hasTrade 20 = .ok (.iconst 0, 1) := by decide +kernel
theorem dX8_hasTrade_21 : decode cX8_hasTrade 21 = .ok (.ireturn, 1) := by decide +kernel
theorem dX8_talentOf_0 : decode cX8_talentOf 0 = .ok (.iload_n 1, 1) := by decide +kernel
theorem dX8_talentOf_1 : decode cX8_talentOf 1 = .ok (.ifCond .lt 21, 3) := by decide +kernel
theorem dX8_talentOf_4 : decode cX8_talentOf 4 = .ok (.iload_n 1, 1) := by decide +kernel
theorem dX8_talentOf_5 : decode cX8_talentOf 5 = .ok (.aload_n 0, 1) := by decide +kernel
theorem dX8_talentOf_6 : decode cX8_talentOf 6 = .ok (.getfield 30, 3) := by decide +kernel
theorem dX8_talentOf_9 : decode cX8_talentOf 9 = .ok (.arraylength, 1) := by decide +kernel
theorem dX8_talentOf_10 : decode cX8_talentOf 10 = .ok (.if_icmp .ge 12, 3) := by decide +kernel
theorem dX8_talentOf_13 : decode cX8_talentOf 13 = .ok (.aload_n 0, 1) := by decide +kernel
theorem dX8_talentOf_14 : decode cX8_talentOf 14 = .ok (.getfield 30, 3) := by decide +kernel
theorem dX8_talentOf_17 : decode cX8_talentOf 17 = .ok (.iload_n 1, 1) := by decide +kernel
theorem dX8_talentOf_18 : decode cX8_talentOf 18 = .ok (.iaload, 1) := by decide +kernel
theorem dX8_talentOf_19 : decode cX8_talentOf 19 = .ok (.goto 4, 3) := by decide +kernel
theorem dX8_talentOf_22 : decode cX8_talentOf 22 = .ok (.iconst 0, 1) := by decide +kernel
theorem dX8_talentOf_23 : decode cX8_talentOf 23 = .ok (.ireturn, 1) := by decide +kernel
theorem dX8_fearOf_0 : decode cX8_fearOf 0 = .ok (.iload_n 1, 1) := by decide +kernel
theorem dX8_fearOf_1 : decode cX8_fearOf 1 = .ok (.ifCond .lt 21, 3) := by decide +kernel
theorem dX8_fearOf_4 : decode cX8_fearOf 4 = .ok (.iload_n 1, 1) := by decide +kernel
theorem dX8_fearOf_5 : decode cX8_fearOf 5 = .ok (.aload_n 0, 1) := by decide +kernel
theorem dX8_fearOf_6 : decode cX8_fearOf 6 = .ok (.getfield 34, 3) := by decide +kernel
theorem dX8_fearOf_9 : decode cX8_fearOf 9 = .ok (.arraylength, 1) := by decide +kernel
theorem dX8_fearOf_10 : decode cX8_fearOf 10 = .ok (.if_icmp .ge 12, 3) := by decide +kernel
theorem dX8_fearOf_13 : decode cX8_fearOf 13 = .ok (.aload_n 0, 1) := by decide +kernel
theorem dX8_fearOf_14 : decode cX8_fearOf 14 = .ok (.getfield 34, 3) := by decide +kernel
theorem dX8_fearOf_17 : decode cX8_fearOf 17 = .ok (.iload_n 1, 1) := by decide +kernel
theorem dX8_fearOf_18 : decode cX8_fearOf 18 = .ok (.iaload, 1) := by decide +kernel
theorem dX8_fearOf_19 : decode cX8_fearOf 19 = .ok (.goto 4, 3) := by decide +kernel
theorem dX8_fearOf_22 : decode cX8_fearOf 22 = .ok (.iconst 0, 1) := by decide +kernel
theorem dX8_fearOf_23 : decode cX8_fearOf 23 = .ok (.ireturn, 1) := by decide +kernel
theorem dX8_addPerson_0 : decode cX8_addPerson 0 = .ok (.aload_n 0, 1) := by decide +kernel
theorem dX8_addPerson_1 : decode cX8_addPerson 1 = .ok (.getfield 18, 3) := by decide +kernel
theorem dX8_addPerson_4 : decode cX8_addPerson 4 = .ok (.aload_n 0, 1) := by decide +kernel
theorem dX8_addPerson_5 : decode cX8_addPerson 5 = .ok (.getfield 30, 3) := by decide +kernel
theorem dX8_addPerson_8 : decode cX8_addPerson 8 = .ok (.arraylength, 1) := by decide +kernel
theorem dX8_addPerson_9 : decode cX8_addPerson 9 = .ok (.if_icmp .ge 45, 3) := by decide +kernel
theorem dX8_addPerson_12 : decode cX8_addPerson 12 = .ok (.aload_n 0, 1) := by decide +kernel
theorem dX8_addPerson_13 : decode cX8_addPerson 13 = .ok (.getfield 18, 3) := by decide +kernel
theorem dX8_addPerson_16 : decode cX8_addPerson 16 = .ok (.aload_n 0, 1) := by decide +kernel
theorem dX8_addPerson_17 : decode cX8_addPerson 17 = .ok (.getfield 34, 3) := by decide +kernel
theorem dX8_addPerson_20 : decode cX8_addPerson 20 = .ok (.arraylength, 1) := by decide +kernel
theorem dX8_addPerson_21 : decode cX8_addPerson 21 = .ok (.if_icmp .ge 33, 3) := by decide +kernel
theorem dX8_addPerson_24 : decode cX8_addPerson 24 = .ok (.aload_n 0, 1) := by decide +kernel
theorem dX8_addPerson_25 : decode cX8_addPerson 25 = .ok (.getfield 30, 3) := by decide +kernel
theorem dX8_addPerson_28 : decode cX8_addPerson 28 = .ok (.aload_n 0, 1) := by decide +kernel
theorem dX8_addPerson_29 : decode cX8_addPerson 29 = .ok (.getfield 18, 3) := by decide +kernel
theorem dX8_addPerson_32 : decode cX8_addPerson 32 = .ok (.iload_n 1, 1) := by decide +kernel
theorem dX8_addPerson_33 : decode cX8_addPerson 33 = .ok (.iastore, 1) := by decide +kernel
theorem dX8_addPerson_34 : decode cX8_addPerson 34 = .ok (.aload_n 0, 1) := by decide +kernel
theorem dX8_addPerson_35 : decode cX8_addPerson 35 = .ok (.getfield 34, 3) := by decide +kernel
theorem dX8_addPerson_38 : decode cX8_addPerson 38 = .ok (.aload_n 0, 1) := by decide +kernel
theorem dX8_addPerson_39 : decode cX8_addPerson 39 = .ok (.getfield 18, 3) := by decide +kernel
theorem dX8_addPerson_42 : decode cX8_addPerson 42 = .ok (.iload_n 2, 1) := by decide +kernel
theorem dX8_addPerson_43 : decode cX8_addPerson 43 = .ok (.iastore, 1) := by decide +kernel
theorem dX8_addPerson_44 : decode cX8_addPerson 44 = .ok (.aload_n 0, 1) := by decide +kernel
theorem dX8_addPerson_45 : decode cX8_addPerson 45 = .ok (.dup, 1) := by decide +kernel
theorem dX8_addPerson_46 : decode cX8_addPerson 46 = .ok (.getfield 18, 3) := by decide +kernel
theorem dX8_addPerson_49 : decode cX8_addPerson 49 = .ok (.iconst 1, 1) := by decide +kernel
theorem dX8_addPerson_50 : decode cX8_addPerson 50 = .ok (.iadd, 1) := by decide +kernel
theorem dX8_addPerson_51 : decode cX8_addPerson 51 = .ok (.putfield 18, 3) := by decide +kernel
theorem dX8_addPerson_54 : decode cX8_addPerson 54 = .ok (.return_, 1) := by decide +kernel
theorem dX9_init_0 : decode cX9_init 0 = .ok (.aload_n 0, 1) := by decide +kernel
theorem dX9_init_1 : decode cX9_init 1 = .ok (.invokespecial 1, 3) := by decide +kernel
theorem dX9_init_4 : decode cX9_init 4 = .ok (.aload_n 0, 1) := by decide +kernel
theorem dX9_init_5 : decode cX9_init 5 = .ok (.bipush 40, 2) := by decide +kernel
theorem dX9_init_7 : decode cX9_init 7 = .ok (.newarray .long, 2) := by decide +kernel
theorem dX9_init_9 : decode cX9_init 9 = .ok (.putfield 9, 3) := by decide +kernel
theorem dX9_init_12 : decode cX9_init 12 = .ok (.aload_n 0, 1) := by decide +kernel
theorem dX9_init_13 : decode cX9_init 13 = .ok (.iconst 0, 1) := by decide +kernel
theorem dX9_init_14 : decode cX9_init 14 = .ok (.putfield 13, 3) := by decide +kernel
theorem dX9_init_17 : decode cX9_init 17 = .ok (.aload_n 0, 1) := by decide +kernel
theorem dX9_init_18 : decode cX9_init 18 = .ok (.iconst 0, 1) := by decide +kernel
theorem dX9_init_19 : decode cX9_init 19 = .ok (.putfield 17, 3) := by decide +kernel
theorem dX9_init_22 : decode cX9_init 22 = .ok (.aload_n 0, 1) := by decide +kernel
theorem dX9_init_23 : decode cX9_init 23 = .ok (.iconst 0, 1) := by decide +kernel
theorem dX9_init_24 : decode cX9_init 24 = .ok (.putfield 21, 3) := by decide +kernel
theorem dX9_init_27 : decode cX9_init 27 = .ok (.return_, 1) := by decide +kernel
theorem dX9_make_0 : decode cX9_make 0 = .ok (.aload_n 0, 1) := by decide +kernel
theorem dX9_make_1 : decode cX9_make 1 = .ok (.getfield 9, 3) := by decide +kernel
theorem dX9_make_4 : decode cX9_make 4 = .ok (.lconst 0, 1) := by decide +kernel
theorem dX9_make_5 : decode cX9_make 5 = .ok (.invokestatic 24, 3) := by decide +kernel
theorem dX9_make_8 : decode cX9_make 8 = .ok (.aload_n 0, 1) := by decide +kernel
theorem dX9_make_9 : decode cX9_make 9 = .ok (.iconst 1, 1) := by decide +kernel
theorem dX9_make_10 : decode cX9_make 10 = .ok (.putfield 13, 3) := by decide +kernel
theorem dX9_make_13 : decode cX9_make 13 = .ok (.aload_n 0, 1) := by decide +kernel
theorem dX9_make_14 : decode cX9_make 14 = .ok (.iload_n 1, 1) := by decide +kernel
theorem dX9_make_15 : decode cX9_make 15 = .ok (.putfield 17, 3) := by decide +kernel
theorem dX9_make_18 : decode cX9_make 18 = .ok (.aload_n 0, 1) := by decide +kernel
theorem dX9_make_19 : decode cX9_make 19 = .ok (.iload_n 2, 1) := by decide +kernel
theorem dX9_make_20 : decode cX9_make 20 = .ok (.putfield 21, 3) := by decide +kernel
theorem dX9_make_23 : decode cX9_make 23 = .ok (.return_, 1) := by decide +kernel
theorem dX9_number_0 : decode cX9_number 0 = .ok (.iload_n 1, 1) := by decide +kernel
theorem dX9_number_1 : decode cX9_number 1 = .ok (.ifCond .lt 29, 3) := by decide +kernel
theorem dX9_number_4 : decode cX9_number 4 = .ok (.iload_n 1, 1) := by decide +kernel
theorem dX9_number_5 : decode cX9_number 5 = .ok (.aload_n 0, 1) := by decide +kernel
theorem dX9_number_6 : decode cX9_number 6 = .ok (.getfield 21, 3) := by decide +kernel
theorem dX9_number_9 : decode cX9_number 9 = .ok (.if_icmp .ge 21, 3) := by decide +kernel
theorem dX9_number_12 : decode cX9_number 12 = .ok (.iload_n 1, 1) := by decide +kernel
theorem dX9_number_13 : decode cX9_number 13 = .ok (.aload_n 0, 1) := by decide +kernel
theorem dX9_number_14 : decode cX9_number 14 = .ok (.getfield 9, 3) := by decide +kernel
theorem dX9_number_17 : decode cX9_number 17 = .ok (.arraylength, 1) := by decide +kernel
theorem dX9_number_18 : decode cX9_number 18 = .ok (.if_icmp .ge 12, 3) := by decide +kernel
theorem dX9_number_21 : decode cX9_number 21 = .ok (.aload_n 0, 1) := by decide +kernel
theorem dX9_number_22 : decode cX9_number 22 = .ok (.getfield 9, 3) := by decide +kernel
theorem dX9_number_25 : decode cX9_number 25 = .ok (.iload_n 1, 1) := by decide +kernel
theorem dX9_number_26 : decode cX9_number 26 = .ok (.laload, 1) := by decide +kernel
theorem dX9_number_27 : decode cX9_number 27 = .ok (.goto 4, 3) := by decide +kernel
theorem dX9_number_30 : decode cX9_number 30 = .ok (.lconst 0, 1) := by decide +kernel
theorem dX9_number_31 : decode cX9_number 31 = .ok (.lreturn, 1) := by decide +kernel
theorem dX9_put_0 : decode cX9_put 0 = .ok (.iload_n 1, 1) := by decide +kernel
theorem dX9_put_1 : decode cX9_put 1 = .ok (.ifCond .lt 31, 3) := by decide +kernel
theorem dX9_put_4 : decode cX9_put 4 = .ok (.iload_n 1, 1) := by decide +kernel
theorem dX9_put_5 : decode cX9_put 5 = .ok (.aload_n 0, 1) := by decide +kernel
theorem dX9_put_6 : decode cX9_put 6 = .ok (.getfield 21, 3) := by decide +kernel
theorem dX9_put_9 : decode cX9_put 9 = .ok (.if_icmp .ge 23, 3) := by decide +kernel
theorem dX9_put_12 : decode cX9_put 12 = .ok (.iload_n 1, 1) := by decide +kernel
theorem dX9_put_13 : decode cX9_put 13 = .ok (.aload_n 0, 1) := by decide +kernel
theorem dX9_put_14 : decode cX9_put 14 = .ok (.getfield 9, 3) := by decide +kernel
theorem dX9_put_17 : decode cX9_put 17 = .ok (.arraylength, 1) := by decide +kernel
theorem dX9_put_18 : decode cX9_put 18 = .ok (.if_icmp .ge 14, 3) := by decide +kernel
theorem dX9_put_21 : decode cX9_put 21 = .ok (.aload_n 0, 1) := by decide +kernel
theorem dX9_put_22 : decode cX9_put 22 = .ok (.getfield 9, 3) := by decide +kernel
theorem dX9_put_25 : decode cX9_put 25 = .ok (.iload_n 1, 1) := by decide +kernel
theorem dX9_put_26 : decode cX9_put 26 = .ok (.aload_n 0, 1) := by decide +kernel
theorem dX9_put_27 : decode cX9_put 27 = .ok (.lload_n 2, 1) := by decide +kernel
theorem dX9_put_28 : decode cX9_put 28 = .ok (.invokevirtual 30, 3) := by decide +kernel
theorem dX9_put_31 : decode cX9_put 31 = .ok (.lastore, 1) := by decide +kernel
theorem dX9_put_32 : decode cX9_put 32 = .ok (.return_, 1) := by decide +kernel
theorem dX9_cut_0 : decode cX9_cut 0 = .ok (.aload_n 0, 1) := by decide +kernel
theorem dX9_cut_1 : decode cX9_cut 1 = .ok (.getfield 17, 3) := by decide +kernel
theorem dX9_cut_4 : decode cX9_cut 4 = .ok (.ifCond .ne 8, 3) := by decide +kernel
theorem dX9_cut_7 : decode cX9_cut 7 = .ok (.lload_n 1, 1) := by decide +kernel
theorem dX9_cut_8 : decode cX9_cut 8 = .ok (.l2i, 1) := by decide +kernel
theorem dX9_cut_9 : decode cX9_cut 9 = .ok (.i2b, 1) := by decide +kernel
theorem dX9_cut_10 : decode cX9_cut 10 = .ok (.i2l, 1) := by decide +kernel
theorem dX9_cut_11 : decode cX9_cut 11 = .ok (.lreturn, 1) := by decide +kernel
theorem dX9_cut_12 : decode cX9_cut 12 = .ok (.aload_n 0, 1) := by decide +kernel
theorem dX9_cut_13 : decode cX9_cut 13 = .ok (.getfield 17, 3) := by decide +kernel
theorem dX9_cut_16 : decode cX9_cut 16 = .ok (.iconst 1, 1) := by decide +kernel
theorem dX9_cut_17 : decode cX9_cut 17 = .ok (.if_icmp .ne 8, 3) := by decide +kernel
theorem dX9_cut_20 : decode cX9_cut 20 = .ok (.lload_n 1, 1) := by decide +kernel
theorem dX9_cut_21 : decode cX9_cut 21 = .ok (.l2i, 1) := by decide +kernel
theorem dX9_cut_22 : decode cX9_cut 22 = .ok (.i2s, 1) := by decide +kernel
theorem dX9_cut_23 : decode cX9_cut 23 = .ok (.i2l, 1) := by decide +kernel
theorem dX9_cut_24 : decode cX9_cut 24 = .ok (.lreturn, 1) := by decide +kernel
theorem dX9_cut_25 : decode cX9_cut 25 = .ok (.aload_n 0, 1) := by decide +kernel
theorem dX9_cut_26 : decode cX9_cut 26 = .ok (.getfield 17, 3) := by decide +kernel
theorem dX9_cut_29 : decode cX9_cut 29 = .ok (.iconst 2, 1) := by decide +kernel
theorem dX9_cut_30 : decode cX9_cut 30 = .ok (.if_icmp .ne 9, 3) := by decide +kernel
theorem dX9_cut_33 : decode cX9_cut 33 = .ok (.lload_n 1, 1) := by decide +kernel
theorem dX9_cut_34 : decode cX9_cut 34 = .ok (.l2i, 1) := by decide +kernel
theorem dX9_cut_35 : decode cX9_cut 35 = .ok (.i2l, 1) := by decide +kernel
theorem dX9_cut_36 : decode cX9_cut 36 = .ok (.goto 4, 3) := by decide +kernel
theorem dX9_cut_39 : decode cX9_cut 39 = .ok (.lload_n 1, 1) := by decide +kernel
theorem dX9_cut_40 : decode cX9_cut 40 = .ok (.lreturn, 1) := by decide +kernel
theorem dX10_init_0 : decode cX10_init 0 = .ok (.aload_n 0, 1) := by decide +kernel
theorem dX10_init_1 : decode cX10_init 1 = .ok (.invokespecial 5, 3) := by decide +kernel
theorem dX10_init_4 : decode cX10_init 4 = .ok (.aload_n 0, 1) := by decide +kernel
theorem dX10_init_5 : decode cX10_init 5 = .ok (.bipush 10, 2) := by decide +kernel
theorem dX10_init_7 : decode cX10_init 7 = .ok (.anewarray 11, 3) := by decide +kernel
theorem dX10_init_10 : decode cX10_init 10 = .ok (.putfield 13, 3) := by decide +kernel
theorem dX10_init_13 : decode cX10_init 13 = .ok (.aload_n 0, 1) := by decide +kernel
theorem dX10_init_14 : decode cX10_init 14 = .ok (.bipush 7, 2) := by decide +kernel
theorem dX10_init_16 : decode cX10_init 16 = .ok (.newarray .int, 2) := by decide +kernel
theorem dX10_init_18 : decode cX10_init 18 = .ok (.putfield 17, 3) := by decide +kernel
theorem dX10_init_21 : decode cX10_init 21 = .ok (.aload_n 0, 1) := by decide +kernel
theorem dX10_init_22 : decode cX10_init 22 = .ok (.new 21, 3) := by decide +kernel
theorem dX10_init_25 : decode cX10_init 25 = .ok (.dup, 1) := by decide +kernel
theorem dX10_init_26 : decode cX10_init 26 = .ok (.invokespecial 23, 3) := by decide +kernel
theorem dX10_init_29 : decode cX10_init 29 = .ok (.putfield 24, 3) := by decide +kernel
theorem dX10_init_32 : decode cX10_init 32 = .ok (.aload_n 0, 1) := by decide +kernel
theorem dX10_init_33 : decode cX10_init 33 = .ok (.iconst 1, 1) := by decide +kernel
theorem dX10_init_34 : decode cX10_init 34 = .ok (.putfield 28, 3) := by decide +kernel
theorem dX10_init_37 : decode cX10_init 37 = .ok (.aload_n 0, 1) := by decide +kernel
theorem dX10_init_38 : decode cX10_init 38 = .ok (.iconst 0, 1) := by decide +kernel
theorem dX10_init_39 : decode cX10_init 39 = .ok (.putfield 32, 3) := by decide +kernel
theorem dX10_init_42 : decode cX10_init 42 = .ok (.aload_n 0, 1) := by decide +kernel
theorem dX10_init_43 : decode cX10_init 43 = .ok (.iconst 1, 1) := by decide +kernel
theorem dX10_init_44 : decode cX10_init 44 = .ok (.putfield 35, 3) := by decide +kernel
theorem dX10_init_47 : decode cX10_init 47 = .ok (.aload_n 0, 1) := by decide +kernel
theorem dX10_init_48 : decode cX10_init 48 = .ok (.iconst 0, 1) := by decide +kernel
theorem dX10_init_49 : decode cX10_init 49 = .ok (.putfield 39, 3) := by decide +kernel
theorem dX10_init_52 : decode cX10_init 52 = .ok (.aload_n 0, 1) := by decide +kernel
theorem dX10_init_53 : decode cX10_init 53 = .ok (.iconst 0, 1) := by decide +kernel
theorem dX10_init_54 : decode cX10_init 54 = .ok (.putfield 42, 3) := by decide +kernel
theorem dX10_init_57 : decode cX10_init 57 = .ok (.aload_n 0, 1) := by decide +kernel
theorem dX10_init_58 : decode cX10_init 58 = .ok (.aload_n 1, 1) := by decide +kernel
theorem dX10_init_59 : decode cX10_init 59 = .ok (.putfield 45, 3) := by decide +kernel
theorem dX10_init_62 : decode cX10_init 62 = .ok (.return_, 1) := by decide +kernel
theorem dX10_about_0 : decode cX10_about 0 = .ok (.aload_n 2, 1) := by decide +kernel
theorem dX10_about_1 : decode cX10_about 1 = .ok (.iload_n 3, 1) := by decide +kernel
theorem dX10_about_2 : decode cX10_about 2 = .ok (.bipush 6, 2) := by decide +kernel
theorem dX10_about_4 : decode cX10_about 4 = .ok (.invokevirtual 51, 3) := by decide +kernel
theorem dX10_about_7 : decode cX10_about 7 = .ok (.istore 4, 2) := by decide +kernel
theorem dX10_about_9 : decode cX10_about 9 = .ok (.aload_n 2, 1) := by decide +kernel
theorem dX10_about_10 : decode cX10_about 10 = .ok (.iload_n 3, 1) := by decide +kernel
theorem dX10_about_11 : decode cX10_about 11 = .ok (.bipush 8, 2) := by decide +kernel
theorem dX10_about_13 : decode cX10_about 13 = .ok (.invokevirtual 51, 3) := by decide +kernel
theorem dX10_about_16 : decode cX10_about 16 = .ok (.ifCond .ne 7, 3) := by decide +kernel
theorem dX10_about_19 : decode cX10_about 19 = .ok (.iconst 1, 1) := by decide +kernel
theorem dX10_about_20 : decode cX10_about 20 = .ok (.goto 4, 3) := by decide +kernel
theorem dX10_about_23 : decode cX10_about 23 = .ok (.iconst 0, 1) := by decide +kernel
theorem dX10_about_24 : decode cX10_about 24 = .ok (.istore 5, 2) := by decide +kernel
theorem dX10_about_26 : decode cX10_about 26 = .ok (.aload_n 0, 1) := by decide +kernel
theorem dX10_about_27 : decode cX10_about 27 = .ok (.aload_n 2, 1) := by decide +kernel
theorem dX10_about_28 : decode cX10_about 28 = .ok (.iload_n 3, 1) := by decide +kernel
theorem dX10_about_29 : decode cX10_about 29 = .ok (.invokestatic 55, 3) := by decide +kernel
theorem dX10_about_32 : decode cX10_about 32 = .ok (.putfield 42, 3) := by decide +kernel
theorem dX10_about_35 : decode cX10_about 35 = .ok (.aload_n 0, 1) := by decide +kernel
theorem dX10_about_36 : decode cX10_about 36 = .ok (.getfield 39, 3) := by decide +kernel
theorem dX10_about_39 : decode cX10_about 39 = .ok (.ifCond .le 30, 3) := by decide +kernel
theorem dX10_about_42 : decode cX10_about 42 = .ok (.aload_n 1, 1) := by decide +kernel
theorem dX10_about_43 : decode cX10_about 43 = .ok (.aload_n 0, 1) := by decide +kernel
theorem dX10_about_44 : decode cX10_about 44 = .ok (.getfield 24, 3) := by decide +kernel
theorem dX10_about_47 : decode cX10_about 47 = .ok (.if_acmp .ne 22, 3) := by decide +kernel
theorem dX10_about_50 : decode cX10_about 50 = .ok (.iload 4, 2) := by decide +kernel
theorem dX10_about_52 : decode cX10_about 52 = .ok (.aload_n 0, 1) := by decide +kernel
theorem dX10_about_53 : decode cX10_about 53 = .ok (.getfield 32, 3) := by decide +kernel
theorem dX10_about_56 : decode cX10_about 56 = .ok (.if_icmp .ne 13, 3) := by decide +kernel
theorem dX10_about_59 : decode cX10_about 59 = .ok (.iload 5, 2) := by decide +kernel
theorem dX10_about_61 : decode cX10_about 61 = .ok (.aload_n 0, 1) := by decide +kernel
theorem dX10_about_62 : decode cX10_about 62 = .ok (.getfield 35, 3) := by decide +kernel
theorem dX10_about_65 : decode cX10_about 65 = .ok (.if_icmp .ne 4, 3) := by decide +kernel
theorem dX10_about_68 : decode cX10_about 68 = .ok (.return_, 1) := by decide +kernel
theorem dX10_about_69 : decode cX10_about 69 = .ok (.aload_n 0, 1) := by decide +kernel
theorem dX10_about_70 : decode cX10_about 70 = .ok (.dup, 1) := by decide +kernel
theorem dX10_about_71 : decode cX10_about 71 = .ok (.getfield 28, 3) := by decide +kernel
theorem dX10_about_74 : decode cX10_about 74 = .ok (.aload_n 1, 1) := by decide +kernel
theorem dX10_about_75 : decode cX10_about 75 = .ok (.aload_n 0, 1) := by decide +kernel
theorem dX10_about_76 : decode cX10_about 76 = .ok (.getfield 24, 3) := by decide +kernel
theorem dX10_about_79 : decode cX10_about 79 = .ok (.if_acmp .ne 7, 3) := by decide +kernel
theorem dX10_about_82 : decode cX10_about 82 = .ok (.iconst 0, 1) := by decide +kernel
theorem dX10_about_83 : decode cX10_about 83 = .ok (.goto 4, 3) := by decide +kernel
theorem dX10_about_86 : decode cX10_about 86 = .ok (.iconst 1, 1) := by decide +kernel
theorem dX10_about_87 : decode cX10_about 87 = .ok (.iadd, 1) := by decide +kernel
theorem dX10_about_88 : decode cX10_about 88 = .ok (.putfield 28, 3) := by decide +kernel
theorem dX10_about_91 : decode cX10_about 91 = .ok (.aload_n 0, 1) := by decide +kernel
theorem dX10_about_92 : decode cX10_about 92 = .ok (.dup, 1) := by decide +kernel
theorem dX10_about_93 : decode cX10_about 93 = .ok (.getfield 39, 3) := by decide +kernel
theorem dX10_about_96 : decode cX10_about 96 = .ok (.iconst 1, 1) := by decide +kernel
theorem dX10_about_97 : decode cX10_about 97 = .ok (.iadd, 1) := by decide +kernel
theorem dX10_about_98 : decode cX10_about 98 = .ok (.putfield 39, 3) := by decide +kernel
theorem dX10_about_101 : decode cX10_about 101 = .ok (.aload_n 0, 1) := by decide +kernel
theorem dX10_about_102 : decode cX10_about 102 = .ok (.aload_n 1, 1) := by decide +kernel
theorem dX10_about_103 : decode cX10_about 103 = .ok (.putfield 24, 3) := by decide +kernel
theorem dX10_about_106 : decode cX10_about 106 = .ok (.aload_n 0, 1) := by decide +kernel
theorem dX10_about_107 : decode cX10_about 107 = .ok (.iload 4, 2) := by decide +kernel
theorem dX10_about_109 : decode cX10_about 109 = .ok (.putfield 32, 3) := by decide +kernel
theorem dX10_about_112 : decode cX10_about 112 = .ok (.aload_n 0, 1) := by decide +kernel
theorem dX10_about_113 : decode cX10_about 113 = .ok (.iload 5, 2) := by decide +kernel
theorem dX10_about_115 : decode cX10_about 115 = .ok (.putfield 35, 3) := by decide +kernel
theorem dX10_about_118 : decode cX10_about 118 = .ok (.aload_n 0, 1) := by decide +kernel
theorem dX10_about_119 : decode cX10_about 119 = .ok (.getfield 45, 3) := by decide +kernel
theorem dX10_about_122 : decode cX10_about 122 = .ok (.getfield 59, 3) := by decide +kernel
theorem dX10_about_125 : decode cX10_about 125 = .ok (.iconst 0, 1) := by decide +kernel
theorem dX10_about_126 : decode cX10_about 126 = .ok (.aload_n 0, 1) := by decide +kernel
theorem dX10_about_127 : decode cX10_about 127 = .ok (.getfield 32, 3) := by decide +kernel
theorem dX10_about_130 : decode cX10_about 130 = .ok (.iastore, 1) := by decide +kernel
theorem dX10_about_131 : decode cX10_about 131 = .ok (.iconst 0, 1) := by decide +kernel
theorem dX10_about_132 : decode cX10_about 132 = .ok (.istore 6, 2) := by decide +kernel
theorem dX10_about_134 : decode cX10_about 134 = .ok (.iload 6, 2) := by decide +kernel
theorem dX10_about_136 : decode cX10_about 136 = .ok (.bipush 7, 2) := by decide +kernel
theorem dX10_about_138 : decode cX10_about 138 = .ok (.if_icmp .ge 38, 3) := by decide +kernel
theorem dX10_about_141 : decode cX10_about 141 = .ok (.aload_n 0, 1) := by decide +kernel
theorem dX10_about_142 : decode cX10_about 142 = .ok (.getfield 45, 3) := by decide +kernel
theorem dX10_about_145 : decode cX10_about 145 = .ok (.getfield 59, 3) := by decide +kernel
theorem dX10_about_148 : decode cX10_about 148 = .ok (.iconst 1, 1) := by decide +kernel
theorem dX10_about_149 : decode cX10_about 149 = .ok (.iload 6, 2) := by decide +kernel
theorem dX10_about_151 : decode cX10_about 151 = .ok (.iastore, 1) := by decide +kernel
theorem dX10_about_152 : decode cX10_about 152 = .ok (.aload_n 0, 1) := by decide +kernel
theorem dX10_about_153 : decode cX10_about 153 = .ok (.getfield 17, 3) := by decide +kernel
theorem dX10_about_156 : decode cX10_about 156 = .ok (.iload 6, 2) := by decide +kernel
theorem dX10_about_158 : decode cX10_about 158 = .ok (.aload_n 0, 1) := by decide +kernel
theorem dX10_about_159 : decode cX10_about 159 = .ok (.getfield 45, 3) := by decide +kernel
theorem dX10_about_162 : decode cX10_about 162 = .ok (.aload_n 0, 1) := by decide +kernel
theorem dX10_about_163 : decode cX10_about 163 = .ok (.getfield 24, 3) := by decide +kernel
theorem dX10_about_166 : decode cX10_about 166 = .ok (.invokevirtual 64, 3) := by decide +kernel
theorem dX10_about_169 : decode cX10_about 169 = .ok (.iastore, 1) := by decide +kernel
theorem dX10_about_170 : decode cX10_about 170 = .ok (.iinc 6 1, 3) := by decide +kernel
theorem dX10_about_173 : decode cX10_about 173 = .ok (.goto (-39), 3) := by decide +kernel
theorem dX10_about_176 : decode cX10_about 176 = .ok (.return_, 1) := by decide +kernel
theorem dX10_standOf_0 : decode cX10_standOf 0 = .ok (.aload_n 0, 1) := by decide +kernel
theorem dX10_standOf_1 : decode cX10_standOf 1 = .ok (.iload_n 1, 1) := by decide +kernel
theorem dX10_standOf_2 : decode cX10_standOf 2 = .ok (.iconst 1, 1) := by decide +kernel
theorem dX10_standOf_3 : decode cX10_standOf 3 = .ok (.invokevirtual 51, 3) := by decide +kernel
theorem dX10_standOf_6 : decode cX10_standOf 6 = .ok (.iconst 2, 1) := by decide +kernel
theorem dX10_standOf_7 : decode cX10_standOf 7 = .ok (.if_icmp .ne 14, 3) := by decide +kernel
theorem dX10_standOf_10 : decode cX10_standOf 10 = .ok (.iconst 1, 1) := by decide +kernel
theorem dX10_standOf_11 : decode cX10_standOf 11 = .ok (.aload_n 0, 1) := by decide +kernel
theorem dX10_standOf_12 : decode cX10_standOf 12 = .ok (.iload_n 1, 1) := by decide +kernel
theorem dX10_standOf_13 : decode cX10_standOf 13 = .ok (.iconst 5, 1) := by decide +kernel
theorem dX10_standOf_14 : decode cX10_standOf 14 = .ok (.invokevirtual 51, 3) := by decide +kernel
theorem dX10_standOf_17 : decode cX10_standOf 17 = .ok (.iadd, 1) := by decide +kernel
theorem dX10_standOf_18 : decode cX10_standOf 18 = .ok (.goto 4, 3) := by decide +kernel
theorem dX10_standOf_21 : decode cX10_standOf 21 = .ok (.iconst 0, 1) := by decide +kernel
theorem dX10_standOf_22 : decode cX10_standOf 22 = .ok (.istore_n 2, 1) := by decide +kernel
theorem dX10_standOf_23 : decode cX10_standOf 23 = .ok (.aload_n 0, 1) := by decide +kernel
theorem dX10_standOf_24 : decode cX10_standOf 24 = .ok (.iload_n 1, 1) := by decide +kernel
theorem dX10_standOf_25 : decode cX10_standOf 25 = .ok (.iconst 3, 1) := by decide +kernel
theorem dX10_standOf_26 : decode cX10_standOf 26 = .ok (.invokevirtual 51, 3) := by decide +kernel
theorem dX10_standOf_29 : decode cX10_standOf 29 = .ok (.istore_n 3, 1) := by decide +kernel
theorem dX10_standOf_30 : decode cX10_standOf 30 = .ok (.iload_n 3, 1) := by decide +kernel
theorem dX10_standOf_31 : decode cX10_standOf 31 = .ok (.bipush 9, 2) := by decide +kernel
theorem dX10_standOf_33 : decode cX10_standOf 33 = .ok (.if_icmp .ne 7, 3) := by decide +kernel
theorem dX10_standOf_36 : decode cX10_standOf 36 = .ok (.iconst 0, 1) := by decide +kernel
theorem dX10_standOf_37 : decode cX10_standOf 37 = .ok (.goto 14, 3) := by decide +kernel
theorem dX10_standOf_40 : decode cX10_standOf 40 = .ok (.iload_n 3, 1) := by decide +kernel
theorem dX10_standOf_41 : decode cX10_standOf 41 = .ok (.bipush 6, 2) := by decide +kernel
theorem dX10_standOf_43 : decode cX10_standOf 43 = .ok (.imul, 1) := by decide +kernel
theorem dX10_standOf_44 : decode cX10_standOf 44 = .ok (.aload_n 0, 1) := by decide +kernel
theorem dX10_standOf_45 : decode cX10_standOf 45 = .ok (.iload_n 1, 1) := by decide +kernel
theorem dX10_standOf_46 : decode cX10_standOf 46 = .ok (.iconst 4, 1) := by decide +kernel
theorem dX10_standOf_47 : decode cX10_standOf 47 = .ok (.invokevirtual 51, 3) := by decide +kernel
theorem dX10_standOf_50 : decode cX10_standOf 50 = .ok (.iadd, 1) := by decide +kernel
theorem dX10_standOf_51 : decode cX10_standOf 51 = .ok (.istore 4, 2) := by decide +kernel
theorem dX10_standOf_53 : decode cX10_standOf 53 = .ok (.iload_n 2, 1) := by decide +kernel
theorem dX10_standOf_54 : decode cX10_standOf 54 = .ok (.bipush 7, 2) := by decide +kernel
theorem dX10_standOf_56 : decode cX10_standOf 56 = .ok (.imul, 1) := by decide +kernel
theorem dX10_standOf_57 : decode cX10_standOf 57 = .ok (.aload_n 0, 1) := by decide +kernel
theorem dX10_standOf_58 : decode cX10_standOf 58 = .ok (.iload_n 1, 1) := by decide +kernel
theorem dX10_standOf_59 : decode cX10_standOf 59 = .ok (.iconst 0, 1) := by decide +kernel
theorem dX10_standOf_60 : decode cX10_standOf 60 = .ok (.invokevirtual 51, 3) := by decide +kernel
theorem dX10_standOf_63 : decode cX10_standOf 63 = .ok (.iadd, 1) := by decide +kernel
theorem dX10_standOf_64 : decode cX10_standOf 64 = .ok (.bipush 25, 2) := by decide +kernel
theorem dX10_standOf_66 : decode cX10_standOf 66 = .ok (.imul, 1) := by decide +kernel
theorem dX10_standOf_67 : decode cX10_standOf 67 = .ok (.iload 4, 2) := by decide +kernel
theorem dX10_standOf_69 : decode cX10_standOf 69 = .ok (.iadd, 1) := by decide +kernel
theorem dX10_standOf_70 : decode cX10_standOf 70 = .ok (.ireturn, 1) := by decide +kernel
theorem dX10_lifeOf_0 : decode cX10_lifeOf 0 = .ok (.iload_n 0, 1) := by decide +kernel
theorem dX10_lifeOf_1 : decode cX10_lifeOf 1 = .ok (.sipush 175, 3) := by decide +kernel
theorem dX10_lifeOf_4 : decode cX10_lifeOf 4 = .ok (.idiv, 1) := by decide +kernel
theorem dX10_lifeOf_5 : decode cX10_lifeOf 5 = .ok (.ireturn, 1) := by decide +kernel
theorem dX10_yearOf_0 : decode cX10_yearOf 0 = .ok (.iload_n 0, 1) := by decide +kernel
theorem dX10_yearOf_1 : decode cX10_yearOf 1 = .ok (.bipush 25, 2) := by decide +kernel
theorem dX10_yearOf_3 : decode cX10_yearOf 3 = .ok (.idiv, 1) := by decide +kernel
theorem dX10_yearOf_4 : decode cX10_yearOf 4 = .ok (.bipush 7, 2) := by decide +kernel
theorem dX10_yearOf_6 : decode cX10_yearOf 6 = .ok (.irem, 1) := by decide +kernel
theorem dX10_yearOf_7 : decode cX10_yearOf 7 = .ok (.ireturn, 1) := by decide +kernel
theorem dX10_lastOf_0 : decode cX10_lastOf 0 = .ok (.iload_n 0, 1) := by decide +kernel
theorem dX10_lastOf_1 : decode cX10_lastOf 1 = .ok (.bipush 25, 2) := by decide +kernel
theorem dX10_lastOf_3 : decode cX10_lastOf 3 = .ok (.irem, 1) := by decide +kernel
theorem dX10_lastOf_4 : decode cX10_lastOf 4 = .ok (.istore_n 1, 1) := by decide +kernel
theorem dX10_lastOf_5 : decode cX10_lastOf 5 = .ok (.iload_n 1, 1) := by decide +kernel
theorem dX10_lastOf_6 : decode cX10_lastOf 6 = .ok (.ifCond .ne 8, 3) := by decide +kernel
theorem dX10_lastOf_9 : decode cX10_lastOf 9 = .ok (.bipush 9, 2) := by decide +kernel
theorem dX10_lastOf_11 : decode cX10_lastOf 11 = .ok (.goto 9, 3) := by decide +kernel
theorem dX10_lastOf_14 : decode cX10_lastOf 14 = .ok (.iload_n 1, 1) := by decide +kernel
theorem dX10_lastOf_15 : decode cX10_lastOf 15 = .ok (.iconst 1, 1) := by decide +kernel
theorem dX10_lastOf_16 : decode cX10_lastOf 16 = .ok (.isub, 1) := by decide +kernel
theorem dX10_lastOf_17 : decode cX10_lastOf 17 = .ok (.bipush 6, 2) := by decide +kernel
theorem dX10_lastOf_19 : decode cX10_lastOf 19 = .ok (.idiv, 1) := by decide +kernel
theorem dX10_lastOf_20 : decode cX10_lastOf 20 = .ok (.ireturn, 1) := by decide +kernel
theorem dX10_streakOf_0 : decode cX10_streakOf 0 = .ok (.iload_n 0, 1) := by decide +kernel
theorem dX10_streakOf_1 : decode cX10_streakOf 1 = .ok (.bipush 25, 2) := by decide +kernel
theorem dX10_streakOf_3 : decode cX10_streakOf 3 = .ok (.irem, 1) := by decide +kernel
theorem dX10_streakOf_4 : decode cX10_streakOf 4 = .ok (.istore_n 1, 1) := by decide +kernel
theorem dX10_streakOf_5 : decode cX10_streakOf 5 = .ok (.iload_n 1, 1) := by decide +kernel
theorem dX10_streakOf_6 : decode cX10_streakOf 6 = .ok (.ifCond .ne 7, 3) := by decide +kernel
theorem dX10_streakOf_9 : decode cX10_streakOf 9 = .ok (.iconst 0, 1) := by decide +kernel
theorem dX10_streakOf_10 : decode cX10_streakOf 10 = .ok (.goto 11, 3) := by decide +kernel
theorem dX10_streakOf_13 : decode cX10_streakOf 13 = .ok (.iload_n 1, 1) := by decide +kernel
theorem dX10_streakOf_14 : decode cX10_streakOf 14 = .ok (.iconst 1, 1) := by decide +kernel
theorem dX10_streakOf_15 : decode cX10_streakOf 15 = .ok (.isub, 1) := by decide +kernel
theorem dX10_streakOf_16 : decode cX10_streakOf 16 = .ok (.bipush 6, 2) := by decide +kernel
theorem dX10_streakOf_18 : decode cX10_streakOf 18 = .ok (.irem, 1) := by decide +kernel
theorem dX10_streakOf_19 : decode cX10_streakOf 19 = .ok (.iconst 1, 1) := by decide +kernel
theorem dX10_streakOf_20 : decode cX10_streakOf 20 = .ok (.iadd, 1) := by decide +kernel
theorem dX10_streakOf_21 : decode cX10_streakOf 21 = .ok (.ireturn, 1) := by decide +kernel
theorem dX10_openTrades_0 : decode cX10_openTrades 0 = .ok (.iload_n 1, 1) := by decide +kernel
theorem dX10_openTrades_1 : decode cX10_openTrades 1 = .ok (.invokestatic 68, 3) := by decide +kernel
theorem dX10_openTrades_4 : decode cX10_openTrades 4 = .ok (.aload_n 0, 1) := by decide +kernel
theorem dX10_openTrades_5 : decode cX10_openTrades 5 = .ok (.getfield 24, 3) := by decide +kernel
theorem dX10_openTrades_8 : decode cX10_openTrades 8 = .ok (.getfield 72, 3) := by decide +kernel
theorem dX10_openTrades_11 : decode cX10_openTrades 11 = .ok (.if_icmp .ge 13, 3) := by decide +kernel
theorem dX10_openTrades_14 : decode cX10_openTrades 14 = .ok (.aload_n 0, 1) := by decide +kernel
theorem dX10_openTrades_15 : decode cX10_openTrades 15 = .ok (.getfield 24, 3) := by decide +kernel
theorem dX10_openTrades_18 : decode cX10_openTrades 18 = .ok (.getfield 75, 3) := by decide +kernel
theorem dX10_openTrades_21 : decode cX10_openTrades 21 = .ok (.goto 4, 3) := by decide +kernel
theorem dX10_openTrades_24 : decode cX10_openTrades 24 = .ok (.iconst 0, 1) := by decide +kernel
theorem dX10_openTrades_25 : decode cX10_openTrades 25 = .ok (.ireturn, 1) := by decide +kernel
theorem dX10_afterYear_0 : decode cX10_afterYear 0 = .ok (.iload_n 1, 1) := by decide +kernel
theorem dX10_afterYear_1 : decode cX10_afterYear 1 = .ok (.invokestatic 78, 3) := by decide +kernel
theorem dX10_afterYear_4 : decode cX10_afterYear 4 = .ok (.iload_n 2, 1) := by decide +kernel
theorem dX10_afterYear_5 : decode cX10_afterYear 5 = .ok (.if_icmp .ne 12, 3) := by decide +kernel
theorem dX10_afterYear_8 : decode cX10_afterYear 8 = .ok (.iload_n 1, 1) := by decide +kernel
theorem dX10_afterYear_9 : decode cX10_afterYear 9 = .ok (.invokestatic 81, 3) := by decide +kernel
theorem dX10_afterYear_12 : decode cX10_afterYear 12 = .ok (.iconst 1, 1) := by decide +kernel
theorem dX10_afterYear_13 : decode cX10_afterYear 13 = .ok (.iadd, 1) := by decide +kernel
theorem dX10_afterYear_14 : decode cX10_afterYear 14 = .ok (.goto 4, 3) := by decide +kernel
theorem dX10_afterYear_17 : decode cX10_afterYear 17 = .ok (.iconst 1, 1) := by decide +kernel
theorem dX10_afterYear_18 : decode cX10_afterYear 18 = .ok (.istore_n 3, 1) := by decide +kernel
theorem dX10_afterYear_19 : decode cX10_afterYear 19 = .ok (.iload_n 2, 1) := by decide +kernel
theorem dX10_afterYear_20 : decode cX10_afterYear 20 = .ok (.bipush 6, 2) := by decide +kernel
theorem dX10_afterYear_22 : decode cX10_afterYear 22 = .ok (.imul, 1) := by decide +kernel
theorem dX10_afterYear_23 : decode cX10_afterYear 23 = .ok (.iload_n 3, 1) := by decide +kernel
theorem dX10_afterYear_24 : decode cX10_afterYear 24 = .ok (.bipush 6, 2) := by decide +kernel
theorem dX10_afterYear_26 : decode cX10_afterYear 26 = .ok (.invokestatic 84, 3) := by decide +kernel
theorem dX10_afterYear_29 : decode cX10_afterYear 29 = .ok (.iadd, 1) := by decide +kernel
theorem dX10_afterYear_30 : decode cX10_afterYear 30 = .ok (.istore 4, 2) := by decide +kernel
theorem dX10_afterYear_32 : decode cX10_afterYear 32 = .ok (.iload_n 1, 1) := by decide +kernel
theorem dX10_afterYear_33 : decode cX10_afterYear 33 = .ok (.bipush 25, 2) := by decide +kernel
theorem dX10_afterYear_35 : decode cX10_afterYear 35 = .ok (.idiv, 1) := by decide +kernel
theorem dX10_afterYear_36 : decode cX10_afterYear 36 = .ok (.iconst 1, 1) := by decide +kernel
theorem dX10_afterYear_37 : decode cX10_afterYear 37 = .ok (.iadd, 1) := by decide +kernel
theorem dX10_afterYear_38 : decode cX10_afterYear 38 = .ok (.bipush 25, 2) := by decide +kernel
theorem dX10_afterYear_40 : decode cX10_afterYear 40 = .ok (.imul, 1) := by decide +kernel
theorem dX10_afterYear_41 : decode cX10_afterYear 41 = .ok (.iload 4, 2) := by decide +kernel
theorem dX10_afterYear_43 : decode cX10_afterYear 43 = .ok (.iadd, 1) := by decide +kernel
theorem dX10_afterYear_44 : decode cX10_afterYear 44 = .ok (.ireturn, 1) := by decide +kernel
theorem dX10_afterDrawing_0 : decode cX10_afterDrawing 0 = .ok (.iload_n 1, 1) := by decide +kernel
theorem dX10_afterDrawing_1 : decode cX10_afterDrawing 1 = .ok (.invokestatic 89, 3) := by decide +kernel
theorem dX10_afterDrawing_4 : decode cX10_afterDrawing 4 = .ok (.ifCond .ne 10, 3) := by decide +kernel
theorem dX10_afterDrawing_7 : decode cX10_afterDrawing 7 = .ok (.aload_n 0, 1) := by decide +kernel
theorem dX10_afterDrawing_8 : decode cX10_afterDrawing 8 = .ok (.getfield 35, 3) := by decide +kernel
theorem dX10_afterDrawing_11 : decode cX10_afterDrawing 11 = .ok (.ifCond .ne 5, 3) := by decide +kernel
theorem dX10_afterDrawing_14 : decode cX10_afterDrawing 14 = .ok (.iconst (-1), 1) := by decide +kernel
theorem dX10_afterDrawing_15 : decode cX10_afterDrawing 15 = .ok (.ireturn, 1) := by decide +kernel
theorem dX10_afterDrawing_16 : decode cX10_afterDrawing 16 = .ok (.iload_n 1, 1) := by decide +kernel
theorem dX10_afterDrawing_17 : decode cX10_afterDrawing 17 = .ok (.invokestatic 68, 3) := by decide +kernel
theorem dX10_afterDrawing_20 : decode cX10_afterDrawing 20 = .ok (.istore_n 2, 1) := by decide +kernel
theorem dX10_afterDrawing_21 : decode cX10_afterDrawing 21 = .ok (.iconst 1, 1) := by decide +kernel
theorem dX10_afterDrawing_22 : decode cX10_afterDrawing 22 = .ok (.iload_n 2, 1) := by decide +kernel
theorem dX10_afterDrawing_23 : decode cX10_afterDrawing 23 = .ok (.iadd, 1) := by decide +kernel
theorem dX10_afterDrawing_24 : decode cX10_afterDrawing 24 = .ok (.bipush 7, 2) := by decide +kernel
theorem dX10_afterDrawing_26 : decode cX10_afterDrawing 26 = .ok (.imul, 1) := by decide +kernel
theorem dX10_afterDrawing_27 : decode cX10_afterDrawing 27 = .ok (.aload_n 0, 1) := by decide +kernel
theorem dX10_afterDrawing_28 : decode cX10_afterDrawing 28 = .ok (.iload_n 2, 1) := by decide +kernel
theorem dX10_afterDrawing_29 : decode cX10_afterDrawing 29 = .ok (.invokevirtual 92, 3) := by decide +kernel
theorem dX10_afterDrawing_32 : decode cX10_afterDrawing 32 = .ok (.iadd, 1) := by decide +kernel
theorem dX10_afterDrawing_33 : decode cX10_afterDrawing 33 = .ok (.bipush 25, 2) := by decide +kernel
theorem dX10_afterDrawing_35 : decode cX10_afterDrawing 35 = .ok (.imul, 1) := by decide +kernel
theorem dX10_afterDrawing_36 : decode cX10_afterDrawing 36 = .ok (.ireturn, 1) := by decide +kernel
theorem dX10_grownAt_0 : decode cX10_grownAt 0 = .ok (.iload_n 1, 1) := by decide +kernel
theorem dX10_grownAt_1 : decode cX10_grownAt 1 = .ok (.ifCond .lt 21, 3) := by decide +kernel
theorem dX10_grownAt_4 : decode cX10_grownAt 4 = .ok (.iload_n 1, 1) := by decide +kernel
theorem dX10_grownAt_5 : decode cX10_grownAt 5 = .ok (.aload_n 0, 1) := by decide +kernel
theorem dX10_grownAt_6 : decode cX10_grownAt 6 = .ok (.getfield 17, 3) := by decide +kernel
theorem dX10_grownAt_9 : decode cX10_grownAt 9 = .ok (.arraylength, 1) := by decide +kernel
theorem dX10_grownAt_10 : decode cX10_grownAt 10 = .ok (.if_icmp .ge 12, 3) := by decide +kernel
theorem dX10_grownAt_13 : decode cX10_grownAt 13 = .ok (.aload_n 0, 1) := by decide +kernel
theorem dX10_grownAt_14 : decode cX10_grownAt 14 = .ok (.getfield 17, 3) := by decide +kernel
theorem dX10_grownAt_17 : decode cX10_grownAt 17 = .ok (.iload_n 1, 1) := by decide +kernel
theorem dX10_grownAt_18 : decode cX10_grownAt 18 = .ok (.iaload, 1) := by decide +kernel
theorem dX10_grownAt_19 : decode cX10_grownAt 19 = .ok (.goto 4, 3) := by decide +kernel
theorem dX10_grownAt_22 : decode cX10_grownAt 22 = .ok (.iconst 0, 1) := by decide +kernel
theorem dX10_grownAt_23 : decode cX10_grownAt 23 = .ok (.ireturn, 1) := by decide +kernel
theorem dX10_worthOf_0 : decode cX10_worthOf 0 = .ok (.aload_n 0, 1) := by decide +kernel
theorem dX10_worthOf_1 : decode cX10_worthOf 1 = .ok (.getfield 32, 3) := by decide +kernel
theorem dX10_worthOf_4 : decode cX10_worthOf 4 = .ok (.ifCond .lt 15, 3) := by decide +kernel
theorem dX10_worthOf_7 : decode cX10_worthOf 7 = .ok (.aload_n 0, 1) := by decide +kernel
theorem dX10_worthOf_8 : decode cX10_worthOf 8 = .ok (.getfield 32, 3) := by decide +kernel
theorem dX10_worthOf_11 : decode cX10_worthOf 11 = .ok (.aload_n 0, 1) := by decide +kernel
theorem dX10_worthOf_12 : decode cX10_worthOf 12 = .ok (.getfield 13, 3) := by decide +kernel
theorem dX10_worthOf_15 : decode cX10_worthOf 15 = .ok (.arraylength, 1) := by decide +kernel
theorem dX10_worthOf_16 : decode cX10_worthOf 16 = .ok (.if_icmp .lt 5, 3) := by decide +kernel
theorem dX10_worthOf_19 : decode cX10_worthOf 19 = .ok (.iconst 0, 1) := by decide +kernel
theorem dX10_worthOf_20 : decode cX10_worthOf 20 = .ok (.ireturn, 1) := by decide +kernel
theorem dX10_worthOf_21 : decode cX10_worthOf 21 = .ok (.aload_n 0, 1) := by decide +kernel
theorem dX10_worthOf_22 : decode cX10_worthOf 22 = .ok (.getfield 13, 3) := by decide +kernel
theorem dX10_worthOf_25 : decode cX10_worthOf 25 = .ok (.aload_n 0, 1) := by decide +kernel
theorem dX10_worthOf_26 : decode cX10_worthOf 26 = .ok (.getfield 32, 3) := by decide +kernel
theorem dX10_worthOf_29 : decode cX10_worthOf 29 = .ok (.aaload, 1) := by decide +kernel
theorem dX10_worthOf_30 : decode cX10_worthOf 30 = .ok (.astore_n 3, 1) := by decide +kernel
theorem dX10_worthOf_31 : decode cX10_worthOf 31 = .ok (.aload_n 3, 1) := by decide +kernel
theorem dX10_worthOf_32 : decode cX10_worthOf 32 = .ok (.ifnonnull 24, 3) := by decide +kernel
theorem dX10_worthOf_35 : decode cX10_worthOf 35 = .ok (.new 11, 3) := by decide +kernel
theorem dX10_worthOf_38 : decode cX10_worthOf 38 = .ok (.dup, 1) := by decide +kernel
theorem dX10_worthOf_39 : decode cX10_worthOf 39 = .ok (.sipush 5600, 3) := by decide +kernel
theorem dX10_worthOf_42 : decode cX10_worthOf 42 = .ok (.invokespecial 95, 3) := by decide +kernel
theorem dX10_worthOf_45 : decode cX10_worthOf 45 = .ok (.astore_n 3, 1) := by decide +kernel
theorem dX10_worthOf_46 : decode cX10_worthOf 46 = .ok (.aload_n 0, 1) := by decide +kernel
theorem dX10_worthOf_47 : decode cX10_worthOf 47 = .ok (.getfield 13, 3) := by decide +kernel
theorem dX10_worthOf_50 : decode cX10_worthOf 50 = .ok (.aload_n 0, 1) := by decide +kernel
theorem dX10_worthOf_51 : decode cX10_worthOf 51 = .ok (.getfield 32, 3) := by decide +kernel
theorem dX10_worthOf_54 : decode cX10_worthOf 54 = .ok (.aload_n 3, 1) := by decide +kernel
theorem dX10_worthOf_55 : decode cX10_worthOf 55 = .ok (.aastore, 1) := by decide +kernel
theorem dX10_worthOf_56 : decode cX10_worthOf 56 = .ok (.iload_n 1, 1) := by decide +kernel
theorem dX10_worthOf_57 : decode cX10_worthOf 57 = .ok (.iconst 4, 1) := by decide +kernel
theorem dX10_worthOf_58 : decode cX10_worthOf 58 = .ok (.imul, 1) := by decide +kernel
theorem dX10_worthOf_59 : decode cX10_worthOf 59 = .ok (.iload_n 2, 1) := by decide +kernel
theorem dX10_worthOf_60 : decode cX10_worthOf 60 = .ok (.iadd, 1) := by decide +kernel
theorem dX10_worthOf_61 : decode cX10_worthOf 61 = .ok (.istore 4, 2) := by decide +kernel
theorem dX10_worthOf_63 : decode cX10_worthOf 63 = .ok (.aload_n 3, 1) := by decide +kernel
theorem dX10_worthOf_64 : decode cX10_worthOf 64 = .ok (.iload 4, 2) := by decide +kernel
theorem dX10_worthOf_66 : decode cX10_worthOf 66 = .ok (.aload_n 0, 1) := by decide +kernel
theorem dX10_worthOf_67 : decode cX10_worthOf 67 = .ok (.getfield 28, 3) := by decide +kernel
theorem dX10_worthOf_70 : decode cX10_worthOf 70 = .ok (.invokevirtual 98, 3) := by decide +kernel
theorem dX10_worthOf_73 : decode cX10_worthOf 73 = .ok (.lstore 5, 2) := by decide +kernel
theorem dX10_worthOf_75 : decode cX10_worthOf 75 = .ok (.lload 5, 2) := by decide +kernel
theorem dX10_worthOf_77 : decode cX10_worthOf 77 = .ok (.ldc2_w 102, 3) := by decide +kernel
theorem dX10_worthOf_80 : decode cX10_worthOf 80 = .ok (.lcmp, 1) := by decide +kernel
theorem dX10_worthOf_81 : decode cX10_worthOf 81 = .ok (.ifCond .ne 38, 3) := by decide +kernel
theorem dX10_worthOf_84 : decode cX10_worthOf 84 = .ok (.aload_n 0, 1) := by decide +kernel
theorem dX10_worthOf_85 : decode cX10_worthOf 85 = .ok (.iload_n 1, 1) := by decide +kernel
theorem dX10_worthOf_86 : decode cX10_worthOf 86 = .ok (.invokevirtual 104, 3) := by decide +kernel
theorem dX10_worthOf_89 : decode cX10_worthOf 89 = .ok (.aload_n 0, 1) := by decide +kernel
theorem dX10_worthOf_90 : decode cX10_worthOf 90 = .ok (.getfield 45, 3) := by decide +kernel
theorem dX10_worthOf_93 : decode cX10_worthOf 93 = .ok (.aload_n 0, 1) := by decide +kernel
theorem dX10_worthOf_94 : decode cX10_worthOf 94 = .ok (.getfield 24, 3) := by decide +kernel
theorem dX10_worthOf_97 : decode cX10_worthOf 97 = .ok (.iload_n 2, 1) := by decide +kernel
theorem dX10_worthOf_98 : decode cX10_worthOf 98 = .ok (.invokevirtual 107, 3) := by decide +kernel
theorem dX10_worthOf_101 : decode cX10_worthOf 101 = .ok (.bipush (-9), 2) := by decide +kernel
theorem dX10_worthOf_103 : decode cX10_worthOf 103 = .ok (.isub, 1) := by decide +kernel
theorem dX10_worthOf_104 : decode cX10_worthOf 104 = .ok (.i2l, 1) := by decide +kernel
theorem dX10_worthOf_105 : decode cX10_worthOf 105 = .ok (.lstore 5, 2) := by decide +kernel
theorem dX10_worthOf_107 : decode cX10_worthOf 107 = .ok (.aload_n 3, 1) := by decide +kernel
theorem dX10_worthOf_108 : decode cX10_worthOf 108 = .ok (.iload 4, 2) := by decide +kernel
theorem dX10_worthOf_110 : decode cX10_worthOf 110 = .ok (.aload_n 0, 1) := by decide +kernel
theorem dX10_worthOf_111 : decode cX10_worthOf 111 = .ok (.getfield 28, 3) := by decide +kernel
theorem dX10_worthOf_114 : decode cX10_worthOf 114 = .ok (.lload 5, 2) := by decide +kernel
theorem dX10_worthOf_116 : decode cX10_worthOf 116 = .ok (.invokevirtual 111, 3) := by decide +kernel
theorem dX10_worthOf_119 : decode cX10_worthOf 119 = .ok (.lload 5, 2) := by decide +kernel
theorem dX10_worthOf_121 : decode cX10_worthOf 121 = .ok (.l2i, 1) := by decide +kernel
theorem dX10_worthOf_122 : decode cX10_worthOf 122 = .ok (.bipush (-9), 2) := by decide +kernel
theorem dX10_worthOf_124 : decode cX10_worthOf 124 = .ok (.iadd, 1) := by decide +kernel
theorem dX10_worthOf_125 : decode cX10_worthOf 125 = .ok (.ireturn, 1) := by decide +kernel
theorem dX10_turnTo_0 : decode cX10_turnTo 0 = .ok (.iload_n 1, 1) := by decide +kernel
theorem dX10_turnTo_1 : decode cX10_turnTo 1 = .ok (.invokestatic 89, 3) := by decide +kernel
theorem dX10_turnTo_4 : decode cX10_turnTo 4 = .ok (.istore_n 2, 1) := by decide +kernel
theorem dX10_turnTo_5 : decode cX10_turnTo 5 = .ok (.aload_n 0, 1) := by decide +kernel
theorem dX10_turnTo_6 : decode cX10_turnTo 6 = .ok (.getfield 45, 3) := by decide +kernel
theorem dX10_turnTo_9 : decode cX10_turnTo 9 = .ok (.getfield 59, 3) := by decide +kernel
theorem dX10_turnTo_12 : decode cX10_turnTo 12 = .ok (.astore_n 3, 1) := by decide +kernel
theorem dX10_turnTo_13 : decode cX10_turnTo 13 = .ok (.aload_n 3, 1) := by decide +kernel
theorem dX10_turnTo_14 : decode cX10_turnTo 14 = .ok (.iconst 0, 1) := by decide +kernel
theorem dX10_turnTo_15 : decode cX10_turnTo 15 = .ok (.aload_n 0, 1) := by decide +kernel
theorem dX10_turnTo_16 : decode cX10_turnTo 16 = .ok (.getfield 32, 3) := by decide +kernel
theorem dX10_turnTo_19 : decode cX10_turnTo 19 = .ok (.iastore, 1) := by decide +kernel
theorem dX10_turnTo_20 : decode cX10_turnTo 20 = .ok (.aload_n 3, 1) := by decide +kernel
theorem dX10_turnTo_21 : decode cX10_turnTo 21 = .ok (.iconst 1, 1) := by decide +kernel
theorem dX10_turnTo_22 : decode cX10_turnTo 22 = .ok (.iload_n 1, 1) := by decide +kernel
theorem dX10_turnTo_23 : decode cX10_turnTo 23 = .ok (.invokestatic 68, 3) := by decide +kernel
theorem dX10_turnTo_26 : decode cX10_turnTo 26 = .ok (.iastore, 1) := by decide +kernel
theorem dX10_turnTo_27 : decode cX10_turnTo 27 = .ok (.aload_n 3, 1) := by decide +kernel
theorem dX10_turnTo_28 : decode cX10_turnTo 28 = .ok (.iconst 3, 1) := by decide +kernel
theorem dX10_turnTo_29 : decode cX10_turnTo 29 = .ok (.iload_n 1, 1) := by decide +kernel
theorem dX10_turnTo_30 : decode cX10_turnTo 30 = .ok (.invokestatic 78, 3) := by decide +kernel
theorem dX10_turnTo_33 : decode cX10_turnTo 33 = .ok (.iastore, 1) := by decide +kernel
theorem dX10_turnTo_34 : decode cX10_turnTo 34 = .ok (.aload_n 3, 1) := by decide +kernel
theorem dX10_turnTo_35 : decode cX10_turnTo 35 = .ok (.iconst 4, 1) := by decide +kernel
theorem dX10_turnTo_36 : decode cX10_turnTo 36 = .ok (.iload_n 1, 1) := by decide +kernel
theorem dX10_turnTo_37 : decode cX10_turnTo 37 = .ok (.invokestatic 81, 3) := by decide +kernel
theorem dX10_turnTo_40 : decode cX10_turnTo 40 = .ok (.iastore, 1) := by decide +kernel
theorem dX10_turnTo_41 : decode cX10_turnTo 41 = .ok (.aload_n 3, 1) := by decide +kernel
theorem dX10_turnTo_42 : decode cX10_turnTo 42 = .ok (.iconst 5, 1) := by decide +kernel
theorem dX10_turnTo_43 : decode cX10_turnTo 43 = .ok (.iload_n 2, 1) := by decide +kernel
theorem dX10_turnTo_44 : decode cX10_turnTo 44 = .ok (.ifCond .ne 7, 3) := by decide +kernel
theorem dX10_turnTo_47 : decode cX10_turnTo 47 = .ok (.iconst 1, 1) := by decide +kernel
theorem dX10_turnTo_48 : decode cX10_turnTo 48 = .ok (.goto 4, 3) := by decide +kernel
theorem dX10_turnTo_51 : decode cX10_turnTo 51 = .ok (.iconst 2, 1) := by decide +kernel
theorem dX10_turnTo_52 : decode cX10_turnTo 52 = .ok (.iastore, 1) := by decide +kernel
theorem dX10_turnTo_53 : decode cX10_turnTo 53 = .ok (.aload_n 3, 1) := by decide +kernel
theorem dX10_turnTo_54 : decode cX10_turnTo 54 = .ok (.bipush 6, 2) := by decide +kernel
theorem dX10_turnTo_56 : decode cX10_turnTo 56 = .ok (.iload_n 2, 1) := by decide +kernel
theorem dX10_turnTo_57 : decode cX10_turnTo 57 = .ok (.ifCond .ne 7, 3) := by decide +kernel
theorem dX10_turnTo_60 : decode cX10_turnTo 60 = .ok (.iconst 0, 1) := by decide +kernel
theorem dX10_turnTo_61 : decode cX10_turnTo 61 = .ok (.goto 6, 3) := by decide +kernel
theorem dX10_turnTo_64 : decode cX10_turnTo 64 = .ok (.iload_n 2, 1) := by decide +kernel
theorem dX10_turnTo_65 : decode cX10_turnTo 65 = .ok (.iconst 1, 1) := by decide +kernel
theorem dX10_turnTo_66 : decode cX10_turnTo 66 = .ok (.isub, 1) := by decide +kernel
theorem dX10_turnTo_67 : decode cX10_turnTo 67 = .ok (.iastore, 1) := by decide +kernel
theorem dX10_turnTo_68 : decode cX10_turnTo 68 = .ok (.return_, 1) := by decide +kernel
theorem dX11_init_0 : decode cX11_init 0 = .ok (.aload_n 0, 1) := by decide +kernel
theorem dX11_init_1 : decode cX11_init 1 = .ok (.invokespecial 1, 3) := by decide +kernel
theorem dX11_init_4 : decode cX11_init 4 = .ok (.aload_n 0, 1) := by decide +kernel
theorem dX11_init_5 : decode cX11_init 5 = .ok (.sipush 900, 3) := by decide +kernel
theorem dX11_init_8 : decode cX11_init 8 = .ok (.newarray .byte, 2) := by decide +kernel
theorem dX11_init_10 : decode cX11_init 10 = .ok (.putfield 9, 3) := by decide +kernel
theorem dX11_init_13 : decode cX11_init 13 = .ok (.aload_n 0, 1) := by decide +kernel
theorem dX11_init_14 : decode cX11_init 14 = .ok (.iconst 0, 1) := by decide +kernel
theorem dX11_init_15 : decode cX11_init 15 = .ok (.putfield 13, 3) := by decide +kernel
theorem dX11_init_18 : decode cX11_init 18 = .ok (.aload_n 0, 1) := by decide +kernel
theorem dX11_init_19 : decode cX11_init 19 = .ok (.new 17, 3) := by decide +kernel
theorem dX11_init_22 : decode cX11_init 22 = .ok (.dup, 1) := by decide +kernel
theorem dX11_init_23 : decode cX11_init 23 = .ok (.invokespecial 19, 3) := by decide +kernel
theorem dX11_init_26 : decode cX11_init 26 = .ok (.putfield 20, 3) := by decide +kernel
theorem dX11_init_29 : decode cX11_init 29 = .ok (.aload_n 0, 1) := by decide +kernel
theorem dX11_init_30 : decode cX11_init 30 = .ok (.new 24, 3) := by decide +kernel
theorem dX11_init_33 : decode cX11_init 33 = .ok (.dup, 1) := by decide +kernel
theorem dX11_init_34 : decode cX11_init 34 = .ok (.invokespecial 26, 3) := by decide +kernel
theorem dX11_init_37 : decode cX11_init 37 = .ok (.putfield 27, 3) := by decide +kernel
theorem dX11_init_40 : decode cX11_init 40 = .ok (.aload_n 0, 1) := by decide +kernel
theorem dX11_init_41 : decode cX11_init 41 = .ok (.new 31, 3) := by decide +kernel
theorem dX11_init_44 : decode cX11_init 44 = .ok (.dup, 1) := by decide +kernel
theorem dX11_init_45 : decode cX11_init 45 = .ok (.invokespecial 33, 3) := by decide +kernel
theorem dX11_init_48 : decode cX11_init 48 = .ok (.putfield 34, 3) := by decide +kernel
theorem dX11_init_51 : decode cX11_init 51 = .ok (.aload_n 0, 1) := by decide +kernel
theorem dX11_init_52 : decode cX11_init 52 = .ok (.new 31, 3) := by decide +kernel
theorem dX11_init_55 : decode cX11_init 55 = .ok (.dup, 1) := by decide +kernel
theorem dX11_init_56 : decode cX11_init 56 = .ok (.invokespecial 33, 3) := by decide +kernel
theorem dX11_init_59 : decode cX11_init 59 = .ok (.putfield 38, 3) := by decide +kernel
theorem dX11_init_62 : decode cX11_init 62 = .ok (.aload_n 0, 1) := by decide +kernel
theorem dX11_init_63 : decode cX11_init 63 = .ok (.new 41, 3) := by decide +kernel
theorem dX11_init_66 : decode cX11_init 66 = .ok (.dup, 1) := by decide +kernel
theorem dX11_init_67 : decode cX11_init 67 = .ok (.invokespecial 43, 3) := by decide +kernel
theorem dX11_init_70 : decode cX11_init 70 = .ok (.putfield 44, 3) := by decide +kernel
theorem dX11_init_73 : decode cX11_init 73 = .ok (.aload_n 0, 1) := by decide +kernel
theorem dX11_init_74 : decode cX11_init 74 = .ok (.iconst 2, 1) := by decide +kernel
theorem dX11_init_75 : decode cX11_init 75 = .ok (.anewarray 24, 3) := by decide +kernel
theorem dX11_init_78 : decode cX11_init 78 = .ok (.putfield 48, 3) := by decide +kernel
theorem dX11_init_81 : decode cX11_init 81 = .ok (.aload_n 0, 1) := by decide +kernel
theorem dX11_init_82 : decode cX11_init 82 = .ok (.iconst 2, 1) := by decide +kernel
theorem dX11_init_83 : decode cX11_init 83 = .ok (.anewarray 31, 3) := by decide +kernel
theorem dX11_init_86 : decode cX11_init 86 = .ok (.putfield 52, 3) := by decide +kernel
theorem dX11_init_89 : decode cX11_init 89 = .ok (.aload_n 0, 1) := by decide +kernel
theorem dX11_init_90 : decode cX11_init 90 = .ok (.iconst 4, 1) := by decide +kernel
theorem dX11_init_91 : decode cX11_init 91 = .ok (.anewarray 56, 3) := by decide +kernel
theorem dX11_init_94 : decode cX11_init 94 = .ok (.putfield 58, 3) := by decide +kernel
theorem dX11_init_97 : decode cX11_init 97 = .ok (.aload_n 0, 1) := by decide +kernel
theorem dX11_init_98 : decode cX11_init 98 = .ok (.new 62, 3) := by decide +kernel
theorem dX11_init_101 : decode cX11_init 101 = .ok (.dup, 1) := by decide +kernel
theorem dX11_init_102 : decode cX11_init 102 = .ok (.invokespecial 64, 3) := by decide +kernel
theorem dX11_init_105 : decode cX11_init 105 = .ok (.putfield 65, 3) := by decide +kernel
theorem dX11_init_108 : decode cX11_init 108 = .ok (.aload_n 0, 1) := by decide +kernel
theorem dX11_init_109 : decode cX11_init 109 = .ok (.new 69, 3) := by decide +kernel
theorem dX11_init_112 : decode cX11_init 112 = .ok (.dup, 1) := by decide +kernel
theorem dX11_init_113 : decode cX11_init 113 = .ok (.aload_n 0, 1) := by decide +kernel
theorem dX11_init_114 : decode cX11_init 114 = .ok (.getfield 65, 3) := by decide +kernel
theorem dX11_init_117 : decode cX11_init 117 = .ok (.invokespecial 71, 3) := by decide +kernel
theorem dX11_init_120 : decode cX11_init 120 = .ok (.putfield 74, 3) := by decide +kernel
theorem dX11_init_123 : decode cX11_init 123 = .ok (.aload_n 0, 1) := by decide +kernel
theorem dX11_init_124 : decode cX11_init 124 = .ok (.new 78, 3) := by decide +kernel
theorem dX11_init_127 : decode cX11_init 127 = .ok (.dup, 1) := by decide +kernel
theorem dX11_init_128 : decode cX11_init 128 = .ok (.aload_n 0, 1) := by decide +kernel
theorem dX11_init_129 : decode cX11_init 129 = .ok (.getfield 65, 3) := by decide +kernel
theorem dX11_init_132 : decode cX11_init 132 = .ok (.invokespecial 80, 3) := by decide +kernel
theorem dX11_init_135 : decode cX11_init 135 = .ok (.putfield 81, 3) := by decide +kernel
theorem dX11_init_138 : decode cX11_init 138 = .ok (.aload_n 0, 1) := by decide +kernel
theorem dX11_init_139 : decode cX11_init 139 = .ok (.new 85, 3) := by decide +kernel
theorem dX11_init_142 : decode cX11_init 142 = .ok (.dup, 1) := by decide +kernel
theorem dX11_init_143 : decode cX11_init 143 = .ok (.aload_n 0, 1) := by decide +kernel
theorem dX11_init_144 : decode cX11_init 144 = .ok (.getfield 81, 3) := by decide +kernel
theorem dX11_init_147 : decode cX11_init 147 = .ok (.invokespecial 87, 3) := by decide +kernel
theorem dX11_init_150 : decode cX11_init 150 = .ok (.putfield 90, 3) := by decide +kernel
theorem dX11_init_153 : decode cX11_init 153 = .ok (.aload_n 0, 1) := by decide +kernel
theorem dX11_init_154 : decode cX11_init 154 = .ok (.new 94, 3) := by decide +kernel
theorem dX11_init_157 : decode cX11_init 157 = .ok (.dup, 1) := by decide +kernel
theorem dX11_init_158 : decode cX11_init 158 = .ok (.aload_n 0, 1) := by decide +kernel
theorem dX11_init_159 : decode cX11_init 159 = .ok (.getfield 81, 3) := by decide +kernel
theorem dX11_init_162 : decode cX11_init 162 = .ok (.aload_n 0, 1) := by decide +kernel
theorem dX11_init_163 : decode cX11_init 163 = .ok (.getfield 90, 3) := by decide +kernel
theorem dX11_init_166 : decode cX11_init 166 = .ok (.invokespecial 96, 3) := by decide +kernel
theorem dX11_init_169 : decode cX11_init 169 = .ok (.putfield 99, 3) := by decide +kernel
theorem dX11_init_172 : decode cX11_init 172 = .ok (.aload_n 0, 1) := by decide +kernel
theorem dX11_init_173 : decode cX11_init 173 = .ok (.bipush 19, 2) := by decide +kernel
theorem dX11_init_175 : decode cX11_init 175 = .ok (.newarray .int, 2) := by decide +kernel
theorem dX11_init_177 : decode cX11_init 177 = .ok (.putfield 103, 3) := by decide +kernel
theorem dX11_init_180 : decode cX11_init 180 = .ok (.iconst 0, 1) := by decide +kernel
theorem dX11_init_181 : decode cX11_init 181 = .ok (.istore_n 1, 1) := by decide +kernel
theorem dX11_init_182 : decode cX11_init 182 = .ok (.iload_n 1, 1) := by decide +kernel
theorem dX11_init_183 : decode cX11_init 183 = .ok (.aload_n 0, 1) := by decide +kernel
theorem dX11_init_184 : decode cX11_init 184 = .ok (.getfield 52, 3) := by decide +kernel
theorem dX11_init_187 : decode cX11_init 187 = .ok (.arraylength, 1) := by decide +kernel
theorem dX11_init_188 : decode cX11_init 188 = .ok (.if_icmp .ge 22, 3) := by decide +kernel
theorem dX11_init_191 : decode cX11_init 191 = .ok (.aload_n 0, 1) := by decide +kernel
theorem dX11_init_192 : decode cX11_init 192 = .ok (.getfield 52, 3) := by decide +kernel
theorem dX11_init_195 : decode cX11_init 195 = .ok (.iload_n 1, 1) := by decide +kernel
theorem dX11_init_196 : decode cX11_init 196 = .ok (.new 31, 3) := by decide +kernel
theorem dX11_init_199 : decode cX11_init 199 = .ok (.dup, 1) := by decide +kernel
theorem dX11_init_200 : decode cX11_init 200 = .ok (.invokespecial 33, 3) := by decide +kernel
theorem dX11_init_203 : decode cX11_init 203 = .ok (.aastore, 1) := by decide +kernel
theorem dX11_init_204 : decode cX11_init 204 = .ok (.iinc 1 1, 3) := by decide +kernel
theorem dX11_init_207 : decode cX11_init 207 = .ok (.goto (-25), 3) := by decide +kernel
theorem dX11_init_210 : decode cX11_init 210 = .ok (.iconst 0, 1) := by decide +kernel
theorem dX11_init_211 : decode cX11_init 211 = .ok (.istore_n 1, 1) := by decide +kernel
theorem dX11_init_212 : decode cX11_init 212 = .ok (.iload_n 1, 1) := by decide +kernel
theorem dX11_init_213 : decode cX11_init 213 = .ok (.aload_n 0, 1) := by decide +kernel
theorem dX11_init_214 : decode cX11_init 214 = .ok (.getfield 58, 3) := by decide +kernel
theorem dX11_init_217 : decode cX11_init 217 = .ok (.arraylength, 1) := by decide +kernel
theorem dX11_init_218 : decode cX11_init 218 = .ok (.if_icmp .ge 22, 3) := by decide +kernel
theorem dX11_init_221 : decode cX11_init 221 = .ok (.aload_n 0, 1) := by decide +kernel
theorem dX11_init_222 : decode cX11_init 222 = .ok (.getfield 58, 3) := by decide +kernel
theorem dX11_init_225 : decode cX11_init 225 = .ok (.iload_n 1, 1) := by decide +kernel
theorem dX11_init_226 : decode cX11_init 226 = .ok (.new 56, 3) := by decide +kernel
theorem dX11_init_229 : decode cX11_init 229 = .ok (.dup, 1) := by decide +kernel
theorem dX11_init_230 : decode cX11_init 230 = .ok (.invokespecial 107, 3) := by decide +kernel
theorem dX11_init_233 : decode cX11_init 233 = .ok (.aastore, 1) := by decide +kernel
theorem dX11_init_234 : decode cX11_init 234 = .ok (.iinc 1 1, 3) := by decide +kernel
theorem dX11_init_237 : decode cX11_init 237 = .ok (.goto (-25), 3) := by decide +kernel
theorem dX11_init_240 : decode cX11_init 240 = .ok (.return_, 1) := by decide +kernel
theorem dX11_feed_0 : decode cX11_feed 0 = .ok (.aload_n 0, 1) := by decide +kernel
theorem dX11_feed_1 : decode cX11_feed 1 = .ok (.getfield 13, 3) := by decide +kernel
theorem dX11_feed_4 : decode cX11_feed 4 = .ok (.bipush 20, 2) := by decide +kernel
theorem dX11_feed_6 : decode cX11_feed 6 = .ok (.iadd, 1) := by decide +kernel
theorem dX11_feed_7 : decode cX11_feed 7 = .ok (.sipush 900, 3) := by decide +kernel
theorem dX11_feed_10 : decode cX11_feed 10 = .ok (.if_icmp .le 8, 3) := by decide +kernel
theorem dX11_feed_13 : decode cX11_feed 13 = .ok (.iconst 5, 1) := by decide +kernel
theorem dX11_feed_14 : decode cX11_feed 14 = .ok (.invokestatic 108, 3) := by decide +kernel
theorem dX11_feed_17 : decode cX11_feed 17 = .ok (.ireturn, 1) := by decide +kernel
theorem dX11_feed_18 : decode cX11_feed 18 = .ok (.aload_n 0, 1) := by decide +kernel
theorem dX11_feed_19 : decode cX11_feed 19 = .ok (.iload_n 1, 1) := by decide +kernel
theorem dX11_feed_20 : decode cX11_feed 20 = .ok (.invokevirtual 112, 3) := by decide +kernel
theorem dX11_feed_23 : decode cX11_feed 23 = .ok (.aload_n 0, 1) := by decide +kernel
theorem dX11_feed_24 : decode cX11_feed 24 = .ok (.iload_n 2, 1) := by decide +kernel
theorem dX11_feed_25 : decode cX11_feed 25 = .ok (.invokevirtual 112, 3) := by decide +kernel
theorem dX11_feed_28 : decode cX11_feed 28 = .ok (.aload_n 0, 1) := by decide +kernel
theorem dX11_feed_29 : decode cX11_feed 29 = .ok (.iload_n 3, 1) := by decide +kernel
theorem dX11_feed_30 : decode cX11_feed 30 = .ok (.invokevirtual 112, 3) := by decide +kernel
theorem dX11_feed_33 : decode cX11_feed 33 = .ok (.aload_n 0, 1) := by decide +kernel
theorem dX11_feed_34 : decode cX11_feed 34 = .ok (.iload 4, 2) := by decide +kernel
theorem dX11_feed_36 : decode cX11_feed 36 = .ok (.invokevirtual 112, 3) := by decide +kernel
theorem dX11_feed_39 : decode cX11_feed 39 = .ok (.aload_n 0, 1) := by decide +kernel
theorem dX11_feed_40 : decode cX11_feed 40 = .ok (.iload 5, 2) := by decide +kernel
theorem dX11_feed_42 : decode cX11_feed 42 = .ok (.invokevirtual 112, 3) := by decide +kernel
theorem dX11_feed_45 : decode cX11_feed 45 = .ok (.aload_n 0, 1) := by decide +kernel
theorem dX11_feed_46 : decode cX11_feed 46 = .ok (.getfield 13, 3) := by decide +kernel
theorem dX11_feed_49 : decode cX11_feed 49 = .ok (.ireturn, 1) := by decide +kernel
theorem dX11_town_0 : decode cX11_town 0 = .ok (.iload_n 1, 1) := by decide +kernel
theorem dX11_town_1 : decode cX11_town 1 = .ok (.ifCond .lt 11, 3) := by decide +kernel
theorem dX11_town_4 : decode cX11_town 4 = .ok (.iload_n 1, 1) := by decide +kernel
theorem dX11_town_5 : decode cX11_town 5 = .ok (.aload_n 0, 1) := by decide +kernel
theorem dX11_town_6 : decode cX11_town 6 = .ok (.getfield 13, 3) := by decide +kernel
theorem dX11_town_9 : decode cX11_town 9 = .ok (.if_icmp .le 8, 3) := by decide +kernel
theorem dX11_town_12 : decode cX11_town 12 = .ok (.iconst 3, 1) := by decide +kernel
theorem dX11_town_13 : decode cX11_town 13 = .ok (.invokestatic 108, 3) := by decide +kernel
theorem dX11_town_16 : decode cX11_town 16 = .ok (.ireturn, 1) := by decide +kernel
theorem dX11_town_17 : decode cX11_town 17 = .ok (.aload_n 0, 1) := by decide +kernel
theorem dX11_town_18 : decode cX11_town 18 = .ok (.iconst 0, 1) := by decide +kernel
theorem dX11_town_19 : decode cX11_town 19 = .ok (.putfield 13, 3) := by decide +kernel
theorem dX11_town_22 : decode cX11_town 22 = .ok (.aload_n 0, 1) := by decide +kernel
theorem dX11_town_23 : decode cX11_town 23 = .ok (.getfield 20, 3) := by decide +kernel
theorem dX11_town_26 : decode cX11_town 26 = .ok (.aload_n 0, 1) := by decide +kernel
theorem dX11_town_27 : decode cX11_town 27 = .ok (.getfield 9, 3) := by decide +kernel
theorem dX11_town_30 : decode cX11_town 30 = .ok (.iload_n 1, 1) := by decide +kernel
theorem dX11_town_31 : decode cX11_town 31 = .ok (.invokevirtual 116, 3) := by decide +kernel
theorem dX11_town_34 : decode cX11_town 34 = .ok (.astore_n 2, 1) := by decide +kernel
theorem dX11_town_35 : decode cX11_town 35 = .ok (.aload_n 2, 1) := by decide +kernel
theorem dX11_town_36 : decode cX11_town 36 = .ok (.ifnonnull 17, 3) := by decide +kernel
theorem dX11_town_39 : decode cX11_town 39 = .ok (.bipush 30, 2) := by decide +kernel
theorem dX11_town_41 : decode cX11_town 41 = .ok (.aload_n 0, 1) := by decide +kernel
theorem dX11_town_42 : decode cX11_town 42 = .ok (.getfield 20, 3) := by decide +kernel
theorem dX11_town_45 : decode cX11_town 45 = .ok (.getfield 120, 3) := by decide +kernel
theorem dX11_town_48 : decode cX11_town 48 = .ok (.iadd, 1) := by decide +kernel
theorem dX11_town_49 : decode cX11_town 49 = .ok (.invokestatic 108, 3) := by decide +kernel
theorem dX11_town_52 : decode cX11_town 52 = .ok (.ireturn, 1) := by decide +kernel
theorem dX11_town_53 : decode cX11_town 53 = .ok (.aload_n 0, 1) := by decide +kernel
theorem dX11_town_54 : decode cX11_town 54 = .ok (.aload_n 2, 1) := by decide +kernel
theorem dX11_town_55 : decode cX11_town 55 = .ok (.putfield 27, 3) := by decide +kernel
theorem dX11_town_58 : decode cX11_town 58 = .ok (.aload_n 0, 1) := by decide +kernel
theorem dX11_town_59 : decode cX11_town 59 = .ok (.getfield 34, 3) := by decide +kernel
theorem dX11_town_62 : decode cX11_town 62 = .ok (.aload_n 2, 1) := by decide +kernel
theorem dX11_town_63 : decode cX11_town 63 = .ok (.invokevirtual 123, 3) := by decide +kernel
theorem dX11_town_66 : decode cX11_town 66 = .ok (.aload_n 0, 1) := by decide +kernel
theorem dX11_town_67 : decode cX11_town 67 = .ok (.getfield 44, 3) := by decide +kernel
theorem dX11_town_70 : decode cX11_town 70 = .ok (.invokevirtual 127, 3) := by decide +kernel
theorem dX11_town_73 : decode cX11_town 73 = .ok (.aload_n 2, 1) := by decide +kernel
theorem dX11_town_74 : decode cX11_town 74 = .ok (.getfield 130, 3) := by decide +kernel
theorem dX11_town_77 : decode cX11_town 77 = .ok (.ireturn, 1) := by decide +kernel
theorem dX11_fault_0 : decode cX11_fault 0 = .ok (.iload_n 1, 1) := by decide +kernel
theorem dX11_fault_1 : decode cX11_fault 1 = .ok (.ifCond .ne 11, 3) := by decide +kernel
theorem dX11_fault_4 : decode cX11_fault 4 = .ok (.aload_n 0, 1) := by decide +kernel
theorem dX11_fault_5 : decode cX11_fault 5 = .ok (.getfield 20, 3) := by decide +kernel
theorem dX11_fault_8 : decode cX11_fault 8 = .ok (.getfield 120, 3) := by decide +kernel
theorem dX11_fault_11 : decode cX11_fault 11 = .ok (.ireturn, 1) := by decide +kernel
theorem dX11_fault_12 : decode cX11_fault 12 = .ok (.iload_n 1, 1) := by decide +kernel
theorem dX11_fault_13 : decode cX11_fault 13 = .ok (.iconst 1, 1) := by decide +kernel
theorem dX11_fault_14 : decode cX11_fault 14 = .ok (.if_icmp .ne 13, 3) := by decide +kernel
theorem dX11_fault_17 : decode cX11_fault 17 = .ok (.aload_n 0, 1) := by decide +kernel
theorem dX11_fault_18 : decode cX11_fault 18 = .ok (.getfield 20, 3) := by decide +kernel
theorem dX11_fault_21 : decode cX11_fault 21 = .ok (.getfield 133, 3) := by decide +kernel
theorem dX11_fault_24 : decode cX11_fault 24 = .ok (.goto 4, 3) := by decide +kernel
theorem dX11_fault_27 : decode cX11_fault 27 = .ok (.iconst (-1), 1) := by decide +kernel
theorem dX11_fault_28 : decode cX11_fault 28 = .ok (.ireturn, 1) := by decide +kernel
theorem dX11_person_0 : decode cX11_person 0 = .ok (.aload_n 0, 1) := by decide +kernel
theorem dX11_person_1 : decode cX11_person 1 = .ok (.getfield 34, 3) := by decide +kernel
theorem dX11_person_4 : decode cX11_person 4 = .ok (.iload_n 1, 1) := by decide +kernel
theorem dX11_person_5 : decode cX11_person 5 = .ok (.invokevirtual 136, 3) := by decide +kernel
theorem dX11_person_8 : decode cX11_person 8 = .ok (.ifCond .eq 13, 3) := by decide +kernel
theorem dX11_person_11 : decode cX11_person 11 = .ok (.iload_n 2, 1) := by decide +kernel
theorem dX11_person_12 : decode cX11_person 12 = .ok (.ifCond .lt 9, 3) := by decide +kernel
theorem dX11_person_15 : decode cX11_person 15 = .ok (.iload_n 2, 1) := by decide +kernel
theorem dX11_person_16 : decode cX11_person 16 = .ok (.bipush 9, 2) := by decide +kernel
theorem dX11_person_18 : decode cX11_person 18 = .ok (.if_icmp .lt 8, 3) := by decide +kernel
theorem dX11_person_21 : decode cX11_person 21 = .ok (.iconst 2, 1) := by decide +kernel
theorem dX11_person_22 : decode cX11_person 22 = .ok (.invokestatic 108, 3) := by decide +kernel
theorem dX11_person_25 : decode cX11_person 25 = .ok (.ireturn, 1) := by decide +kernel
theorem dX11_person_26 : decode cX11_person 26 = .ok (.aload_n 0, 1) := by decide +kernel
theorem dX11_person_27 : decode cX11_person 27 = .ok (.getfield 34, 3) := by decide +kernel
theorem dX11_person_30 : decode cX11_person 30 = .ok (.iload_n 1, 1) := by decide +kernel
theorem dX11_person_31 : decode cX11_person 31 = .ok (.iload_n 2, 1) := by decide +kernel
theorem dX11_person_32 : decode cX11_person 32 = .ok (.invokevirtual 140, 3) := by decide +kernel
theorem dX11_person_35 : decode cX11_person 35 = .ok (.ireturn, 1) := by decide +kernel
theorem dX11_worth_0 : decode cX11_worth 0 = .ok (.aload_n 0, 1) := by decide +kernel
theorem dX11_worth_1 : decode cX11_worth 1 = .ok (.getfield 34, 3) := by decide +kernel
theorem dX11_worth_4 : decode cX11_worth 4 = .ok (.iload_n 1, 1) := by decide +kernel
theorem dX11_worth_5 : decode cX11_worth 5 = .ok (.invokevirtual 136, 3) := by decide +kernel
theorem dX11_worth_8 : decode cX11_worth 8 = .ok (.ifCond .eq 15, 3) := by decide +kernel
theorem dX11_worth_11 : decode cX11_worth 11 = .ok (.aload_n 0, 1) := by decide +kernel
theorem dX11_worth_12 : decode cX11_worth 12 = .ok (.getfield 27, 3) := by decide +kernel
theorem dX11_worth_15 : decode cX11_worth 15 = .ok (.iload_n 2, 1) := by decide +kernel
theorem dX11_worth_16 : decode cX11_worth 16 = .ok (.i2l, 1) := by decide +kernel
theorem dX11_worth_17 : decode cX11_worth 17 = .ok (.invokevirtual 144, 3) := by decide +kernel
theorem dX11_worth_20 : decode cX11_worth 20 = .ok (.ifCond .ne 8, 3) := by decide +kernel
theorem dX11_worth_23 : decode cX11_worth 23 = .ok (.iconst 2, 1) := by decide +kernel
theorem dX11_worth_24 : decode cX11_worth 24 = .ok (.invokestatic 108, 3) := by decide +kernel
theorem dX11_worth_27 : decode cX11_worth 27 = .ok (.ireturn, 1) := by decide +kernel
theorem dX11_worth_28 : decode cX11_worth 28 = .ok (.aload_n 0, 1) := by decide +kernel
theorem dX11_worth_29 : decode cX11_worth 29 = .ok (.getfield 34, 3) := by decide +kernel
theorem dX11_worth_32 : decode cX11_worth 32 = .ok (.iload_n 1, 1) := by decide +kernel
theorem dX11_worth_33 : decode cX11_worth 33 = .ok (.iconst 0, 1) := by decide +kernel
theorem dX11_worth_34 : decode cX11_worth 34 = .ok (.invokevirtual 140, 3) := by decide +kernel
theorem dX11_worth_37 : decode cX11_worth 37 = .ok (.aload_n 0, 1) := by decide +kernel
theorem dX11_worth_38 : decode cX11_worth 38 = .ok (.getfield 27, 3) := by decide +kernel
theorem dX11_worth_41 : decode cX11_worth 41 = .ok (.getfield 148, 3) := by decide +kernel
theorem dX11_worth_44 : decode cX11_worth 44 = .ok (.if_icmp .lt 8, 3) := by decide +kernel
theorem dX11_worth_47 : decode cX11_worth 47 = .ok (.iconst 5, 1) := by decide +kernel
theorem dX11_worth_48 : decode cX11_worth 48 = .ok (.invokestatic 108, 3) := by decide +kernel
theorem dX11_worth_51 : decode cX11_worth 51 = .ok (.ireturn, 1) := by decide +kernel
theorem dX11_worth_52 : decode cX11_worth 52 = .ok (.aload_n 0, 1) := by decide +kernel
theorem dX11_worth_53 : decode cX11_worth 53 = .ok (.getfield 65, 3) := by decide +kernel
theorem dX11_worth_56 : decode cX11_worth 56 = .ok (.aload_n 0, 1) := by decide +kernel
theorem dX11_worth_57 : decode cX11_worth 57 = .ok (.getfield 34, 3) := by decide +kernel
theorem dX11_worth_60 : decode cX11_worth 60 = .ok (.iload_n 1, 1) := by decide +kernel
theorem dX11_worth_61 : decode cX11_worth 61 = .ok (.invokevirtual 151, 3) := by decide +kernel
theorem dX11_worth_64 : decode cX11_worth 64 = .ok (.aload_n 0, 1) := by decide +kernel
theorem dX11_worth_65 : decode cX11_worth 65 = .ok (.getfield 65, 3) := by decide +kernel
theorem dX11_worth_68 : decode cX11_worth 68 = .ok (.aload_n 0, 1) := by decide +kernel
theorem dX11_worth_69 : decode cX11_worth 69 = .ok (.getfield 27, 3) := by decide +kernel
theorem dX11_worth_72 : decode cX11_worth 72 = .ok (.iload_n 2, 1) := by decide +kernel
theorem dX11_worth_73 : decode cX11_worth 73 = .ok (.invokevirtual 155, 3) := by decide +kernel
theorem dX11_worth_76 : decode cX11_worth 76 = .ok (.ireturn, 1) := by decide +kernel
theorem dX11_grown_0 : decode cX11_grown 0 = .ok (.aload_n 0, 1) := by decide +kernel
theorem dX11_grown_1 : decode cX11_grown 1 = .ok (.getfield 34, 3) := by decide +kernel
theorem dX11_grown_4 : decode cX11_grown 4 = .ok (.iload_n 1, 1) := by decide +kernel
theorem dX11_grown_5 : decode cX11_grown 5 = .ok (.invokevirtual 136, 3) := by decide +kernel
theorem dX11_grown_8 : decode cX11_grown 8 = .ok (.ifCond .ne 8, 3) := by decide +kernel
theorem dX11_grown_11 : decode cX11_grown 11 = .ok (.iconst 2, 1) := by decide +kernel
theorem dX11_grown_12 : decode cX11_grown 12 = .ok (.invokestatic 108, 3) := by decide +kernel
theorem dX11_grown_15 : decode cX11_grown 15 = .ok (.ireturn, 1) := by decide +kernel
theorem dX11_grown_16 : decode cX11_grown 16 = .ok (.aload_n 0, 1) := by decide +kernel
theorem dX11_grown_17 : decode cX11_grown 17 = .ok (.getfield 34, 3) := by decide +kernel
theorem dX11_grown_20 : decode cX11_grown 20 = .ok (.iload_n 1, 1) := by decide +kernel
theorem dX11_grown_21 : decode cX11_grown 21 = .ok (.iconst 1, 1) := by decide +kernel
theorem dX11_grown_22 : decode cX11_grown 22 = .ok (.invokevirtual 140, 3) := by decide +kernel
theorem dX11_grown_25 : decode cX11_grown 25 = .ok (.iconst 1, 1) := by decide +kernel
theorem dX11_grown_26 : decode cX11_grown 26 = .ok (.if_icmp .eq 8, 3) := by decide +kernel
theorem dX11_grown_29 : decode cX11_grown 29 = .ok (.iconst 5, 1) := by decide +kernel
theorem dX11_grown_30 : decode cX11_grown 30 = .ok (.invokestatic 108, 3) := by decide +kernel
theorem dX11_grown_33 : decode cX11_grown 33 = .ok (.ireturn, 1) := by decide +kernel
theorem dX11_grown_34 : decode cX11_grown 34 = .ok (.aload_n 0, 1) := by decide +kernel
theorem dX11_grown_35 : decode cX11_grown 35 = .ok (.getfield 65, 3) := by decide +kernel
theorem dX11_grown_38 : decode cX11_grown 38 = .ok (.aload_n 0, 1) := by decide +kernel
theorem dX11_grown_39 : decode cX11_grown 39 = .ok (.getfield 34, 3) := by decide +kernel
theorem dX11_grown_42 : decode cX11_grown 42 = .ok (.iload_n 1, 1) := by decide +kernel
theorem dX11_grown_43 : decode cX11_grown 43 = .ok (.invokevirtual 151, 3) := by decide +kernel
theorem dX11_grown_46 : decode cX11_grown 46 = .ok (.aload_n 0, 1) := by decide +kernel
theorem dX11_grown_47 : decode cX11_grown 47 = .ok (.getfield 65, 3) := by decide +kernel
theorem dX11_grown_50 : decode cX11_grown 50 = .ok (.aload_n 0, 1) := by decide +kernel
theorem dX11_grown_51 : decode cX11_grown 51 = .ok (.getfield 27, 3) := by decide +kernel
theorem dX11_grown_54 : decode cX11_grown 54 = .ok (.invokevirtual 159, 3) := by decide +kernel
theorem dX11_grown_57 : decode cX11_grown 57 = .ok (.ireturn, 1) := by decide +kernel
theorem dX11_live_0 : decode cX11_live 0 = .ok (.aload_n 0, 1) := by decide +kernel
theorem dX11_live_1 : decode cX11_live 1 = .ok (.getfield 38, 3) := by decide +kernel
theorem dX11_live_4 : decode cX11_live 4 = .ok (.aload_n 0, 1) := by decide +kernel
theorem dX11_live_5 : decode cX11_live 5 = .ok (.getfield 34, 3) := by decide +kernel
theorem dX11_live_8 : decode cX11_live 8 = .ok (.invokevirtual 163, 3) := by decide +kernel
theorem dX11_live_11 : decode cX11_live 11 = .ok (.aload_n 0, 1) := by decide +kernel
theorem dX11_live_12 : decode cX11_live 12 = .ok (.getfield 74, 3) := by decide +kernel
theorem dX11_live_15 : decode cX11_live 15 = .ok (.aload_n 0, 1) := by decide +kernel
theorem dX11_live_16 : decode cX11_live 16 = .ok (.getfield 27, 3) := by decide +kernel
theorem dX11_live_19 : decode cX11_live 19 = .ok (.aload_n 0, 1) := by decide +kernel
theorem dX11_live_20 : decode cX11_live 20 = .ok (.getfield 34, 3) := by decide +kernel
theorem dX11_live_23 : decode cX11_live 23 = .ok (.iload_n 1, 1) := by decide +kernel
theorem dX11_live_24 : decode cX11_live 24 = .ok (.iload_n 2, 1) := by decide +kernel
theorem dX11_live_25 : decode cX11_live 25 = .ok (.i2l, 1) := by decide +kernel
