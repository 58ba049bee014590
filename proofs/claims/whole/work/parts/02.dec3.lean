theorem dX11_skip_11 : decode cX11_skip 11 = .ok (.getfield 126, 3) := by decide +kernel
theorem dX11_skip_14 : decode cX11_skip 14 = .ok (.iconst 1, 1) := by decide +kernel
theorem dX11_skip_15 : decode cX11_skip 15 = .ok (.iadd, 1) := by decide +kernel
theorem dX11_skip_16 : decode cX11_skip 16 = .ok (.putfield 126, 3) := by decide +kernel
theorem dX11_skip_19 : decode cX11_skip 19 = .ok (.goto (-19), 3) := by decide +kernel
theorem dX11_skip_22 : decode cX11_skip 22 = .ok (.return_, 1) := by decide +kernel
theorem dX11_isLetter_0 : decode cX11_isLetter 0 = .ok (.iload_n 0, 1) := by decide +kernel
theorem dX11_isLetter_1 : decode cX11_isLetter 1 = .ok (.bipush 97, 2) := by decide +kernel
theorem dX11_isLetter_3 : decode cX11_isLetter 3 = .ok (.bipush 122, 2) := by decide +kernel
theorem dX11_isLetter_5 : decode cX11_isLetter 5 = .ok (.invokestatic 91, 3) := by decide +kernel
theorem dX11_isLetter_8 : decode cX11_isLetter 8 = .ok (.ireturn, 1) := by decide +kernel
theorem dX11_isFigure_0 : decode cX11_isFigure 0 = .ok (.iload_n 0, 1) := by decide +kernel
theorem dX11_isFigure_1 : decode cX11_isFigure 1 = .ok (.bipush 48, 2) := by decide +kernel
theorem dX11_isFigure_3 : decode cX11_isFigure 3 = .ok (.bipush 57, 2) := by decide +kernel
theorem dX11_isFigure_5 : decode cX11_isFigure 5 = .ok (.invokestatic 91, 3) := by decide +kernel
theorem dX11_isFigure_8 : decode cX11_isFigure 8 = .ok (.ireturn, 1) := by decide +kernel
theorem dX11_wordSize_0 : decode cX11_wordSize 0 = .ok (.iconst 0, 1) := by decide +kernel
theorem dX11_wordSize_1 : decode cX11_wordSize 1 = .ok (.istore_n 1, 1) := by decide +kernel
theorem dX11_wordSize_2 : decode cX11_wordSize 2 = .ok (.aload_n 0, 1) := by decide +kernel
theorem dX11_wordSize_3 : decode cX11_wordSize 3 = .ok (.getfield 126, 3) := by decide +kernel
theorem dX11_wordSize_6 : decode cX11_wordSize 6 = .ok (.iload_n 1, 1) := by decide +kernel
theorem dX11_wordSize_7 : decode cX11_wordSize 7 = .ok (.iadd, 1) := by decide +kernel
theorem dX11_wordSize_8 : decode cX11_wordSize 8 = .ok (.aload_n 0, 1) := by decide +kernel
theorem dX11_wordSize_9 : decode cX11_wordSize 9 = .ok (.getfield 123, 3) := by decide +kernel
theorem dX11_wordSize_12 : decode cX11_wordSize 12 = .ok (.if_icmp .ge 26, 3) := by decide +kernel
theorem dX11_wordSize_15 : decode cX11_wordSize 15 = .ok (.aload_n 0, 1) := by decide +kernel
theorem dX11_wordSize_16 : decode cX11_wordSize 16 = .ok (.getfield 25, 3) := by decide +kernel
theorem dX11_wordSize_19 : decode cX11_wordSize 19 = .ok (.aload_n 0, 1) := by decide +kernel
theorem dX11_wordSize_20 : decode cX11_wordSize 20 = .ok (.getfield 126, 3) := by decide +kernel
theorem dX11_wordSize_23 : decode cX11_wordSize 23 = .ok (.iload_n 1, 1) := by decide +kernel
theorem dX11_wordSize_24 : decode cX11_wordSize 24 = .ok (.iadd, 1) := by decide +kernel
theorem dX11_wordSize_25 : decode cX11_wordSize 25 = .ok (.iaload, 1) := by decide +kernel
theorem dX11_wordSize_26 : decode cX11_wordSize 26 = .ok (.invokestatic 132, 3) := by decide +kernel
theorem dX11_wordSize_29 : decode cX11_wordSize 29 = .ok (.ifCond .eq 9, 3) := by decide +kernel
theorem dX11_wordSize_32 : decode cX11_wordSize 32 = .ok (.iinc 1 1, 3) := by decide +kernel
theorem dX11_wordSize_35 : decode cX11_wordSize 35 = .ok (.goto (-33), 3) := by decide +kernel
theorem dX11_wordSize_38 : decode cX11_wordSize 38 = .ok (.iload_n 1, 1) := by decide +kernel
theorem dX11_wordSize_39 : decode cX11_wordSize 39 = .ok (.ireturn, 1) := by decide +kernel
theorem dX11_letter_0 : decode cX11_letter 0 = .ok (.aload_n 0, 1) := by decide +kernel
theorem dX11_letter_1 : decode cX11_letter 1 = .ok (.getfield 25, 3) := by decide +kernel
theorem dX11_letter_4 : decode cX11_letter 4 = .ok (.aload_n 0, 1) := by decide +kernel
theorem dX11_letter_5 : decode cX11_letter 5 = .ok (.getfield 126, 3) := by decide +kernel
theorem dX11_letter_8 : decode cX11_letter 8 = .ok (.iload_n 1, 1) := by decide +kernel
theorem dX11_letter_9 : decode cX11_letter 9 = .ok (.iadd, 1) := by decide +kernel
theorem dX11_letter_10 : decode cX11_letter 10 = .ok (.iaload, 1) := by decide +kernel
theorem dX11_letter_11 : decode cX11_letter 11 = .ok (.ireturn, 1) := by decide +kernel
theorem dX11_wordHere_0 : decode cX11_wordHere 0 = .ok (.aload_n 0, 1) := by decide +kernel
theorem dX11_wordHere_1 : decode cX11_wordHere 1 = .ok (.invokevirtual 135, 3) := by decide +kernel
theorem dX11_wordHere_4 : decode cX11_wordHere 4 = .ok (.istore_n 1, 1) := by decide +kernel
theorem dX11_wordHere_5 : decode cX11_wordHere 5 = .ok (.iload_n 1, 1) := by decide +kernel
theorem dX11_wordHere_6 : decode cX11_wordHere 6 = .ok (.iconst 4, 1) := by decide +kernel
theorem dX11_wordHere_7 : decode cX11_wordHere 7 = .ok (.if_icmp .ne 91, 3) := by decide +kernel
theorem dX11_wordHere_10 : decode cX11_wordHere 10 = .ok (.aload_n 0, 1) := by decide +kernel
theorem dX11_wordHere_11 : decode cX11_wordHere 11 = .ok (.iconst 0, 1) := by decide +kernel
theorem dX11_wordHere_12 : decode cX11_wordHere 12 = .ok (.invokevirtual 138, 3) := by decide +kernel
theorem dX11_wordHere_15 : decode cX11_wordHere 15 = .ok (.bipush 103, 2) := by decide +kernel
theorem dX11_wordHere_17 : decode cX11_wordHere 17 = .ok (.if_icmp .ne 35, 3) := by decide +kernel
theorem dX11_wordHere_20 : decode cX11_wordHere 20 = .ok (.aload_n 0, 1) := by decide +kernel
theorem dX11_wordHere_21 : decode cX11_wordHere 21 = .ok (.iconst 1, 1) := by decide +kernel
theorem dX11_wordHere_22 : decode cX11_wordHere 22 = .ok (.invokevirtual 138, 3) := by decide +kernel
theorem dX11_wordHere_25 : decode cX11_wordHere 25 = .ok (.bipush 97, 2) := by decide +kernel
theorem dX11_wordHere_27 : decode cX11_wordHere 27 = .ok (.if_icmp .ne 25, 3) := by decide +kernel
theorem dX11_wordHere_30 : decode cX11_wordHere 30 = .ok (.aload_n 0, 1) := by decide +kernel
theorem dX11_wordHere_31 : decode cX11_wordHere 31 = .ok (.iconst 2, 1) := by decide +kernel
theorem dX11_wordHere_32 : decode cX11_wordHere 32 = .ok (.invokevirtual 138, 3) := by decide +kernel
theorem dX11_wordHere_35 : decode cX11_wordHere 35 = .ok (.bipush 109, 2) := by decide +kernel
theorem dX11_wordHere_37 : decode cX11_wordHere 37 = .ok (.if_icmp .ne 15, 3) := by decide +kernel
theorem dX11_wordHere_40 : decode cX11_wordHere 40 = .ok (.aload_n 0, 1) := by decide +kernel
theorem dX11_wordHere_41 : decode cX11_wordHere 41 = .ok (.iconst 3, 1) := by decide +kernel
theorem dX11_wordHere_42 : decode cX11_wordHere 42 = .ok (.invokevirtual 138, 3) := by decide +kernel
theorem dX11_wordHere_45 : decode cX11_wordHere 45 = .ok (.bipush 101, 2) := by decide +kernel
theorem dX11_wordHere_47 : decode cX11_wordHere 47 = .ok (.if_icmp .ne 5, 3) := by decide +kernel
theorem dX11_wordHere_50 : decode cX11_wordHere 50 = .ok (.iconst 0, 1) := by decide +kernel
theorem dX11_wordHere_51 : decode cX11_wordHere 51 = .ok (.ireturn, 1) := by decide +kernel
theorem dX11_wordHere_52 : decode cX11_wordHere 52 = .ok (.aload_n 0, 1) := by decide +kernel
theorem dX11_wordHere_53 : decode cX11_wordHere 53 = .ok (.iconst 0, 1) := by decide +kernel
theorem dX11_wordHere_54 : decode cX11_wordHere 54 = .ok (.invokevirtual 138, 3) := by decide +kernel
theorem dX11_wordHere_57 : decode cX11_wordHere 57 = .ok (.bipush 119, 2) := by decide +kernel
theorem dX11_wordHere_59 : decode cX11_wordHere 59 = .ok (.if_icmp .ne 37, 3) := by decide +kernel
theorem dX11_wordHere_62 : decode cX11_wordHere 62 = .ok (.aload_n 0, 1) := by decide +kernel
theorem dX11_wordHere_63 : decode cX11_wordHere 63 = .ok (.iconst 1, 1) := by decide +kernel
theorem dX11_wordHere_64 : decode cX11_wordHere 64 = .ok (.invokevirtual 138, 3) := by decide +kernel
theorem dX11_wordHere_67 : decode cX11_wordHere 67 = .ok (.bipush 111, 2) := by decide +kernel
theorem dX11_wordHere_69 : decode cX11_wordHere 69 = .ok (.if_icmp .ne 27, 3) := by decide +kernel
theorem dX11_wordHere_72 : decode cX11_wordHere 72 = .ok (.aload_n 0, 1) := by decide +kernel
theorem dX11_wordHere_73 : decode cX11_wordHere 73 = .ok (.iconst 2, 1) := by decide +kernel
theorem dX11_wordHere_74 : decode cX11_wordHere 74 = .ok (.invokevirtual 138, 3) := by decide +kernel
theorem dX11_wordHere_77 : decode cX11_wordHere 77 = .ok (.bipush 114, 2) := by decide +kernel
theorem dX11_wordHere_79 : decode cX11_wordHere 79 = .ok (.if_icmp .ne 17, 3) := by decide +kernel
theorem dX11_wordHere_82 : decode cX11_wordHere 82 = .ok (.aload_n 0, 1) := by decide +kernel
theorem dX11_wordHere_83 : decode cX11_wordHere 83 = .ok (.iconst 3, 1) := by decide +kernel
theorem dX11_wordHere_84 : decode cX11_wordHere 84 = .ok (.invokevirtual 138, 3) := by decide +kernel
theorem dX11_wordHere_87 : decode cX11_wordHere 87 = .ok (.bipush 100, 2) := by decide +kernel
theorem dX11_wordHere_89 : decode cX11_wordHere 89 = .ok (.if_icmp .ne 7, 3) := by decide +kernel
theorem dX11_wordHere_92 : decode cX11_wordHere 92 = .ok (.iconst 1, 1) := by decide +kernel
theorem dX11_wordHere_93 : decode cX11_wordHere 93 = .ok (.goto 4, 3) := by decide +kernel
theorem dX11_wordHere_96 : decode cX11_wordHere 96 = .ok (.iconst (-1), 1) := by decide +kernel
theorem dX11_wordHere_97 : decode cX11_wordHere 97 = .ok (.ireturn, 1) := by decide +kernel
theorem dX11_wordHere_98 : decode cX11_wordHere 98 = .ok (.iload_n 1, 1) := by decide +kernel
theorem dX11_wordHere_99 : decode cX11_wordHere 99 = .ok (.iconst 5, 1) := by decide +kernel
theorem dX11_wordHere_100 : decode cX11_wordHere 100 = .ok (.if_icmp .ne 69, 3) := by decide +kernel
theorem dX11_wordHere_103 : decode cX11_wordHere 103 = .ok (.aload_n 0, 1) := by decide +kernel
theorem dX11_wordHere_104 : decode cX11_wordHere 104 = .ok (.iconst 0, 1) := by decide +kernel
theorem dX11_wordHere_105 : decode cX11_wordHere 105 = .ok (.invokevirtual 138, 3) := by decide +kernel
theorem dX11_wordHere_108 : decode cX11_wordHere 108 = .ok (.bipush 103, 2) := by decide +kernel
theorem dX11_wordHere_110 : decode cX11_wordHere 110 = .ok (.if_icmp .ne 27, 3) := by decide +kernel
theorem dX11_wordHere_113 : decode cX11_wordHere 113 = .ok (.aload_n 0, 1) := by decide +kernel
theorem dX11_wordHere_114 : decode cX11_wordHere 114 = .ok (.iconst 1, 1) := by decide +kernel
theorem dX11_wordHere_115 : decode cX11_wordHere 115 = .ok (.invokevirtual 138, 3) := by decide +kernel
theorem dX11_wordHere_118 : decode cX11_wordHere 118 = .ok (.bipush 117, 2) := by decide +kernel
theorem dX11_wordHere_120 : decode cX11_wordHere 120 = .ok (.if_icmp .ne 17, 3) := by decide +kernel
theorem dX11_wordHere_123 : decode cX11_wordHere 123 = .ok (.aload_n 0, 1) := by decide +kernel
theorem dX11_wordHere_124 : decode cX11_wordHere 124 = .ok (.iconst 2, 1) := by decide +kernel
theorem dX11_wordHere_125 : decode cX11_wordHere 125 = .ok (.invokevirtual 138, 3) := by decide +kernel
theorem dX11_wordHere_128 : decode cX11_wordHere 128 = .ok (.bipush 101, 2) := by decide +kernel
theorem dX11_wordHere_130 : decode cX11_wordHere 130 = .ok (.if_icmp .ne 7, 3) := by decide +kernel
theorem dX11_wordHere_133 : decode cX11_wordHere 133 = .ok (.iconst 1, 1) := by decide +kernel
theorem dX11_wordHere_134 : decode cX11_wordHere 134 = .ok (.goto 4, 3) := by decide +kernel
theorem dX11_wordHere_137 : decode cX11_wordHere 137 = .ok (.iconst 0, 1) := by decide +kernel
theorem dX11_wordHere_138 : decode cX11_wordHere 138 = .ok (.istore_n 2, 1) := by decide +kernel
theorem dX11_wordHere_139 : decode cX11_wordHere 139 = .ok (.iload_n 2, 1) := by decide +kernel
theorem dX11_wordHere_140 : decode cX11_wordHere 140 = .ok (.ifCond .eq 27, 3) := by decide +kernel
theorem dX11_wordHere_143 : decode cX11_wordHere 143 = .ok (.aload_n 0, 1) := by decide +kernel
theorem dX11_wordHere_144 : decode cX11_wordHere 144 = .ok (.iconst 3, 1) := by decide +kernel
theorem dX11_wordHere_145 : decode cX11_wordHere 145 = .ok (.invokevirtual 138, 3) := by decide +kernel
theorem dX11_wordHere_148 : decode cX11_wordHere 148 = .ok (.bipush 115, 2) := by decide +kernel
theorem dX11_wordHere_150 : decode cX11_wordHere 150 = .ok (.if_icmp .ne 17, 3) := by decide +kernel
theorem dX11_wordHere_153 : decode cX11_wordHere 153 = .ok (.aload_n 0, 1) := by decide +kernel
theorem dX11_wordHere_154 : decode cX11_wordHere 154 = .ok (.iconst 4, 1) := by decide +kernel
theorem dX11_wordHere_155 : decode cX11_wordHere 155 = .ok (.invokevirtual 138, 3) := by decide +kernel
theorem dX11_wordHere_158 : decode cX11_wordHere 158 = .ok (.bipush 115, 2) := by decide +kernel
theorem dX11_wordHere_160 : decode cX11_wordHere 160 = .ok (.if_icmp .ne 7, 3) := by decide +kernel
theorem dX11_wordHere_163 : decode cX11_wordHere 163 = .ok (.iconst 3, 1) := by decide +kernel
theorem dX11_wordHere_164 : decode cX11_wordHere 164 = .ok (.goto 4, 3) := by decide +kernel
theorem dX11_wordHere_167 : decode cX11_wordHere 167 = .ok (.iconst (-1), 1) := by decide +kernel
theorem dX11_wordHere_168 : decode cX11_wordHere 168 = .ok (.ireturn, 1) := by decide +kernel
theorem dX11_wordHere_169 : decode cX11_wordHere 169 = .ok (.iload_n 1, 1) := by decide +kernel
theorem dX11_wordHere_170 : decode cX11_wordHere 170 = .ok (.bipush 6, 2) := by decide +kernel
theorem dX11_wordHere_172 : decode cX11_wordHere 172 = .ok (.if_icmp .eq 5, 3) := by decide +kernel
theorem dX11_wordHere_175 : decode cX11_wordHere 175 = .ok (.iconst (-1), 1) := by decide +kernel
theorem dX11_wordHere_176 : decode cX11_wordHere 176 = .ok (.ireturn, 1) := by decide +kernel
theorem dX11_wordHere_177 : decode cX11_wordHere 177 = .ok (.aload_n 0, 1) := by decide +kernel
theorem dX11_wordHere_178 : decode cX11_wordHere 178 = .ok (.iconst 0, 1) := by decide +kernel
theorem dX11_wordHere_179 : decode cX11_wordHere 179 = .ok (.invokevirtual 138, 3) := by decide +kernel
theorem dX11_wordHere_182 : decode cX11_wordHere 182 = .ok (.bipush 115, 2) := by decide +kernel
theorem dX11_wordHere_184 : decode cX11_wordHere 184 = .ok (.if_icmp .ne 27, 3) := by decide +kernel
theorem dX11_wordHere_187 : decode cX11_wordHere 187 = .ok (.aload_n 0, 1) := by decide +kernel
theorem dX11_wordHere_188 : decode cX11_wordHere 188 = .ok (.iconst 1, 1) := by decide +kernel
theorem dX11_wordHere_189 : decode cX11_wordHere 189 = .ok (.invokevirtual 138, 3) := by decide +kernel
theorem dX11_wordHere_192 : decode cX11_wordHere 192 = .ok (.bipush 101, 2) := by decide +kernel
theorem dX11_wordHere_194 : decode cX11_wordHere 194 = .ok (.if_icmp .ne 17, 3) := by decide +kernel
theorem dX11_wordHere_197 : decode cX11_wordHere 197 = .ok (.aload_n 0, 1) := by decide +kernel
theorem dX11_wordHere_198 : decode cX11_wordHere 198 = .ok (.iconst 2, 1) := by decide +kernel
theorem dX11_wordHere_199 : decode cX11_wordHere 199 = .ok (.invokevirtual 138, 3) := by decide +kernel
theorem dX11_wordHere_202 : decode cX11_wordHere 202 = .ok (.bipush 99, 2) := by decide +kernel
theorem dX11_wordHere_204 : decode cX11_wordHere 204 = .ok (.if_icmp .ne 7, 3) := by decide +kernel
theorem dX11_wordHere_207 : decode cX11_wordHere 207 = .ok (.iconst 1, 1) := by decide +kernel
theorem dX11_wordHere_208 : decode cX11_wordHere 208 = .ok (.goto 4, 3) := by decide +kernel
theorem dX11_wordHere_211 : decode cX11_wordHere 211 = .ok (.iconst 0, 1) := by decide +kernel
theorem dX11_wordHere_212 : decode cX11_wordHere 212 = .ok (.istore_n 2, 1) := by decide +kernel
theorem dX11_wordHere_213 : decode cX11_wordHere 213 = .ok (.iload_n 2, 1) := by decide +kernel
theorem dX11_wordHere_214 : decode cX11_wordHere 214 = .ok (.ifCond .eq 37, 3) := by decide +kernel
theorem dX11_wordHere_217 : decode cX11_wordHere 217 = .ok (.aload_n 0, 1) := by decide +kernel
theorem dX11_wordHere_218 : decode cX11_wordHere 218 = .ok (.iconst 3, 1) := by decide +kernel
theorem dX11_wordHere_219 : decode cX11_wordHere 219 = .ok (.invokevirtual 138, 3) := by decide +kernel
theorem dX11_wordHere_222 : decode cX11_wordHere 222 = .ok (.bipush 114, 2) := by decide +kernel
theorem dX11_wordHere_224 : decode cX11_wordHere 224 = .ok (.if_icmp .ne 27, 3) := by decide +kernel
theorem dX11_wordHere_227 : decode cX11_wordHere 227 = .ok (.aload_n 0, 1) := by decide +kernel
theorem dX11_wordHere_228 : decode cX11_wordHere 228 = .ok (.iconst 4, 1) := by decide +kernel
theorem dX11_wordHere_229 : decode cX11_wordHere 229 = .ok (.invokevirtual 138, 3) := by decide +kernel
theorem dX11_wordHere_232 : decode cX11_wordHere 232 = .ok (.bipush 101, 2) := by decide +kernel
theorem dX11_wordHere_234 : decode cX11_wordHere 234 = .ok (.if_icmp .ne 17, 3) := by decide +kernel
theorem dX11_wordHere_237 : decode cX11_wordHere 237 = .ok (.aload_n 0, 1) := by decide +kernel
theorem dX11_wordHere_238 : decode cX11_wordHere 238 = .ok (.iconst 5, 1) := by decide +kernel
theorem dX11_wordHere_239 : decode cX11_wordHere 239 = .ok (.invokevirtual 138, 3) := by decide +kernel
theorem dX11_wordHere_242 : decode cX11_wordHere 242 = .ok (.bipush 116, 2) := by decide +kernel
theorem dX11_wordHere_244 : decode cX11_wordHere 244 = .ok (.if_icmp .ne 7, 3) := by decide +kernel
theorem dX11_wordHere_247 : decode cX11_wordHere 247 = .ok (.iconst 2, 1) := by decide +kernel
theorem dX11_wordHere_248 : decode cX11_wordHere 248 = .ok (.goto 4, 3) := by decide +kernel
theorem dX11_wordHere_251 : decode cX11_wordHere 251 = .ok (.iconst (-1), 1) := by decide +kernel
theorem dX11_wordHere_252 : decode cX11_wordHere 252 = .ok (.ireturn, 1) := by decide +kernel
theorem dX11_number_0 : decode cX11_number 0 = .ok (.aload_n 0, 1) := by decide +kernel
theorem dX11_number_1 : decode cX11_number 1 = .ok (.invokevirtual 141, 3) := by decide +kernel
theorem dX11_number_4 : decode cX11_number 4 = .ok (.iconst 0, 1) := by decide +kernel
theorem dX11_number_5 : decode cX11_number 5 = .ok (.istore_n 3, 1) := by decide +kernel
theorem dX11_number_6 : decode cX11_number 6 = .ok (.iconst 0, 1) := by decide +kernel
theorem dX11_number_7 : decode cX11_number 7 = .ok (.istore 4, 2) := by decide +kernel
theorem dX11_number_9 : decode cX11_number 9 = .ok (.aload_n 0, 1) := by decide +kernel
theorem dX11_number_10 : decode cX11_number 10 = .ok (.getfield 126, 3) := by decide +kernel
theorem dX11_number_13 : decode cX11_number 13 = .ok (.iload_n 3, 1) := by decide +kernel
theorem dX11_number_14 : decode cX11_number 14 = .ok (.iadd, 1) := by decide +kernel
theorem dX11_number_15 : decode cX11_number 15 = .ok (.aload_n 0, 1) := by decide +kernel
theorem dX11_number_16 : decode cX11_number 16 = .ok (.getfield 123, 3) := by decide +kernel
theorem dX11_number_19 : decode cX11_number 19 = .ok (.if_icmp .ge 58, 3) := by decide +kernel
theorem dX11_number_22 : decode cX11_number 22 = .ok (.aload_n 0, 1) := by decide +kernel
theorem dX11_number_23 : decode cX11_number 23 = .ok (.getfield 25, 3) := by decide +kernel
theorem dX11_number_26 : decode cX11_number 26 = .ok (.aload_n 0, 1) := by decide +kernel
theorem dX11_number_27 : decode cX11_number 27 = .ok (.getfield 126, 3) := by decide +kernel
theorem dX11_number_30 : decode cX11_number 30 = .ok (.iload_n 3, 1) := by decide +kernel
theorem dX11_number_31 : decode cX11_number 31 = .ok (.iadd, 1) := by decide +kernel
theorem dX11_number_32 : decode cX11_number 32 = .ok (.iaload, 1) := by decide +kernel
theorem dX11_number_33 : decode cX11_number 33 = .ok (.invokestatic 144, 3) := by decide +kernel
theorem dX11_number_36 : decode cX11_number 36 = .ok (.ifCond .eq 41, 3) := by decide +kernel
theorem dX11_number_39 : decode cX11_number 39 = .ok (.iload_n 3, 1) := by decide +kernel
theorem dX11_number_40 : decode cX11_number 40 = .ok (.iconst 2, 1) := by decide +kernel
theorem dX11_number_41 : decode cX11_number 41 = .ok (.if_icmp .ge 26, 3) := by decide +kernel
theorem dX11_number_44 : decode cX11_number 44 = .ok (.bipush 10, 2) := by decide +kernel
theorem dX11_number_46 : decode cX11_number 46 = .ok (.iload 4, 2) := by decide +kernel
theorem dX11_number_48 : decode cX11_number 48 = .ok (.imul, 1) := by decide +kernel
theorem dX11_number_49 : decode cX11_number 49 = .ok (.aload_n 0, 1) := by decide +kernel
theorem dX11_number_50 : decode cX11_number 50 = .ok (.getfield 25, 3) := by decide +kernel
theorem dX11_number_53 : decode cX11_number 53 = .ok (.aload_n 0, 1) := by decide +kernel
theorem dX11_number_54 : decode cX11_number 54 = .ok (.getfield 126, 3) := by decide +kernel
theorem dX11_number_57 : decode cX11_number 57 = .ok (.iload_n 3, 1) := by decide +kernel
theorem dX11_number_58 : decode cX11_number 58 = .ok (.iadd, 1) := by decide +kernel
theorem dX11_number_59 : decode cX11_number 59 = .ok (.iaload, 1) := by decide +kernel
theorem dX11_number_60 : decode cX11_number 60 = .ok (.iadd, 1) := by decide +kernel
theorem dX11_number_61 : decode cX11_number 61 = .ok (.bipush 48, 2) := by decide +kernel
theorem dX11_number_63 : decode cX11_number 63 = .ok (.isub, 1) := by decide +kernel
theorem dX11_number_64 : decode cX11_number 64 = .ok (.goto 5, 3) := by decide +kernel
theorem dX11_number_67 : decode cX11_number 67 = .ok (.iload 4, 2) := by decide +kernel
theorem dX11_number_69 : decode cX11_number 69 = .ok (.istore 4, 2) := by decide +kernel
theorem dX11_number_71 : decode cX11_number 71 = .ok (.iinc 3 1, 3) := by decide +kernel
theorem dX11_number_74 : decode cX11_number 74 = .ok (.goto (-65), 3) := by decide +kernel
theorem dX11_number_77 : decode cX11_number 77 = .ok (.iload_n 3, 1) := by decide +kernel
theorem dX11_number_78 : decode cX11_number 78 = .ok (.iconst 1, 1) := by decide +kernel
theorem dX11_number_79 : decode cX11_number 79 = .ok (.iconst 2, 1) := by decide +kernel
theorem dX11_number_80 : decode cX11_number 80 = .ok (.invokestatic 91, 3) := by decide +kernel
theorem dX11_number_83 : decode cX11_number 83 = .ok (.ifCond .eq 13, 3) := by decide +kernel
theorem dX11_number_86 : decode cX11_number 86 = .ok (.iload 4, 2) := by decide +kernel
theorem dX11_number_88 : decode cX11_number 88 = .ok (.iload_n 1, 1) := by decide +kernel
theorem dX11_number_89 : decode cX11_number 89 = .ok (.iload_n 2, 1) := by decide +kernel
theorem dX11_number_90 : decode cX11_number 90 = .ok (.invokestatic 91, 3) := by decide +kernel
theorem dX11_number_93 : decode cX11_number 93 = .ok (.ifCond .ne 5, 3) := by decide +kernel
theorem dX11_number_96 : decode cX11_number 96 = .ok (.iconst 0, 1) := by decide +kernel
theorem dX11_number_97 : decode cX11_number 97 = .ok (.ireturn, 1) := by decide +kernel
theorem dX11_number_98 : decode cX11_number 98 = .ok (.aload_n 0, 1) := by decide +kernel
theorem dX11_number_99 : decode cX11_number 99 = .ok (.iload 4, 2) := by decide +kernel
theorem dX11_number_101 : decode cX11_number 101 = .ok (.putfield 147, 3) := by decide +kernel
theorem dX11_number_104 : decode cX11_number 104 = .ok (.aload_n 0, 1) := by decide +kernel
theorem dX11_number_105 : decode cX11_number 105 = .ok (.dup, 1) := by decide +kernel
theorem dX11_number_106 : decode cX11_number 106 = .ok (.getfield 126, 3) := by decide +kernel
theorem dX11_number_109 : decode cX11_number 109 = .ok (.iload_n 3, 1) := by decide +kernel
theorem dX11_number_110 : decode cX11_number 110 = .ok (.iadd, 1) := by decide +kernel
theorem dX11_number_111 : decode cX11_number 111 = .ok (.putfield 126, 3) := by decide +kernel
theorem dX11_number_114 : decode cX11_number 114 = .ok (.iconst 1, 1) := by decide +kernel
theorem dX11_number_115 : decode cX11_number 115 = .ok (.ireturn, 1) := by decide +kernel
theorem dX11_ends_0 : decode cX11_ends 0 = .ok (.aload_n 0, 1) := by decide +kernel
theorem dX11_ends_1 : decode cX11_ends 1 = .ok (.invokevirtual 141, 3) := by decide +kernel
theorem dX11_ends_4 : decode cX11_ends 4 = .ok (.aload_n 0, 1) := by decide +kernel
theorem dX11_ends_5 : decode cX11_ends 5 = .ok (.invokevirtual 129, 3) := by decide +kernel
theorem dX11_ends_8 : decode cX11_ends 8 = .ok (.bipush 59, 2) := by decide +kernel
theorem dX11_ends_10 : decode cX11_ends 10 = .ok (.if_icmp .eq 5, 3) := by decide +kernel
theorem dX11_ends_13 : decode cX11_ends 13 = .ok (.iconst 0, 1) := by decide +kernel
theorem dX11_ends_14 : decode cX11_ends 14 = .ok (.ireturn, 1) := by decide +kernel
theorem dX11_ends_15 : decode cX11_ends 15 = .ok (.aload_n 0, 1) := by decide +kernel
theorem dX11_ends_16 : decode cX11_ends 16 = .ok (.dup, 1) := by decide +kernel
theorem dX11_ends_17 : decode cX11_ends 17 = .ok (.getfield 126, 3) := by decide +kernel
theorem dX11_ends_20 : decode cX11_ends 20 = .ok (.iconst 1, 1) := by decide +kernel
theorem dX11_ends_21 : decode cX11_ends 21 = .ok (.iadd, 1) := by decide +kernel
theorem dX11_ends_22 : decode cX11_ends 22 = .ok (.putfield 126, 3) := by decide +kernel
theorem dX11_ends_25 : decode cX11_ends 25 = .ok (.iconst 1, 1) := by decide +kernel
theorem dX11_ends_26 : decode cX11_ends 26 = .ok (.ireturn, 1) := by decide +kernel
theorem dX11_readsWord_0 : decode cX11_readsWord 0 = .ok (.iconst 0, 1) := by decide +kernel
theorem dX11_readsWord_1 : decode cX11_readsWord 1 = .ok (.istore_n 1, 1) := by decide +kernel
theorem dX11_readsWord_2 : decode cX11_readsWord 2 = .ok (.iconst 0, 1) := by decide +kernel
theorem dX11_readsWord_3 : decode cX11_readsWord 3 = .ok (.istore_n 2, 1) := by decide +kernel
theorem dX11_readsWord_4 : decode cX11_readsWord 4 = .ok (.iload_n 2, 1) := by decide +kernel
theorem dX11_readsWord_5 : decode cX11_readsWord 5 = .ok (.iconst 4, 1) := by decide +kernel
theorem dX11_readsWord_6 : decode cX11_readsWord 6 = .ok (.if_icmp .ge 60, 3) := by decide +kernel
theorem dX11_readsWord_9 : decode cX11_readsWord 9 = .ok (.aload_n 0, 1) := by decide +kernel
theorem dX11_readsWord_10 : decode cX11_readsWord 10 = .ok (.invokevirtual 141, 3) := by decide +kernel
theorem dX11_readsWord_13 : decode cX11_readsWord 13 = .ok (.aload_n 0, 1) := by decide +kernel
theorem dX11_readsWord_14 : decode cX11_readsWord 14 = .ok (.getfield 126, 3) := by decide +kernel
theorem dX11_readsWord_17 : decode cX11_readsWord 17 = .ok (.istore_n 3, 1) := by decide +kernel
theorem dX11_readsWord_18 : decode cX11_readsWord 18 = .ok (.aload_n 0, 1) := by decide +kernel
theorem dX11_readsWord_19 : decode cX11_readsWord 19 = .ok (.iconst 0, 1) := by decide +kernel
theorem dX11_readsWord_20 : decode cX11_readsWord 20 = .ok (.bipush 9, 2) := by decide +kernel
theorem dX11_readsWord_22 : decode cX11_readsWord 22 = .ok (.invokevirtual 150, 3) := by decide +kernel
theorem dX11_readsWord_25 : decode cX11_readsWord 25 = .ok (.ifCond .ne 5, 3) := by decide +kernel
theorem dX11_readsWord_28 : decode cX11_readsWord 28 = .ok (.iconst 0, 1) := by decide +kernel
theorem dX11_readsWord_29 : decode cX11_readsWord 29 = .ok (.ireturn, 1) := by decide +kernel
theorem dX11_readsWord_30 : decode cX11_readsWord 30 = .ok (.bipush 10, 2) := by decide +kernel
theorem dX11_readsWord_32 : decode cX11_readsWord 32 = .ok (.iload_n 1, 1) := by decide +kernel
theorem dX11_readsWord_33 : decode cX11_readsWord 33 = .ok (.imul, 1) := by decide +kernel
theorem dX11_readsWord_34 : decode cX11_readsWord 34 = .ok (.aload_n 0, 1) := by decide +kernel
theorem dX11_readsWord_35 : decode cX11_readsWord 35 = .ok (.getfield 147, 3) := by decide +kernel
theorem dX11_readsWord_38 : decode cX11_readsWord 38 = .ok (.iadd, 1) := by decide +kernel
theorem dX11_readsWord_39 : decode cX11_readsWord 39 = .ok (.istore_n 1, 1) := by decide +kernel
theorem dX11_readsWord_40 : decode cX11_readsWord 40 = .ok (.iload_n 2, 1) := by decide +kernel
theorem dX11_readsWord_41 : decode cX11_readsWord 41 = .ok (.iconst 3, 1) := by decide +kernel
theorem dX11_readsWord_42 : decode cX11_readsWord 42 = .ok (.if_icmp .ne 18, 3) := by decide +kernel
theorem dX11_readsWord_45 : decode cX11_readsWord 45 = .ok (.aload_n 0, 1) := by decide +kernel
theorem dX11_readsWord_46 : decode cX11_readsWord 46 = .ok (.iload_n 1, 1) := by decide +kernel
theorem dX11_readsWord_47 : decode cX11_readsWord 47 = .ok (.invokevirtual 110, 3) := by decide +kernel
theorem dX11_readsWord_50 : decode cX11_readsWord 50 = .ok (.ifCond .eq 10, 3) := by decide +kernel
theorem dX11_readsWord_53 : decode cX11_readsWord 53 = .ok (.aload_n 0, 1) := by decide +kernel
theorem dX11_readsWord_54 : decode cX11_readsWord 54 = .ok (.iload_n 3, 1) := by decide +kernel
theorem dX11_readsWord_55 : decode cX11_readsWord 55 = .ok (.putfield 126, 3) := by decide +kernel
theorem dX11_readsWord_58 : decode cX11_readsWord 58 = .ok (.iconst 0, 1) := by decide +kernel
theorem dX11_readsWord_59 : decode cX11_readsWord 59 = .ok (.ireturn, 1) := by decide +kernel
theorem dX11_readsWord_60 : decode cX11_readsWord 60 = .ok (.iinc 2 1, 3) := by decide +kernel
theorem dX11_readsWord_63 : decode cX11_readsWord 63 = .ok (.goto (-59), 3) := by decide +kernel
theorem dX11_readsWord_66 : decode cX11_readsWord 66 = .ok (.aload_n 0, 1) := by decide +kernel
theorem dX11_readsWord_67 : decode cX11_readsWord 67 = .ok (.invokevirtual 154, 3) := by decide +kernel
theorem dX11_readsWord_70 : decode cX11_readsWord 70 = .ok (.ifCond .ne 5, 3) := by decide +kernel
theorem dX11_readsWord_73 : decode cX11_readsWord 73 = .ok (.iconst 0, 1) := by decide +kernel
theorem dX11_readsWord_74 : decode cX11_readsWord 74 = .ok (.ireturn, 1) := by decide +kernel
theorem dX11_readsWord_75 : decode cX11_readsWord 75 = .ok (.aload_n 0, 1) := by decide +kernel
theorem dX11_readsWord_76 : decode cX11_readsWord 76 = .ok (.iload_n 1, 1) := by decide +kernel
theorem dX11_readsWord_77 : decode cX11_readsWord 77 = .ok (.invokevirtual 119, 3) := by decide +kernel
theorem dX11_readsWord_80 : decode cX11_readsWord 80 = .ok (.pop, 1) := by decide +kernel
theorem dX11_readsWord_81 : decode cX11_readsWord 81 = .ok (.iconst 1, 1) := by decide +kernel
theorem dX11_readsWord_82 : decode cX11_readsWord 82 = .ok (.ireturn, 1) := by decide +kernel
theorem dX11_readsSecret_0 : decode cX11_readsSecret 0 = .ok (.aload_n 0, 1) := by decide +kernel
theorem dX11_readsSecret_1 : decode cX11_readsSecret 1 = .ok (.iconst 0, 1) := by decide +kernel
theorem dX11_readsSecret_2 : decode cX11_readsSecret 2 = .ok (.aload_n 0, 1) := by decide +kernel
theorem dX11_readsSecret_3 : decode cX11_readsSecret 3 = .ok (.getfield 60, 3) := by decide +kernel
theorem dX11_readsSecret_6 : decode cX11_readsSecret 6 = .ok (.iconst 1, 1) := by decide +kernel
theorem dX11_readsSecret_7 : decode cX11_readsSecret 7 = .ok (.isub, 1) := by decide +kernel
theorem dX11_readsSecret_8 : decode cX11_readsSecret 8 = .ok (.invokevirtual 150, 3) := by decide +kernel
theorem dX11_readsSecret_11 : decode cX11_readsSecret 11 = .ok (.ifCond .ne 5, 3) := by decide +kernel
theorem dX11_readsSecret_14 : decode cX11_readsSecret 14 = .ok (.iconst 0, 1) := by decide +kernel
theorem dX11_readsSecret_15 : decode cX11_readsSecret 15 = .ok (.ireturn, 1) := by decide +kernel
theorem dX11_readsSecret_16 : decode cX11_readsSecret 16 = .ok (.aload_n 0, 1) := by decide +kernel
theorem dX11_readsSecret_17 : decode cX11_readsSecret 17 = .ok (.aload_n 0, 1) := by decide +kernel
theorem dX11_readsSecret_18 : decode cX11_readsSecret 18 = .ok (.getfield 147, 3) := by decide +kernel
theorem dX11_readsSecret_21 : decode cX11_readsSecret 21 = .ok (.putfield 67, 3) := by decide +kernel
theorem dX11_readsSecret_24 : decode cX11_readsSecret 24 = .ok (.aload_n 0, 1) := by decide +kernel
theorem dX11_readsSecret_25 : decode cX11_readsSecret 25 = .ok (.invokevirtual 154, 3) := by decide +kernel
theorem dX11_readsSecret_28 : decode cX11_readsSecret 28 = .ok (.ireturn, 1) := by decide +kernel
theorem dX11_readsGuess_0 : decode cX11_readsGuess 0 = .ok (.aload_n 0, 1) := by decide +kernel
theorem dX11_readsGuess_1 : decode cX11_readsGuess 1 = .ok (.invokevirtual 141, 3) := by decide +kernel
theorem dX11_readsGuess_4 : decode cX11_readsGuess 4 = .ok (.aload_n 0, 1) := by decide +kernel
theorem dX11_readsGuess_5 : decode cX11_readsGuess 5 = .ok (.getfield 126, 3) := by decide +kernel
theorem dX11_readsGuess_8 : decode cX11_readsGuess 8 = .ok (.istore_n 1, 1) := by decide +kernel
theorem dX11_readsGuess_9 : decode cX11_readsGuess 9 = .ok (.aload_n 0, 1) := by decide +kernel
theorem dX11_readsGuess_10 : decode cX11_readsGuess 10 = .ok (.iconst 0, 1) := by decide +kernel
theorem dX11_readsGuess_11 : decode cX11_readsGuess 11 = .ok (.bipush 9, 2) := by decide +kernel
theorem dX11_readsGuess_13 : decode cX11_readsGuess 13 = .ok (.invokevirtual 150, 3) := by decide +kernel
theorem dX11_readsGuess_16 : decode cX11_readsGuess 16 = .ok (.ifCond .ne 5, 3) := by decide +kernel
theorem dX11_readsGuess_19 : decode cX11_readsGuess 19 = .ok (.iconst 0, 1) := by decide +kernel
theorem dX11_readsGuess_20 : decode cX11_readsGuess 20 = .ok (.ireturn, 1) := by decide +kernel
theorem dX11_readsGuess_21 : decode cX11_readsGuess 21 = .ok (.aload_n 0, 1) := by decide +kernel
theorem dX11_readsGuess_22 : decode cX11_readsGuess 22 = .ok (.getfield 60, 3) := by decide +kernel
theorem dX11_readsGuess_25 : decode cX11_readsGuess 25 = .ok (.ifCond .eq 17, 3) := by decide +kernel
theorem dX11_readsGuess_28 : decode cX11_readsGuess 28 = .ok (.aload_n 0, 1) := by decide +kernel
theorem dX11_readsGuess_29 : decode cX11_readsGuess 29 = .ok (.getfield 82, 3) := by decide +kernel
theorem dX11_readsGuess_32 : decode cX11_readsGuess 32 = .ok (.aload_n 0, 1) := by decide +kernel
theorem dX11_readsGuess_33 : decode cX11_readsGuess 33 = .ok (.getfield 147, 3) := by decide +kernel
theorem dX11_readsGuess_36 : decode cX11_readsGuess 36 = .ok (.invokestatic 158, 3) := by decide +kernel
theorem dX11_readsGuess_39 : decode cX11_readsGuess 39 = .ok (.ifCond .eq 10, 3) := by decide +kernel
theorem dX11_readsGuess_42 : decode cX11_readsGuess 42 = .ok (.aload_n 0, 1) := by decide +kernel
theorem dX11_readsGuess_43 : decode cX11_readsGuess 43 = .ok (.iload_n 1, 1) := by decide +kernel
theorem dX11_readsGuess_44 : decode cX11_readsGuess 44 = .ok (.putfield 126, 3) := by decide +kernel
theorem dX11_readsGuess_47 : decode cX11_readsGuess 47 = .ok (.iconst 0, 1) := by decide +kernel
theorem dX11_readsGuess_48 : decode cX11_readsGuess 48 = .ok (.ireturn, 1) := by decide +kernel
theorem dX11_readsGuess_49 : decode cX11_readsGuess 49 = .ok (.aload_n 0, 1) := by decide +kernel
theorem dX11_readsGuess_50 : decode cX11_readsGuess 50 = .ok (.getfield 147, 3) := by decide +kernel
theorem dX11_readsGuess_53 : decode cX11_readsGuess 53 = .ok (.istore_n 2, 1) := by decide +kernel
theorem dX11_readsGuess_54 : decode cX11_readsGuess 54 = .ok (.aload_n 0, 1) := by decide +kernel
theorem dX11_readsGuess_55 : decode cX11_readsGuess 55 = .ok (.invokevirtual 154, 3) := by decide +kernel
theorem dX11_readsGuess_58 : decode cX11_readsGuess 58 = .ok (.ifCond .ne 5, 3) := by decide +kernel
theorem dX11_readsGuess_61 : decode cX11_readsGuess 61 = .ok (.iconst 0, 1) := by decide +kernel
theorem dX11_readsGuess_62 : decode cX11_readsGuess 62 = .ok (.ireturn, 1) := by decide +kernel
theorem dX11_readsGuess_63 : decode cX11_readsGuess 63 = .ok (.aload_n 0, 1) := by decide +kernel
theorem dX11_readsGuess_64 : decode cX11_readsGuess 64 = .ok (.iload_n 2, 1) := by decide +kernel
theorem dX11_readsGuess_65 : decode cX11_readsGuess 65 = .ok (.invokevirtual 161, 3) := by decide +kernel
theorem dX11_readsGuess_68 : decode cX11_readsGuess 68 = .ok (.pop, 1) := by decide +kernel
theorem dX11_readsGuess_69 : decode cX11_readsGuess 69 = .ok (.iconst 1, 1) := by decide +kernel
theorem dX11_readsGuess_70 : decode cX11_readsGuess 70 = .ok (.ireturn, 1) := by decide +kernel
theorem dX11_readsItem_0 : decode cX11_readsItem 0 = .ok (.aload_n 0, 1) := by decide +kernel
theorem dX11_readsItem_1 : decode cX11_readsItem 1 = .ok (.invokevirtual 164, 3) := by decide +kernel
theorem dX11_readsItem_4 : decode cX11_readsItem 4 = .ok (.istore_n 1, 1) := by decide +kernel
theorem dX11_readsItem_5 : decode cX11_readsItem 5 = .ok (.iload_n 1, 1) := by decide +kernel
theorem dX11_readsItem_6 : decode cX11_readsItem 6 = .ok (.iconst 1, 1) := by decide +kernel
theorem dX11_readsItem_7 : decode cX11_readsItem 7 = .ok (.if_icmp .lt 24, 3) := by decide +kernel
theorem dX11_readsItem_10 : decode cX11_readsItem 10 = .ok (.iload_n 1, 1) := by decide +kernel
theorem dX11_readsItem_11 : decode cX11_readsItem 11 = .ok (.iconst 1, 1) := by decide +kernel
theorem dX11_readsItem_12 : decode cX11_readsItem 12 = .ok (.if_icmp .ne 21, 3) := by decide +kernel
theorem dX11_readsItem_15 : decode cX11_readsItem 15 = .ok (.aload_n 0, 1) := by decide +kernel
theorem dX11_readsItem_16 : decode cX11_readsItem 16 = .ok (.getfield 60, 3) := by decide +kernel
theorem dX11_readsItem_19 : decode cX11_readsItem 19 = .ok (.bipush 8, 2) := by decide +kernel
theorem dX11_readsItem_21 : decode cX11_readsItem 21 = .ok (.if_icmp .eq 10, 3) := by decide +kernel
theorem dX11_readsItem_24 : decode cX11_readsItem 24 = .ok (.aload_n 0, 1) := by decide +kernel
theorem dX11_readsItem_25 : decode cX11_readsItem 25 = .ok (.getfield 82, 3) := by decide +kernel
theorem dX11_readsItem_28 : decode cX11_readsItem 28 = .ok (.ifCond .eq 5, 3) := by decide +kernel
theorem dX11_readsItem_31 : decode cX11_readsItem 31 = .ok (.iconst 0, 1) := by decide +kernel
theorem dX11_readsItem_32 : decode cX11_readsItem 32 = .ok (.ireturn, 1) := by decide +kernel
theorem dX11_readsItem_33 : decode cX11_readsItem 33 = .ok (.aload_n 0, 1) := by decide +kernel
theorem dX11_readsItem_34 : decode cX11_readsItem 34 = .ok (.dup, 1) := by decide +kernel
theorem dX11_readsItem_35 : decode cX11_readsItem 35 = .ok (.getfield 126, 3) := by decide +kernel
theorem dX11_readsItem_38 : decode cX11_readsItem 38 = .ok (.aload_n 0, 1) := by decide +kernel
theorem dX11_readsItem_39 : decode cX11_readsItem 39 = .ok (.invokevirtual 135, 3) := by decide +kernel
theorem dX11_readsItem_42 : decode cX11_readsItem 42 = .ok (.iadd, 1) := by decide +kernel
theorem dX11_readsItem_43 : decode cX11_readsItem 43 = .ok (.putfield 126, 3) := by decide +kernel
theorem dX11_readsItem_46 : decode cX11_readsItem 46 = .ok (.iload_n 1, 1) := by decide +kernel
theorem dX11_readsItem_47 : decode cX11_readsItem 47 = .ok (.iconst 1, 1) := by decide +kernel
theorem dX11_readsItem_48 : decode cX11_readsItem 48 = .ok (.if_icmp .ne 10, 3) := by decide +kernel
theorem dX11_readsItem_51 : decode cX11_readsItem 51 = .ok (.aload_n 0, 1) := by decide +kernel
theorem dX11_readsItem_52 : decode cX11_readsItem 52 = .ok (.invokevirtual 167, 3) := by decide +kernel
theorem dX11_readsItem_55 : decode cX11_readsItem 55 = .ok (.goto 19, 3) := by decide +kernel
theorem dX11_readsItem_58 : decode cX11_readsItem 58 = .ok (.iload_n 1, 1) := by decide +kernel
theorem dX11_readsItem_59 : decode cX11_readsItem 59 = .ok (.iconst 2, 1) := by decide +kernel
theorem dX11_readsItem_60 : decode cX11_readsItem 60 = .ok (.if_icmp .ne 10, 3) := by decide +kernel
theorem dX11_readsItem_63 : decode cX11_readsItem 63 = .ok (.aload_n 0, 1) := by decide +kernel
theorem dX11_readsItem_64 : decode cX11_readsItem 64 = .ok (.invokevirtual 170, 3) := by decide +kernel
theorem dX11_readsItem_67 : decode cX11_readsItem 67 = .ok (.goto 7, 3) := by decide +kernel
theorem dX11_readsItem_70 : decode cX11_readsItem 70 = .ok (.aload_n 0, 1) := by decide +kernel
theorem dX11_readsItem_71 : decode cX11_readsItem 71 = .ok (.invokevirtual 173, 3) := by decide +kernel
theorem dX11_readsItem_74 : decode cX11_readsItem 74 = .ok (.ireturn, 1) := by decide +kernel
theorem dX11_readsFirst_0 : decode cX11_readsFirst 0 = .ok (.aload_n 0, 1) := by decide +kernel
theorem dX11_readsFirst_1 : decode cX11_readsFirst 1 = .ok (.invokevirtual 141, 3) := by decide +kernel
theorem dX11_readsFirst_4 : decode cX11_readsFirst 4 = .ok (.aload_n 0, 1) := by decide +kernel
theorem dX11_readsFirst_5 : decode cX11_readsFirst 5 = .ok (.invokevirtual 164, 3) := by decide +kernel
theorem dX11_readsFirst_8 : decode cX11_readsFirst 8 = .ok (.ifCond .eq 5, 3) := by decide +kernel
theorem dX11_readsFirst_11 : decode cX11_readsFirst 11 = .ok (.iconst 0, 1) := by decide +kernel
theorem dX11_readsFirst_12 : decode cX11_readsFirst 12 = .ok (.ireturn, 1) := by decide +kernel
theorem dX11_readsFirst_13 : decode cX11_readsFirst 13 = .ok (.aload_n 0, 1) := by decide +kernel
theorem dX11_readsFirst_14 : decode cX11_readsFirst 14 = .ok (.dup, 1) := by decide +kernel
theorem dX11_readsFirst_15 : decode cX11_readsFirst 15 = .ok (.getfield 126, 3) := by decide +kernel
theorem dX11_readsFirst_18 : decode cX11_readsFirst 18 = .ok (.iconst 4, 1) := by decide +kernel
theorem dX11_readsFirst_19 : decode cX11_readsFirst 19 = .ok (.iadd, 1) := by decide +kernel
theorem dX11_readsFirst_20 : decode cX11_readsFirst 20 = .ok (.putfield 126, 3) := by decide +kernel
theorem dX11_readsFirst_23 : decode cX11_readsFirst 23 = .ok (.aload_n 0, 1) := by decide +kernel
theorem dX11_readsFirst_24 : decode cX11_readsFirst 24 = .ok (.iconst 0, 1) := by decide +kernel
theorem dX11_readsFirst_25 : decode cX11_readsFirst 25 = .ok (.iconst 5, 1) := by decide +kernel
theorem dX11_readsFirst_26 : decode cX11_readsFirst 26 = .ok (.invokevirtual 150, 3) := by decide +kernel
theorem dX11_readsFirst_29 : decode cX11_readsFirst 29 = .ok (.ifCond .ne 5, 3) := by decide +kernel
theorem dX11_readsFirst_32 : decode cX11_readsFirst 32 = .ok (.iconst 0, 1) := by decide +kernel
theorem dX11_readsFirst_33 : decode cX11_readsFirst 33 = .ok (.ireturn, 1) := by decide +kernel
theorem dX11_readsFirst_34 : decode cX11_readsFirst 34 = .ok (.aload_n 0, 1) := by decide +kernel
theorem dX11_readsFirst_35 : decode cX11_readsFirst 35 = .ok (.aload_n 0, 1) := by decide +kernel
theorem dX11_readsFirst_36 : decode cX11_readsFirst 36 = .ok (.getfield 147, 3) := by decide +kernel
theorem dX11_readsFirst_39 : decode cX11_readsFirst 39 = .ok (.invokevirtual 56, 3) := by decide +kernel
theorem dX11_readsFirst_42 : decode cX11_readsFirst 42 = .ok (.aload_n 0, 1) := by decide +kernel
theorem dX11_readsFirst_43 : decode cX11_readsFirst 43 = .ok (.invokevirtual 154, 3) := by decide +kernel
theorem dX11_readsFirst_46 : decode cX11_readsFirst 46 = .ok (.ireturn, 1) := by decide +kernel
theorem dX11_readsGame_0 : decode cX11_readsGame 0 = .ok (.aload_n 0, 1) := by decide +kernel
theorem dX11_readsGame_1 : decode cX11_readsGame 1 = .ok (.iconst 0, 1) := by decide +kernel
theorem dX11_readsGame_2 : decode cX11_readsGame 2 = .ok (.putfield 126, 3) := by decide +kernel
theorem dX11_readsGame_5 : decode cX11_readsGame 5 = .ok (.aload_n 0, 1) := by decide +kernel
theorem dX11_readsGame_6 : decode cX11_readsGame 6 = .ok (.invokevirtual 176, 3) := by decide +kernel
theorem dX11_readsGame_9 : decode cX11_readsGame 9 = .ok (.ifCond .ne 5, 3) := by decide +kernel
theorem dX11_readsGame_12 : decode cX11_readsGame 12 = .ok (.iconst (-1), 1) := by decide +kernel
theorem dX11_readsGame_13 : decode cX11_readsGame 13 = .ok (.ireturn, 1) := by decide +kernel
theorem dX11_readsGame_14 : decode cX11_readsGame 14 = .ok (.iconst 1, 1) := by decide +kernel
theorem dX11_readsGame_15 : decode cX11_readsGame 15 = .ok (.istore_n 1, 1) := by decide +kernel
theorem dX11_readsGame_16 : decode cX11_readsGame 16 = .ok (.aload_n 0, 1) := by decide +kernel
theorem dX11_readsGame_17 : decode cX11_readsGame 17 = .ok (.invokevirtual 141, 3) := by decide +kernel
theorem dX11_readsGame_20 : decode cX11_readsGame 20 = .ok (.aload_n 0, 1) := by decide +kernel
theorem dX11_readsGame_21 : decode cX11_readsGame 21 = .ok (.getfield 126, 3) := by decide +kernel
theorem dX11_readsGame_24 : decode cX11_readsGame 24 = .ok (.aload_n 0, 1) := by decide +kernel
theorem dX11_readsGame_25 : decode cX11_readsGame 25 = .ok (.getfield 123, 3) := by decide +kernel
theorem dX11_readsGame_28 : decode cX11_readsGame 28 = .ok (.if_icmp .ge 22, 3) := by decide +kernel
theorem dX11_readsGame_31 : decode cX11_readsGame 31 = .ok (.aload_n 0, 1) := by decide +kernel
theorem dX11_readsGame_32 : decode cX11_readsGame 32 = .ok (.invokevirtual 179, 3) := by decide +kernel
theorem dX11_readsGame_35 : decode cX11_readsGame 35 = .ok (.ifCond .ne 5, 3) := by decide +kernel
theorem dX11_readsGame_38 : decode cX11_readsGame 38 = .ok (.iconst (-1), 1) := by decide +kernel
theorem dX11_readsGame_39 : decode cX11_readsGame 39 = .ok (.ireturn, 1) := by decide +kernel
theorem dX11_readsGame_40 : decode cX11_readsGame 40 = .ok (.iinc 1 1, 3) := by decide +kernel
theorem dX11_readsGame_43 : decode cX11_readsGame 43 = .ok (.aload_n 0, 1) := by decide +kernel
theorem dX11_readsGame_44 : decode cX11_readsGame 44 = .ok (.invokevirtual 141, 3) := by decide +kernel
theorem dX11_readsGame_47 : decode cX11_readsGame 47 = .ok (.goto (-27), 3) := by decide +kernel
theorem dX11_readsGame_50 : decode cX11_readsGame 50 = .ok (.iload_n 1, 1) := by decide +kernel
theorem dX11_readsGame_51 : decode cX11_readsGame 51 = .ok (.ireturn, 1) := by decide +kernel
theorem dX11_read_0 : decode cX11_read 0 = .ok (.aload_n 0, 1) := by decide +kernel
theorem dX11_read_1 : decode cX11_read 1 = .ok (.aload_n 0, 1) := by decide +kernel
theorem dX11_read_2 : decode cX11_read 2 = .ok (.getfield 28, 3) := by decide +kernel
theorem dX11_read_5 : decode cX11_read 5 = .ok (.iconst 0, 1) := by decide +kernel
theorem dX11_read_6 : decode cX11_read 6 = .ok (.invokevirtual 182, 3) := by decide +kernel
theorem dX11_read_9 : decode cX11_read 9 = .ok (.aload_n 0, 1) := by decide +kernel
theorem dX11_read_10 : decode cX11_read 10 = .ok (.invokevirtual 186, 3) := by decide +kernel
theorem dX11_read_13 : decode cX11_read 13 = .ok (.istore_n 1, 1) := by decide +kernel
theorem dX11_read_14 : decode cX11_read 14 = .ok (.iload_n 1, 1) := by decide +kernel
theorem dX11_read_15 : decode cX11_read 15 = .ok (.ifCond .ge 20, 3) := by decide +kernel
theorem dX11_read_18 : decode cX11_read 18 = .ok (.aload_n 0, 1) := by decide +kernel
theorem dX11_read_19 : decode cX11_read 19 = .ok (.aload_n 0, 1) := by decide +kernel
theorem dX11_read_20 : decode cX11_read 20 = .ok (.getfield 28, 3) := by decide +kernel
theorem dX11_read_23 : decode cX11_read 23 = .ok (.iconst 0, 1) := by decide +kernel
theorem dX11_read_24 : decode cX11_read 24 = .ok (.invokevirtual 189, 3) := by decide +kernel
theorem dX11_read_27 : decode cX11_read 27 = .ok (.bipush (-10), 2) := by decide +kernel
theorem dX11_read_29 : decode cX11_read 29 = .ok (.aload_n 0, 1) := by decide +kernel
theorem dX11_read_30 : decode cX11_read 30 = .ok (.getfield 126, 3) := by decide +kernel
theorem dX11_read_33 : decode cX11_read 33 = .ok (.isub, 1) := by decide +kernel
theorem dX11_read_34 : decode cX11_read 34 = .ok (.ireturn, 1) := by decide +kernel
theorem dX11_read_35 : decode cX11_read 35 = .ok (.aload_n 0, 1) := by decide +kernel
theorem dX11_read_36 : decode cX11_read 36 = .ok (.iconst 0, 1) := by decide +kernel
theorem dX11_read_37 : decode cX11_read 37 = .ok (.putfield 76, 3) := by decide +kernel
theorem dX11_read_40 : decode cX11_read 40 = .ok (.iload_n 1, 1) := by decide +kernel
theorem dX11_read_41 : decode cX11_read 41 = .ok (.ireturn, 1) := by decide +kernel
theorem dX11_keptOf_0 : decode cX11_keptOf 0 = .ok (.iload_n 1, 1) := by decide +kernel
theorem dX11_keptOf_1 : decode cX11_keptOf 1 = .ok (.aload_n 0, 1) := by decide +kernel
theorem dX11_keptOf_2 : decode cX11_keptOf 2 = .ok (.getfield 67, 3) := by decide +kernel
theorem dX11_keptOf_5 : decode cX11_keptOf 5 = .ok (.invokestatic 158, 3) := by decide +kernel
theorem dX11_keptOf_8 : decode cX11_keptOf 8 = .ok (.ifCond .eq 8, 3) := by decide +kernel
theorem dX11_keptOf_11 : decode cX11_keptOf 11 = .ok (.aload_n 0, 1) := by decide +kernel
theorem dX11_keptOf_12 : decode cX11_keptOf 12 = .ok (.getfield 67, 3) := by decide +kernel
theorem dX11_keptOf_15 : decode cX11_keptOf 15 = .ok (.ireturn, 1) := by decide +kernel
theorem dX11_keptOf_16 : decode cX11_keptOf 16 = .ok (.iconst 0, 1) := by decide +kernel
theorem dX11_keptOf_17 : decode cX11_keptOf 17 = .ok (.istore_n 2, 1) := by decide +kernel
theorem dX11_keptOf_18 : decode cX11_keptOf 18 = .ok (.iload_n 1, 1) := by decide +kernel
theorem dX11_keptOf_19 : decode cX11_keptOf 19 = .ok (.iload_n 2, 1) := by decide +kernel
theorem dX11_keptOf_20 : decode cX11_keptOf 20 = .ok (.invokestatic 158, 3) := by decide +kernel
theorem dX11_keptOf_23 : decode cX11_keptOf 23 = .ok (.ifCond .ne 9, 3) := by decide +kernel
theorem dX11_keptOf_26 : decode cX11_keptOf 26 = .ok (.iinc 2 1, 3) := by decide +kernel
theorem dX11_keptOf_29 : decode cX11_keptOf 29 = .ok (.goto (-11), 3) := by decide +kernel
theorem dX11_keptOf_32 : decode cX11_keptOf 32 = .ok (.iload_n 2, 1) := by decide +kernel
theorem dX11_keptOf_33 : decode cX11_keptOf 33 = .ok (.ireturn, 1) := by decide +kernel
theorem dX11_haveMask_0 : decode cX11_haveMask 0 = .ok (.iconst 0, 1) := by decide +kernel
theorem dX11_haveMask_1 : decode cX11_haveMask 1 = .ok (.istore 4, 2) := by decide +kernel
theorem dX11_haveMask_3 : decode cX11_haveMask 3 = .ok (.iconst 0, 1) := by decide +kernel
theorem dX11_haveMask_4 : decode cX11_haveMask 4 = .ok (.istore 5, 2) := by decide +kernel
theorem dX11_haveMask_6 : decode cX11_haveMask 6 = .ok (.iload 5, 2) := by decide +kernel
theorem dX11_haveMask_8 : decode cX11_haveMask 8 = .ok (.aload_n 0, 1) := by decide +kernel
theorem dX11_haveMask_9 : decode cX11_haveMask 9 = .ok (.getfield 60, 3) := by decide +kernel
theorem dX11_haveMask_12 : decode cX11_haveMask 12 = .ok (.if_icmp .ge 39, 3) := by decide +kernel
theorem dX11_haveMask_15 : decode cX11_haveMask 15 = .ok (.iload 4, 2) := by decide +kernel
theorem dX11_haveMask_17 : decode cX11_haveMask 17 = .ok (.iload_n 1, 1) := by decide +kernel
theorem dX11_haveMask_18 : decode cX11_haveMask 18 = .ok (.iload 5, 2) := by decide +kernel
theorem dX11_haveMask_20 : decode cX11_haveMask 20 = .ok (.invokestatic 158, 3) := by decide +kernel
theorem dX11_haveMask_23 : decode cX11_haveMask 23 = .ok (.ifCond .eq 18, 3) := by decide +kernel
theorem dX11_haveMask_26 : decode cX11_haveMask 26 = .ok (.aload_n 0, 1) := by decide +kernel
theorem dX11_haveMask_27 : decode cX11_haveMask 27 = .ok (.iload 5, 2) := by decide +kernel
theorem dX11_haveMask_29 : decode cX11_haveMask 29 = .ok (.iload_n 2, 1) := by decide +kernel
theorem dX11_haveMask_30 : decode cX11_haveMask 30 = .ok (.invokevirtual 192, 3) := by decide +kernel
theorem dX11_haveMask_33 : decode cX11_haveMask 33 = .ok (.iload_n 3, 1) := by decide +kernel
theorem dX11_haveMask_34 : decode cX11_haveMask 34 = .ok (.if_icmp .ne 7, 3) := by decide +kernel
theorem dX11_haveMask_37 : decode cX11_haveMask 37 = .ok (.iconst 1, 1) := by decide +kernel
theorem dX11_haveMask_38 : decode cX11_haveMask 38 = .ok (.goto 4, 3) := by decide +kernel
theorem dX11_haveMask_41 : decode cX11_haveMask 41 = .ok (.iconst 0, 1) := by decide +kernel
theorem dX11_haveMask_42 : decode cX11_haveMask 42 = .ok (.iadd, 1) := by decide +kernel
theorem dX11_haveMask_43 : decode cX11_haveMask 43 = .ok (.istore 4, 2) := by decide +kernel
theorem dX11_haveMask_45 : decode cX11_haveMask 45 = .ok (.iinc 5 1, 3) := by decide +kernel
theorem dX11_haveMask_48 : decode cX11_haveMask 48 = .ok (.goto (-42), 3) := by decide +kernel
theorem dX11_haveMask_51 : decode cX11_haveMask 51 = .ok (.iload 4, 2) := by decide +kernel
theorem dX11_haveMask_53 : decode cX11_haveMask 53 = .ok (.ireturn, 1) := by decide +kernel
theorem dX11_slippery_0 : decode cX11_slippery 0 = .ok (.iconst 0, 1) := by decide +kernel
theorem dX11_slippery_1 : decode cX11_slippery 1 = .ok (.istore_n 3, 1) := by decide +kernel
theorem dX11_slippery_2 : decode cX11_slippery 2 = .ok (.iconst 0, 1) := by decide +kernel
theorem dX11_slippery_3 : decode cX11_slippery 3 = .ok (.istore 4, 2) := by decide +kernel
theorem dX11_slippery_5 : decode cX11_slippery 5 = .ok (.iconst 0, 1) := by decide +kernel
theorem dX11_slippery_6 : decode cX11_slippery 6 = .ok (.istore 5, 2) := by decide +kernel
theorem dX11_slippery_8 : decode cX11_slippery 8 = .ok (.iload 5, 2) := by decide +kernel
theorem dX11_slippery_10 : decode cX11_slippery 10 = .ok (.bipush 16, 2) := by decide +kernel
theorem dX11_slippery_12 : decode cX11_slippery 12 = .ok (.if_icmp .ge 49, 3) := by decide +kernel
theorem dX11_slippery_15 : decode cX11_slippery 15 = .ok (.aload_n 0, 1) := by decide +kernel
theorem dX11_slippery_16 : decode cX11_slippery 16 = .ok (.iload_n 1, 1) := by decide +kernel
theorem dX11_slippery_17 : decode cX11_slippery 17 = .ok (.iload_n 2, 1) := by decide +kernel
theorem dX11_slippery_18 : decode cX11_slippery 18 = .ok (.iload 5, 2) := by decide +kernel
theorem dX11_slippery_20 : decode cX11_slippery 20 = .ok (.invokevirtual 195, 3) := by decide +kernel
theorem dX11_slippery_23 : decode cX11_slippery 23 = .ok (.istore 6, 2) := by decide +kernel
theorem dX11_slippery_25 : decode cX11_slippery 25 = .ok (.iload 6, 2) := by decide +kernel
theorem dX11_slippery_27 : decode cX11_slippery 27 = .ok (.iload 4, 2) := by decide +kernel
theorem dX11_slippery_29 : decode cX11_slippery 29 = .ok (.if_icmp .le 8, 3) := by decide +kernel
theorem dX11_slippery_32 : decode cX11_slippery 32 = .ok (.iload 5, 2) := by decide +kernel
theorem dX11_slippery_34 : decode cX11_slippery 34 = .ok (.goto 4, 3) := by decide +kernel
theorem dX11_slippery_37 : decode cX11_slippery 37 = .ok (.iload_n 3, 1) := by decide +kernel
theorem dX11_slippery_38 : decode cX11_slippery 38 = .ok (.istore_n 3, 1) := by decide +kernel
theorem dX11_slippery_39 : decode cX11_slippery 39 = .ok (.iload 6, 2) := by decide +kernel
theorem dX11_slippery_41 : decode cX11_slippery 41 = .ok (.iload 4, 2) := by decide +kernel
theorem dX11_slippery_43 : decode cX11_slippery 43 = .ok (.if_icmp .le 8, 3) := by decide +kernel
theorem dX11_slippery_46 : decode cX11_slippery 46 = .ok (.iload 6, 2) := by decide +kernel
theorem dX11_slippery_48 : decode cX11_slippery 48 = .ok (.goto 5, 3) := by decide +kernel
theorem dX11_slippery_51 : decode cX11_slippery 51 = .ok (.iload 4, 2) := by decide +kernel
theorem dX11_slippery_53 : decode cX11_slippery 53 = .ok (.istore 4, 2) := by decide +kernel
theorem dX11_slippery_55 : decode cX11_slippery 55 = .ok (.iinc 5 1, 3) := by decide +kernel
theorem dX11_slippery_58 : decode cX11_slippery 58 = .ok (.goto (-50), 3) := by decide +kernel
theorem dX11_slippery_61 : decode cX11_slippery 61 = .ok (.iload_n 3, 1) := by decide +kernel
theorem dX11_slippery_62 : decode cX11_slippery 62 = .ok (.ireturn, 1) := by decide +kernel
theorem dX11_meanly_0 : decode cX11_meanly 0 = .ok (.aload_n 0, 1) := by decide +kernel
theorem dX11_meanly_1 : decode cX11_meanly 1 = .ok (.iload_n 1, 1) := by decide +kernel
theorem dX11_meanly_2 : decode cX11_meanly 2 = .ok (.iload_n 2, 1) := by decide +kernel
theorem dX11_meanly_3 : decode cX11_meanly 3 = .ok (.iconst 0, 1) := by decide +kernel
theorem dX11_meanly_4 : decode cX11_meanly 4 = .ok (.invokevirtual 195, 3) := by decide +kernel
theorem dX11_meanly_7 : decode cX11_meanly 7 = .ok (.ifCond .le 7, 3) := by decide +kernel
theorem dX11_meanly_10 : decode cX11_meanly 10 = .ok (.iconst 0, 1) := by decide +kernel
theorem dX11_meanly_11 : decode cX11_meanly 11 = .ok (.goto 9, 3) := by decide +kernel
theorem dX11_meanly_14 : decode cX11_meanly 14 = .ok (.aload_n 0, 1) := by decide +kernel
theorem dX11_meanly_15 : decode cX11_meanly 15 = .ok (.iload_n 1, 1) := by decide +kernel
theorem dX11_meanly_16 : decode cX11_meanly 16 = .ok (.iload_n 2, 1) := by decide +kernel
theorem dX11_meanly_17 : decode cX11_meanly 17 = .ok (.invokevirtual 199, 3) := by decide +kernel
theorem dX11_meanly_20 : decode cX11_meanly 20 = .ok (.ireturn, 1) := by decide +kernel
theorem dX11_mildly_0 : decode cX11_mildly 0 = .ok (.iconst 0, 1) := by decide +kernel
theorem dX11_mildly_1 : decode cX11_mildly 1 = .ok (.istore_n 3, 1) := by decide +kernel
theorem dX11_mildly_2 : decode cX11_mildly 2 = .ok (.iconst (-1), 1) := by decide +kernel
theorem dX11_mildly_3 : decode cX11_mildly 3 = .ok (.istore 4, 2) := by decide +kernel
theorem dX11_mildly_5 : decode cX11_mildly 5 = .ok (.iconst 0, 1) := by decide +kernel
theorem dX11_mildly_6 : decode cX11_mildly 6 = .ok (.istore 5, 2) := by decide +kernel
theorem dX11_mildly_8 : decode cX11_mildly 8 = .ok (.iload 5, 2) := by decide +kernel
theorem dX11_mildly_10 : decode cX11_mildly 10 = .ok (.bipush 16, 2) := by decide +kernel
theorem dX11_mildly_12 : decode cX11_mildly 12 = .ok (.if_icmp .ge 66, 3) := by decide +kernel
theorem dX11_mildly_15 : decode cX11_mildly 15 = .ok (.aload_n 0, 1) := by decide +kernel
theorem dX11_mildly_16 : decode cX11_mildly 16 = .ok (.iload_n 1, 1) := by decide +kernel
theorem dX11_mildly_17 : decode cX11_mildly 17 = .ok (.iload_n 2, 1) := by decide +kernel
theorem dX11_mildly_18 : decode cX11_mildly 18 = .ok (.iload 5, 2) := by decide +kernel
theorem dX11_mildly_20 : decode cX11_mildly 20 = .ok (.invokevirtual 195, 3) := by decide +kernel
theorem dX11_mildly_23 : decode cX11_mildly 23 = .ok (.ifCond .le 11, 3) := by decide +kernel
theorem dX11_mildly_26 : decode cX11_mildly 26 = .ok (.iload 5, 2) := by decide +kernel
theorem dX11_mildly_28 : decode cX11_mildly 28 = .ok (.invokestatic 202, 3) := by decide +kernel
theorem dX11_mildly_31 : decode cX11_mildly 31 = .ok (.goto 4, 3) := by decide +kernel
theorem dX11_mildly_34 : decode cX11_mildly 34 = .ok (.iconst (-1), 1) := by decide +kernel
theorem dX11_mildly_35 : decode cX11_mildly 35 = .ok (.istore 6, 2) := by decide +kernel
theorem dX11_mildly_37 : decode cX11_mildly 37 = .ok (.iload 6, 2) := by decide +kernel
theorem dX11_mildly_39 : decode cX11_mildly 39 = .ok (.ifCond .lt 15, 3) := by decide +kernel
theorem dX11_mildly_42 : decode cX11_mildly 42 = .ok (.iload 6, 2) := by decide +kernel
theorem dX11_mildly_44 : decode cX11_mildly 44 = .ok (.iload 4, 2) := by decide +kernel
theorem dX11_mildly_46 : decode cX11_mildly 46 = .ok (.if_icmp .lt 8, 3) := by decide +kernel
theorem dX11_mildly_49 : decode cX11_mildly 49 = .ok (.iload 5, 2) := by decide +kernel
theorem dX11_mildly_51 : decode cX11_mildly 51 = .ok (.goto 4, 3) := by decide +kernel
theorem dX11_mildly_54 : decode cX11_mildly 54 = .ok (.iload_n 3, 1) := by decide +kernel
theorem dX11_mildly_55 : decode cX11_mildly 55 = .ok (.istore_n 3, 1) := by decide +kernel
theorem dX11_mildly_56 : decode cX11_mildly 56 = .ok (.iload 6, 2) := by decide +kernel
theorem dX11_mildly_58 : decode cX11_mildly 58 = .ok (.iload 4, 2) := by decide +kernel
theorem dX11_mildly_60 : decode cX11_mildly 60 = .ok (.if_icmp .le 8, 3) := by decide +kernel
theorem dX11_mildly_63 : decode cX11_mildly 63 = .ok (.iload 6, 2) := by decide +kernel
theorem dX11_mildly_65 : decode cX11_mildly 65 = .ok (.goto 5, 3) := by decide +kernel
theorem dX11_mildly_68 : decode cX11_mildly 68 = .ok (.iload 4, 2) := by decide +kernel
theorem dX11_mildly_70 : decode cX11_mildly 70 = .ok (.istore 4, 2) := by decide +kernel
theorem dX11_mildly_72 : decode cX11_mildly 72 = .ok (.iinc 5 1, 3) := by decide +kernel
theorem dX11_mildly_75 : decode cX11_mildly 75 = .ok (.goto (-67), 3) := by decide +kernel
theorem dX11_mildly_78 : decode cX11_mildly 78 = .ok (.iload_n 3, 1) := by decide +kernel
theorem dX11_mildly_79 : decode cX11_mildly 79 = .ok (.ireturn, 1) := by decide +kernel
theorem dX11_answerBy_0 : decode cX11_answerBy 0 = .ok (.aload_n 0, 1) := by decide +kernel
theorem dX11_answerBy_1 : decode cX11_answerBy 1 = .ok (.aload_n 0, 1) := by decide +kernel
theorem dX11_answerBy_2 : decode cX11_answerBy 2 = .ok (.iload_n 2, 1) := by decide +kernel
theorem dX11_answerBy_3 : decode cX11_answerBy 3 = .ok (.invokevirtual 205, 3) := by decide +kernel
theorem dX11_answerBy_6 : decode cX11_answerBy 6 = .ok (.iload 4, 2) := by decide +kernel
theorem dX11_answerBy_8 : decode cX11_answerBy 8 = .ok (.invokevirtual 192, 3) := by decide +kernel
theorem dX11_answerBy_11 : decode cX11_answerBy 11 = .ok (.istore 5, 2) := by decide +kernel
theorem dX11_answerBy_13 : decode cX11_answerBy 13 = .ok (.iload_n 1, 1) := by decide +kernel
theorem dX11_answerBy_14 : decode cX11_answerBy 14 = .ok (.tableswitch 109 1 5 #[34, 42, 50, 58, 78], 34) := by decide +kernel
theorem dX11_answerBy_48 : decode cX11_answerBy 48 = .ok (.aload_n 0, 1) := by decide +kernel
theorem dX11_answerBy_49 : decode cX11_answerBy 49 = .ok (.iload_n 2, 1) := by decide +kernel
theorem dX11_answerBy_50 : decode cX11_answerBy 50 = .ok (.iload 4, 2) := by decide +kernel
theorem dX11_answerBy_52 : decode cX11_answerBy 52 = .ok (.invokevirtual 199, 3) := by decide +kernel
theorem dX11_answerBy_55 : decode cX11_answerBy 55 = .ok (.ireturn, 1) := by decide +kernel
theorem dX11_answerBy_56 : decode cX11_answerBy 56 = .ok (.aload_n 0, 1) := by decide +kernel
theorem dX11_answerBy_57 : decode cX11_answerBy 57 = .ok (.iload_n 2, 1) := by decide +kernel
theorem dX11_answerBy_58 : decode cX11_answerBy 58 = .ok (.iload 4, 2) := by decide +kernel
theorem dX11_answerBy_60 : decode cX11_answerBy 60 = .ok (.invokevirtual 208, 3) := by decide +kernel
theorem dX11_answerBy_63 : decode cX11_answerBy 63 = .ok (.ireturn, 1) := by decide +kernel
theorem dX11_answerBy_64 : decode cX11_answerBy 64 = .ok (.aload_n 0, 1) := by decide +kernel
theorem dX11_answerBy_65 : decode cX11_answerBy 65 = .ok (.iload_n 2, 1) := by decide +kernel
theorem dX11_answerBy_66 : decode cX11_answerBy 66 = .ok (.iload 4, 2) := by decide +kernel
theorem dX11_answerBy_68 : decode cX11_answerBy 68 = .ok (.invokevirtual 211, 3) := by decide +kernel
theorem dX11_answerBy_71 : decode cX11_answerBy 71 = .ok (.ireturn, 1) := by decide +kernel
theorem dX11_answerBy_72 : decode cX11_answerBy 72 = .ok (.iload_n 3, 1) := by decide +kernel
theorem dX11_answerBy_73 : decode cX11_answerBy 73 = .ok (.iconst 2, 1) := by decide +kernel
theorem dX11_answerBy_74 : decode cX11_answerBy 74 = .ok (.irem, 1) := by decide +kernel
theorem dX11_answerBy_75 : decode cX11_answerBy 75 = .ok (.iconst 1, 1) := by decide +kernel
theorem dX11_answerBy_76 : decode cX11_answerBy 76 = .ok (.if_icmp .ne 13, 3) := by decide +kernel
theorem dX11_answerBy_79 : decode cX11_answerBy 79 = .ok (.aload_n 0, 1) := by decide +kernel
theorem dX11_answerBy_80 : decode cX11_answerBy 80 = .ok (.iload_n 2, 1) := by decide +kernel
theorem dX11_answerBy_81 : decode cX11_answerBy 81 = .ok (.iload 4, 2) := by decide +kernel
theorem dX11_answerBy_83 : decode cX11_answerBy 83 = .ok (.invokevirtual 208, 3) := by decide +kernel
theorem dX11_answerBy_86 : decode cX11_answerBy 86 = .ok (.goto 5, 3) := by decide +kernel
theorem dX11_answerBy_89 : decode cX11_answerBy 89 = .ok (.iload 5, 2) := by decide +kernel
theorem dX11_answerBy_91 : decode cX11_answerBy 91 = .ok (.ireturn, 1) := by decide +kernel
theorem dX11_answerBy_92 : decode cX11_answerBy 92 = .ok (.iconst 2, 1) := by decide +kernel
theorem dX11_answerBy_93 : decode cX11_answerBy 93 = .ok (.aload_n 0, 1) := by decide +kernel
theorem dX11_answerBy_94 : decode cX11_answerBy 94 = .ok (.iload_n 2, 1) := by decide +kernel
theorem dX11_answerBy_95 : decode cX11_answerBy 95 = .ok (.iload 4, 2) := by decide +kernel
theorem dX11_answerBy_97 : decode cX11_answerBy 97 = .ok (.iload 5, 2) := by decide +kernel
theorem dX11_answerBy_99 : decode cX11_answerBy 99 = .ok (.invokevirtual 195, 3) := by decide +kernel
theorem dX11_answerBy_102 : decode cX11_answerBy 102 = .ok (.imul, 1) := by decide +kernel
theorem dX11_answerBy_103 : decode cX11_answerBy 103 = .ok (.iload_n 2, 1) := by decide +kernel
theorem dX11_answerBy_104 : decode cX11_answerBy 104 = .ok (.invokestatic 202, 3) := by decide +kernel
theorem dX11_answerBy_107 : decode cX11_answerBy 107 = .ok (.if_icmp .lt 8, 3) := by decide +kernel
theorem dX11_answerBy_110 : decode cX11_answerBy 110 = .ok (.iload 5, 2) := by decide +kernel
theorem dX11_answerBy_112 : decode cX11_answerBy 112 = .ok (.goto 10, 3) := by decide +kernel
theorem dX11_answerBy_115 : decode cX11_answerBy 115 = .ok (.aload_n 0, 1) := by decide +kernel
theorem dX11_answerBy_116 : decode cX11_answerBy 116 = .ok (.iload_n 2, 1) := by decide +kernel
theorem dX11_answerBy_117 : decode cX11_answerBy 117 = .ok (.iload 4, 2) := by decide +kernel
theorem dX11_answerBy_119 : decode cX11_answerBy 119 = .ok (.invokevirtual 199, 3) := by decide +kernel
theorem dX11_answerBy_122 : decode cX11_answerBy 122 = .ok (.ireturn, 1) := by decide +kernel
theorem dX11_answerBy_123 : decode cX11_answerBy 123 = .ok (.iload 5, 2) := by decide +kernel
theorem dX11_answerBy_125 : decode cX11_answerBy 125 = .ok (.ireturn, 1) := by decide +kernel
theorem dX11_partOf_0 : decode cX11_partOf 0 = .ok (.iconst 0, 1) := by decide +kernel
theorem dX11_partOf_1 : decode cX11_partOf 1 = .ok (.istore 4, 2) := by decide +kernel
theorem dX11_partOf_3 : decode cX11_partOf 3 = .ok (.iconst 0, 1) := by decide +kernel
theorem dX11_partOf_4 : decode cX11_partOf 4 = .ok (.istore 5, 2) := by decide +kernel
theorem dX11_partOf_6 : decode cX11_partOf 6 = .ok (.iload 5, 2) := by decide +kernel
theorem dX11_partOf_8 : decode cX11_partOf 8 = .ok (.aload_n 0, 1) := by decide +kernel
theorem dX11_partOf_9 : decode cX11_partOf 9 = .ok (.getfield 60, 3) := by decide +kernel
theorem dX11_partOf_12 : decode cX11_partOf 12 = .ok (.if_icmp .ge 42, 3) := by decide +kernel
theorem dX11_partOf_15 : decode cX11_partOf 15 = .ok (.iload 4, 2) := by decide +kernel
theorem dX11_partOf_17 : decode cX11_partOf 17 = .ok (.iload_n 1, 1) := by decide +kernel
theorem dX11_partOf_18 : decode cX11_partOf 18 = .ok (.iload 5, 2) := by decide +kernel
theorem dX11_partOf_20 : decode cX11_partOf 20 = .ok (.invokestatic 158, 3) := by decide +kernel
theorem dX11_partOf_23 : decode cX11_partOf 23 = .ok (.ifCond .eq 21, 3) := by decide +kernel
theorem dX11_partOf_26 : decode cX11_partOf 26 = .ok (.aload_n 0, 1) := by decide +kernel
theorem dX11_partOf_27 : decode cX11_partOf 27 = .ok (.iload 5, 2) := by decide +kernel
theorem dX11_partOf_29 : decode cX11_partOf 29 = .ok (.iload_n 2, 1) := by decide +kernel
theorem dX11_partOf_30 : decode cX11_partOf 30 = .ok (.invokevirtual 192, 3) := by decide +kernel
theorem dX11_partOf_33 : decode cX11_partOf 33 = .ok (.iload_n 3, 1) := by decide +kernel
theorem dX11_partOf_34 : decode cX11_partOf 34 = .ok (.if_icmp .ne 10, 3) := by decide +kernel
theorem dX11_partOf_37 : decode cX11_partOf 37 = .ok (.iconst 1, 1) := by decide +kernel
theorem dX11_partOf_38 : decode cX11_partOf 38 = .ok (.iload 5, 2) := by decide +kernel
theorem dX11_partOf_40 : decode cX11_partOf 40 = .ok (.ishl, 1) := by decide +kernel
theorem dX11_partOf_41 : decode cX11_partOf 41 = .ok (.goto 4, 3) := by decide +kernel
theorem dX11_partOf_44 : decode cX11_partOf 44 = .ok (.iconst 0, 1) := by decide +kernel
theorem dX11_partOf_45 : decode cX11_partOf 45 = .ok (.ior, 1) := by decide +kernel
theorem dX11_partOf_46 : decode cX11_partOf 46 = .ok (.istore 4, 2) := by decide +kernel
theorem dX11_partOf_48 : decode cX11_partOf 48 = .ok (.iinc 5 1, 3) := by decide +kernel
theorem dX11_partOf_51 : decode cX11_partOf 51 = .ok (.goto (-45), 3) := by decide +kernel
theorem dX11_partOf_54 : decode cX11_partOf 54 = .ok (.iload 4, 2) := by decide +kernel
theorem dX11_partOf_56 : decode cX11_partOf 56 = .ok (.ireturn, 1) := by decide +kernel
theorem dX11_guessesBy_0 : decode cX11_guessesBy 0 = .ok (.aload_n 0, 1) := by decide +kernel
theorem dX11_guessesBy_1 : decode cX11_guessesBy 1 = .ok (.iload_n 1, 1) := by decide +kernel
theorem dX11_guessesBy_2 : decode cX11_guessesBy 2 = .ok (.aload_n 0, 1) := by decide +kernel
theorem dX11_guessesBy_3 : decode cX11_guessesBy 3 = .ok (.getfield 85, 3) := by decide +kernel
theorem dX11_guessesBy_6 : decode cX11_guessesBy 6 = .ok (.aload_n 0, 1) := by decide +kernel
theorem dX11_guessesBy_7 : decode cX11_guessesBy 7 = .ok (.getfield 82, 3) := by decide +kernel
theorem dX11_guessesBy_10 : decode cX11_guessesBy 10 = .ok (.invokestatic 202, 3) := by decide +kernel
theorem dX11_guessesBy_13 : decode cX11_guessesBy 13 = .ok (.iload_n 2, 1) := by decide +kernel
theorem dX11_guessesBy_14 : decode cX11_guessesBy 14 = .ok (.invokevirtual 214, 3) := by decide +kernel
theorem dX11_guessesBy_17 : decode cX11_guessesBy 17 = .ok (.istore_n 3, 1) := by decide +kernel
theorem dX11_guessesBy_18 : decode cX11_guessesBy 18 = .ok (.aload_n 0, 1) := by decide +kernel
theorem dX11_guessesBy_19 : decode cX11_guessesBy 19 = .ok (.aload_n 0, 1) := by decide +kernel
theorem dX11_guessesBy_20 : decode cX11_guessesBy 20 = .ok (.aload_n 0, 1) := by decide +kernel
theorem dX11_guessesBy_21 : decode cX11_guessesBy 21 = .ok (.getfield 85, 3) := by decide +kernel
theorem dX11_guessesBy_24 : decode cX11_guessesBy 24 = .ok (.iload_n 2, 1) := by decide +kernel
theorem dX11_guessesBy_25 : decode cX11_guessesBy 25 = .ok (.iload_n 3, 1) := by decide +kernel
theorem dX11_guessesBy_26 : decode cX11_guessesBy 26 = .ok (.invokevirtual 218, 3) := by decide +kernel
theorem dX11_guessesBy_29 : decode cX11_guessesBy 29 = .ok (.putfield 85, 3) := by decide +kernel
theorem dX11_guessesBy_32 : decode cX11_guessesBy 32 = .ok (.aload_n 0, 1) := by decide +kernel
theorem dX11_guessesBy_33 : decode cX11_guessesBy 33 = .ok (.dup, 1) := by decide +kernel
theorem dX11_guessesBy_34 : decode cX11_guessesBy 34 = .ok (.getfield 82, 3) := by decide +kernel
theorem dX11_guessesBy_37 : decode cX11_guessesBy 37 = .ok (.iconst 1, 1) := by decide +kernel
theorem dX11_guessesBy_38 : decode cX11_guessesBy 38 = .ok (.iload_n 2, 1) := by decide +kernel
theorem dX11_guessesBy_39 : decode cX11_guessesBy 39 = .ok (.ishl, 1) := by decide +kernel
theorem dX11_guessesBy_40 : decode cX11_guessesBy 40 = .ok (.ior, 1) := by decide +kernel
theorem dX11_guessesBy_41 : decode cX11_guessesBy 41 = .ok (.putfield 82, 3) := by decide +kernel
theorem dX11_guessesBy_44 : decode cX11_guessesBy 44 = .ok (.aload_n 0, 1) := by decide +kernel
theorem dX11_guessesBy_45 : decode cX11_guessesBy 45 = .ok (.dup, 1) := by decide +kernel
theorem dX11_guessesBy_46 : decode cX11_guessesBy 46 = .ok (.getfield 88, 3) := by decide +kernel
theorem dX11_guessesBy_49 : decode cX11_guessesBy 49 = .ok (.iload_n 3, 1) := by decide +kernel
theorem dX11_guessesBy_50 : decode cX11_guessesBy 50 = .ok (.ifCond .ne 7, 3) := by decide +kernel
theorem dX11_guessesBy_53 : decode cX11_guessesBy 53 = .ok (.iconst 1, 1) := by decide +kernel
theorem dX11_guessesBy_54 : decode cX11_guessesBy 54 = .ok (.goto 4, 3) := by decide +kernel
theorem dX11_guessesBy_57 : decode cX11_guessesBy 57 = .ok (.iconst 0, 1) := by decide +kernel
theorem dX11_guessesBy_58 : decode cX11_guessesBy 58 = .ok (.iadd, 1) := by decide +kernel
theorem dX11_guessesBy_59 : decode cX11_guessesBy 59 = .ok (.putfield 88, 3) := by decide +kernel
theorem dX11_guessesBy_62 : decode cX11_guessesBy 62 = .ok (.iload_n 3, 1) := by decide +kernel
theorem dX11_guessesBy_63 : decode cX11_guessesBy 63 = .ok (.ireturn, 1) := by decide +kernel
theorem dX11_guesses_0 : decode cX11_guesses 0 = .ok (.aload_n 0, 1) := by decide +kernel
theorem dX11_guesses_1 : decode cX11_guesses 1 = .ok (.aload_n 0, 1) := by decide +kernel
theorem dX11_guesses_2 : decode cX11_guesses 2 = .ok (.getfield 64, 3) := by decide +kernel
theorem dX11_guesses_5 : decode cX11_guesses 5 = .ok (.iload_n 1, 1) := by decide +kernel
theorem dX11_guesses_6 : decode cX11_guesses 6 = .ok (.invokevirtual 221, 3) := by decide +kernel
theorem dX11_guesses_9 : decode cX11_guesses 9 = .ok (.ireturn, 1) := by decide +kernel
theorem dX11_haveLetter_0 : decode cX11_haveLetter 0 = .ok (.iload_n 1, 1) := by decide +kernel
theorem dX11_haveLetter_1 : decode cX11_haveLetter 1 = .ok (.invokestatic 202, 3) := by decide +kernel
theorem dX11_haveLetter_4 : decode cX11_haveLetter 4 = .ok (.aload_n 0, 1) := by decide +kernel
theorem dX11_haveLetter_5 : decode cX11_haveLetter 5 = .ok (.iload_n 1, 1) := by decide +kernel
theorem dX11_haveLetter_6 : decode cX11_haveLetter 6 = .ok (.iload_n 2, 1) := by decide +kernel
theorem dX11_haveLetter_7 : decode cX11_haveLetter 7 = .ok (.iconst 0, 1) := by decide +kernel
theorem dX11_haveLetter_8 : decode cX11_haveLetter 8 = .ok (.invokevirtual 195, 3) := by decide +kernel
theorem dX11_haveLetter_11 : decode cX11_haveLetter 11 = .ok (.isub, 1) := by decide +kernel
theorem dX11_haveLetter_12 : decode cX11_haveLetter 12 = .ok (.ireturn, 1) := by decide +kernel
theorem dX11_letterNotOf_0 : decode cX11_letterNotOf 0 = .ok (.iconst (-1), 1) := by decide +kernel
theorem dX11_letterNotOf_1 : decode cX11_letterNotOf 1 = .ok (.istore_n 2, 1) := by decide +kernel
theorem dX11_letterNotOf_2 : decode cX11_letterNotOf 2 = .ok (.iconst 0, 1) := by decide +kernel
theorem dX11_letterNotOf_3 : decode cX11_letterNotOf 3 = .ok (.istore_n 3, 1) := by decide +kernel
theorem dX11_letterNotOf_4 : decode cX11_letterNotOf 4 = .ok (.iload_n 3, 1) := by decide +kernel
theorem dX11_letterNotOf_5 : decode cX11_letterNotOf 5 = .ok (.bipush 10, 2) := by decide +kernel
theorem dX11_letterNotOf_7 : decode cX11_letterNotOf 7 = .ok (.if_icmp .ge 32, 3) := by decide +kernel
theorem dX11_letterNotOf_10 : decode cX11_letterNotOf 10 = .ok (.iload_n 0, 1) := by decide +kernel
theorem dX11_letterNotOf_11 : decode cX11_letterNotOf 11 = .ok (.iload_n 3, 1) := by decide +kernel
theorem dX11_letterNotOf_12 : decode cX11_letterNotOf 12 = .ok (.invokestatic 158, 3) := by decide +kernel
theorem dX11_letterNotOf_15 : decode cX11_letterNotOf 15 = .ok (.ifCond .ne 16, 3) := by decide +kernel
theorem dX11_letterNotOf_18 : decode cX11_letterNotOf 18 = .ok (.iload_n 1, 1) := by decide +kernel
theorem dX11_letterNotOf_19 : decode cX11_letterNotOf 19 = .ok (.ifCond .ne 8, 3) := by decide +kernel
theorem dX11_letterNotOf_22 : decode cX11_letterNotOf 22 = .ok (.iload_n 2, 1) := by decide +kernel
theorem dX11_letterNotOf_23 : decode cX11_letterNotOf 23 = .ok (.iconst (-1), 1) := by decide +kernel
theorem dX11_letterNotOf_24 : decode cX11_letterNotOf 24 = .ok (.if_icmp .ne 7, 3) := by decide +kernel
theorem dX11_letterNotOf_27 : decode cX11_letterNotOf 27 = .ok (.iload_n 3, 1) := by decide +kernel
theorem dX11_letterNotOf_28 : decode cX11_letterNotOf 28 = .ok (.goto 4, 3) := by decide +kernel
theorem dX11_letterNotOf_31 : decode cX11_letterNotOf 31 = .ok (.iload_n 2, 1) := by decide +kernel
theorem dX11_letterNotOf_32 : decode cX11_letterNotOf 32 = .ok (.istore_n 2, 1) := by decide +kernel
theorem dX11_letterNotOf_33 : decode cX11_letterNotOf 33 = .ok (.iinc 3 1, 3) := by decide +kernel
theorem dX11_letterNotOf_36 : decode cX11_letterNotOf 36 = .ok (.goto (-32), 3) := by decide +kernel
theorem dX11_letterNotOf_39 : decode cX11_letterNotOf 39 = .ok (.iload_n 2, 1) := by decide +kernel
theorem dX11_letterNotOf_40 : decode cX11_letterNotOf 40 = .ok (.ireturn, 1) := by decide +kernel
theorem dX11_often_0 : decode cX11_often 0 = .ok (.iconst (-1), 1) := by decide +kernel
theorem dX11_often_1 : decode cX11_often 1 = .ok (.istore_n 3, 1) := by decide +kernel
theorem dX11_often_2 : decode cX11_often 2 = .ok (.iconst (-1), 1) := by decide +kernel
theorem dX11_often_3 : decode cX11_often 3 = .ok (.istore 4, 2) := by decide +kernel
theorem dX11_often_5 : decode cX11_often 5 = .ok (.iconst 0, 1) := by decide +kernel
theorem dX11_often_6 : decode cX11_often 6 = .ok (.istore 5, 2) := by decide +kernel
theorem dX11_often_8 : decode cX11_often 8 = .ok (.iload 5, 2) := by decide +kernel
theorem dX11_often_10 : decode cX11_often 10 = .ok (.bipush 10, 2) := by decide +kernel
theorem dX11_often_12 : decode cX11_often 12 = .ok (.if_icmp .ge 61, 3) := by decide +kernel
theorem dX11_often_15 : decode cX11_often 15 = .ok (.iload_n 2, 1) := by decide +kernel
theorem dX11_often_16 : decode cX11_often 16 = .ok (.iload 5, 2) := by decide +kernel
theorem dX11_often_18 : decode cX11_often 18 = .ok (.invokestatic 158, 3) := by decide +kernel
theorem dX11_often_21 : decode cX11_often 21 = .ok (.ifCond .eq 7, 3) := by decide +kernel
theorem dX11_often_24 : decode cX11_often 24 = .ok (.iconst (-1), 1) := by decide +kernel
theorem dX11_often_25 : decode cX11_often 25 = .ok (.goto 10, 3) := by decide +kernel
theorem dX11_often_28 : decode cX11_often 28 = .ok (.aload_n 0, 1) := by decide +kernel
theorem dX11_often_29 : decode cX11_often 29 = .ok (.iload_n 1, 1) := by decide +kernel
theorem dX11_often_30 : decode cX11_often 30 = .ok (.iload 5, 2) := by decide +kernel
theorem dX11_often_32 : decode cX11_often 32 = .ok (.invokevirtual 224, 3) := by decide +kernel
theorem dX11_often_35 : decode cX11_often 35 = .ok (.istore 6, 2) := by decide +kernel
theorem dX11_often_37 : decode cX11_often 37 = .ok (.iload 6, 2) := by decide +kernel
theorem dX11_often_39 : decode cX11_often 39 = .ok (.iload 4, 2) := by decide +kernel
theorem dX11_often_41 : decode cX11_often 41 = .ok (.if_icmp .le 8, 3) := by decide +kernel
theorem dX11_often_44 : decode cX11_often 44 = .ok (.iload 5, 2) := by decide +kernel
theorem dX11_often_46 : decode cX11_often 46 = .ok (.goto 4, 3) := by decide +kernel
theorem dX11_often_49 : decode cX11_often 49 = .ok (.iload_n 3, 1) := by decide +kernel
theorem dX11_often_50 : decode cX11_often 50 = .ok (.istore_n 3, 1) := by decide +kernel
theorem dX11_often_51 : decode cX11_often 51 = .ok (.iload 6, 2) := by decide +kernel
theorem dX11_often_53 : decode cX11_often 53 = .ok (.iload 4, 2) := by decide +kernel
theorem dX11_often_55 : decode cX11_often 55 = .ok (.if_icmp .le 8, 3) := by decide +kernel
theorem dX11_often_58 : decode cX11_often 58 = .ok (.iload 6, 2) := by decide +kernel
theorem dX11_often_60 : decode cX11_often 60 = .ok (.goto 5, 3) := by decide +kernel
theorem dX11_often_63 : decode cX11_often 63 = .ok (.iload 4, 2) := by decide +kernel
theorem dX11_often_65 : decode cX11_often 65 = .ok (.istore 4, 2) := by decide +kernel
theorem dX11_often_67 : decode cX11_often 67 = .ok (.iinc 5 1, 3) := by decide +kernel
theorem dX11_often_70 : decode cX11_often 70 = .ok (.goto (-62), 3) := by decide +kernel
theorem dX11_often_73 : decode cX11_often 73 = .ok (.iload_n 3, 1) := by decide +kernel
theorem dX11_often_74 : decode cX11_often 74 = .ok (.ireturn, 1) := by decide +kernel
theorem dX11_surest_0 : decode cX11_surest 0 = .ok (.iconst 0, 1) := by decide +kernel
theorem dX11_surest_1 : decode cX11_surest 1 = .ok (.istore_n 3, 1) := by decide +kernel
theorem dX11_surest_2 : decode cX11_surest 2 = .ok (.iload_n 3, 1) := by decide +kernel
theorem dX11_surest_3 : decode cX11_surest 3 = .ok (.bipush 10, 2) := by decide +kernel
theorem dX11_surest_5 : decode cX11_surest 5 = .ok (.if_icmp .ge 32, 3) := by decide +kernel
theorem dX11_surest_8 : decode cX11_surest 8 = .ok (.iload_n 2, 1) := by decide +kernel
theorem dX11_surest_9 : decode cX11_surest 9 = .ok (.iload_n 3, 1) := by decide +kernel
theorem dX11_surest_10 : decode cX11_surest 10 = .ok (.invokestatic 158, 3) := by decide +kernel
theorem dX11_surest_13 : decode cX11_surest 13 = .ok (.ifCond .ne 18, 3) := by decide +kernel
theorem dX11_surest_16 : decode cX11_surest 16 = .ok (.aload_n 0, 1) := by decide +kernel
theorem dX11_surest_17 : decode cX11_surest 17 = .ok (.iload_n 1, 1) := by decide +kernel
theorem dX11_surest_18 : decode cX11_surest 18 = .ok (.iload_n 3, 1) := by decide +kernel
theorem dX11_surest_19 : decode cX11_surest 19 = .ok (.invokevirtual 224, 3) := by decide +kernel
theorem dX11_surest_22 : decode cX11_surest 22 = .ok (.iload_n 1, 1) := by decide +kernel
theorem dX11_surest_23 : decode cX11_surest 23 = .ok (.invokestatic 202, 3) := by decide +kernel
theorem dX11_surest_26 : decode cX11_surest 26 = .ok (.if_icmp .ne 5, 3) := by decide +kernel
theorem dX11_surest_29 : decode cX11_surest 29 = .ok (.iload_n 3, 1) := by decide +kernel
theorem dX11_surest_30 : decode cX11_surest 30 = .ok (.ireturn, 1) := by decide +kernel
theorem dX11_surest_31 : decode cX11_surest 31 = .ok (.iinc 3 1, 3) := by decide +kernel
theorem dX11_surest_34 : decode cX11_surest 34 = .ok (.goto (-32), 3) := by decide +kernel
theorem dX11_surest_37 : decode cX11_surest 37 = .ok (.aload_n 0, 1) := by decide +kernel
theorem dX11_surest_38 : decode cX11_surest 38 = .ok (.iload_n 1, 1) := by decide +kernel
theorem dX11_surest_39 : decode cX11_surest 39 = .ok (.iload_n 2, 1) := by decide +kernel
theorem dX11_surest_40 : decode cX11_surest 40 = .ok (.invokevirtual 227, 3) := by decide +kernel
theorem dX11_surest_43 : decode cX11_surest 43 = .ok (.ireturn, 1) := by decide +kernel
theorem dX11_halving_0 : decode cX11_halving 0 = .ok (.iconst (-1), 1) := by decide +kernel
theorem dX11_halving_1 : decode cX11_halving 1 = .ok (.istore_n 3, 1) := by decide +kernel
theorem dX11_halving_2 : decode cX11_halving 2 = .ok (.ldc 230, 2) := by decide +kernel
theorem dX11_halving_4 : decode cX11_halving 4 = .ok (.istore 4, 2) := by decide +kernel
theorem dX11_halving_6 : decode cX11_halving 6 = .ok (.iconst 0, 1) := by decide +kernel
theorem dX11_halving_7 : decode cX11_halving 7 = .ok (.istore 5, 2) := by decide +kernel
theorem dX11_halving_9 : decode cX11_halving 9 = .ok (.iload 5, 2) := by decide +kernel
theorem dX11_halving_11 : decode cX11_halving 11 = .ok (.bipush 10, 2) := by decide +kernel
theorem dX11_halving_13 : decode cX11_halving 13 = .ok (.if_icmp .ge 84, 3) := by decide +kernel
theorem dX11_halving_16 : decode cX11_halving 16 = .ok (.iconst 2, 1) := by decide +kernel
theorem dX11_halving_17 : decode cX11_halving 17 = .ok (.aload_n 0, 1) := by decide +kernel
theorem dX11_halving_18 : decode cX11_halving 18 = .ok (.iload_n 1, 1) := by decide +kernel
theorem dX11_halving_19 : decode cX11_halving 19 = .ok (.iload 5, 2) := by decide +kernel
theorem dX11_halving_21 : decode cX11_halving 21 = .ok (.invokevirtual 224, 3) := by decide +kernel
theorem dX11_halving_24 : decode cX11_halving 24 = .ok (.imul, 1) := by decide +kernel
theorem dX11_halving_25 : decode cX11_halving 25 = .ok (.iload_n 1, 1) := by decide +kernel
theorem dX11_halving_26 : decode cX11_halving 26 = .ok (.invokestatic 202, 3) := by decide +kernel
theorem dX11_halving_29 : decode cX11_halving 29 = .ok (.isub, 1) := by decide +kernel
theorem dX11_halving_30 : decode cX11_halving 30 = .ok (.istore 6, 2) := by decide +kernel
theorem dX11_halving_32 : decode cX11_halving 32 = .ok (.iload_n 2, 1) := by decide +kernel
theorem dX11_halving_33 : decode cX11_halving 33 = .ok (.iload 5, 2) := by decide +kernel
theorem dX11_halving_35 : decode cX11_halving 35 = .ok (.invokestatic 158, 3) := by decide +kernel
theorem dX11_halving_38 : decode cX11_halving 38 = .ok (.ifCond .eq 8, 3) := by decide +kernel
theorem dX11_halving_41 : decode cX11_halving 41 = .ok (.ldc 230, 2) := by decide +kernel
theorem dX11_halving_43 : decode cX11_halving 43 = .ok (.goto 16, 3) := by decide +kernel
theorem dX11_halving_46 : decode cX11_halving 46 = .ok (.iload 6, 2) := by decide +kernel
theorem dX11_halving_48 : decode cX11_halving 48 = .ok (.ifCond .ge 9, 3) := by decide +kernel
theorem dX11_halving_51 : decode cX11_halving 51 = .ok (.iload 6, 2) := by decide +kernel
theorem dX11_halving_53 : decode cX11_halving 53 = .ok (.ineg, 1) := by decide +kernel
theorem dX11_halving_54 : decode cX11_halving 54 = .ok (.goto 5, 3) := by decide +kernel
theorem dX11_halving_57 : decode cX11_halving 57 = .ok (.iload 6, 2) := by decide +kernel
theorem dX11_halving_59 : decode cX11_halving 59 = .ok (.istore 7, 2) := by decide +kernel
theorem dX11_halving_61 : decode cX11_halving 61 = .ok (.iload 7, 2) := by decide +kernel
theorem dX11_halving_63 : decode cX11_halving 63 = .ok (.iload 4, 2) := by decide +kernel
theorem dX11_halving_65 : decode cX11_halving 65 = .ok (.if_icmp .ge 8, 3) := by decide +kernel
theorem dX11_halving_68 : decode cX11_halving 68 = .ok (.iload 5, 2) := by decide +kernel
theorem dX11_halving_70 : decode cX11_halving 70 = .ok (.goto 4, 3) := by decide +kernel
theorem dX11_halving_73 : decode cX11_halving 73 = .ok (.iload_n 3, 1) := by decide +kernel
theorem dX11_halving_74 : decode cX11_halving 74 = .ok (.istore_n 3, 1) := by decide +kernel
theorem dX11_halving_75 : decode cX11_halving 75 = .ok (.iload 7, 2) := by decide +kernel
theorem dX11_halving_77 : decode cX11_halving 77 = .ok (.iload 4, 2) := by decide +kernel
theorem dX11_halving_79 : decode cX11_halving 79 = .ok (.if_icmp .ge 8, 3) := by decide +kernel
theorem dX11_halving_82 : decode cX11_halving 82 = .ok (.iload 7, 2) := by decide +kernel
theorem dX11_halving_84 : decode cX11_halving 84 = .ok (.goto 5, 3) := by decide +kernel
theorem dX11_halving_87 : decode cX11_halving 87 = .ok (.iload 4, 2) := by decide +kernel
theorem dX11_halving_89 : decode cX11_halving 89 = .ok (.istore 4, 2) := by decide +kernel
theorem dX11_halving_91 : decode cX11_halving 91 = .ok (.iinc 5 1, 3) := by decide +kernel
theorem dX11_halving_94 : decode cX11_halving 94 = .ok (.goto (-85), 3) := by decide +kernel
theorem dX11_halving_97 : decode cX11_halving 97 = .ok (.iload_n 3, 1) := by decide +kernel
theorem dX11_halving_98 : decode cX11_halving 98 = .ok (.ireturn, 1) := by decide +kernel
theorem dX11_firstOf_0 : decode cX11_firstOf 0 = .ok (.iload_n 1, 1) := by decide +kernel
theorem dX11_firstOf_1 : decode cX11_firstOf 1 = .ok (.ifCond .ne 10, 3) := by decide +kernel
theorem dX11_firstOf_4 : decode cX11_firstOf 4 = .ok (.aload_n 0, 1) := by decide +kernel
theorem dX11_firstOf_5 : decode cX11_firstOf 5 = .ok (.iload_n 1, 1) := by decide +kernel
theorem dX11_firstOf_6 : decode cX11_firstOf 6 = .ok (.iload_n 2, 1) := by decide +kernel
theorem dX11_firstOf_7 : decode cX11_firstOf 7 = .ok (.invokevirtual 227, 3) := by decide +kernel
theorem dX11_firstOf_10 : decode cX11_firstOf 10 = .ok (.ireturn, 1) := by decide +kernel
theorem dX11_firstOf_11 : decode cX11_firstOf 11 = .ok (.iconst 0, 1) := by decide +kernel
theorem dX11_firstOf_12 : decode cX11_firstOf 12 = .ok (.istore_n 3, 1) := by decide +kernel
theorem dX11_firstOf_13 : decode cX11_firstOf 13 = .ok (.iload_n 1, 1) := by decide +kernel
theorem dX11_firstOf_14 : decode cX11_firstOf 14 = .ok (.iload_n 3, 1) := by decide +kernel
theorem dX11_firstOf_15 : decode cX11_firstOf 15 = .ok (.invokestatic 158, 3) := by decide +kernel
theorem dX11_firstOf_18 : decode cX11_firstOf 18 = .ok (.ifCond .ne 9, 3) := by decide +kernel
theorem dX11_firstOf_21 : decode cX11_firstOf 21 = .ok (.iinc 3 1, 3) := by decide +kernel
theorem dX11_firstOf_24 : decode cX11_firstOf 24 = .ok (.goto (-11), 3) := by decide +kernel
theorem dX11_firstOf_27 : decode cX11_firstOf 27 = .ok (.aload_n 0, 1) := by decide +kernel
theorem dX11_firstOf_28 : decode cX11_firstOf 28 = .ok (.getfield 13, 3) := by decide +kernel
theorem dX11_firstOf_31 : decode cX11_firstOf 31 = .ok (.iload_n 3, 1) := by decide +kernel
theorem dX11_firstOf_32 : decode cX11_firstOf 32 = .ok (.iaload, 1) := by decide +kernel
theorem dX11_firstOf_33 : decode cX11_firstOf 33 = .ok (.iconst 0, 1) := by decide +kernel
theorem dX11_firstOf_34 : decode cX11_firstOf 34 = .ok (.invokestatic 95, 3) := by decide +kernel
theorem dX11_firstOf_37 : decode cX11_firstOf 37 = .ok (.istore 4, 2) := by decide +kernel
theorem dX11_firstOf_39 : decode cX11_firstOf 39 = .ok (.iload_n 2, 1) := by decide +kernel
theorem dX11_firstOf_40 : decode cX11_firstOf 40 = .ok (.iload 4, 2) := by decide +kernel
theorem dX11_firstOf_42 : decode cX11_firstOf 42 = .ok (.invokestatic 158, 3) := by decide +kernel
theorem dX11_firstOf_45 : decode cX11_firstOf 45 = .ok (.ifCond .eq 12, 3) := by decide +kernel
theorem dX11_firstOf_48 : decode cX11_firstOf 48 = .ok (.aload_n 0, 1) := by decide +kernel
theorem dX11_firstOf_49 : decode cX11_firstOf 49 = .ok (.iload_n 1, 1) := by decide +kernel
theorem dX11_firstOf_50 : decode cX11_firstOf 50 = .ok (.iload_n 2, 1) := by decide +kernel
theorem dX11_firstOf_51 : decode cX11_firstOf 51 = .ok (.invokevirtual 227, 3) := by decide +kernel
theorem dX11_firstOf_54 : decode cX11_firstOf 54 = .ok (.goto 5, 3) := by decide +kernel
theorem dX11_firstOf_57 : decode cX11_firstOf 57 = .ok (.iload 4, 2) := by decide +kernel
theorem dX11_firstOf_59 : decode cX11_firstOf 59 = .ok (.ireturn, 1) := by decide +kernel
theorem dX11_nextBy_0 : decode cX11_nextBy 0 = .ok (.iload_n 1, 1) := by decide +kernel
theorem dX11_nextBy_1 : decode cX11_nextBy 1 = .ok (.tableswitch 69 1 5 #[35, 42, 49, 56, 62], 35) := by decide +kernel
theorem dX11_nextBy_36 : decode cX11_nextBy 36 = .ok (.aload_n 0, 1) := by decide +kernel
theorem dX11_nextBy_37 : decode cX11_nextBy 37 = .ok (.iload_n 2, 1) := by decide +kernel
theorem dX11_nextBy_38 : decode cX11_nextBy 38 = .ok (.iload_n 3, 1) := by decide +kernel
theorem dX11_nextBy_39 : decode cX11_nextBy 39 = .ok (.invokevirtual 227, 3) := by decide +kernel
theorem dX11_nextBy_42 : decode cX11_nextBy 42 = .ok (.ireturn, 1) := by decide +kernel
theorem dX11_nextBy_43 : decode cX11_nextBy 43 = .ok (.aload_n 0, 1) := by decide +kernel
theorem dX11_nextBy_44 : decode cX11_nextBy 44 = .ok (.iload_n 2, 1) := by decide +kernel
theorem dX11_nextBy_45 : decode cX11_nextBy 45 = .ok (.iload_n 3, 1) := by decide +kernel
theorem dX11_nextBy_46 : decode cX11_nextBy 46 = .ok (.invokevirtual 231, 3) := by decide +kernel
theorem dX11_nextBy_49 : decode cX11_nextBy 49 = .ok (.ireturn, 1) := by decide +kernel
theorem dX11_nextBy_50 : decode cX11_nextBy 50 = .ok (.aload_n 0, 1) := by decide +kernel
theorem dX11_nextBy_51 : decode cX11_nextBy 51 = .ok (.iload_n 2, 1) := by decide +kernel
theorem dX11_nextBy_52 : decode cX11_nextBy 52 = .ok (.iload_n 3, 1) := by decide +kernel
theorem dX11_nextBy_53 : decode cX11_nextBy 53 = .ok (.invokevirtual 234, 3) := by decide +kernel
theorem dX11_nextBy_56 : decode cX11_nextBy 56 = .ok (.ireturn, 1) := by decide +kernel
theorem dX11_nextBy_57 : decode cX11_nextBy 57 = .ok (.iload_n 3, 1) := by decide +kernel
theorem dX11_nextBy_58 : decode cX11_nextBy 58 = .ok (.iconst 1, 1) := by decide +kernel
theorem dX11_nextBy_59 : decode cX11_nextBy 59 = .ok (.invokestatic 237, 3) := by decide +kernel
theorem dX11_nextBy_62 : decode cX11_nextBy 62 = .ok (.ireturn, 1) := by decide +kernel
theorem dX11_nextBy_63 : decode cX11_nextBy 63 = .ok (.aload_n 0, 1) := by decide +kernel
theorem dX11_nextBy_64 : decode cX11_nextBy 64 = .ok (.iload_n 2, 1) := by decide +kernel
theorem dX11_nextBy_65 : decode cX11_nextBy 65 = .ok (.iload_n 3, 1) := by decide +kernel
theorem dX11_nextBy_66 : decode cX11_nextBy 66 = .ok (.invokevirtual 241, 3) := by decide +kernel
theorem dX11_nextBy_69 : decode cX11_nextBy 69 = .ok (.ireturn, 1) := by decide +kernel
theorem dX11_nextBy_70 : decode cX11_nextBy 70 = .ok (.iload_n 3, 1) := by decide +kernel
theorem dX11_nextBy_71 : decode cX11_nextBy 71 = .ok (.iconst 0, 1) := by decide +kernel
theorem dX11_nextBy_72 : decode cX11_nextBy 72 = .ok (.invokestatic 237, 3) := by decide +kernel
theorem dX11_nextBy_75 : decode cX11_nextBy 75 = .ok (.ireturn, 1) := by decide +kernel
theorem dX11_lays_0 : decode cX11_lays 0 = .ok (.aload_n 1, 1) := by decide +kernel
theorem dX11_lays_1 : decode cX11_lays 1 = .ok (.iload_n 2, 1) := by decide +kernel
theorem dX11_lays_2 : decode cX11_lays 2 = .ok (.aload_n 0, 1) := by decide +kernel
theorem dX11_lays_3 : decode cX11_lays 3 = .ok (.getfield 82, 3) := by decide +kernel
theorem dX11_lays_6 : decode cX11_lays 6 = .ok (.iastore, 1) := by decide +kernel
theorem dX11_lays_7 : decode cX11_lays 7 = .ok (.aload_n 1, 1) := by decide +kernel
theorem dX11_lays_8 : decode cX11_lays 8 = .ok (.iload_n 2, 1) := by decide +kernel
theorem dX11_lays_9 : decode cX11_lays 9 = .ok (.iconst 1, 1) := by decide +kernel
theorem dX11_lays_10 : decode cX11_lays 10 = .ok (.iadd, 1) := by decide +kernel
theorem dX11_lays_11 : decode cX11_lays 11 = .ok (.aload_n 0, 1) := by decide +kernel
theorem dX11_lays_12 : decode cX11_lays 12 = .ok (.getfield 85, 3) := by decide +kernel
theorem dX11_lays_15 : decode cX11_lays 15 = .ok (.iastore, 1) := by decide +kernel
theorem dX11_lays_16 : decode cX11_lays 16 = .ok (.aload_n 1, 1) := by decide +kernel
theorem dX11_lays_17 : decode cX11_lays 17 = .ok (.iload_n 2, 1) := by decide +kernel
theorem dX11_lays_18 : decode cX11_lays 18 = .ok (.iconst 2, 1) := by decide +kernel
theorem dX11_lays_19 : decode cX11_lays 19 = .ok (.iadd, 1) := by decide +kernel
theorem dX11_lays_20 : decode cX11_lays 20 = .ok (.aload_n 0, 1) := by decide +kernel
theorem dX11_lays_21 : decode cX11_lays 21 = .ok (.getfield 88, 3) := by decide +kernel
theorem dX11_lays_24 : decode cX11_lays 24 = .ok (.iastore, 1) := by decide +kernel
theorem dX11_lays_25 : decode cX11_lays 25 = .ok (.aload_n 1, 1) := by decide +kernel
theorem dX11_lays_26 : decode cX11_lays 26 = .ok (.iload_n 2, 1) := by decide +kernel
theorem dX11_lays_27 : decode cX11_lays 27 = .ok (.iconst 3, 1) := by decide +kernel
theorem dX11_lays_28 : decode cX11_lays 28 = .ok (.iadd, 1) := by decide +kernel
theorem dX11_lays_29 : decode cX11_lays 29 = .ok (.aload_n 0, 1) := by decide +kernel
theorem dX11_lays_30 : decode cX11_lays 30 = .ok (.getfield 67, 3) := by decide +kernel
theorem dX11_lays_33 : decode cX11_lays 33 = .ok (.iastore, 1) := by decide +kernel
theorem dX11_lays_34 : decode cX11_lays 34 = .ok (.return_, 1) := by decide +kernel
theorem dX11_takes_0 : decode cX11_takes 0 = .ok (.aload_n 0, 1) := by decide +kernel
theorem dX11_takes_1 : decode cX11_takes 1 = .ok (.aload_n 1, 1) := by decide +kernel
theorem dX11_takes_2 : decode cX11_takes 2 = .ok (.iload_n 2, 1) := by decide +kernel
theorem dX11_takes_3 : decode cX11_takes 3 = .ok (.iaload, 1) := by decide +kernel
theorem dX11_takes_4 : decode cX11_takes 4 = .ok (.putfield 82, 3) := by decide +kernel
theorem dX11_takes_7 : decode cX11_takes 7 = .ok (.aload_n 0, 1) := by decide +kernel
theorem dX11_takes_8 : decode cX11_takes 8 = .ok (.aload_n 1, 1) := by decide +kernel
theorem dX11_takes_9 : decode cX11_takes 9 = .ok (.iload_n 2, 1) := by decide +kernel
theorem dX11_takes_10 : decode cX11_takes 10 = .ok (.iconst 1, 1) := by decide +kernel
theorem dX11_takes_11 : decode cX11_takes 11 = .ok (.iadd, 1) := by decide +kernel
theorem dX11_takes_12 : decode cX11_takes 12 = .ok (.iaload, 1) := by decide +kernel
theorem dX11_takes_13 : decode cX11_takes 13 = .ok (.putfield 85, 3) := by decide +kernel
theorem dX11_takes_16 : decode cX11_takes 16 = .ok (.aload_n 0, 1) := by decide +kernel
theorem dX11_takes_17 : decode cX11_takes 17 = .ok (.aload_n 1, 1) := by decide +kernel
theorem dX11_takes_18 : decode cX11_takes 18 = .ok (.iload_n 2, 1) := by decide +kernel
theorem dX11_takes_19 : decode cX11_takes 19 = .ok (.iconst 2, 1) := by decide +kernel
theorem dX11_takes_20 : decode cX11_takes 20 = .ok (.iadd, 1) := by decide +kernel
theorem dX11_takes_21 : decode cX11_takes 21 = .ok (.iaload, 1) := by decide +kernel
theorem dX11_takes_22 : decode cX11_takes 22 = .ok (.putfield 88, 3) := by decide +kernel
theorem dX11_takes_25 : decode cX11_takes 25 = .ok (.aload_n 0, 1) := by decide +kernel
theorem dX11_takes_26 : decode cX11_takes 26 = .ok (.aload_n 1, 1) := by decide +kernel
theorem dX11_takes_27 : decode cX11_takes 27 = .ok (.iload_n 2, 1) := by decide +kernel
theorem dX11_takes_28 : decode cX11_takes 28 = .ok (.iconst 3, 1) := by decide +kernel
theorem dX11_takes_29 : decode cX11_takes 29 = .ok (.iadd, 1) := by decide +kernel
theorem dX11_takes_30 : decode cX11_takes 30 = .ok (.iaload, 1) := by decide +kernel
theorem dX11_takes_31 : decode cX11_takes 31 = .ok (.putfield 67, 3) := by decide +kernel
theorem dX11_takes_34 : decode cX11_takes 34 = .ok (.return_, 1) := by decide +kernel
theorem dX11_notes_0 : decode cX11_notes 0 = .ok (.aload_n 0, 1) := by decide +kernel
theorem dX11_notes_1 : decode cX11_notes 1 = .ok (.getfield 76, 3) := by decide +kernel
theorem dX11_notes_4 : decode cX11_notes 4 = .ok (.bipush 8, 2) := by decide +kernel
theorem dX11_notes_6 : decode cX11_notes 6 = .ok (.if_icmp .ne 41, 3) := by decide +kernel
theorem dX11_notes_9 : decode cX11_notes 9 = .ok (.iconst 0, 1) := by decide +kernel
theorem dX11_notes_10 : decode cX11_notes 10 = .ok (.istore_n 1, 1) := by decide +kernel
theorem dX11_notes_11 : decode cX11_notes 11 = .ok (.iload_n 1, 1) := by decide +kernel
theorem dX11_notes_12 : decode cX11_notes 12 = .ok (.bipush 28, 2) := by decide +kernel
theorem dX11_notes_14 : decode cX11_notes 14 = .ok (.if_icmp .ge 23, 3) := by decide +kernel
theorem dX11_notes_17 : decode cX11_notes 17 = .ok (.aload_n 0, 1) := by decide +kernel
theorem dX11_notes_18 : decode cX11_notes 18 = .ok (.getfield 31, 3) := by decide +kernel
theorem dX11_notes_21 : decode cX11_notes 21 = .ok (.iload_n 1, 1) := by decide +kernel
theorem dX11_notes_22 : decode cX11_notes 22 = .ok (.aload_n 0, 1) := by decide +kernel
theorem dX11_notes_23 : decode cX11_notes 23 = .ok (.getfield 31, 3) := by decide +kernel
theorem dX11_notes_26 : decode cX11_notes 26 = .ok (.iload_n 1, 1) := by decide +kernel
theorem dX11_notes_27 : decode cX11_notes 27 = .ok (.iconst 4, 1) := by decide +kernel
theorem dX11_notes_28 : decode cX11_notes 28 = .ok (.iadd, 1) := by decide +kernel
theorem dX11_notes_29 : decode cX11_notes 29 = .ok (.iaload, 1) := by decide +kernel
theorem dX11_notes_30 : decode cX11_notes 30 = .ok (.iastore, 1) := by decide +kernel
theorem dX11_notes_31 : decode cX11_notes 31 = .ok (.iinc 1 1, 3) := by decide +kernel
theorem dX11_notes_34 : decode cX11_notes 34 = .ok (.goto (-23), 3) := by decide +kernel
theorem dX11_notes_37 : decode cX11_notes 37 = .ok (.aload_n 0, 1) := by decide +kernel
theorem dX11_notes_38 : decode cX11_notes 38 = .ok (.dup, 1) := by decide +kernel
theorem dX11_notes_39 : decode cX11_notes 39 = .ok (.getfield 76, 3) := by decide +kernel
theorem dX11_notes_42 : decode cX11_notes 42 = .ok (.iconst 1, 1) := by decide +kernel
theorem dX11_notes_43 : decode cX11_notes 43 = .ok (.isub, 1) := by decide +kernel
theorem dX11_notes_44 : decode cX11_notes 44 = .ok (.putfield 76, 3) := by decide +kernel
theorem dX11_notes_47 : decode cX11_notes 47 = .ok (.aload_n 0, 1) := by decide +kernel
theorem dX11_notes_48 : decode cX11_notes 48 = .ok (.aload_n 0, 1) := by decide +kernel
theorem dX11_notes_49 : decode cX11_notes 49 = .ok (.getfield 31, 3) := by decide +kernel
theorem dX11_notes_52 : decode cX11_notes 52 = .ok (.iconst 4, 1) := by decide +kernel
theorem dX11_notes_53 : decode cX11_notes 53 = .ok (.aload_n 0, 1) := by decide +kernel
theorem dX11_notes_54 : decode cX11_notes 54 = .ok (.getfield 76, 3) := by decide +kernel
theorem dX11_notes_57 : decode cX11_notes 57 = .ok (.imul, 1) := by decide +kernel
theorem dX11_notes_58 : decode cX11_notes 58 = .ok (.invokevirtual 244, 3) := by decide +kernel
theorem dX11_notes_61 : decode cX11_notes 61 = .ok (.aload_n 0, 1) := by decide +kernel
theorem dX11_notes_62 : decode cX11_notes 62 = .ok (.dup, 1) := by decide +kernel
theorem dX11_notes_63 : decode cX11_notes 63 = .ok (.getfield 76, 3) := by decide +kernel
theorem dX11_notes_66 : decode cX11_notes 66 = .ok (.iconst 1, 1) := by decide +kernel
theorem dX11_notes_67 : decode cX11_notes 67 = .ok (.iadd, 1) := by decide +kernel
theorem dX11_notes_68 : decode cX11_notes 68 = .ok (.putfield 76, 3) := by decide +kernel
theorem dX11_notes_71 : decode cX11_notes 71 = .ok (.return_, 1) := by decide +kernel
theorem dX11_mayGuess_0 : decode cX11_mayGuess 0 = .ok (.aload_n 0, 1) := by decide +kernel
theorem dX11_mayGuess_1 : decode cX11_mayGuess 1 = .ok (.getfield 82, 3) := by decide +kernel
theorem dX11_mayGuess_4 : decode cX11_mayGuess 4 = .ok (.iload_n 1, 1) := by decide +kernel
theorem dX11_mayGuess_5 : decode cX11_mayGuess 5 = .ok (.invokestatic 158, 3) := by decide +kernel
theorem dX11_mayGuess_8 : decode cX11_mayGuess 8 = .ok (.ifCond .ne 14, 3) := by decide +kernel
theorem dX11_mayGuess_11 : decode cX11_mayGuess 11 = .ok (.aload_n 0, 1) := by decide +kernel
theorem dX11_mayGuess_12 : decode cX11_mayGuess 12 = .ok (.getfield 85, 3) := by decide +kernel
theorem dX11_mayGuess_15 : decode cX11_mayGuess 15 = .ok (.ifCond .eq 7, 3) := by decide +kernel
theorem dX11_mayGuess_18 : decode cX11_mayGuess 18 = .ok (.iconst 1, 1) := by decide +kernel
theorem dX11_mayGuess_19 : decode cX11_mayGuess 19 = .ok (.goto 4, 3) := by decide +kernel
theorem dX11_mayGuess_22 : decode cX11_mayGuess 22 = .ok (.iconst 0, 1) := by decide +kernel
theorem dX11_mayGuess_23 : decode cX11_mayGuess 23 = .ok (.ireturn, 1) := by decide +kernel
theorem dX11_guess_0 : decode cX11_guess 0 = .ok (.iload_n 1, 1) := by decide +kernel
theorem dX11_guess_1 : decode cX11_guess 1 = .ok (.invokestatic 247, 3) := by decide +kernel
theorem dX11_guess_4 : decode cX11_guess 4 = .ok (.ifCond .ne 8, 3) := by decide +kernel
theorem dX11_guess_7 : decode cX11_guess 7 = .ok (.aload_n 0, 1) := by decide +kernel
theorem dX11_guess_8 : decode cX11_guess 8 = .ok (.invokevirtual 106, 3) := by decide +kernel
theorem dX11_guess_11 : decode cX11_guess 11 = .ok (.ireturn, 1) := by decide +kernel
theorem dX11_guess_12 : decode cX11_guess 12 = .ok (.aload_n 0, 1) := by decide +kernel
theorem dX11_guess_13 : decode cX11_guess 13 = .ok (.iload_n 1, 1) := by decide +kernel
theorem dX11_guess_14 : decode cX11_guess 14 = .ok (.invokevirtual 250, 3) := by decide +kernel
theorem dX11_guess_17 : decode cX11_guess 17 = .ok (.ifCond .ne 8, 3) := by decide +kernel
theorem dX11_guess_20 : decode cX11_guess 20 = .ok (.aload_n 0, 1) := by decide +kernel
theorem dX11_guess_21 : decode cX11_guess 21 = .ok (.invokevirtual 113, 3) := by decide +kernel
theorem dX11_guess_24 : decode cX11_guess 24 = .ok (.ireturn, 1) := by decide +kernel
theorem dX11_guess_25 : decode cX11_guess 25 = .ok (.aload_n 0, 1) := by decide +kernel
theorem dX11_guess_26 : decode cX11_guess 26 = .ok (.invokevirtual 253, 3) := by decide +kernel
theorem dX11_guess_29 : decode cX11_guess 29 = .ok (.aload_n 0, 1) := by decide +kernel
theorem dX11_guess_30 : decode cX11_guess 30 = .ok (.iload_n 1, 1) := by decide +kernel
theorem dX11_guess_31 : decode cX11_guess 31 = .ok (.invokevirtual 161, 3) := by decide +kernel
theorem dX11_guess_34 : decode cX11_guess 34 = .ok (.ireturn, 1) := by decide +kernel
theorem dX11_secret_0 : decode cX11_secret 0 = .ok (.aload_n 0, 1) := by decide +kernel
theorem dX11_secret_1 : decode cX11_secret 1 = .ok (.iload_n 1, 1) := by decide +kernel
theorem dX11_secret_2 : decode cX11_secret 2 = .ok (.invokevirtual 256, 3) := by decide +kernel
theorem dX11_secret_5 : decode cX11_secret 5 = .ok (.ifCond .ne 8, 3) := by decide +kernel
theorem dX11_secret_8 : decode cX11_secret 8 = .ok (.aload_n 0, 1) := by decide +kernel
theorem dX11_secret_9 : decode cX11_secret 9 = .ok (.invokevirtual 106, 3) := by decide +kernel
theorem dX11_secret_12 : decode cX11_secret 12 = .ok (.ireturn, 1) := by decide +kernel
theorem dX11_secret_13 : decode cX11_secret 13 = .ok (.aload_n 0, 1) := by decide +kernel
theorem dX11_secret_14 : decode cX11_secret 14 = .ok (.getfield 67, 3) := by decide +kernel
theorem dX11_secret_17 : decode cX11_secret 17 = .ok (.iload_n 1, 1) := by decide +kernel
theorem dX11_secret_18 : decode cX11_secret 18 = .ok (.if_icmp .ne 8, 3) := by decide +kernel
theorem dX11_secret_21 : decode cX11_secret 21 = .ok (.aload_n 0, 1) := by decide +kernel
theorem dX11_secret_22 : decode cX11_secret 22 = .ok (.invokevirtual 113, 3) := by decide +kernel
theorem dX11_secret_25 : decode cX11_secret 25 = .ok (.ireturn, 1) := by decide +kernel
theorem dX11_secret_26 : decode cX11_secret 26 = .ok (.aload_n 0, 1) := by decide +kernel
theorem dX11_secret_27 : decode cX11_secret 27 = .ok (.invokevirtual 253, 3) := by decide +kernel
theorem dX11_secret_30 : decode cX11_secret 30 = .ok (.aload_n 0, 1) := by decide +kernel
theorem dX11_secret_31 : decode cX11_secret 31 = .ok (.getfield 67, 3) := by decide +kernel
theorem dX11_secret_34 : decode cX11_secret 34 = .ok (.istore_n 2, 1) := by decide +kernel
theorem dX11_secret_35 : decode cX11_secret 35 = .ok (.aload_n 0, 1) := by decide +kernel
theorem dX11_secret_36 : decode cX11_secret 36 = .ok (.iload_n 1, 1) := by decide +kernel
theorem dX11_secret_37 : decode cX11_secret 37 = .ok (.putfield 67, 3) := by decide +kernel
theorem dX11_secret_40 : decode cX11_secret 40 = .ok (.iload_n 2, 1) := by decide +kernel
theorem dX11_secret_41 : decode cX11_secret 41 = .ok (.ireturn, 1) := by decide +kernel
theorem dX11_anew_0 : decode cX11_anew 0 = .ok (.aload_n 0, 1) := by decide +kernel
theorem dX11_anew_1 : decode cX11_anew 1 = .ok (.invokevirtual 253, 3) := by decide +kernel
theorem dX11_anew_4 : decode cX11_anew 4 = .ok (.aload_n 0, 1) := by decide +kernel
theorem dX11_anew_5 : decode cX11_anew 5 = .ok (.getfield 88, 3) := by decide +kernel
theorem dX11_anew_8 : decode cX11_anew 8 = .ok (.istore_n 1, 1) := by decide +kernel
theorem dX11_anew_9 : decode cX11_anew 9 = .ok (.aload_n 0, 1) := by decide +kernel
theorem dX11_anew_10 : decode cX11_anew 10 = .ok (.invokevirtual 79, 3) := by decide +kernel
theorem dX11_anew_13 : decode cX11_anew 13 = .ok (.iload_n 1, 1) := by decide +kernel
theorem dX11_anew_14 : decode cX11_anew 14 = .ok (.ireturn, 1) := by decide +kernel
theorem dX11_undo_0 : decode cX11_undo 0 = .ok (.aload_n 0, 1) := by decide +kernel
theorem dX11_undo_1 : decode cX11_undo 1 = .ok (.getfield 76, 3) := by decide +kernel
theorem dX11_undo_4 : decode cX11_undo 4 = .ok (.ifCond .ne 8, 3) := by decide +kernel
theorem dX11_undo_7 : decode cX11_undo 7 = .ok (.aload_n 0, 1) := by decide +kernel
theorem dX11_undo_8 : decode cX11_undo 8 = .ok (.invokevirtual 113, 3) := by decide +kernel
theorem dX11_undo_11 : decode cX11_undo 11 = .ok (.ireturn, 1) := by decide +kernel
theorem dX11_undo_12 : decode cX11_undo 12 = .ok (.aload_n 0, 1) := by decide +kernel
theorem dX11_undo_13 : decode cX11_undo 13 = .ok (.dup, 1) := by decide +kernel
theorem dX11_undo_14 : decode cX11_undo 14 = .ok (.getfield 76, 3) := by decide +kernel
theorem dX11_undo_17 : decode cX11_undo 17 = .ok (.iconst 1, 1) := by decide +kernel
theorem dX11_undo_18 : decode cX11_undo 18 = .ok (.isub, 1) := by decide +kernel
theorem dX11_undo_19 : decode cX11_undo 19 = .ok (.putfield 76, 3) := by decide +kernel
theorem dX11_undo_22 : decode cX11_undo 22 = .ok (.aload_n 0, 1) := by decide +kernel
theorem dX11_undo_23 : decode cX11_undo 23 = .ok (.aload_n 0, 1) := by decide +kernel
theorem dX11_undo_24 : decode cX11_undo 24 = .ok (.getfield 31, 3) := by decide +kernel
theorem dX11_undo_27 : decode cX11_undo 27 = .ok (.iconst 4, 1) := by decide +kernel
theorem dX11_undo_28 : decode cX11_undo 28 = .ok (.aload_n 0, 1) := by decide +kernel
theorem dX11_undo_29 : decode cX11_undo 29 = .ok (.getfield 76, 3) := by decide +kernel
theorem dX11_undo_32 : decode cX11_undo 32 = .ok (.imul, 1) := by decide +kernel
theorem dX11_undo_33 : decode cX11_undo 33 = .ok (.invokevirtual 259, 3) := by decide +kernel
theorem dX11_undo_36 : decode cX11_undo 36 = .ok (.aload_n 0, 1) := by decide +kernel
theorem dX11_undo_37 : decode cX11_undo 37 = .ok (.getfield 88, 3) := by decide +kernel
theorem dX11_undo_40 : decode cX11_undo 40 = .ok (.ireturn, 1) := by decide +kernel
theorem dX11_of_0 : decode cX11_of 0 = .ok (.aload_n 0, 1) := by decide +kernel
theorem dX11_of_1 : decode cX11_of 1 = .ok (.iload_n 1, 1) := by decide +kernel
theorem dX11_of_2 : decode cX11_of 2 = .ok (.invokevirtual 256, 3) := by decide +kernel
theorem dX11_of_5 : decode cX11_of 5 = .ok (.ifCond .eq 12, 3) := by decide +kernel
theorem dX11_of_8 : decode cX11_of 8 = .ok (.iload_n 2, 1) := by decide +kernel
theorem dX11_of_9 : decode cX11_of 9 = .ok (.iconst 0, 1) := by decide +kernel
theorem dX11_of_10 : decode cX11_of 10 = .ok (.iconst 1, 1) := by decide +kernel
theorem dX11_of_11 : decode cX11_of 11 = .ok (.invokestatic 91, 3) := by decide +kernel
theorem dX11_of_14 : decode cX11_of 14 = .ok (.ifCond .ne 8, 3) := by decide +kernel
theorem dX11_of_17 : decode cX11_of 17 = .ok (.aload_n 0, 1) := by decide +kernel
theorem dX11_of_18 : decode cX11_of 18 = .ok (.invokevirtual 106, 3) := by decide +kernel
theorem dX11_of_21 : decode cX11_of 21 = .ok (.ireturn, 1) := by decide +kernel
theorem dX11_of_22 : decode cX11_of 22 = .ok (.iload_n 2, 1) := by decide +kernel
theorem dX11_of_23 : decode cX11_of 23 = .ok (.ifCond .ne 12, 3) := by decide +kernel
theorem dX11_of_26 : decode cX11_of 26 = .ok (.aload_n 0, 1) := by decide +kernel
theorem dX11_of_27 : decode cX11_of 27 = .ok (.getfield 13, 3) := by decide +kernel
theorem dX11_of_30 : decode cX11_of 30 = .ok (.iload_n 1, 1) := by decide +kernel
theorem dX11_of_31 : decode cX11_of 31 = .ok (.iaload, 1) := by decide +kernel
theorem dX11_of_32 : decode cX11_of 32 = .ok (.goto 11, 3) := by decide +kernel
theorem dX11_of_35 : decode cX11_of 35 = .ok (.aload_n 0, 1) := by decide +kernel
theorem dX11_of_36 : decode cX11_of 36 = .ok (.getfield 85, 3) := by decide +kernel
theorem dX11_of_39 : decode cX11_of 39 = .ok (.iload_n 1, 1) := by decide +kernel
theorem dX11_of_40 : decode cX11_of 40 = .ok (.ishr, 1) := by decide +kernel
theorem dX11_of_41 : decode cX11_of 41 = .ok (.iconst 1, 1) := by decide +kernel
theorem dX11_of_42 : decode cX11_of 42 = .ok (.iand, 1) := by decide +kernel
theorem dX11_of_43 : decode cX11_of 43 = .ok (.ireturn, 1) := by decide +kernel
theorem dX11_mask_0 : decode cX11_mask 0 = .ok (.aload_n 0, 1) := by decide +kernel
theorem dX11_mask_1 : decode cX11_mask 1 = .ok (.iload_n 1, 1) := by decide +kernel
theorem dX11_mask_2 : decode cX11_mask 2 = .ok (.invokevirtual 256, 3) := by decide +kernel
theorem dX11_mask_5 : decode cX11_mask 5 = .ok (.ifCond .eq 19, 3) := by decide +kernel
theorem dX11_mask_8 : decode cX11_mask 8 = .ok (.iload_n 2, 1) := by decide +kernel
theorem dX11_mask_9 : decode cX11_mask 9 = .ok (.invokestatic 247, 3) := by decide +kernel
theorem dX11_mask_12 : decode cX11_mask 12 = .ok (.ifCond .eq 12, 3) := by decide +kernel
theorem dX11_mask_15 : decode cX11_mask 15 = .ok (.aload_n 0, 1) := by decide +kernel
theorem dX11_mask_16 : decode cX11_mask 16 = .ok (.iload_n 1, 1) := by decide +kernel
theorem dX11_mask_17 : decode cX11_mask 17 = .ok (.iload_n 2, 1) := by decide +kernel
theorem dX11_mask_18 : decode cX11_mask 18 = .ok (.invokevirtual 192, 3) := by decide +kernel
theorem dX11_mask_21 : decode cX11_mask 21 = .ok (.goto 7, 3) := by decide +kernel
theorem dX11_mask_24 : decode cX11_mask 24 = .ok (.aload_n 0, 1) := by decide +kernel
theorem dX11_mask_25 : decode cX11_mask 25 = .ok (.invokevirtual 106, 3) := by decide +kernel
theorem dX11_mask_28 : decode cX11_mask 28 = .ok (.ireturn, 1) := by decide +kernel
theorem dX11_answer_0 : decode cX11_answer 0 = .ok (.iload_n 1, 1) := by decide +kernel
theorem dX11_answer_1 : decode cX11_answer 1 = .ok (.invokestatic 247, 3) := by decide +kernel
theorem dX11_answer_4 : decode cX11_answer 4 = .ok (.ifCond .ne 8, 3) := by decide +kernel
theorem dX11_answer_7 : decode cX11_answer 7 = .ok (.aload_n 0, 1) := by decide +kernel
theorem dX11_answer_8 : decode cX11_answer 8 = .ok (.invokevirtual 106, 3) := by decide +kernel
theorem dX11_answer_11 : decode cX11_answer 11 = .ok (.ireturn, 1) := by decide +kernel
theorem dX11_answer_12 : decode cX11_answer 12 = .ok (.aload_n 0, 1) := by decide +kernel
theorem dX11_answer_13 : decode cX11_answer 13 = .ok (.iload_n 1, 1) := by decide +kernel
theorem dX11_answer_14 : decode cX11_answer 14 = .ok (.invokevirtual 250, 3) := by decide +kernel
theorem dX11_answer_17 : decode cX11_answer 17 = .ok (.ifCond .eq 26, 3) := by decide +kernel
theorem dX11_answer_20 : decode cX11_answer 20 = .ok (.aload_n 0, 1) := by decide +kernel
theorem dX11_answer_21 : decode cX11_answer 21 = .ok (.aload_n 0, 1) := by decide +kernel
theorem dX11_answer_22 : decode cX11_answer 22 = .ok (.getfield 64, 3) := by decide +kernel
theorem dX11_answer_25 : decode cX11_answer 25 = .ok (.aload_n 0, 1) := by decide +kernel
theorem dX11_answer_26 : decode cX11_answer 26 = .ok (.getfield 85, 3) := by decide +kernel
theorem dX11_answer_29 : decode cX11_answer 29 = .ok (.aload_n 0, 1) := by decide +kernel
theorem dX11_answer_30 : decode cX11_answer 30 = .ok (.getfield 82, 3) := by decide +kernel
theorem dX11_answer_33 : decode cX11_answer 33 = .ok (.invokestatic 202, 3) := by decide +kernel
theorem dX11_answer_36 : decode cX11_answer 36 = .ok (.iload_n 1, 1) := by decide +kernel
theorem dX11_answer_37 : decode cX11_answer 37 = .ok (.invokevirtual 214, 3) := by decide +kernel
theorem dX11_answer_40 : decode cX11_answer 40 = .ok (.goto 7, 3) := by decide +kernel
theorem dX11_answer_43 : decode cX11_answer 43 = .ok (.aload_n 0, 1) := by decide +kernel
theorem dX11_answer_44 : decode cX11_answer 44 = .ok (.invokevirtual 113, 3) := by decide +kernel
theorem dX11_answer_47 : decode cX11_answer 47 = .ok (.ireturn, 1) := by decide +kernel
theorem dX11_partsBy_0 : decode cX11_partsBy 0 = .ok (.iconst 0, 1) := by decide +kernel
theorem dX11_partsBy_1 : decode cX11_partsBy 1 = .ok (.istore 4, 2) := by decide +kernel
theorem dX11_partsBy_3 : decode cX11_partsBy 3 = .ok (.iconst 0, 1) := by decide +kernel
theorem dX11_partsBy_4 : decode cX11_partsBy 4 = .ok (.istore 5, 2) := by decide +kernel
theorem dX11_partsBy_6 : decode cX11_partsBy 6 = .ok (.iconst 0, 1) := by decide +kernel
theorem dX11_partsBy_7 : decode cX11_partsBy 7 = .ok (.istore 6, 2) := by decide +kernel
theorem dX11_partsBy_9 : decode cX11_partsBy 9 = .ok (.iload 6, 2) := by decide +kernel
theorem dX11_partsBy_11 : decode cX11_partsBy 11 = .ok (.bipush 16, 2) := by decide +kernel
theorem dX11_partsBy_13 : decode cX11_partsBy 13 = .ok (.if_icmp .ge 50, 3) := by decide +kernel
theorem dX11_partsBy_16 : decode cX11_partsBy 16 = .ok (.aload_n 0, 1) := by decide +kernel
theorem dX11_partsBy_17 : decode cX11_partsBy 17 = .ok (.iload_n 1, 1) := by decide +kernel
theorem dX11_partsBy_18 : decode cX11_partsBy 18 = .ok (.iload_n 2, 1) := by decide +kernel
theorem dX11_partsBy_19 : decode cX11_partsBy 19 = .ok (.iload 6, 2) := by decide +kernel
theorem dX11_partsBy_21 : decode cX11_partsBy 21 = .ok (.invokevirtual 195, 3) := by decide +kernel
theorem dX11_partsBy_24 : decode cX11_partsBy 24 = .ok (.istore 7, 2) := by decide +kernel
theorem dX11_partsBy_26 : decode cX11_partsBy 26 = .ok (.iload 4, 2) := by decide +kernel
theorem dX11_partsBy_28 : decode cX11_partsBy 28 = .ok (.iload 7, 2) := by decide +kernel
theorem dX11_partsBy_30 : decode cX11_partsBy 30 = .ok (.ifCond .le 7, 3) := by decide +kernel
theorem dX11_partsBy_33 : decode cX11_partsBy 33 = .ok (.iconst 1, 1) := by decide +kernel
theorem dX11_partsBy_34 : decode cX11_partsBy 34 = .ok (.goto 4, 3) := by decide +kernel
theorem dX11_partsBy_37 : decode cX11_partsBy 37 = .ok (.iconst 0, 1) := by decide +kernel
theorem dX11_partsBy_38 : decode cX11_partsBy 38 = .ok (.iadd, 1) := by decide +kernel
theorem dX11_partsBy_39 : decode cX11_partsBy 39 = .ok (.istore 4, 2) := by decide +kernel
theorem dX11_partsBy_41 : decode cX11_partsBy 41 = .ok (.iload 7, 2) := by decide +kernel
theorem dX11_partsBy_43 : decode cX11_partsBy 43 = .ok (.iload 5, 2) := by decide +kernel
theorem dX11_partsBy_45 : decode cX11_partsBy 45 = .ok (.if_icmp .le 8, 3) := by decide +kernel
theorem dX11_partsBy_48 : decode cX11_partsBy 48 = .ok (.iload 7, 2) := by decide +kernel
theorem dX11_partsBy_50 : decode cX11_partsBy 50 = .ok (.goto 5, 3) := by decide +kernel
theorem dX11_partsBy_53 : decode cX11_partsBy 53 = .ok (.iload 5, 2) := by decide +kernel
theorem dX11_partsBy_55 : decode cX11_partsBy 55 = .ok (.istore 5, 2) := by decide +kernel
theorem dX11_partsBy_57 : decode cX11_partsBy 57 = .ok (.iinc 6 1, 3) := by decide +kernel
theorem dX11_partsBy_60 : decode cX11_partsBy 60 = .ok (.goto (-51), 3) := by decide +kernel
theorem dX11_partsBy_63 : decode cX11_partsBy 63 = .ok (.iload_n 3, 1) := by decide +kernel
theorem dX11_partsBy_64 : decode cX11_partsBy 64 = .ok (.ifCond .eq 8, 3) := by decide +kernel
theorem dX11_partsBy_67 : decode cX11_partsBy 67 = .ok (.iload 5, 2) := by decide +kernel
theorem dX11_partsBy_69 : decode cX11_partsBy 69 = .ok (.goto 5, 3) := by decide +kernel
theorem dX11_partsBy_72 : decode cX11_partsBy 72 = .ok (.iload 4, 2) := by decide +kernel
theorem dX11_partsBy_74 : decode cX11_partsBy 74 = .ok (.ireturn, 1) := by decide +kernel
theorem dX11_parts_0 : decode cX11_parts 0 = .ok (.iload_n 1, 1) := by decide +kernel
theorem dX11_parts_1 : decode cX11_parts 1 = .ok (.invokestatic 247, 3) := by decide +kernel
theorem dX11_parts_4 : decode cX11_parts 4 = .ok (.ifCond .eq 34, 3) := by decide +kernel
theorem dX11_parts_7 : decode cX11_parts 7 = .ok (.iload_n 2, 1) := by decide +kernel
theorem dX11_parts_8 : decode cX11_parts 8 = .ok (.iconst 0, 1) := by decide +kernel
theorem dX11_parts_9 : decode cX11_parts 9 = .ok (.iconst 1, 1) := by decide +kernel
theorem dX11_parts_10 : decode cX11_parts 10 = .ok (.invokestatic 91, 3) := by decide +kernel
theorem dX11_parts_13 : decode cX11_parts 13 = .ok (.ifCond .eq 25, 3) := by decide +kernel
theorem dX11_parts_16 : decode cX11_parts 16 = .ok (.aload_n 0, 1) := by decide +kernel
theorem dX11_parts_17 : decode cX11_parts 17 = .ok (.aload_n 0, 1) := by decide +kernel
theorem dX11_parts_18 : decode cX11_parts 18 = .ok (.getfield 85, 3) := by decide +kernel
theorem dX11_parts_21 : decode cX11_parts 21 = .ok (.iload_n 1, 1) := by decide +kernel
theorem dX11_parts_22 : decode cX11_parts 22 = .ok (.iload_n 2, 1) := by decide +kernel
theorem dX11_parts_23 : decode cX11_parts 23 = .ok (.iconst 1, 1) := by decide +kernel
theorem dX11_parts_24 : decode cX11_parts 24 = .ok (.if_icmp .ne 7, 3) := by decide +kernel
theorem dX11_parts_27 : decode cX11_parts 27 = .ok (.iconst 1, 1) := by decide +kernel
theorem dX11_parts_28 : decode cX11_parts 28 = .ok (.goto 4, 3) := by decide +kernel
theorem dX11_parts_31 : decode cX11_parts 31 = .ok (.iconst 0, 1) := by decide +kernel
theorem dX11_parts_32 : decode cX11_parts 32 = .ok (.invokevirtual 262, 3) := by decide +kernel
theorem dX11_parts_35 : decode cX11_parts 35 = .ok (.goto 7, 3) := by decide +kernel
theorem dX11_parts_38 : decode cX11_parts 38 = .ok (.aload_n 0, 1) := by decide +kernel
theorem dX11_parts_39 : decode cX11_parts 39 = .ok (.invokevirtual 106, 3) := by decide +kernel
theorem dX11_parts_42 : decode cX11_parts 42 = .ok (.ireturn, 1) := by decide +kernel
theorem dX11_best_0 : decode cX11_best 0 = .ok (.iconst (-1), 1) := by decide +kernel
theorem dX11_best_1 : decode cX11_best 1 = .ok (.istore_n 1, 1) := by decide +kernel
theorem dX11_best_2 : decode cX11_best 2 = .ok (.ldc 230, 2) := by decide +kernel
theorem dX11_best_4 : decode cX11_best 4 = .ok (.istore_n 2, 1) := by decide +kernel
theorem dX11_best_5 : decode cX11_best 5 = .ok (.iconst 0, 1) := by decide +kernel
theorem dX11_best_6 : decode cX11_best 6 = .ok (.istore_n 3, 1) := by decide +kernel
theorem dX11_best_7 : decode cX11_best 7 = .ok (.iload_n 3, 1) := by decide +kernel
theorem dX11_best_8 : decode cX11_best 8 = .ok (.bipush 10, 2) := by decide +kernel
theorem dX11_best_10 : decode cX11_best 10 = .ok (.if_icmp .ge 62, 3) := by decide +kernel
theorem dX11_best_13 : decode cX11_best 13 = .ok (.aload_n 0, 1) := by decide +kernel
theorem dX11_best_14 : decode cX11_best 14 = .ok (.getfield 82, 3) := by decide +kernel
theorem dX11_best_17 : decode cX11_best 17 = .ok (.iload_n 3, 1) := by decide +kernel
theorem dX11_best_18 : decode cX11_best 18 = .ok (.invokestatic 158, 3) := by decide +kernel
theorem dX11_best_21 : decode cX11_best 21 = .ok (.ifCond .eq 8, 3) := by decide +kernel
theorem dX11_best_24 : decode cX11_best 24 = .ok (.ldc 230, 2) := by decide +kernel
theorem dX11_best_26 : decode cX11_best 26 = .ok (.goto 13, 3) := by decide +kernel
theorem dX11_best_29 : decode cX11_best 29 = .ok (.aload_n 0, 1) := by decide +kernel
theorem dX11_best_30 : decode cX11_best 30 = .ok (.aload_n 0, 1) := by decide +kernel
theorem dX11_best_31 : decode cX11_best 31 = .ok (.getfield 85, 3) := by decide +kernel
theorem dX11_best_34 : decode cX11_best 34 = .ok (.iload_n 3, 1) := by decide +kernel
theorem dX11_best_35 : decode cX11_best 35 = .ok (.iconst 1, 1) := by decide +kernel
theorem dX11_best_36 : decode cX11_best 36 = .ok (.invokevirtual 262, 3) := by decide +kernel
theorem dX11_best_39 : decode cX11_best 39 = .ok (.istore 4, 2) := by decide +kernel
theorem dX11_best_41 : decode cX11_best 41 = .ok (.iload 4, 2) := by decide +kernel
theorem dX11_best_43 : decode cX11_best 43 = .ok (.iload_n 2, 1) := by decide +kernel
theorem dX11_best_44 : decode cX11_best 44 = .ok (.if_icmp .ge 7, 3) := by decide +kernel
theorem dX11_best_47 : decode cX11_best 47 = .ok (.iload_n 3, 1) := by decide +kernel
theorem dX11_best_48 : decode cX11_best 48 = .ok (.goto 4, 3) := by decide +kernel
theorem dX11_best_51 : decode cX11_best 51 = .ok (.iload_n 1, 1) := by decide +kernel
theorem dX11_best_52 : decode cX11_best 52 = .ok (.istore_n 1, 1) := by decide +kernel
