theorem dX9_in_0 : decode cX9_in 0 = .ok (.lload_n 0, 1) := by decide +kernel
theorem dX9_in_1 : decode cX9_in 1 = .ok (.lload_n 2, 1) := by decide +kernel
theorem dX9_in_2 : decode cX9_in 2 = .ok (.lcmp, 1) := by decide +kernel
theorem dX9_in_3 : decode cX9_in 3 = .ok (.ifCond .lt 14, 3) := by decide +kernel
theorem dX9_in_6 : decode cX9_in 6 = .ok (.lload_n 0, 1) := by decide +kernel
theorem dX9_in_7 : decode cX9_in 7 = .ok (.lload 4, 2) := by decide +kernel
theorem dX9_in_9 : decode cX9_in 9 = .ok (.lcmp, 1) := by decide +kernel
theorem dX9_in_10 : decode cX9_in 10 = .ok (.ifCond .gt 7, 3) := by decide +kernel
theorem dX9_in_13 : decode cX9_in 13 = .ok (.iconst 1, 1) := by decide +kernel
theorem dX9_in_14 : decode cX9_in 14 = .ok (.goto 4, 3) := by decide +kernel
theorem dX9_in_17 : decode cX9_in 17 = .ok (.iconst 0, 1) := by decide +kernel
theorem dX9_in_18 : decode cX9_in 18 = .ok (.ireturn, 1) := by decide +kernel
theorem dX9_bad_0 : decode cX9_bad 0 = .ok (.aload_n 0, 1) := by decide +kernel
theorem dX9_bad_1 : decode cX9_bad 1 = .ok (.iload_n 1, 1) := by decide +kernel
theorem dX9_bad_2 : decode cX9_bad 2 = .ok (.putfield 1, 3) := by decide +kernel
theorem dX9_bad_5 : decode cX9_bad 5 = .ok (.aload_n 0, 1) := by decide +kernel
theorem dX9_bad_6 : decode cX9_bad 6 = .ok (.aload_n 0, 1) := by decide +kernel
theorem dX9_bad_7 : decode cX9_bad 7 = .ok (.getfield 7, 3) := by decide +kernel
theorem dX9_bad_10 : decode cX9_bad 10 = .ok (.putfield 10, 3) := by decide +kernel
theorem dX9_bad_13 : decode cX9_bad 13 = .ok (.iconst 0, 1) := by decide +kernel
theorem dX9_bad_14 : decode cX9_bad 14 = .ok (.ireturn, 1) := by decide +kernel
theorem dX9_byteAt_0 : decode cX9_byteAt 0 = .ok (.iload_n 1, 1) := by decide +kernel
theorem dX9_byteAt_1 : decode cX9_byteAt 1 = .ok (.aload_n 0, 1) := by decide +kernel
theorem dX9_byteAt_2 : decode cX9_byteAt 2 = .ok (.getfield 13, 3) := by decide +kernel
theorem dX9_byteAt_5 : decode cX9_byteAt 5 = .ok (.if_icmp .ge 16, 3) := by decide +kernel
theorem dX9_byteAt_8 : decode cX9_byteAt 8 = .ok (.aload_n 0, 1) := by decide +kernel
theorem dX9_byteAt_9 : decode cX9_byteAt 9 = .ok (.getfield 16, 3) := by decide +kernel
theorem dX9_byteAt_12 : decode cX9_byteAt 12 = .ok (.iload_n 1, 1) := by decide +kernel
theorem dX9_byteAt_13 : decode cX9_byteAt 13 = .ok (.baload, 1) := by decide +kernel
theorem dX9_byteAt_14 : decode cX9_byteAt 14 = .ok (.sipush 255, 3) := by decide +kernel
theorem dX9_byteAt_17 : decode cX9_byteAt 17 = .ok (.iand, 1) := by decide +kernel
theorem dX9_byteAt_18 : decode cX9_byteAt 18 = .ok (.goto 4, 3) := by decide +kernel
theorem dX9_byteAt_21 : decode cX9_byteAt 21 = .ok (.iconst 0, 1) := by decide +kernel
theorem dX9_byteAt_22 : decode cX9_byteAt 22 = .ok (.ireturn, 1) := by decide +kernel
theorem dX9_isSmall_0 : decode cX9_isSmall 0 = .ok (.iload_n 0, 1) := by decide +kernel
theorem dX9_isSmall_1 : decode cX9_isSmall 1 = .ok (.bipush 97, 2) := by decide +kernel
theorem dX9_isSmall_3 : decode cX9_isSmall 3 = .ok (.if_icmp .lt 13, 3) := by decide +kernel
theorem dX9_isSmall_6 : decode cX9_isSmall 6 = .ok (.iload_n 0, 1) := by decide +kernel
theorem dX9_isSmall_7 : decode cX9_isSmall 7 = .ok (.bipush 122, 2) := by decide +kernel
theorem dX9_isSmall_9 : decode cX9_isSmall 9 = .ok (.if_icmp .gt 7, 3) := by decide +kernel
theorem dX9_isSmall_12 : decode cX9_isSmall 12 = .ok (.iconst 1, 1) := by decide +kernel
theorem dX9_isSmall_13 : decode cX9_isSmall 13 = .ok (.goto 4, 3) := by decide +kernel
theorem dX9_isSmall_16 : decode cX9_isSmall 16 = .ok (.iconst 0, 1) := by decide +kernel
theorem dX9_isSmall_17 : decode cX9_isSmall 17 = .ok (.ireturn, 1) := by decide +kernel
theorem dX9_isDigit_0 : decode cX9_isDigit 0 = .ok (.iload_n 0, 1) := by decide +kernel
theorem dX9_isDigit_1 : decode cX9_isDigit 1 = .ok (.bipush 48, 2) := by decide +kernel
theorem dX9_isDigit_3 : decode cX9_isDigit 3 = .ok (.if_icmp .lt 13, 3) := by decide +kernel
theorem dX9_isDigit_6 : decode cX9_isDigit 6 = .ok (.iload_n 0, 1) := by decide +kernel
theorem dX9_isDigit_7 : decode cX9_isDigit 7 = .ok (.bipush 57, 2) := by decide +kernel
theorem dX9_isDigit_9 : decode cX9_isDigit 9 = .ok (.if_icmp .gt 7, 3) := by decide +kernel
theorem dX9_isDigit_12 : decode cX9_isDigit 12 = .ok (.iconst 1, 1) := by decide +kernel
theorem dX9_isDigit_13 : decode cX9_isDigit 13 = .ok (.goto 4, 3) := by decide +kernel
theorem dX9_isDigit_16 : decode cX9_isDigit 16 = .ok (.iconst 0, 1) := by decide +kernel
theorem dX9_isDigit_17 : decode cX9_isDigit 17 = .ok (.ireturn, 1) := by decide +kernel
theorem dX9_scan_0 : decode cX9_scan 0 = .ok (.aload_n 0, 1) := by decide +kernel
theorem dX9_scan_1 : decode cX9_scan 1 = .ok (.getfield 20, 3) := by decide +kernel
theorem dX9_scan_4 : decode cX9_scan 4 = .ok (.aload_n 0, 1) := by decide +kernel
theorem dX9_scan_5 : decode cX9_scan 5 = .ok (.getfield 13, 3) := by decide +kernel
theorem dX9_scan_8 : decode cX9_scan 8 = .ok (.if_icmp .ge 44, 3) := by decide +kernel
theorem dX9_scan_11 : decode cX9_scan 11 = .ok (.aload_n 0, 1) := by decide +kernel
theorem dX9_scan_12 : decode cX9_scan 12 = .ok (.getfield 16, 3) := by decide +kernel
theorem dX9_scan_15 : decode cX9_scan 15 = .ok (.aload_n 0, 1) := by decide +kernel
theorem dX9_scan_16 : decode cX9_scan 16 = .ok (.getfield 20, 3) := by decide +kernel
theorem dX9_scan_19 : decode cX9_scan 19 = .ok (.baload, 1) := by decide +kernel
theorem dX9_scan_20 : decode cX9_scan 20 = .ok (.bipush 32, 2) := by decide +kernel
theorem dX9_scan_22 : decode cX9_scan 22 = .ok (.if_icmp .eq 17, 3) := by decide +kernel
theorem dX9_scan_25 : decode cX9_scan 25 = .ok (.aload_n 0, 1) := by decide +kernel
theorem dX9_scan_26 : decode cX9_scan 26 = .ok (.getfield 16, 3) := by decide +kernel
theorem dX9_scan_29 : decode cX9_scan 29 = .ok (.aload_n 0, 1) := by decide +kernel
theorem dX9_scan_30 : decode cX9_scan 30 = .ok (.getfield 20, 3) := by decide +kernel
theorem dX9_scan_33 : decode cX9_scan 33 = .ok (.baload, 1) := by decide +kernel
theorem dX9_scan_34 : decode cX9_scan 34 = .ok (.bipush 10, 2) := by decide +kernel
theorem dX9_scan_36 : decode cX9_scan 36 = .ok (.if_icmp .ne 16, 3) := by decide +kernel
theorem dX9_scan_39 : decode cX9_scan 39 = .ok (.aload_n 0, 1) := by decide +kernel
theorem dX9_scan_40 : decode cX9_scan 40 = .ok (.dup, 1) := by decide +kernel
theorem dX9_scan_41 : decode cX9_scan 41 = .ok (.getfield 20, 3) := by decide +kernel
theorem dX9_scan_44 : decode cX9_scan 44 = .ok (.iconst 1, 1) := by decide +kernel
theorem dX9_scan_45 : decode cX9_scan 45 = .ok (.iadd, 1) := by decide +kernel
theorem dX9_scan_46 : decode cX9_scan 46 = .ok (.putfield 20, 3) := by decide +kernel
theorem dX9_scan_49 : decode cX9_scan 49 = .ok (.goto (-49), 3) := by decide +kernel
theorem dX9_scan_52 : decode cX9_scan 52 = .ok (.aload_n 0, 1) := by decide +kernel
theorem dX9_scan_53 : decode cX9_scan 53 = .ok (.aload_n 0, 1) := by decide +kernel
theorem dX9_scan_54 : decode cX9_scan 54 = .ok (.getfield 20, 3) := by decide +kernel
theorem dX9_scan_57 : decode cX9_scan 57 = .ok (.putfield 7, 3) := by decide +kernel
theorem dX9_scan_60 : decode cX9_scan 60 = .ok (.aload_n 0, 1) := by decide +kernel
theorem dX9_scan_61 : decode cX9_scan 61 = .ok (.aload_n 0, 1) := by decide +kernel
theorem dX9_scan_62 : decode cX9_scan 62 = .ok (.getfield 7, 3) := by decide +kernel
theorem dX9_scan_65 : decode cX9_scan 65 = .ok (.invokevirtual 23, 3) := by decide +kernel
theorem dX9_scan_68 : decode cX9_scan 68 = .ok (.istore_n 1, 1) := by decide +kernel
theorem dX9_scan_69 : decode cX9_scan 69 = .ok (.aload_n 0, 1) := by decide +kernel
theorem dX9_scan_70 : decode cX9_scan 70 = .ok (.getfield 7, 3) := by decide +kernel
theorem dX9_scan_73 : decode cX9_scan 73 = .ok (.aload_n 0, 1) := by decide +kernel
theorem dX9_scan_74 : decode cX9_scan 74 = .ok (.getfield 13, 3) := by decide +kernel
theorem dX9_scan_77 : decode cX9_scan 77 = .ok (.if_icmp .ne 11, 3) := by decide +kernel
theorem dX9_scan_80 : decode cX9_scan 80 = .ok (.aload_n 0, 1) := by decide +kernel
theorem dX9_scan_81 : decode cX9_scan 81 = .ok (.iconst 0, 1) := by decide +kernel
theorem dX9_scan_82 : decode cX9_scan 82 = .ok (.putfield 27, 3) := by decide +kernel
theorem dX9_scan_85 : decode cX9_scan 85 = .ok (.goto 188, 3) := by decide +kernel
theorem dX9_scan_88 : decode cX9_scan 88 = .ok (.iload_n 1, 1) := by decide +kernel
theorem dX9_scan_89 : decode cX9_scan 89 = .ok (.invokestatic 30, 3) := by decide +kernel
theorem dX9_scan_92 : decode cX9_scan 92 = .ok (.ifCond .eq 56, 3) := by decide +kernel
theorem dX9_scan_95 : decode cX9_scan 95 = .ok (.aload_n 0, 1) := by decide +kernel
theorem dX9_scan_96 : decode cX9_scan 96 = .ok (.aload_n 0, 1) := by decide +kernel
theorem dX9_scan_97 : decode cX9_scan 97 = .ok (.getfield 20, 3) := by decide +kernel
theorem dX9_scan_100 : decode cX9_scan 100 = .ok (.invokevirtual 23, 3) := by decide +kernel
theorem dX9_scan_103 : decode cX9_scan 103 = .ok (.invokestatic 30, 3) := by decide +kernel
theorem dX9_scan_106 : decode cX9_scan 106 = .ok (.ifCond .eq 16, 3) := by decide +kernel
theorem dX9_scan_109 : decode cX9_scan 109 = .ok (.aload_n 0, 1) := by decide +kernel
theorem dX9_scan_110 : decode cX9_scan 110 = .ok (.dup, 1) := by decide +kernel
theorem dX9_scan_111 : decode cX9_scan 111 = .ok (.getfield 20, 3) := by decide +kernel
theorem dX9_scan_114 : decode cX9_scan 114 = .ok (.iconst 1, 1) := by decide +kernel
theorem dX9_scan_115 : decode cX9_scan 115 = .ok (.iadd, 1) := by decide +kernel
theorem dX9_scan_116 : decode cX9_scan 116 = .ok (.putfield 20, 3) := by decide +kernel
theorem dX9_scan_119 : decode cX9_scan 119 = .ok (.goto (-24), 3) := by decide +kernel
theorem dX9_scan_122 : decode cX9_scan 122 = .ok (.aload_n 0, 1) := by decide +kernel
theorem dX9_scan_123 : decode cX9_scan 123 = .ok (.aload_n 0, 1) := by decide +kernel
theorem dX9_scan_124 : decode cX9_scan 124 = .ok (.getfield 20, 3) := by decide +kernel
theorem dX9_scan_127 : decode cX9_scan 127 = .ok (.aload_n 0, 1) := by decide +kernel
theorem dX9_scan_128 : decode cX9_scan 128 = .ok (.getfield 7, 3) := by decide +kernel
theorem dX9_scan_131 : decode cX9_scan 131 = .ok (.isub, 1) := by decide +kernel
theorem dX9_scan_132 : decode cX9_scan 132 = .ok (.bipush 8, 2) := by decide +kernel
theorem dX9_scan_134 : decode cX9_scan 134 = .ok (.if_icmp .le 7, 3) := by decide +kernel
theorem dX9_scan_137 : decode cX9_scan 137 = .ok (.iconst 4, 1) := by decide +kernel
theorem dX9_scan_138 : decode cX9_scan 138 = .ok (.goto 4, 3) := by decide +kernel
theorem dX9_scan_141 : decode cX9_scan 141 = .ok (.iconst 1, 1) := by decide +kernel
theorem dX9_scan_142 : decode cX9_scan 142 = .ok (.putfield 27, 3) := by decide +kernel
theorem dX9_scan_145 : decode cX9_scan 145 = .ok (.goto 128, 3) := by decide +kernel
theorem dX9_scan_148 : decode cX9_scan 148 = .ok (.iload_n 1, 1) := by decide +kernel
theorem dX9_scan_149 : decode cX9_scan 149 = .ok (.invokestatic 34, 3) := by decide +kernel
theorem dX9_scan_152 : decode cX9_scan 152 = .ok (.ifCond .eq 96, 3) := by decide +kernel
theorem dX9_scan_155 : decode cX9_scan 155 = .ok (.aload_n 0, 1) := by decide +kernel
theorem dX9_scan_156 : decode cX9_scan 156 = .ok (.iconst 0, 1) := by decide +kernel
theorem dX9_scan_157 : decode cX9_scan 157 = .ok (.putfield 37, 3) := by decide +kernel
theorem dX9_scan_160 : decode cX9_scan 160 = .ok (.aload_n 0, 1) := by decide +kernel
theorem dX9_scan_161 : decode cX9_scan 161 = .ok (.aload_n 0, 1) := by decide +kernel
theorem dX9_scan_162 : decode cX9_scan 162 = .ok (.getfield 20, 3) := by decide +kernel
theorem dX9_scan_165 : decode cX9_scan 165 = .ok (.invokevirtual 23, 3) := by decide +kernel
theorem dX9_scan_168 : decode cX9_scan 168 = .ok (.invokestatic 34, 3) := by decide +kernel
theorem dX9_scan_171 : decode cX9_scan 171 = .ok (.ifCond .eq 52, 3) := by decide +kernel
theorem dX9_scan_174 : decode cX9_scan 174 = .ok (.aload_n 0, 1) := by decide +kernel
theorem dX9_scan_175 : decode cX9_scan 175 = .ok (.getfield 20, 3) := by decide +kernel
theorem dX9_scan_178 : decode cX9_scan 178 = .ok (.aload_n 0, 1) := by decide +kernel
theorem dX9_scan_179 : decode cX9_scan 179 = .ok (.getfield 7, 3) := by decide +kernel
theorem dX9_scan_182 : decode cX9_scan 182 = .ok (.isub, 1) := by decide +kernel
theorem dX9_scan_183 : decode cX9_scan 183 = .ok (.iconst 3, 1) := by decide +kernel
theorem dX9_scan_184 : decode cX9_scan 184 = .ok (.if_icmp .ge 26, 3) := by decide +kernel
theorem dX9_scan_187 : decode cX9_scan 187 = .ok (.aload_n 0, 1) := by decide +kernel
theorem dX9_scan_188 : decode cX9_scan 188 = .ok (.bipush 10, 2) := by decide +kernel
theorem dX9_scan_190 : decode cX9_scan 190 = .ok (.aload_n 0, 1) := by decide +kernel
theorem dX9_scan_191 : decode cX9_scan 191 = .ok (.getfield 37, 3) := by decide +kernel
theorem dX9_scan_194 : decode cX9_scan 194 = .ok (.imul, 1) := by decide +kernel
theorem dX9_scan_195 : decode cX9_scan 195 = .ok (.aload_n 0, 1) := by decide +kernel
theorem dX9_scan_196 : decode cX9_scan 196 = .ok (.aload_n 0, 1) := by decide +kernel
theorem dX9_scan_197 : decode cX9_scan 197 = .ok (.getfield 20, 3) := by decide +kernel
theorem dX9_scan_200 : decode cX9_scan 200 = .ok (.invokevirtual 23, 3) := by decide +kernel
theorem dX9_scan_203 : decode cX9_scan 203 = .ok (.iadd, 1) := by decide +kernel
theorem dX9_scan_204 : decode cX9_scan 204 = .ok (.bipush 48, 2) := by decide +kernel
theorem dX9_scan_206 : decode cX9_scan 206 = .ok (.isub, 1) := by decide +kernel
theorem dX9_scan_207 : decode cX9_scan 207 = .ok (.putfield 37, 3) := by decide +kernel
theorem dX9_scan_210 : decode cX9_scan 210 = .ok (.aload_n 0, 1) := by decide +kernel
theorem dX9_scan_211 : decode cX9_scan 211 = .ok (.dup, 1) := by decide +kernel
theorem dX9_scan_212 : decode cX9_scan 212 = .ok (.getfield 20, 3) := by decide +kernel
theorem dX9_scan_215 : decode cX9_scan 215 = .ok (.iconst 1, 1) := by decide +kernel
theorem dX9_scan_216 : decode cX9_scan 216 = .ok (.iadd, 1) := by decide +kernel
theorem dX9_scan_217 : decode cX9_scan 217 = .ok (.putfield 20, 3) := by decide +kernel
theorem dX9_scan_220 : decode cX9_scan 220 = .ok (.goto (-60), 3) := by decide +kernel
theorem dX9_scan_223 : decode cX9_scan 223 = .ok (.aload_n 0, 1) := by decide +kernel
theorem dX9_scan_224 : decode cX9_scan 224 = .ok (.aload_n 0, 1) := by decide +kernel
theorem dX9_scan_225 : decode cX9_scan 225 = .ok (.getfield 20, 3) := by decide +kernel
theorem dX9_scan_228 : decode cX9_scan 228 = .ok (.aload_n 0, 1) := by decide +kernel
theorem dX9_scan_229 : decode cX9_scan 229 = .ok (.getfield 7, 3) := by decide +kernel
theorem dX9_scan_232 : decode cX9_scan 232 = .ok (.isub, 1) := by decide +kernel
theorem dX9_scan_233 : decode cX9_scan 233 = .ok (.iconst 3, 1) := by decide +kernel
theorem dX9_scan_234 : decode cX9_scan 234 = .ok (.if_icmp .le 7, 3) := by decide +kernel
theorem dX9_scan_237 : decode cX9_scan 237 = .ok (.iconst 4, 1) := by decide +kernel
theorem dX9_scan_238 : decode cX9_scan 238 = .ok (.goto 4, 3) := by decide +kernel
theorem dX9_scan_241 : decode cX9_scan 241 = .ok (.iconst 2, 1) := by decide +kernel
theorem dX9_scan_242 : decode cX9_scan 242 = .ok (.putfield 27, 3) := by decide +kernel
theorem dX9_scan_245 : decode cX9_scan 245 = .ok (.goto 28, 3) := by decide +kernel
theorem dX9_scan_248 : decode cX9_scan 248 = .ok (.aload_n 0, 1) := by decide +kernel
theorem dX9_scan_249 : decode cX9_scan 249 = .ok (.iload_n 1, 1) := by decide +kernel
theorem dX9_scan_250 : decode cX9_scan 250 = .ok (.bipush 59, 2) := by decide +kernel
theorem dX9_scan_252 : decode cX9_scan 252 = .ok (.if_icmp .ne 7, 3) := by decide +kernel
theorem dX9_scan_255 : decode cX9_scan 255 = .ok (.iconst 3, 1) := by decide +kernel
theorem dX9_scan_256 : decode cX9_scan 256 = .ok (.goto 4, 3) := by decide +kernel
theorem dX9_scan_259 : decode cX9_scan 259 = .ok (.iconst 4, 1) := by decide +kernel
theorem dX9_scan_260 : decode cX9_scan 260 = .ok (.putfield 27, 3) := by decide +kernel
theorem dX9_scan_263 : decode cX9_scan 263 = .ok (.aload_n 0, 1) := by decide +kernel
theorem dX9_scan_264 : decode cX9_scan 264 = .ok (.dup, 1) := by decide +kernel
theorem dX9_scan_265 : decode cX9_scan 265 = .ok (.getfield 20, 3) := by decide +kernel
theorem dX9_scan_268 : decode cX9_scan 268 = .ok (.iconst 1, 1) := by decide +kernel
theorem dX9_scan_269 : decode cX9_scan 269 = .ok (.iadd, 1) := by decide +kernel
theorem dX9_scan_270 : decode cX9_scan 270 = .ok (.putfield 20, 3) := by decide +kernel
theorem dX9_scan_273 : decode cX9_scan 273 = .ok (.return_, 1) := by decide +kernel
theorem dX9_is_0 : decode cX9_is 0 = .ok (.aload_n 0, 1) := by decide +kernel
theorem dX9_is_1 : decode cX9_is 1 = .ok (.getfield 27, 3) := by decide +kernel
theorem dX9_is_4 : decode cX9_is 4 = .ok (.iconst 1, 1) := by decide +kernel
theorem dX9_is_5 : decode cX9_is 5 = .ok (.if_icmp .ne 23, 3) := by decide +kernel
theorem dX9_is_8 : decode cX9_is 8 = .ok (.aload_n 0, 1) := by decide +kernel
theorem dX9_is_9 : decode cX9_is 9 = .ok (.getfield 20, 3) := by decide +kernel
theorem dX9_is_12 : decode cX9_is 12 = .ok (.aload_n 0, 1) := by decide +kernel
theorem dX9_is_13 : decode cX9_is 13 = .ok (.getfield 7, 3) := by decide +kernel
theorem dX9_is_16 : decode cX9_is 16 = .ok (.isub, 1) := by decide +kernel
theorem dX9_is_17 : decode cX9_is 17 = .ok (.aload_n 1, 1) := by decide +kernel
theorem dX9_is_18 : decode cX9_is 18 = .ok (.invokevirtual 40, 3) := by decide +kernel
theorem dX9_is_21 : decode cX9_is 21 = .ok (.if_icmp .ne 7, 3) := by decide +kernel
theorem dX9_is_24 : decode cX9_is 24 = .ok (.iconst 1, 1) := by decide +kernel
theorem dX9_is_25 : decode cX9_is 25 = .ok (.goto 4, 3) := by decide +kernel
theorem dX9_is_28 : decode cX9_is 28 = .ok (.iconst 0, 1) := by decide +kernel
theorem dX9_is_29 : decode cX9_is 29 = .ok (.istore_n 2, 1) := by decide +kernel
theorem dX9_is_30 : decode cX9_is 30 = .ok (.iconst 0, 1) := by decide +kernel
theorem dX9_is_31 : decode cX9_is 31 = .ok (.istore_n 3, 1) := by decide +kernel
theorem dX9_is_32 : decode cX9_is 32 = .ok (.iload_n 3, 1) := by decide +kernel
theorem dX9_is_33 : decode cX9_is 33 = .ok (.aload_n 1, 1) := by decide +kernel
theorem dX9_is_34 : decode cX9_is 34 = .ok (.invokevirtual 40, 3) := by decide +kernel
theorem dX9_is_37 : decode cX9_is 37 = .ok (.if_icmp .ge 38, 3) := by decide +kernel
theorem dX9_is_40 : decode cX9_is 40 = .ok (.iload_n 2, 1) := by decide +kernel
theorem dX9_is_41 : decode cX9_is 41 = .ok (.ifCond .eq 34, 3) := by decide +kernel
theorem dX9_is_44 : decode cX9_is 44 = .ok (.aload_n 0, 1) := by decide +kernel
theorem dX9_is_45 : decode cX9_is 45 = .ok (.getfield 16, 3) := by decide +kernel
theorem dX9_is_48 : decode cX9_is 48 = .ok (.aload_n 0, 1) := by decide +kernel
theorem dX9_is_49 : decode cX9_is 49 = .ok (.getfield 7, 3) := by decide +kernel
theorem dX9_is_52 : decode cX9_is 52 = .ok (.iload_n 3, 1) := by decide +kernel
theorem dX9_is_53 : decode cX9_is 53 = .ok (.iadd, 1) := by decide +kernel
theorem dX9_is_54 : decode cX9_is 54 = .ok (.baload, 1) := by decide +kernel
theorem dX9_is_55 : decode cX9_is 55 = .ok (.aload_n 1, 1) := by decide +kernel
theorem dX9_is_56 : decode cX9_is 56 = .ok (.iload_n 3, 1) := by decide +kernel
theorem dX9_is_57 : decode cX9_is 57 = .ok (.invokevirtual 45, 3) := by decide +kernel
theorem dX9_is_60 : decode cX9_is 60 = .ok (.if_icmp .ne 7, 3) := by decide +kernel
theorem dX9_is_63 : decode cX9_is 63 = .ok (.iconst 1, 1) := by decide +kernel
theorem dX9_is_64 : decode cX9_is 64 = .ok (.goto 4, 3) := by decide +kernel
theorem dX9_is_67 : decode cX9_is 67 = .ok (.iconst 0, 1) := by decide +kernel
theorem dX9_is_68 : decode cX9_is 68 = .ok (.istore_n 2, 1) := by decide +kernel
theorem dX9_is_69 : decode cX9_is 69 = .ok (.iinc 3 1, 3) := by decide +kernel
theorem dX9_is_72 : decode cX9_is 72 = .ok (.goto (-40), 3) := by decide +kernel
theorem dX9_is_75 : decode cX9_is 75 = .ok (.iload_n 2, 1) := by decide +kernel
theorem dX9_is_76 : decode cX9_is 76 = .ok (.ireturn, 1) := by decide +kernel
theorem dX9_peek_0 : decode cX9_peek 0 = .ok (.aload_n 0, 1) := by decide +kernel
theorem dX9_peek_1 : decode cX9_peek 1 = .ok (.getfield 27, 3) := by decide +kernel
theorem dX9_peek_4 : decode cX9_peek 4 = .ok (.iconst 2, 1) := by decide +kernel
theorem dX9_peek_5 : decode cX9_peek 5 = .ok (.if_icmp .eq 9, 3) := by decide +kernel
theorem dX9_peek_8 : decode cX9_peek 8 = .ok (.aload_n 0, 1) := by decide +kernel
theorem dX9_peek_9 : decode cX9_peek 9 = .ok (.iconst 1, 1) := by decide +kernel
theorem dX9_peek_10 : decode cX9_peek 10 = .ok (.invokevirtual 49, 3) := by decide +kernel
theorem dX9_peek_13 : decode cX9_peek 13 = .ok (.ireturn, 1) := by decide +kernel
theorem dX9_peek_14 : decode cX9_peek 14 = .ok (.aload_n 0, 1) := by decide +kernel
theorem dX9_peek_15 : decode cX9_peek 15 = .ok (.getfield 37, 3) := by decide +kernel
theorem dX9_peek_18 : decode cX9_peek 18 = .ok (.i2l, 1) := by decide +kernel
theorem dX9_peek_19 : decode cX9_peek 19 = .ok (.iload_n 1, 1) := by decide +kernel
theorem dX9_peek_20 : decode cX9_peek 20 = .ok (.i2l, 1) := by decide +kernel
theorem dX9_peek_21 : decode cX9_peek 21 = .ok (.iload_n 2, 1) := by decide +kernel
theorem dX9_peek_22 : decode cX9_peek 22 = .ok (.i2l, 1) := by decide +kernel
theorem dX9_peek_23 : decode cX9_peek 23 = .ok (.invokestatic 52, 3) := by decide +kernel
theorem dX9_peek_26 : decode cX9_peek 26 = .ok (.ifCond .ne 9, 3) := by decide +kernel
theorem dX9_peek_29 : decode cX9_peek 29 = .ok (.aload_n 0, 1) := by decide +kernel
theorem dX9_peek_30 : decode cX9_peek 30 = .ok (.iconst 2, 1) := by decide +kernel
theorem dX9_peek_31 : decode cX9_peek 31 = .ok (.invokevirtual 49, 3) := by decide +kernel
theorem dX9_peek_34 : decode cX9_peek 34 = .ok (.ireturn, 1) := by decide +kernel
theorem dX9_peek_35 : decode cX9_peek 35 = .ok (.aload_n 0, 1) := by decide +kernel
theorem dX9_peek_36 : decode cX9_peek 36 = .ok (.aload_n 0, 1) := by decide +kernel
theorem dX9_peek_37 : decode cX9_peek 37 = .ok (.getfield 37, 3) := by decide +kernel
theorem dX9_peek_40 : decode cX9_peek 40 = .ok (.putfield 56, 3) := by decide +kernel
theorem dX9_peek_43 : decode cX9_peek 43 = .ok (.iconst 1, 1) := by decide +kernel
theorem dX9_peek_44 : decode cX9_peek 44 = .ok (.ireturn, 1) := by decide +kernel
theorem dX9_number_0 : decode cX9_number 0 = .ok (.aload_n 0, 1) := by decide +kernel
theorem dX9_number_1 : decode cX9_number 1 = .ok (.iload_n 1, 1) := by decide +kernel
theorem dX9_number_2 : decode cX9_number 2 = .ok (.iload_n 2, 1) := by decide +kernel
theorem dX9_number_3 : decode cX9_number 3 = .ok (.invokevirtual 59, 3) := by decide +kernel
theorem dX9_number_6 : decode cX9_number 6 = .ok (.ifCond .ne 5, 3) := by decide +kernel
theorem dX9_number_9 : decode cX9_number 9 = .ok (.iconst 0, 1) := by decide +kernel
theorem dX9_number_10 : decode cX9_number 10 = .ok (.ireturn, 1) := by decide +kernel
theorem dX9_number_11 : decode cX9_number 11 = .ok (.aload_n 0, 1) := by decide +kernel
theorem dX9_number_12 : decode cX9_number 12 = .ok (.invokevirtual 63, 3) := by decide +kernel
theorem dX9_number_15 : decode cX9_number 15 = .ok (.iconst 1, 1) := by decide +kernel
theorem dX9_number_16 : decode cX9_number 16 = .ok (.ireturn, 1) := by decide +kernel
theorem dX9_open_0 : decode cX9_open 0 = .ok (.aload_n 0, 1) := by decide +kernel
theorem dX9_open_1 : decode cX9_open 1 = .ok (.aload_n 0, 1) := by decide +kernel
theorem dX9_open_2 : decode cX9_open 2 = .ok (.getfield 67, 3) := by decide +kernel
theorem dX9_open_5 : decode cX9_open 5 = .ok (.putfield 13, 3) := by decide +kernel
theorem dX9_open_8 : decode cX9_open 8 = .ok (.aload_n 0, 1) := by decide +kernel
theorem dX9_open_9 : decode cX9_open 9 = .ok (.iconst 0, 1) := by decide +kernel
theorem dX9_open_10 : decode cX9_open 10 = .ok (.putfield 67, 3) := by decide +kernel
theorem dX9_open_13 : decode cX9_open 13 = .ok (.aload_n 0, 1) := by decide +kernel
theorem dX9_open_14 : decode cX9_open 14 = .ok (.iconst 0, 1) := by decide +kernel
theorem dX9_open_15 : decode cX9_open 15 = .ok (.putfield 20, 3) := by decide +kernel
theorem dX9_open_18 : decode cX9_open 18 = .ok (.aload_n 0, 1) := by decide +kernel
theorem dX9_open_19 : decode cX9_open 19 = .ok (.iconst 0, 1) := by decide +kernel
theorem dX9_open_20 : decode cX9_open 20 = .ok (.putfield 1, 3) := by decide +kernel
theorem dX9_open_23 : decode cX9_open 23 = .ok (.aload_n 0, 1) := by decide +kernel
theorem dX9_open_24 : decode cX9_open 24 = .ok (.iconst (-1), 1) := by decide +kernel
theorem dX9_open_25 : decode cX9_open 25 = .ok (.putfield 10, 3) := by decide +kernel
theorem dX9_open_28 : decode cX9_open 28 = .ok (.aload_n 0, 1) := by decide +kernel
theorem dX9_open_29 : decode cX9_open 29 = .ok (.invokevirtual 63, 3) := by decide +kernel
theorem dX9_open_32 : decode cX9_open 32 = .ok (.return_, 1) := by decide +kernel
theorem dX9_close_0 : decode cX9_close 0 = .ok (.aload_n 0, 1) := by decide +kernel
theorem dX9_close_1 : decode cX9_close 1 = .ok (.getfield 27, 3) := by decide +kernel
theorem dX9_close_4 : decode cX9_close 4 = .ok (.iconst 3, 1) := by decide +kernel
theorem dX9_close_5 : decode cX9_close 5 = .ok (.if_icmp .eq 9, 3) := by decide +kernel
theorem dX9_close_8 : decode cX9_close 8 = .ok (.aload_n 0, 1) := by decide +kernel
theorem dX9_close_9 : decode cX9_close 9 = .ok (.iconst 1, 1) := by decide +kernel
theorem dX9_close_10 : decode cX9_close 10 = .ok (.invokevirtual 49, 3) := by decide +kernel
theorem dX9_close_13 : decode cX9_close 13 = .ok (.ireturn, 1) := by decide +kernel
theorem dX9_close_14 : decode cX9_close 14 = .ok (.aload_n 0, 1) := by decide +kernel
theorem dX9_close_15 : decode cX9_close 15 = .ok (.invokevirtual 63, 3) := by decide +kernel
theorem dX9_close_18 : decode cX9_close 18 = .ok (.iconst 1, 1) := by decide +kernel
theorem dX9_close_19 : decode cX9_close 19 = .ok (.ireturn, 1) := by decide +kernel
theorem dX9_usual_0 : decode cX9_usual 0 = .ok (.iload_n 0, 1) := by decide +kernel
theorem dX9_usual_1 : decode cX9_usual 1 = .ok (.tableswitch 59 0 7 #[47, 50, 52, 55, 59, 57, 55, 47], 47) := by decide +kernel
theorem dX9_usual_48 : decode cX9_usual 48 = .ok (.bipush 6, 2) := by decide +kernel
theorem dX9_usual_50 : decode cX9_usual 50 = .ok (.ireturn, 1) := by decide +kernel
theorem dX9_usual_51 : decode cX9_usual 51 = .ok (.iconst 2, 1) := by decide +kernel
theorem dX9_usual_52 : decode cX9_usual 52 = .ok (.ireturn, 1) := by decide +kernel
theorem dX9_usual_53 : decode cX9_usual 53 = .ok (.bipush 10, 2) := by decide +kernel
theorem dX9_usual_55 : decode cX9_usual 55 = .ok (.ireturn, 1) := by decide +kernel
theorem dX9_usual_56 : decode cX9_usual 56 = .ok (.iconst 4, 1) := by decide +kernel
theorem dX9_usual_57 : decode cX9_usual 57 = .ok (.ireturn, 1) := by decide +kernel
theorem dX9_usual_58 : decode cX9_usual 58 = .ok (.iconst 0, 1) := by decide +kernel
theorem dX9_usual_59 : decode cX9_usual 59 = .ok (.ireturn, 1) := by decide +kernel
theorem dX9_usual_60 : decode cX9_usual 60 = .ok (.iconst 1, 1) := by decide +kernel
theorem dX9_usual_61 : decode cX9_usual 61 = .ok (.ireturn, 1) := by decide +kernel
theorem dX9_greatest_0 : decode cX9_greatest 0 = .ok (.iload_n 0, 1) := by decide +kernel
theorem dX9_greatest_1 : decode cX9_greatest 1 = .ok (.tableswitch 68 0 8 #[51, 54, 56, 59, 68, 68, 62, 68, 65], 51) := by decide +kernel
theorem dX9_greatest_52 : decode cX9_greatest 52 = .ok (.bipush 40, 2) := by decide +kernel
theorem dX9_greatest_54 : decode cX9_greatest 54 = .ok (.ireturn, 1) := by decide +kernel
theorem dX9_greatest_55 : decode cX9_greatest 55 = .ok (.iconst 5, 1) := by decide +kernel
theorem dX9_greatest_56 : decode cX9_greatest 56 = .ok (.ireturn, 1) := by decide +kernel
theorem dX9_greatest_57 : decode cX9_greatest 57 = .ok (.bipush 60, 2) := by decide +kernel
theorem dX9_greatest_59 : decode cX9_greatest 59 = .ok (.ireturn, 1) := by decide +kernel
theorem dX9_greatest_60 : decode cX9_greatest 60 = .ok (.bipush 16, 2) := by decide +kernel
theorem dX9_greatest_62 : decode cX9_greatest 62 = .ok (.ireturn, 1) := by decide +kernel
theorem dX9_greatest_63 : decode cX9_greatest 63 = .ok (.bipush 15, 2) := by decide +kernel
theorem dX9_greatest_65 : decode cX9_greatest 65 = .ok (.ireturn, 1) := by decide +kernel
theorem dX9_greatest_66 : decode cX9_greatest 66 = .ok (.bipush 9, 2) := by decide +kernel
theorem dX9_greatest_68 : decode cX9_greatest 68 = .ok (.ireturn, 1) := by decide +kernel
theorem dX9_greatest_69 : decode cX9_greatest 69 = .ok (.bipush 20, 2) := by decide +kernel
theorem dX9_greatest_71 : decode cX9_greatest 71 = .ok (.ireturn, 1) := by decide +kernel
theorem dX9_cellAt_0 : decode cX9_cellAt 0 = .ok (.aload_n 0, 1) := by decide +kernel
theorem dX9_cellAt_1 : decode cX9_cellAt 1 = .ok (.iconst 0, 1) := by decide +kernel
theorem dX9_cellAt_2 : decode cX9_cellAt 2 = .ok (.iload_n 3, 1) := by decide +kernel
theorem dX9_cellAt_3 : decode cX9_cellAt 3 = .ok (.iconst 1, 1) := by decide +kernel
theorem dX9_cellAt_4 : decode cX9_cellAt 4 = .ok (.isub, 1) := by decide +kernel
theorem dX9_cellAt_5 : decode cX9_cellAt 5 = .ok (.invokevirtual 59, 3) := by decide +kernel
theorem dX9_cellAt_8 : decode cX9_cellAt 8 = .ok (.ifCond .ne 5, 3) := by decide +kernel
theorem dX9_cellAt_11 : decode cX9_cellAt 11 = .ok (.iconst 0, 1) := by decide +kernel
theorem dX9_cellAt_12 : decode cX9_cellAt 12 = .ok (.ireturn, 1) := by decide +kernel
theorem dX9_cellAt_13 : decode cX9_cellAt 13 = .ok (.aload_n 0, 1) := by decide +kernel
theorem dX9_cellAt_14 : decode cX9_cellAt 14 = .ok (.iload_n 2, 1) := by decide +kernel
theorem dX9_cellAt_15 : decode cX9_cellAt 15 = .ok (.aload_n 0, 1) := by decide +kernel
theorem dX9_cellAt_16 : decode cX9_cellAt 16 = .ok (.getfield 56, 3) := by decide +kernel
theorem dX9_cellAt_19 : decode cX9_cellAt 19 = .ok (.imul, 1) := by decide +kernel
theorem dX9_cellAt_20 : decode cX9_cellAt 20 = .ok (.iload_n 1, 1) := by decide +kernel
theorem dX9_cellAt_21 : decode cX9_cellAt 21 = .ok (.iadd, 1) := by decide +kernel
theorem dX9_cellAt_22 : decode cX9_cellAt 22 = .ok (.putfield 56, 3) := by decide +kernel
theorem dX9_cellAt_25 : decode cX9_cellAt 25 = .ok (.iconst 1, 1) := by decide +kernel
theorem dX9_cellAt_26 : decode cX9_cellAt 26 = .ok (.ireturn, 1) := by decide +kernel
theorem dX9_readHeap_0 : decode cX9_readHeap 0 = .ok (.aload_n 0, 1) := by decide +kernel
theorem dX9_readHeap_1 : decode cX9_readHeap 1 = .ok (.invokevirtual 63, 3) := by decide +kernel
theorem dX9_readHeap_4 : decode cX9_readHeap 4 = .ok (.aload_n 0, 1) := by decide +kernel
theorem dX9_readHeap_5 : decode cX9_readHeap 5 = .ok (.iconst 1, 1) := by decide +kernel
theorem dX9_readHeap_6 : decode cX9_readHeap 6 = .ok (.bipush 40, 2) := by decide +kernel
theorem dX9_readHeap_8 : decode cX9_readHeap 8 = .ok (.invokevirtual 70, 3) := by decide +kernel
theorem dX9_readHeap_11 : decode cX9_readHeap 11 = .ok (.ifCond .ne 5, 3) := by decide +kernel
theorem dX9_readHeap_14 : decode cX9_readHeap 14 = .ok (.iconst 0, 1) := by decide +kernel
theorem dX9_readHeap_15 : decode cX9_readHeap 15 = .ok (.ireturn, 1) := by decide +kernel
theorem dX9_readHeap_16 : decode cX9_readHeap 16 = .ok (.aload_n 0, 1) := by decide +kernel
theorem dX9_readHeap_17 : decode cX9_readHeap 17 = .ok (.getfield 56, 3) := by decide +kernel
theorem dX9_readHeap_20 : decode cX9_readHeap 20 = .ok (.istore_n 1, 1) := by decide +kernel
theorem dX9_readHeap_21 : decode cX9_readHeap 21 = .ok (.aload_n 0, 1) := by decide +kernel
theorem dX9_readHeap_22 : decode cX9_readHeap 22 = .ok (.iconst 0, 1) := by decide +kernel
theorem dX9_readHeap_23 : decode cX9_readHeap 23 = .ok (.aload_n 0, 1) := by decide +kernel
theorem dX9_readHeap_24 : decode cX9_readHeap 24 = .ok (.getfield 73, 3) := by decide +kernel
theorem dX9_readHeap_27 : decode cX9_readHeap 27 = .ok (.iconst 1, 1) := by decide +kernel
theorem dX9_readHeap_28 : decode cX9_readHeap 28 = .ok (.isub, 1) := by decide +kernel
theorem dX9_readHeap_29 : decode cX9_readHeap 29 = .ok (.invokevirtual 70, 3) := by decide +kernel
theorem dX9_readHeap_32 : decode cX9_readHeap 32 = .ok (.ifCond .eq 22, 3) := by decide +kernel
theorem dX9_readHeap_35 : decode cX9_readHeap 35 = .ok (.aload_n 0, 1) := by decide +kernel
theorem dX9_readHeap_36 : decode cX9_readHeap 36 = .ok (.aload_n 0, 1) := by decide +kernel
theorem dX9_readHeap_37 : decode cX9_readHeap 37 = .ok (.getfield 56, 3) := by decide +kernel
theorem dX9_readHeap_40 : decode cX9_readHeap 40 = .ok (.aload_n 0, 1) := by decide +kernel
theorem dX9_readHeap_41 : decode cX9_readHeap 41 = .ok (.getfield 73, 3) := by decide +kernel
theorem dX9_readHeap_44 : decode cX9_readHeap 44 = .ok (.aload_n 0, 1) := by decide +kernel
theorem dX9_readHeap_45 : decode cX9_readHeap 45 = .ok (.getfield 76, 3) := by decide +kernel
theorem dX9_readHeap_48 : decode cX9_readHeap 48 = .ok (.invokevirtual 79, 3) := by decide +kernel
theorem dX9_readHeap_51 : decode cX9_readHeap 51 = .ok (.ifCond .ne 5, 3) := by decide +kernel
theorem dX9_readHeap_54 : decode cX9_readHeap 54 = .ok (.iconst 0, 1) := by decide +kernel
theorem dX9_readHeap_55 : decode cX9_readHeap 55 = .ok (.ireturn, 1) := by decide +kernel
theorem dX9_readHeap_56 : decode cX9_readHeap 56 = .ok (.aload_n 0, 1) := by decide +kernel
theorem dX9_readHeap_57 : decode cX9_readHeap 57 = .ok (.getfield 83, 3) := by decide +kernel
theorem dX9_readHeap_60 : decode cX9_readHeap 60 = .ok (.aload_n 0, 1) := by decide +kernel
theorem dX9_readHeap_61 : decode cX9_readHeap 61 = .ok (.getfield 56, 3) := by decide +kernel
theorem dX9_readHeap_64 : decode cX9_readHeap 64 = .ok (.iaload, 1) := by decide +kernel
theorem dX9_readHeap_65 : decode cX9_readHeap 65 = .ok (.iload_n 1, 1) := by decide +kernel
theorem dX9_readHeap_66 : decode cX9_readHeap 66 = .ok (.iadd, 1) := by decide +kernel
theorem dX9_readHeap_67 : decode cX9_readHeap 67 = .ok (.bipush 59, 2) := by decide +kernel
theorem dX9_readHeap_69 : decode cX9_readHeap 69 = .ok (.if_icmp .le 9, 3) := by decide +kernel
theorem dX9_readHeap_72 : decode cX9_readHeap 72 = .ok (.aload_n 0, 1) := by decide +kernel
theorem dX9_readHeap_73 : decode cX9_readHeap 73 = .ok (.iconst 2, 1) := by decide +kernel
theorem dX9_readHeap_74 : decode cX9_readHeap 74 = .ok (.invokevirtual 49, 3) := by decide +kernel
theorem dX9_readHeap_77 : decode cX9_readHeap 77 = .ok (.ireturn, 1) := by decide +kernel
theorem dX9_readHeap_78 : decode cX9_readHeap 78 = .ok (.aload_n 0, 1) := by decide +kernel
theorem dX9_readHeap_79 : decode cX9_readHeap 79 = .ok (.getfield 83, 3) := by decide +kernel
theorem dX9_readHeap_82 : decode cX9_readHeap 82 = .ok (.aload_n 0, 1) := by decide +kernel
theorem dX9_readHeap_83 : decode cX9_readHeap 83 = .ok (.getfield 56, 3) := by decide +kernel
theorem dX9_readHeap_86 : decode cX9_readHeap 86 = .ok (.dup2, 1) := by decide +kernel
theorem dX9_readHeap_87 : decode cX9_readHeap 87 = .ok (.iaload, 1) := by decide +kernel
theorem dX9_readHeap_88 : decode cX9_readHeap 88 = .ok (.iload_n 1, 1) := by decide +kernel
theorem dX9_readHeap_89 : decode cX9_readHeap 89 = .ok (.iadd, 1) := by decide +kernel
theorem dX9_readHeap_90 : decode cX9_readHeap 90 = .ok (.iastore, 1) := by decide +kernel
theorem dX9_readHeap_91 : decode cX9_readHeap 91 = .ok (.aload_n 0, 1) := by decide +kernel
theorem dX9_readHeap_92 : decode cX9_readHeap 92 = .ok (.iconst 1, 1) := by decide +kernel
theorem dX9_readHeap_93 : decode cX9_readHeap 93 = .ok (.putfield 87, 3) := by decide +kernel
theorem dX9_readHeap_96 : decode cX9_readHeap 96 = .ok (.aload_n 0, 1) := by decide +kernel
theorem dX9_readHeap_97 : decode cX9_readHeap 97 = .ok (.invokevirtual 63, 3) := by decide +kernel
theorem dX9_readHeap_100 : decode cX9_readHeap 100 = .ok (.iconst 1, 1) := by decide +kernel
theorem dX9_readHeap_101 : decode cX9_readHeap 101 = .ok (.ireturn, 1) := by decide +kernel
theorem dX9_readStone_0 : decode cX9_readStone 0 = .ok (.aload_n 0, 1) := by decide +kernel
theorem dX9_readStone_1 : decode cX9_readStone 1 = .ok (.invokevirtual 63, 3) := by decide +kernel
theorem dX9_readStone_4 : decode cX9_readStone 4 = .ok (.aload_n 0, 1) := by decide +kernel
theorem dX9_readStone_5 : decode cX9_readStone 5 = .ok (.iconst 0, 1) := by decide +kernel
theorem dX9_readStone_6 : decode cX9_readStone 6 = .ok (.aload_n 0, 1) := by decide +kernel
theorem dX9_readStone_7 : decode cX9_readStone 7 = .ok (.getfield 73, 3) := by decide +kernel
theorem dX9_readStone_10 : decode cX9_readStone 10 = .ok (.iconst 1, 1) := by decide +kernel
theorem dX9_readStone_11 : decode cX9_readStone 11 = .ok (.isub, 1) := by decide +kernel
theorem dX9_readStone_12 : decode cX9_readStone 12 = .ok (.invokevirtual 70, 3) := by decide +kernel
theorem dX9_readStone_15 : decode cX9_readStone 15 = .ok (.ifCond .eq 22, 3) := by decide +kernel
theorem dX9_readStone_18 : decode cX9_readStone 18 = .ok (.aload_n 0, 1) := by decide +kernel
theorem dX9_readStone_19 : decode cX9_readStone 19 = .ok (.aload_n 0, 1) := by decide +kernel
theorem dX9_readStone_20 : decode cX9_readStone 20 = .ok (.getfield 56, 3) := by decide +kernel
theorem dX9_readStone_23 : decode cX9_readStone 23 = .ok (.aload_n 0, 1) := by decide +kernel
theorem dX9_readStone_24 : decode cX9_readStone 24 = .ok (.getfield 73, 3) := by decide +kernel
theorem dX9_readStone_27 : decode cX9_readStone 27 = .ok (.aload_n 0, 1) := by decide +kernel
theorem dX9_readStone_28 : decode cX9_readStone 28 = .ok (.getfield 76, 3) := by decide +kernel
theorem dX9_readStone_31 : decode cX9_readStone 31 = .ok (.invokevirtual 79, 3) := by decide +kernel
theorem dX9_readStone_34 : decode cX9_readStone 34 = .ok (.ifCond .ne 5, 3) := by decide +kernel
theorem dX9_readStone_37 : decode cX9_readStone 37 = .ok (.iconst 0, 1) := by decide +kernel
theorem dX9_readStone_38 : decode cX9_readStone 38 = .ok (.ireturn, 1) := by decide +kernel
theorem dX9_readStone_39 : decode cX9_readStone 39 = .ok (.aload_n 0, 1) := by decide +kernel
theorem dX9_readStone_40 : decode cX9_readStone 40 = .ok (.getfield 91, 3) := by decide +kernel
theorem dX9_readStone_43 : decode cX9_readStone 43 = .ok (.aload_n 0, 1) := by decide +kernel
theorem dX9_readStone_44 : decode cX9_readStone 44 = .ok (.getfield 56, 3) := by decide +kernel
theorem dX9_readStone_47 : decode cX9_readStone 47 = .ok (.baload, 1) := by decide +kernel
theorem dX9_readStone_48 : decode cX9_readStone 48 = .ok (.ifCond .eq 9, 3) := by decide +kernel
theorem dX9_readStone_51 : decode cX9_readStone 51 = .ok (.aload_n 0, 1) := by decide +kernel
theorem dX9_readStone_52 : decode cX9_readStone 52 = .ok (.iconst 3, 1) := by decide +kernel
theorem dX9_readStone_53 : decode cX9_readStone 53 = .ok (.invokevirtual 49, 3) := by decide +kernel
theorem dX9_readStone_56 : decode cX9_readStone 56 = .ok (.ireturn, 1) := by decide +kernel
theorem dX9_readStone_57 : decode cX9_readStone 57 = .ok (.aload_n 0, 1) := by decide +kernel
theorem dX9_readStone_58 : decode cX9_readStone 58 = .ok (.getfield 91, 3) := by decide +kernel
theorem dX9_readStone_61 : decode cX9_readStone 61 = .ok (.aload_n 0, 1) := by decide +kernel
theorem dX9_readStone_62 : decode cX9_readStone 62 = .ok (.getfield 56, 3) := by decide +kernel
theorem dX9_readStone_65 : decode cX9_readStone 65 = .ok (.iconst 1, 1) := by decide +kernel
theorem dX9_readStone_66 : decode cX9_readStone 66 = .ok (.bastore, 1) := by decide +kernel
theorem dX9_readStone_67 : decode cX9_readStone 67 = .ok (.aload_n 0, 1) := by decide +kernel
theorem dX9_readStone_68 : decode cX9_readStone 68 = .ok (.iconst 1, 1) := by decide +kernel
theorem dX9_readStone_69 : decode cX9_readStone 69 = .ok (.putfield 87, 3) := by decide +kernel
theorem dX9_readStone_72 : decode cX9_readStone 72 = .ok (.aload_n 0, 1) := by decide +kernel
theorem dX9_readStone_73 : decode cX9_readStone 73 = .ok (.invokevirtual 63, 3) := by decide +kernel
theorem dX9_readStone_76 : decode cX9_readStone 76 = .ok (.iconst 1, 1) := by decide +kernel
theorem dX9_readStone_77 : decode cX9_readStone 77 = .ok (.ireturn, 1) := by decide +kernel
theorem dX9_readFlag_0 : decode cX9_readFlag 0 = .ok (.aload_n 0, 1) := by decide +kernel
theorem dX9_readFlag_1 : decode cX9_readFlag 1 = .ok (.getfield 95, 3) := by decide +kernel
theorem dX9_readFlag_4 : decode cX9_readFlag 4 = .ok (.iconst 3, 1) := by decide +kernel
theorem dX9_readFlag_5 : decode cX9_readFlag 5 = .ok (.if_icmp .ne 9, 3) := by decide +kernel
theorem dX9_readFlag_8 : decode cX9_readFlag 8 = .ok (.aload_n 0, 1) := by decide +kernel
theorem dX9_readFlag_9 : decode cX9_readFlag 9 = .ok (.iconst 4, 1) := by decide +kernel
theorem dX9_readFlag_10 : decode cX9_readFlag 10 = .ok (.invokevirtual 49, 3) := by decide +kernel
theorem dX9_readFlag_13 : decode cX9_readFlag 13 = .ok (.ireturn, 1) := by decide +kernel
theorem dX9_readFlag_14 : decode cX9_readFlag 14 = .ok (.aload_n 0, 1) := by decide +kernel
theorem dX9_readFlag_15 : decode cX9_readFlag 15 = .ok (.invokevirtual 63, 3) := by decide +kernel
theorem dX9_readFlag_18 : decode cX9_readFlag 18 = .ok (.aload_n 0, 1) := by decide +kernel
theorem dX9_readFlag_19 : decode cX9_readFlag 19 = .ok (.iconst 0, 1) := by decide +kernel
theorem dX9_readFlag_20 : decode cX9_readFlag 20 = .ok (.aload_n 0, 1) := by decide +kernel
theorem dX9_readFlag_21 : decode cX9_readFlag 21 = .ok (.getfield 73, 3) := by decide +kernel
theorem dX9_readFlag_24 : decode cX9_readFlag 24 = .ok (.iconst 1, 1) := by decide +kernel
theorem dX9_readFlag_25 : decode cX9_readFlag 25 = .ok (.isub, 1) := by decide +kernel
theorem dX9_readFlag_26 : decode cX9_readFlag 26 = .ok (.invokevirtual 70, 3) := by decide +kernel
theorem dX9_readFlag_29 : decode cX9_readFlag 29 = .ok (.ifCond .eq 22, 3) := by decide +kernel
theorem dX9_readFlag_32 : decode cX9_readFlag 32 = .ok (.aload_n 0, 1) := by decide +kernel
theorem dX9_readFlag_33 : decode cX9_readFlag 33 = .ok (.aload_n 0, 1) := by decide +kernel
theorem dX9_readFlag_34 : decode cX9_readFlag 34 = .ok (.getfield 56, 3) := by decide +kernel
theorem dX9_readFlag_37 : decode cX9_readFlag 37 = .ok (.aload_n 0, 1) := by decide +kernel
theorem dX9_readFlag_38 : decode cX9_readFlag 38 = .ok (.getfield 73, 3) := by decide +kernel
theorem dX9_readFlag_41 : decode cX9_readFlag 41 = .ok (.aload_n 0, 1) := by decide +kernel
theorem dX9_readFlag_42 : decode cX9_readFlag 42 = .ok (.getfield 76, 3) := by decide +kernel
theorem dX9_readFlag_45 : decode cX9_readFlag 45 = .ok (.invokevirtual 79, 3) := by decide +kernel
theorem dX9_readFlag_48 : decode cX9_readFlag 48 = .ok (.ifCond .ne 5, 3) := by decide +kernel
theorem dX9_readFlag_51 : decode cX9_readFlag 51 = .ok (.iconst 0, 1) := by decide +kernel
theorem dX9_readFlag_52 : decode cX9_readFlag 52 = .ok (.ireturn, 1) := by decide +kernel
theorem dX9_readFlag_53 : decode cX9_readFlag 53 = .ok (.iconst 0, 1) := by decide +kernel
theorem dX9_readFlag_54 : decode cX9_readFlag 54 = .ok (.istore_n 1, 1) := by decide +kernel
theorem dX9_readFlag_55 : decode cX9_readFlag 55 = .ok (.iload_n 1, 1) := by decide +kernel
theorem dX9_readFlag_56 : decode cX9_readFlag 56 = .ok (.aload_n 0, 1) := by decide +kernel
theorem dX9_readFlag_57 : decode cX9_readFlag 57 = .ok (.getfield 95, 3) := by decide +kernel
theorem dX9_readFlag_60 : decode cX9_readFlag 60 = .ok (.if_icmp .ge 28, 3) := by decide +kernel
theorem dX9_readFlag_63 : decode cX9_readFlag 63 = .ok (.aload_n 0, 1) := by decide +kernel
theorem dX9_readFlag_64 : decode cX9_readFlag 64 = .ok (.getfield 98, 3) := by decide +kernel
theorem dX9_readFlag_67 : decode cX9_readFlag 67 = .ok (.iload_n 1, 1) := by decide +kernel
theorem dX9_readFlag_68 : decode cX9_readFlag 68 = .ok (.iaload, 1) := by decide +kernel
theorem dX9_readFlag_69 : decode cX9_readFlag 69 = .ok (.aload_n 0, 1) := by decide +kernel
theorem dX9_readFlag_70 : decode cX9_readFlag 70 = .ok (.getfield 56, 3) := by decide +kernel
theorem dX9_readFlag_73 : decode cX9_readFlag 73 = .ok (.if_icmp .ne 9, 3) := by decide +kernel
theorem dX9_readFlag_76 : decode cX9_readFlag 76 = .ok (.aload_n 0, 1) := by decide +kernel
theorem dX9_readFlag_77 : decode cX9_readFlag 77 = .ok (.iconst 3, 1) := by decide +kernel
theorem dX9_readFlag_78 : decode cX9_readFlag 78 = .ok (.invokevirtual 49, 3) := by decide +kernel
theorem dX9_readFlag_81 : decode cX9_readFlag 81 = .ok (.ireturn, 1) := by decide +kernel
theorem dX9_readFlag_82 : decode cX9_readFlag 82 = .ok (.iinc 1 1, 3) := by decide +kernel
theorem dX9_readFlag_85 : decode cX9_readFlag 85 = .ok (.goto (-30), 3) := by decide +kernel
theorem dX9_readFlag_88 : decode cX9_readFlag 88 = .ok (.aload_n 0, 1) := by decide +kernel
theorem dX9_readFlag_89 : decode cX9_readFlag 89 = .ok (.getfield 98, 3) := by decide +kernel
theorem dX9_readFlag_92 : decode cX9_readFlag 92 = .ok (.aload_n 0, 1) := by decide +kernel
theorem dX9_readFlag_93 : decode cX9_readFlag 93 = .ok (.getfield 95, 3) := by decide +kernel
theorem dX9_readFlag_96 : decode cX9_readFlag 96 = .ok (.aload_n 0, 1) := by decide +kernel
theorem dX9_readFlag_97 : decode cX9_readFlag 97 = .ok (.getfield 56, 3) := by decide +kernel
theorem dX9_readFlag_100 : decode cX9_readFlag 100 = .ok (.iastore, 1) := by decide +kernel
theorem dX9_readFlag_101 : decode cX9_readFlag 101 = .ok (.aload_n 0, 1) := by decide +kernel
theorem dX9_readFlag_102 : decode cX9_readFlag 102 = .ok (.dup, 1) := by decide +kernel
theorem dX9_readFlag_103 : decode cX9_readFlag 103 = .ok (.getfield 95, 3) := by decide +kernel
theorem dX9_readFlag_106 : decode cX9_readFlag 106 = .ok (.iconst 1, 1) := by decide +kernel
theorem dX9_readFlag_107 : decode cX9_readFlag 107 = .ok (.iadd, 1) := by decide +kernel
theorem dX9_readFlag_108 : decode cX9_readFlag 108 = .ok (.putfield 95, 3) := by decide +kernel
theorem dX9_readFlag_111 : decode cX9_readFlag 111 = .ok (.aload_n 0, 1) := by decide +kernel
theorem dX9_readFlag_112 : decode cX9_readFlag 112 = .ok (.iconst 1, 1) := by decide +kernel
theorem dX9_readFlag_113 : decode cX9_readFlag 113 = .ok (.putfield 87, 3) := by decide +kernel
theorem dX9_readFlag_116 : decode cX9_readFlag 116 = .ok (.aload_n 0, 1) := by decide +kernel
theorem dX9_readFlag_117 : decode cX9_readFlag 117 = .ok (.invokevirtual 63, 3) := by decide +kernel
theorem dX9_readFlag_120 : decode cX9_readFlag 120 = .ok (.iconst 1, 1) := by decide +kernel
theorem dX9_readFlag_121 : decode cX9_readFlag 121 = .ok (.ireturn, 1) := by decide +kernel
theorem dX9_readShape_0 : decode cX9_readShape 0 = .ok (.aload_n 0, 1) := by decide +kernel
theorem dX9_readShape_1 : decode cX9_readShape 1 = .ok (.getfield 101, 3) := by decide +kernel
theorem dX9_readShape_4 : decode cX9_readShape 4 = .ok (.iconst 1, 1) := by decide +kernel
theorem dX9_readShape_5 : decode cX9_readShape 5 = .ok (.iand, 1) := by decide +kernel
theorem dX9_readShape_6 : decode cX9_readShape 6 = .ok (.iconst 1, 1) := by decide +kernel
theorem dX9_readShape_7 : decode cX9_readShape 7 = .ok (.if_icmp .ne 9, 3) := by decide +kernel
theorem dX9_readShape_10 : decode cX9_readShape 10 = .ok (.aload_n 0, 1) := by decide +kernel
theorem dX9_readShape_11 : decode cX9_readShape 11 = .ok (.iconst 3, 1) := by decide +kernel
theorem dX9_readShape_12 : decode cX9_readShape 12 = .ok (.invokevirtual 49, 3) := by decide +kernel
theorem dX9_readShape_15 : decode cX9_readShape 15 = .ok (.ireturn, 1) := by decide +kernel
theorem dX9_readShape_16 : decode cX9_readShape 16 = .ok (.aload_n 0, 1) := by decide +kernel
theorem dX9_readShape_17 : decode cX9_readShape 17 = .ok (.getfield 87, 3) := by decide +kernel
theorem dX9_readShape_20 : decode cX9_readShape 20 = .ok (.ifCond .eq 9, 3) := by decide +kernel
theorem dX9_readShape_23 : decode cX9_readShape 23 = .ok (.aload_n 0, 1) := by decide +kernel
theorem dX9_readShape_24 : decode cX9_readShape 24 = .ok (.iconst 5, 1) := by decide +kernel
theorem dX9_readShape_25 : decode cX9_readShape 25 = .ok (.invokevirtual 49, 3) := by decide +kernel
theorem dX9_readShape_28 : decode cX9_readShape 28 = .ok (.ireturn, 1) := by decide +kernel
theorem dX9_readShape_29 : decode cX9_readShape 29 = .ok (.aload_n 0, 1) := by decide +kernel
theorem dX9_readShape_30 : decode cX9_readShape 30 = .ok (.dup, 1) := by decide +kernel
theorem dX9_readShape_31 : decode cX9_readShape 31 = .ok (.getfield 101, 3) := by decide +kernel
theorem dX9_readShape_34 : decode cX9_readShape 34 = .ok (.iconst 1, 1) := by decide +kernel
theorem dX9_readShape_35 : decode cX9_readShape 35 = .ok (.ior, 1) := by decide +kernel
theorem dX9_readShape_36 : decode cX9_readShape 36 = .ok (.putfield 101, 3) := by decide +kernel
theorem dX9_readShape_39 : decode cX9_readShape 39 = .ok (.aload_n 0, 1) := by decide +kernel
theorem dX9_readShape_40 : decode cX9_readShape 40 = .ok (.invokevirtual 63, 3) := by decide +kernel
theorem dX9_readShape_43 : decode cX9_readShape 43 = .ok (.aload_n 0, 1) := by decide +kernel
theorem dX9_readShape_44 : decode cX9_readShape 44 = .ok (.iconst 1, 1) := by decide +kernel
theorem dX9_readShape_45 : decode cX9_readShape 45 = .ok (.bipush 8, 2) := by decide +kernel
theorem dX9_readShape_47 : decode cX9_readShape 47 = .ok (.invokevirtual 70, 3) := by decide +kernel
theorem dX9_readShape_50 : decode cX9_readShape 50 = .ok (.ifCond .ne 5, 3) := by decide +kernel
theorem dX9_readShape_53 : decode cX9_readShape 53 = .ok (.iconst 0, 1) := by decide +kernel
theorem dX9_readShape_54 : decode cX9_readShape 54 = .ok (.ireturn, 1) := by decide +kernel
theorem dX9_readShape_55 : decode cX9_readShape 55 = .ok (.aload_n 0, 1) := by decide +kernel
theorem dX9_readShape_56 : decode cX9_readShape 56 = .ok (.aload_n 0, 1) := by decide +kernel
theorem dX9_readShape_57 : decode cX9_readShape 57 = .ok (.getfield 56, 3) := by decide +kernel
theorem dX9_readShape_60 : decode cX9_readShape 60 = .ok (.putfield 73, 3) := by decide +kernel
theorem dX9_readShape_63 : decode cX9_readShape 63 = .ok (.aload_n 0, 1) := by decide +kernel
theorem dX9_readShape_64 : decode cX9_readShape 64 = .ok (.iconst 1, 1) := by decide +kernel
theorem dX9_readShape_65 : decode cX9_readShape 65 = .ok (.bipush 8, 2) := by decide +kernel
theorem dX9_readShape_67 : decode cX9_readShape 67 = .ok (.invokevirtual 70, 3) := by decide +kernel
theorem dX9_readShape_70 : decode cX9_readShape 70 = .ok (.ifCond .ne 5, 3) := by decide +kernel
theorem dX9_readShape_73 : decode cX9_readShape 73 = .ok (.iconst 0, 1) := by decide +kernel
theorem dX9_readShape_74 : decode cX9_readShape 74 = .ok (.ireturn, 1) := by decide +kernel
theorem dX9_readShape_75 : decode cX9_readShape 75 = .ok (.aload_n 0, 1) := by decide +kernel
theorem dX9_readShape_76 : decode cX9_readShape 76 = .ok (.aload_n 0, 1) := by decide +kernel
theorem dX9_readShape_77 : decode cX9_readShape 77 = .ok (.getfield 56, 3) := by decide +kernel
theorem dX9_readShape_80 : decode cX9_readShape 80 = .ok (.putfield 76, 3) := by decide +kernel
theorem dX9_readShape_83 : decode cX9_readShape 83 = .ok (.iconst 1, 1) := by decide +kernel
theorem dX9_readShape_84 : decode cX9_readShape 84 = .ok (.ireturn, 1) := by decide +kernel
theorem dX9_wordAt_0 : decode cX9_wordAt 0 = .ok (.aload_n 0, 1) := by decide +kernel
theorem dX9_wordAt_1 : decode cX9_wordAt 1 = .ok (.ldc 104, 2) := by decide +kernel
theorem dX9_wordAt_3 : decode cX9_wordAt 3 = .ok (.invokevirtual 106, 3) := by decide +kernel
theorem dX9_wordAt_6 : decode cX9_wordAt 6 = .ok (.ifCond .eq 7, 3) := by decide +kernel
theorem dX9_wordAt_9 : decode cX9_wordAt 9 = .ok (.iconst 0, 1) := by decide +kernel
theorem dX9_wordAt_10 : decode cX9_wordAt 10 = .ok (.goto 83, 3) := by decide +kernel
theorem dX9_wordAt_13 : decode cX9_wordAt 13 = .ok (.aload_n 0, 1) := by decide +kernel
theorem dX9_wordAt_14 : decode cX9_wordAt 14 = .ok (.ldc 110, 2) := by decide +kernel
theorem dX9_wordAt_16 : decode cX9_wordAt 16 = .ok (.invokevirtual 106, 3) := by decide +kernel
theorem dX9_wordAt_19 : decode cX9_wordAt 19 = .ok (.ifCond .eq 7, 3) := by decide +kernel
theorem dX9_wordAt_22 : decode cX9_wordAt 22 = .ok (.iconst 1, 1) := by decide +kernel
theorem dX9_wordAt_23 : decode cX9_wordAt 23 = .ok (.goto 70, 3) := by decide +kernel
theorem dX9_wordAt_26 : decode cX9_wordAt 26 = .ok (.aload_n 0, 1) := by decide +kernel
theorem dX9_wordAt_27 : decode cX9_wordAt 27 = .ok (.ldc 112, 2) := by decide +kernel
theorem dX9_wordAt_29 : decode cX9_wordAt 29 = .ok (.invokevirtual 106, 3) := by decide +kernel
theorem dX9_wordAt_32 : decode cX9_wordAt 32 = .ok (.ifCond .eq 7, 3) := by decide +kernel
theorem dX9_wordAt_35 : decode cX9_wordAt 35 = .ok (.iconst 2, 1) := by decide +kernel
theorem dX9_wordAt_36 : decode cX9_wordAt 36 = .ok (.goto 57, 3) := by decide +kernel
theorem dX9_wordAt_39 : decode cX9_wordAt 39 = .ok (.aload_n 0, 1) := by decide +kernel
theorem dX9_wordAt_40 : decode cX9_wordAt 40 = .ok (.ldc 114, 2) := by decide +kernel
theorem dX9_wordAt_42 : decode cX9_wordAt 42 = .ok (.invokevirtual 106, 3) := by decide +kernel
theorem dX9_wordAt_45 : decode cX9_wordAt 45 = .ok (.ifCond .eq 7, 3) := by decide +kernel
theorem dX9_wordAt_48 : decode cX9_wordAt 48 = .ok (.iconst 3, 1) := by decide +kernel
theorem dX9_wordAt_49 : decode cX9_wordAt 49 = .ok (.goto 44, 3) := by decide +kernel
theorem dX9_wordAt_52 : decode cX9_wordAt 52 = .ok (.aload_n 0, 1) := by decide +kernel
theorem dX9_wordAt_53 : decode cX9_wordAt 53 = .ok (.ldc 116, 2) := by decide +kernel
theorem dX9_wordAt_55 : decode cX9_wordAt 55 = .ok (.invokevirtual 106, 3) := by decide +kernel
theorem dX9_wordAt_58 : decode cX9_wordAt 58 = .ok (.ifCond .eq 7, 3) := by decide +kernel
theorem dX9_wordAt_61 : decode cX9_wordAt 61 = .ok (.iconst 4, 1) := by decide +kernel
theorem dX9_wordAt_62 : decode cX9_wordAt 62 = .ok (.goto 31, 3) := by decide +kernel
theorem dX9_wordAt_65 : decode cX9_wordAt 65 = .ok (.aload_n 0, 1) := by decide +kernel
theorem dX9_wordAt_66 : decode cX9_wordAt 66 = .ok (.ldc 118, 2) := by decide +kernel
theorem dX9_wordAt_68 : decode cX9_wordAt 68 = .ok (.invokevirtual 106, 3) := by decide +kernel
theorem dX9_wordAt_71 : decode cX9_wordAt 71 = .ok (.ifCond .eq 7, 3) := by decide +kernel
theorem dX9_wordAt_74 : decode cX9_wordAt 74 = .ok (.iconst 5, 1) := by decide +kernel
theorem dX9_wordAt_75 : decode cX9_wordAt 75 = .ok (.goto 18, 3) := by decide +kernel
theorem dX9_wordAt_78 : decode cX9_wordAt 78 = .ok (.aload_n 0, 1) := by decide +kernel
theorem dX9_wordAt_79 : decode cX9_wordAt 79 = .ok (.ldc 120, 2) := by decide +kernel
theorem dX9_wordAt_81 : decode cX9_wordAt 81 = .ok (.invokevirtual 106, 3) := by decide +kernel
theorem dX9_wordAt_84 : decode cX9_wordAt 84 = .ok (.ifCond .eq 8, 3) := by decide +kernel
theorem dX9_wordAt_87 : decode cX9_wordAt 87 = .ok (.bipush 6, 2) := by decide +kernel
theorem dX9_wordAt_89 : decode cX9_wordAt 89 = .ok (.goto 4, 3) := by decide +kernel
theorem dX9_wordAt_92 : decode cX9_wordAt 92 = .ok (.iconst (-1), 1) := by decide +kernel
theorem dX9_wordAt_93 : decode cX9_wordAt 93 = .ok (.ireturn, 1) := by decide +kernel
theorem dX9_readSmall_0 : decode cX9_readSmall 0 = .ok (.aload_n 0, 1) := by decide +kernel
theorem dX9_readSmall_1 : decode cX9_readSmall 1 = .ok (.invokevirtual 122, 3) := by decide +kernel
theorem dX9_readSmall_4 : decode cX9_readSmall 4 = .ok (.istore_n 1, 1) := by decide +kernel
theorem dX9_readSmall_5 : decode cX9_readSmall 5 = .ok (.iload_n 1, 1) := by decide +kernel
theorem dX9_readSmall_6 : decode cX9_readSmall 6 = .ok (.iconst (-1), 1) := by decide +kernel
theorem dX9_readSmall_7 : decode cX9_readSmall 7 = .ok (.if_icmp .ne 9, 3) := by decide +kernel
theorem dX9_readSmall_10 : decode cX9_readSmall 10 = .ok (.aload_n 0, 1) := by decide +kernel
theorem dX9_readSmall_11 : decode cX9_readSmall 11 = .ok (.iconst 1, 1) := by decide +kernel
theorem dX9_readSmall_12 : decode cX9_readSmall 12 = .ok (.invokevirtual 49, 3) := by decide +kernel
theorem dX9_readSmall_15 : decode cX9_readSmall 15 = .ok (.ireturn, 1) := by decide +kernel
theorem dX9_readSmall_16 : decode cX9_readSmall 16 = .ok (.aload_n 0, 1) := by decide +kernel
theorem dX9_readSmall_17 : decode cX9_readSmall 17 = .ok (.getfield 101, 3) := by decide +kernel
theorem dX9_readSmall_20 : decode cX9_readSmall 20 = .ok (.iload_n 1, 1) := by decide +kernel
theorem dX9_readSmall_21 : decode cX9_readSmall 21 = .ok (.iconst 1, 1) := by decide +kernel
theorem dX9_readSmall_22 : decode cX9_readSmall 22 = .ok (.iadd, 1) := by decide +kernel
theorem dX9_readSmall_23 : decode cX9_readSmall 23 = .ok (.ishr, 1) := by decide +kernel
theorem dX9_readSmall_24 : decode cX9_readSmall 24 = .ok (.iconst 1, 1) := by decide +kernel
theorem dX9_readSmall_25 : decode cX9_readSmall 25 = .ok (.iand, 1) := by decide +kernel
theorem dX9_readSmall_26 : decode cX9_readSmall 26 = .ok (.iconst 1, 1) := by decide +kernel
theorem dX9_readSmall_27 : decode cX9_readSmall 27 = .ok (.if_icmp .ne 9, 3) := by decide +kernel
theorem dX9_readSmall_30 : decode cX9_readSmall 30 = .ok (.aload_n 0, 1) := by decide +kernel
theorem dX9_readSmall_31 : decode cX9_readSmall 31 = .ok (.iconst 3, 1) := by decide +kernel
theorem dX9_readSmall_32 : decode cX9_readSmall 32 = .ok (.invokevirtual 49, 3) := by decide +kernel
theorem dX9_readSmall_35 : decode cX9_readSmall 35 = .ok (.ireturn, 1) := by decide +kernel
theorem dX9_readSmall_36 : decode cX9_readSmall 36 = .ok (.aload_n 0, 1) := by decide +kernel
theorem dX9_readSmall_37 : decode cX9_readSmall 37 = .ok (.dup, 1) := by decide +kernel
theorem dX9_readSmall_38 : decode cX9_readSmall 38 = .ok (.getfield 101, 3) := by decide +kernel
theorem dX9_readSmall_41 : decode cX9_readSmall 41 = .ok (.iconst 2, 1) := by decide +kernel
theorem dX9_readSmall_42 : decode cX9_readSmall 42 = .ok (.iload_n 1, 1) := by decide +kernel
theorem dX9_readSmall_43 : decode cX9_readSmall 43 = .ok (.ishl, 1) := by decide +kernel
theorem dX9_readSmall_44 : decode cX9_readSmall 44 = .ok (.ior, 1) := by decide +kernel
theorem dX9_readSmall_45 : decode cX9_readSmall 45 = .ok (.putfield 101, 3) := by decide +kernel
theorem dX9_readSmall_48 : decode cX9_readSmall 48 = .ok (.aload_n 0, 1) := by decide +kernel
theorem dX9_readSmall_49 : decode cX9_readSmall 49 = .ok (.invokevirtual 63, 3) := by decide +kernel
theorem dX9_readSmall_52 : decode cX9_readSmall 52 = .ok (.iload_n 1, 1) := by decide +kernel
theorem dX9_readSmall_53 : decode cX9_readSmall 53 = .ok (.istore_n 2, 1) := by decide +kernel
theorem dX9_readSmall_54 : decode cX9_readSmall 54 = .ok (.iload_n 2, 1) := by decide +kernel
theorem dX9_readSmall_55 : decode cX9_readSmall 55 = .ok (.iload_n 1, 1) := by decide +kernel
theorem dX9_readSmall_56 : decode cX9_readSmall 56 = .ok (.bipush 6, 2) := by decide +kernel
theorem dX9_readSmall_58 : decode cX9_readSmall 58 = .ok (.if_icmp .ne 8, 3) := by decide +kernel
theorem dX9_readSmall_61 : decode cX9_readSmall 61 = .ok (.bipush 8, 2) := by decide +kernel
theorem dX9_readSmall_63 : decode cX9_readSmall 63 = .ok (.goto 4, 3) := by decide +kernel
theorem dX9_readSmall_66 : decode cX9_readSmall 66 = .ok (.iload_n 1, 1) := by decide +kernel
theorem dX9_readSmall_67 : decode cX9_readSmall 67 = .ok (.if_icmp .gt 48, 3) := by decide +kernel
theorem dX9_readSmall_70 : decode cX9_readSmall 70 = .ok (.aload_n 0, 1) := by decide +kernel
theorem dX9_readSmall_71 : decode cX9_readSmall 71 = .ok (.iload_n 2, 1) := by decide +kernel
theorem dX9_readSmall_72 : decode cX9_readSmall 72 = .ok (.iconst 2, 1) := by decide +kernel
theorem dX9_readSmall_73 : decode cX9_readSmall 73 = .ok (.if_icmp .eq 9, 3) := by decide +kernel
theorem dX9_readSmall_76 : decode cX9_readSmall 76 = .ok (.iload_n 2, 1) := by decide +kernel
theorem dX9_readSmall_77 : decode cX9_readSmall 77 = .ok (.bipush 6, 2) := by decide +kernel
theorem dX9_readSmall_79 : decode cX9_readSmall 79 = .ok (.if_icmp .ne 7, 3) := by decide +kernel
theorem dX9_readSmall_82 : decode cX9_readSmall 82 = .ok (.iconst 1, 1) := by decide +kernel
theorem dX9_readSmall_83 : decode cX9_readSmall 83 = .ok (.goto 4, 3) := by decide +kernel
theorem dX9_readSmall_86 : decode cX9_readSmall 86 = .ok (.iconst 0, 1) := by decide +kernel
theorem dX9_readSmall_87 : decode cX9_readSmall 87 = .ok (.iload_n 2, 1) := by decide +kernel
theorem dX9_readSmall_88 : decode cX9_readSmall 88 = .ok (.invokestatic 125, 3) := by decide +kernel
theorem dX9_readSmall_91 : decode cX9_readSmall 91 = .ok (.invokevirtual 70, 3) := by decide +kernel
theorem dX9_readSmall_94 : decode cX9_readSmall 94 = .ok (.ifCond .ne 5, 3) := by decide +kernel
theorem dX9_readSmall_97 : decode cX9_readSmall 97 = .ok (.iconst 0, 1) := by decide +kernel
theorem dX9_readSmall_98 : decode cX9_readSmall 98 = .ok (.ireturn, 1) := by decide +kernel
theorem dX9_readSmall_99 : decode cX9_readSmall 99 = .ok (.aload_n 0, 1) := by decide +kernel
theorem dX9_readSmall_100 : decode cX9_readSmall 100 = .ok (.getfield 128, 3) := by decide +kernel
theorem dX9_readSmall_103 : decode cX9_readSmall 103 = .ok (.iload_n 2, 1) := by decide +kernel
theorem dX9_readSmall_104 : decode cX9_readSmall 104 = .ok (.aload_n 0, 1) := by decide +kernel
theorem dX9_readSmall_105 : decode cX9_readSmall 105 = .ok (.getfield 56, 3) := by decide +kernel
theorem dX9_readSmall_108 : decode cX9_readSmall 108 = .ok (.iastore, 1) := by decide +kernel
theorem dX9_readSmall_109 : decode cX9_readSmall 109 = .ok (.iinc 2 1, 3) := by decide +kernel
theorem dX9_readSmall_112 : decode cX9_readSmall 112 = .ok (.goto (-58), 3) := by decide +kernel
theorem dX9_readSmall_115 : decode cX9_readSmall 115 = .ok (.iconst 1, 1) := by decide +kernel
theorem dX9_readSmall_116 : decode cX9_readSmall 116 = .ok (.ireturn, 1) := by decide +kernel
theorem dX9_readBeach_0 : decode cX9_readBeach 0 = .ok (.aload_n 0, 1) := by decide +kernel
theorem dX9_readBeach_1 : decode cX9_readBeach 1 = .ok (.iconst 5, 1) := by decide +kernel
theorem dX9_readBeach_2 : decode cX9_readBeach 2 = .ok (.putfield 73, 3) := by decide +kernel
theorem dX9_readBeach_5 : decode cX9_readBeach 5 = .ok (.aload_n 0, 1) := by decide +kernel
theorem dX9_readBeach_6 : decode cX9_readBeach 6 = .ok (.iconst 5, 1) := by decide +kernel
theorem dX9_readBeach_7 : decode cX9_readBeach 7 = .ok (.putfield 76, 3) := by decide +kernel
theorem dX9_readBeach_10 : decode cX9_readBeach 10 = .ok (.aload_n 0, 1) := by decide +kernel
theorem dX9_readBeach_11 : decode cX9_readBeach 11 = .ok (.iconst 0, 1) := by decide +kernel
theorem dX9_readBeach_12 : decode cX9_readBeach 12 = .ok (.putfield 95, 3) := by decide +kernel
theorem dX9_readBeach_15 : decode cX9_readBeach 15 = .ok (.aload_n 0, 1) := by decide +kernel
theorem dX9_readBeach_16 : decode cX9_readBeach 16 = .ok (.iconst 0, 1) := by decide +kernel
theorem dX9_readBeach_17 : decode cX9_readBeach 17 = .ok (.putfield 101, 3) := by decide +kernel
theorem dX9_readBeach_20 : decode cX9_readBeach 20 = .ok (.aload_n 0, 1) := by decide +kernel
theorem dX9_readBeach_21 : decode cX9_readBeach 21 = .ok (.iconst 0, 1) := by decide +kernel
theorem dX9_readBeach_22 : decode cX9_readBeach 22 = .ok (.putfield 87, 3) := by decide +kernel
theorem dX9_readBeach_25 : decode cX9_readBeach 25 = .ok (.aload_n 0, 1) := by decide +kernel
theorem dX9_readBeach_26 : decode cX9_readBeach 26 = .ok (.iconst 0, 1) := by decide +kernel
theorem dX9_readBeach_27 : decode cX9_readBeach 27 = .ok (.putfield 131, 3) := by decide +kernel
theorem dX9_readBeach_30 : decode cX9_readBeach 30 = .ok (.iconst 0, 1) := by decide +kernel
theorem dX9_readBeach_31 : decode cX9_readBeach 31 = .ok (.istore_n 1, 1) := by decide +kernel
theorem dX9_readBeach_32 : decode cX9_readBeach 32 = .ok (.iload_n 1, 1) := by decide +kernel
theorem dX9_readBeach_33 : decode cX9_readBeach 33 = .ok (.bipush 9, 2) := by decide +kernel
theorem dX9_readBeach_35 : decode cX9_readBeach 35 = .ok (.if_icmp .ge 19, 3) := by decide +kernel
theorem dX9_readBeach_38 : decode cX9_readBeach 38 = .ok (.aload_n 0, 1) := by decide +kernel
theorem dX9_readBeach_39 : decode cX9_readBeach 39 = .ok (.getfield 128, 3) := by decide +kernel
theorem dX9_readBeach_42 : decode cX9_readBeach 42 = .ok (.iload_n 1, 1) := by decide +kernel
theorem dX9_readBeach_43 : decode cX9_readBeach 43 = .ok (.iload_n 1, 1) := by decide +kernel
theorem dX9_readBeach_44 : decode cX9_readBeach 44 = .ok (.invokestatic 134, 3) := by decide +kernel
theorem dX9_readBeach_47 : decode cX9_readBeach 47 = .ok (.iastore, 1) := by decide +kernel
theorem dX9_readBeach_48 : decode cX9_readBeach 48 = .ok (.iinc 1 1, 3) := by decide +kernel
theorem dX9_readBeach_51 : decode cX9_readBeach 51 = .ok (.goto (-19), 3) := by decide +kernel
theorem dX9_readBeach_54 : decode cX9_readBeach 54 = .ok (.iconst 0, 1) := by decide +kernel
theorem dX9_readBeach_55 : decode cX9_readBeach 55 = .ok (.istore_n 1, 1) := by decide +kernel
theorem dX9_readBeach_56 : decode cX9_readBeach 56 = .ok (.iload_n 1, 1) := by decide +kernel
theorem dX9_readBeach_57 : decode cX9_readBeach 57 = .ok (.bipush 64, 2) := by decide +kernel
theorem dX9_readBeach_59 : decode cX9_readBeach 59 = .ok (.if_icmp .ge 23, 3) := by decide +kernel
theorem dX9_readBeach_62 : decode cX9_readBeach 62 = .ok (.aload_n 0, 1) := by decide +kernel
theorem dX9_readBeach_63 : decode cX9_readBeach 63 = .ok (.getfield 83, 3) := by decide +kernel
theorem dX9_readBeach_66 : decode cX9_readBeach 66 = .ok (.iload_n 1, 1) := by decide +kernel
theorem dX9_readBeach_67 : decode cX9_readBeach 67 = .ok (.iconst 0, 1) := by decide +kernel
theorem dX9_readBeach_68 : decode cX9_readBeach 68 = .ok (.iastore, 1) := by decide +kernel
theorem dX9_readBeach_69 : decode cX9_readBeach 69 = .ok (.aload_n 0, 1) := by decide +kernel
theorem dX9_readBeach_70 : decode cX9_readBeach 70 = .ok (.getfield 91, 3) := by decide +kernel
theorem dX9_readBeach_73 : decode cX9_readBeach 73 = .ok (.iload_n 1, 1) := by decide +kernel
theorem dX9_readBeach_74 : decode cX9_readBeach 74 = .ok (.iconst 0, 1) := by decide +kernel
theorem dX9_readBeach_75 : decode cX9_readBeach 75 = .ok (.bastore, 1) := by decide +kernel
theorem dX9_readBeach_76 : decode cX9_readBeach 76 = .ok (.iinc 1 1, 3) := by decide +kernel
theorem dX9_readBeach_79 : decode cX9_readBeach 79 = .ok (.goto (-23), 3) := by decide +kernel
theorem dX9_readBeach_82 : decode cX9_readBeach 82 = .ok (.aload_n 0, 1) := by decide +kernel
theorem dX9_readBeach_83 : decode cX9_readBeach 83 = .ok (.getfield 27, 3) := by decide +kernel
theorem dX9_readBeach_86 : decode cX9_readBeach 86 = .ok (.ifCond .eq 98, 3) := by decide +kernel
theorem dX9_readBeach_89 : decode cX9_readBeach 89 = .ok (.aload_n 0, 1) := by decide +kernel
theorem dX9_readBeach_90 : decode cX9_readBeach 90 = .ok (.ldc 137, 2) := by decide +kernel
theorem dX9_readBeach_92 : decode cX9_readBeach 92 = .ok (.invokevirtual 106, 3) := by decide +kernel
theorem dX9_readBeach_95 : decode cX9_readBeach 95 = .ok (.ifCond .eq 10, 3) := by decide +kernel
theorem dX9_readBeach_98 : decode cX9_readBeach 98 = .ok (.aload_n 0, 1) := by decide +kernel
theorem dX9_readBeach_99 : decode cX9_readBeach 99 = .ok (.invokevirtual 139, 3) := by decide +kernel
theorem dX9_readBeach_102 : decode cX9_readBeach 102 = .ok (.goto 55, 3) := by decide +kernel
theorem dX9_readBeach_105 : decode cX9_readBeach 105 = .ok (.aload_n 0, 1) := by decide +kernel
theorem dX9_readBeach_106 : decode cX9_readBeach 106 = .ok (.ldc 143, 2) := by decide +kernel
theorem dX9_readBeach_108 : decode cX9_readBeach 108 = .ok (.invokevirtual 106, 3) := by decide +kernel
theorem dX9_readBeach_111 : decode cX9_readBeach 111 = .ok (.ifCond .eq 10, 3) := by decide +kernel
theorem dX9_readBeach_114 : decode cX9_readBeach 114 = .ok (.aload_n 0, 1) := by decide +kernel
theorem dX9_readBeach_115 : decode cX9_readBeach 115 = .ok (.invokevirtual 145, 3) := by decide +kernel
theorem dX9_readBeach_118 : decode cX9_readBeach 118 = .ok (.goto 39, 3) := by decide +kernel
theorem dX9_readBeach_121 : decode cX9_readBeach 121 = .ok (.aload_n 0, 1) := by decide +kernel
theorem dX9_readBeach_122 : decode cX9_readBeach 122 = .ok (.ldc 147, 2) := by decide +kernel
theorem dX9_readBeach_124 : decode cX9_readBeach 124 = .ok (.invokevirtual 106, 3) := by decide +kernel
theorem dX9_readBeach_127 : decode cX9_readBeach 127 = .ok (.ifCond .eq 10, 3) := by decide +kernel
theorem dX9_readBeach_130 : decode cX9_readBeach 130 = .ok (.aload_n 0, 1) := by decide +kernel
theorem dX9_readBeach_131 : decode cX9_readBeach 131 = .ok (.invokevirtual 149, 3) := by decide +kernel
theorem dX9_readBeach_134 : decode cX9_readBeach 134 = .ok (.goto 23, 3) := by decide +kernel
theorem dX9_readBeach_137 : decode cX9_readBeach 137 = .ok (.aload_n 0, 1) := by decide +kernel
theorem dX9_readBeach_138 : decode cX9_readBeach 138 = .ok (.ldc 151, 2) := by decide +kernel
theorem dX9_readBeach_140 : decode cX9_readBeach 140 = .ok (.invokevirtual 106, 3) := by decide +kernel
theorem dX9_readBeach_143 : decode cX9_readBeach 143 = .ok (.ifCond .eq 10, 3) := by decide +kernel
theorem dX9_readBeach_146 : decode cX9_readBeach 146 = .ok (.aload_n 0, 1) := by decide +kernel
theorem dX9_readBeach_147 : decode cX9_readBeach 147 = .ok (.invokevirtual 153, 3) := by decide +kernel
theorem dX9_readBeach_150 : decode cX9_readBeach 150 = .ok (.goto 7, 3) := by decide +kernel
theorem dX9_readBeach_153 : decode cX9_readBeach 153 = .ok (.aload_n 0, 1) := by decide +kernel
theorem dX9_readBeach_154 : decode cX9_readBeach 154 = .ok (.invokevirtual 156, 3) := by decide +kernel
theorem dX9_readBeach_157 : decode cX9_readBeach 157 = .ok (.istore_n 1, 1) := by decide +kernel
theorem dX9_readBeach_158 : decode cX9_readBeach 158 = .ok (.iload_n 1, 1) := by decide +kernel
theorem dX9_readBeach_159 : decode cX9_readBeach 159 = .ok (.ifCond .eq 10, 3) := by decide +kernel
theorem dX9_readBeach_162 : decode cX9_readBeach 162 = .ok (.aload_n 0, 1) := by decide +kernel
theorem dX9_readBeach_163 : decode cX9_readBeach 163 = .ok (.invokevirtual 159, 3) := by decide +kernel
theorem dX9_readBeach_166 : decode cX9_readBeach 166 = .ok (.ifCond .ne 5, 3) := by decide +kernel
theorem dX9_readBeach_169 : decode cX9_readBeach 169 = .ok (.iconst 0, 1) := by decide +kernel
theorem dX9_readBeach_170 : decode cX9_readBeach 170 = .ok (.ireturn, 1) := by decide +kernel
theorem dX9_readBeach_171 : decode cX9_readBeach 171 = .ok (.aload_n 0, 1) := by decide +kernel
theorem dX9_readBeach_172 : decode cX9_readBeach 172 = .ok (.dup, 1) := by decide +kernel
theorem dX9_readBeach_173 : decode cX9_readBeach 173 = .ok (.getfield 131, 3) := by decide +kernel
theorem dX9_readBeach_176 : decode cX9_readBeach 176 = .ok (.iconst 1, 1) := by decide +kernel
theorem dX9_readBeach_177 : decode cX9_readBeach 177 = .ok (.iadd, 1) := by decide +kernel
theorem dX9_readBeach_178 : decode cX9_readBeach 178 = .ok (.putfield 131, 3) := by decide +kernel
theorem dX9_readBeach_181 : decode cX9_readBeach 181 = .ok (.goto (-99), 3) := by decide +kernel
theorem dX9_readBeach_184 : decode cX9_readBeach 184 = .ok (.iconst 1, 1) := by decide +kernel
theorem dX9_readBeach_185 : decode cX9_readBeach 185 = .ok (.ireturn, 1) := by decide +kernel
theorem dX9_readWave_0 : decode cX9_readWave 0 = .ok (.aload_n 0, 1) := by decide +kernel
theorem dX9_readWave_1 : decode cX9_readWave 1 = .ok (.getfield 162, 3) := by decide +kernel
theorem dX9_readWave_4 : decode cX9_readWave 4 = .ok (.bipush 12, 2) := by decide +kernel
theorem dX9_readWave_6 : decode cX9_readWave 6 = .ok (.if_icmp .ne 9, 3) := by decide +kernel
theorem dX9_readWave_9 : decode cX9_readWave 9 = .ok (.aload_n 0, 1) := by decide +kernel
theorem dX9_readWave_10 : decode cX9_readWave 10 = .ok (.iconst 4, 1) := by decide +kernel
theorem dX9_readWave_11 : decode cX9_readWave 11 = .ok (.invokevirtual 49, 3) := by decide +kernel
theorem dX9_readWave_14 : decode cX9_readWave 14 = .ok (.ireturn, 1) := by decide +kernel
theorem dX9_readWave_15 : decode cX9_readWave 15 = .ok (.aload_n 0, 1) := by decide +kernel
theorem dX9_readWave_16 : decode cX9_readWave 16 = .ok (.invokevirtual 63, 3) := by decide +kernel
theorem dX9_readWave_19 : decode cX9_readWave 19 = .ok (.aload_n 0, 1) := by decide +kernel
theorem dX9_readWave_20 : decode cX9_readWave 20 = .ok (.iconst 0, 1) := by decide +kernel
theorem dX9_readWave_21 : decode cX9_readWave 21 = .ok (.sipush 359, 3) := by decide +kernel
theorem dX9_readWave_24 : decode cX9_readWave 24 = .ok (.invokevirtual 70, 3) := by decide +kernel
theorem dX9_readWave_27 : decode cX9_readWave 27 = .ok (.ifCond .ne 5, 3) := by decide +kernel
theorem dX9_readWave_30 : decode cX9_readWave 30 = .ok (.iconst 0, 1) := by decide +kernel
theorem dX9_readWave_31 : decode cX9_readWave 31 = .ok (.ireturn, 1) := by decide +kernel
theorem dX9_readWave_32 : decode cX9_readWave 32 = .ok (.aload_n 0, 1) := by decide +kernel
theorem dX9_readWave_33 : decode cX9_readWave 33 = .ok (.getfield 165, 3) := by decide +kernel
theorem dX9_readWave_36 : decode cX9_readWave 36 = .ok (.iconst 3, 1) := by decide +kernel
theorem dX9_readWave_37 : decode cX9_readWave 37 = .ok (.aload_n 0, 1) := by decide +kernel
theorem dX9_readWave_38 : decode cX9_readWave 38 = .ok (.getfield 162, 3) := by decide +kernel
theorem dX9_readWave_41 : decode cX9_readWave 41 = .ok (.imul, 1) := by decide +kernel
theorem dX9_readWave_42 : decode cX9_readWave 42 = .ok (.aload_n 0, 1) := by decide +kernel
theorem dX9_readWave_43 : decode cX9_readWave 43 = .ok (.getfield 56, 3) := by decide +kernel
theorem dX9_readWave_46 : decode cX9_readWave 46 = .ok (.iastore, 1) := by decide +kernel
theorem dX9_readWave_47 : decode cX9_readWave 47 = .ok (.aload_n 0, 1) := by decide +kernel
theorem dX9_readWave_48 : decode cX9_readWave 48 = .ok (.iconst 1, 1) := by decide +kernel
theorem dX9_readWave_49 : decode cX9_readWave 49 = .ok (.bipush 8, 2) := by decide +kernel
theorem dX9_readWave_51 : decode cX9_readWave 51 = .ok (.invokevirtual 70, 3) := by decide +kernel
theorem dX9_readWave_54 : decode cX9_readWave 54 = .ok (.ifCond .ne 5, 3) := by decide +kernel
theorem dX9_readWave_57 : decode cX9_readWave 57 = .ok (.iconst 0, 1) := by decide +kernel
theorem dX9_readWave_58 : decode cX9_readWave 58 = .ok (.ireturn, 1) := by decide +kernel
theorem dX9_readWave_59 : decode cX9_readWave 59 = .ok (.aload_n 0, 1) := by decide +kernel
theorem dX9_readWave_60 : decode cX9_readWave 60 = .ok (.getfield 165, 3) := by decide +kernel
theorem dX9_readWave_63 : decode cX9_readWave 63 = .ok (.iconst 3, 1) := by decide +kernel
theorem dX9_readWave_64 : decode cX9_readWave 64 = .ok (.aload_n 0, 1) := by decide +kernel
theorem dX9_readWave_65 : decode cX9_readWave 65 = .ok (.getfield 162, 3) := by decide +kernel
theorem dX9_readWave_68 : decode cX9_readWave 68 = .ok (.imul, 1) := by decide +kernel
theorem dX9_readWave_69 : decode cX9_readWave 69 = .ok (.iconst 1, 1) := by decide +kernel
theorem dX9_readWave_70 : decode cX9_readWave 70 = .ok (.iadd, 1) := by decide +kernel
theorem dX9_readWave_71 : decode cX9_readWave 71 = .ok (.aload_n 0, 1) := by decide +kernel
theorem dX9_readWave_72 : decode cX9_readWave 72 = .ok (.getfield 56, 3) := by decide +kernel
theorem dX9_readWave_75 : decode cX9_readWave 75 = .ok (.iastore, 1) := by decide +kernel
theorem dX9_readWave_76 : decode cX9_readWave 76 = .ok (.aload_n 0, 1) := by decide +kernel
theorem dX9_readWave_77 : decode cX9_readWave 77 = .ok (.iconst 0, 1) := by decide +kernel
theorem dX9_readWave_78 : decode cX9_readWave 78 = .ok (.bipush 99, 2) := by decide +kernel
theorem dX9_readWave_80 : decode cX9_readWave 80 = .ok (.invokevirtual 70, 3) := by decide +kernel
theorem dX9_readWave_83 : decode cX9_readWave 83 = .ok (.ifCond .ne 5, 3) := by decide +kernel
theorem dX9_readWave_86 : decode cX9_readWave 86 = .ok (.iconst 0, 1) := by decide +kernel
theorem dX9_readWave_87 : decode cX9_readWave 87 = .ok (.ireturn, 1) := by decide +kernel
theorem dX9_readWave_88 : decode cX9_readWave 88 = .ok (.aload_n 0, 1) := by decide +kernel
theorem dX9_readWave_89 : decode cX9_readWave 89 = .ok (.getfield 165, 3) := by decide +kernel
theorem dX9_readWave_92 : decode cX9_readWave 92 = .ok (.iconst 3, 1) := by decide +kernel
theorem dX9_readWave_93 : decode cX9_readWave 93 = .ok (.aload_n 0, 1) := by decide +kernel
theorem dX9_readWave_94 : decode cX9_readWave 94 = .ok (.getfield 162, 3) := by decide +kernel
theorem dX9_readWave_97 : decode cX9_readWave 97 = .ok (.imul, 1) := by decide +kernel
theorem dX9_readWave_98 : decode cX9_readWave 98 = .ok (.iconst 2, 1) := by decide +kernel
theorem dX9_readWave_99 : decode cX9_readWave 99 = .ok (.iadd, 1) := by decide +kernel
theorem dX9_readWave_100 : decode cX9_readWave 100 = .ok (.aload_n 0, 1) := by decide +kernel
theorem dX9_readWave_101 : decode cX9_readWave 101 = .ok (.getfield 56, 3) := by decide +kernel
theorem dX9_readWave_104 : decode cX9_readWave 104 = .ok (.iastore, 1) := by decide +kernel
theorem dX9_readWave_105 : decode cX9_readWave 105 = .ok (.aload_n 0, 1) := by decide +kernel
theorem dX9_readWave_106 : decode cX9_readWave 106 = .ok (.dup, 1) := by decide +kernel
theorem dX9_readWave_107 : decode cX9_readWave 107 = .ok (.getfield 162, 3) := by decide +kernel
theorem dX9_readWave_110 : decode cX9_readWave 110 = .ok (.iconst 1, 1) := by decide +kernel
theorem dX9_readWave_111 : decode cX9_readWave 111 = .ok (.iadd, 1) := by decide +kernel
theorem dX9_readWave_112 : decode cX9_readWave 112 = .ok (.putfield 162, 3) := by decide +kernel
theorem dX9_readWave_115 : decode cX9_readWave 115 = .ok (.iconst 1, 1) := by decide +kernel
theorem dX9_readWave_116 : decode cX9_readWave 116 = .ok (.ireturn, 1) := by decide +kernel
theorem dX9_readTide_0 : decode cX9_readTide 0 = .ok (.aload_n 0, 1) := by decide +kernel
theorem dX9_readTide_1 : decode cX9_readTide 1 = .ok (.iconst 0, 1) := by decide +kernel
theorem dX9_readTide_2 : decode cX9_readTide 2 = .ok (.sipush 359, 3) := by decide +kernel
theorem dX9_readTide_5 : decode cX9_readTide 5 = .ok (.invokevirtual 70, 3) := by decide +kernel
theorem dX9_readTide_8 : decode cX9_readTide 8 = .ok (.ifCond .ne 5, 3) := by decide +kernel
theorem dX9_readTide_11 : decode cX9_readTide 11 = .ok (.iconst 0, 1) := by decide +kernel
theorem dX9_readTide_12 : decode cX9_readTide 12 = .ok (.ireturn, 1) := by decide +kernel
theorem dX9_readTide_13 : decode cX9_readTide 13 = .ok (.aload_n 0, 1) := by decide +kernel
theorem dX9_readTide_14 : decode cX9_readTide 14 = .ok (.getfield 168, 3) := by decide +kernel
theorem dX9_readTide_17 : decode cX9_readTide 17 = .ok (.iconst 0, 1) := by decide +kernel
theorem dX9_readTide_18 : decode cX9_readTide 18 = .ok (.aload_n 0, 1) := by decide +kernel
theorem dX9_readTide_19 : decode cX9_readTide 19 = .ok (.getfield 56, 3) := by decide +kernel
theorem dX9_readTide_22 : decode cX9_readTide 22 = .ok (.iastore, 1) := by decide +kernel
theorem dX9_readTide_23 : decode cX9_readTide 23 = .ok (.aload_n 0, 1) := by decide +kernel
theorem dX9_readTide_24 : decode cX9_readTide 24 = .ok (.aload_n 0, 1) := by decide +kernel
theorem dX9_readTide_25 : decode cX9_readTide 25 = .ok (.getfield 56, 3) := by decide +kernel
theorem dX9_readTide_28 : decode cX9_readTide 28 = .ok (.sipush 359, 3) := by decide +kernel
theorem dX9_readTide_31 : decode cX9_readTide 31 = .ok (.invokevirtual 70, 3) := by decide +kernel
theorem dX9_readTide_34 : decode cX9_readTide 34 = .ok (.ifCond .ne 5, 3) := by decide +kernel
theorem dX9_readTide_37 : decode cX9_readTide 37 = .ok (.iconst 0, 1) := by decide +kernel
theorem dX9_readTide_38 : decode cX9_readTide 38 = .ok (.ireturn, 1) := by decide +kernel
theorem dX9_readTide_39 : decode cX9_readTide 39 = .ok (.aload_n 0, 1) := by decide +kernel
theorem dX9_readTide_40 : decode cX9_readTide 40 = .ok (.getfield 168, 3) := by decide +kernel
theorem dX9_readTide_43 : decode cX9_readTide 43 = .ok (.iconst 1, 1) := by decide +kernel
theorem dX9_readTide_44 : decode cX9_readTide 44 = .ok (.aload_n 0, 1) := by decide +kernel
theorem dX9_readTide_45 : decode cX9_readTide 45 = .ok (.getfield 56, 3) := by decide +kernel
theorem dX9_readTide_48 : decode cX9_readTide 48 = .ok (.iastore, 1) := by decide +kernel
theorem dX9_readTide_49 : decode cX9_readTide 49 = .ok (.aload_n 0, 1) := by decide +kernel
theorem dX9_readTide_50 : decode cX9_readTide 50 = .ok (.iconst 1, 1) := by decide +kernel
theorem dX9_readTide_51 : decode cX9_readTide 51 = .ok (.bipush 60, 2) := by decide +kernel
theorem dX9_readTide_53 : decode cX9_readTide 53 = .ok (.invokevirtual 70, 3) := by decide +kernel
theorem dX9_readTide_56 : decode cX9_readTide 56 = .ok (.ifCond .ne 5, 3) := by decide +kernel
theorem dX9_readTide_59 : decode cX9_readTide 59 = .ok (.iconst 0, 1) := by decide +kernel
theorem dX9_readTide_60 : decode cX9_readTide 60 = .ok (.ireturn, 1) := by decide +kernel
theorem dX9_readTide_61 : decode cX9_readTide 61 = .ok (.aload_n 0, 1) := by decide +kernel
theorem dX9_readTide_62 : decode cX9_readTide 62 = .ok (.getfield 168, 3) := by decide +kernel
theorem dX9_readTide_65 : decode cX9_readTide 65 = .ok (.iconst 2, 1) := by decide +kernel
theorem dX9_readTide_66 : decode cX9_readTide 66 = .ok (.aload_n 0, 1) := by decide +kernel
theorem dX9_readTide_67 : decode cX9_readTide 67 = .ok (.getfield 56, 3) := by decide +kernel
theorem dX9_readTide_70 : decode cX9_readTide 70 = .ok (.iastore, 1) := by decide +kernel
theorem dX9_readTide_71 : decode cX9_readTide 71 = .ok (.aload_n 0, 1) := by decide +kernel
theorem dX9_readTide_72 : decode cX9_readTide 72 = .ok (.iconst 0, 1) := by decide +kernel
theorem dX9_readTide_73 : decode cX9_readTide 73 = .ok (.bipush 100, 2) := by decide +kernel
theorem dX9_readTide_75 : decode cX9_readTide 75 = .ok (.invokevirtual 70, 3) := by decide +kernel
theorem dX9_readTide_78 : decode cX9_readTide 78 = .ok (.ifCond .ne 5, 3) := by decide +kernel
theorem dX9_readTide_81 : decode cX9_readTide 81 = .ok (.iconst 0, 1) := by decide +kernel
theorem dX9_readTide_82 : decode cX9_readTide 82 = .ok (.ireturn, 1) := by decide +kernel
theorem dX9_readTide_83 : decode cX9_readTide 83 = .ok (.aload_n 0, 1) := by decide +kernel
theorem dX9_readTide_84 : decode cX9_readTide 84 = .ok (.getfield 168, 3) := by decide +kernel
theorem dX9_readTide_87 : decode cX9_readTide 87 = .ok (.iconst 3, 1) := by decide +kernel
theorem dX9_readTide_88 : decode cX9_readTide 88 = .ok (.aload_n 0, 1) := by decide +kernel
theorem dX9_readTide_89 : decode cX9_readTide 89 = .ok (.getfield 56, 3) := by decide +kernel
theorem dX9_readTide_92 : decode cX9_readTide 92 = .ok (.iastore, 1) := by decide +kernel
theorem dX9_readTide_93 : decode cX9_readTide 93 = .ok (.iconst 1, 1) := by decide +kernel
theorem dX9_readTide_94 : decode cX9_readTide 94 = .ok (.ireturn, 1) := by decide +kernel
theorem dX9_readTwo_0 : decode cX9_readTwo 0 = .ok (.aload_n 0, 1) := by decide +kernel
theorem dX9_readTwo_1 : decode cX9_readTwo 1 = .ok (.iload_n 2, 1) := by decide +kernel
theorem dX9_readTwo_2 : decode cX9_readTwo 2 = .ok (.iload_n 3, 1) := by decide +kernel
theorem dX9_readTwo_3 : decode cX9_readTwo 3 = .ok (.invokevirtual 70, 3) := by decide +kernel
theorem dX9_readTwo_6 : decode cX9_readTwo 6 = .ok (.ifCond .ne 5, 3) := by decide +kernel
theorem dX9_readTwo_9 : decode cX9_readTwo 9 = .ok (.iconst 0, 1) := by decide +kernel
theorem dX9_readTwo_10 : decode cX9_readTwo 10 = .ok (.ireturn, 1) := by decide +kernel
theorem dX9_readTwo_11 : decode cX9_readTwo 11 = .ok (.aload_n 1, 1) := by decide +kernel
theorem dX9_readTwo_12 : decode cX9_readTwo 12 = .ok (.iconst 0, 1) := by decide +kernel
theorem dX9_readTwo_13 : decode cX9_readTwo 13 = .ok (.aload_n 0, 1) := by decide +kernel
theorem dX9_readTwo_14 : decode cX9_readTwo 14 = .ok (.getfield 56, 3) := by decide +kernel
theorem dX9_readTwo_17 : decode cX9_readTwo 17 = .ok (.iastore, 1) := by decide +kernel
theorem dX9_readTwo_18 : decode cX9_readTwo 18 = .ok (.aload_n 0, 1) := by decide +kernel
theorem dX9_readTwo_19 : decode cX9_readTwo 19 = .ok (.aload_n 0, 1) := by decide +kernel
theorem dX9_readTwo_20 : decode cX9_readTwo 20 = .ok (.getfield 56, 3) := by decide +kernel
theorem dX9_readTwo_23 : decode cX9_readTwo 23 = .ok (.iload_n 3, 1) := by decide +kernel
theorem dX9_readTwo_24 : decode cX9_readTwo 24 = .ok (.invokevirtual 70, 3) := by decide +kernel
theorem dX9_readTwo_27 : decode cX9_readTwo 27 = .ok (.ifCond .ne 5, 3) := by decide +kernel
theorem dX9_readTwo_30 : decode cX9_readTwo 30 = .ok (.iconst 0, 1) := by decide +kernel
theorem dX9_readTwo_31 : decode cX9_readTwo 31 = .ok (.ireturn, 1) := by decide +kernel
theorem dX9_readTwo_32 : decode cX9_readTwo 32 = .ok (.aload_n 1, 1) := by decide +kernel
theorem dX9_readTwo_33 : decode cX9_readTwo 33 = .ok (.iconst 1, 1) := by decide +kernel
theorem dX9_readTwo_34 : decode cX9_readTwo 34 = .ok (.aload_n 0, 1) := by decide +kernel
theorem dX9_readTwo_35 : decode cX9_readTwo 35 = .ok (.getfield 56, 3) := by decide +kernel
theorem dX9_readTwo_38 : decode cX9_readTwo 38 = .ok (.iastore, 1) := by decide +kernel
theorem dX9_readTwo_39 : decode cX9_readTwo 39 = .ok (.iconst 1, 1) := by decide +kernel
theorem dX9_readTwo_40 : decode cX9_readTwo 40 = .ok (.ireturn, 1) := by decide +kernel
theorem dX9_readSeaWord_0 : decode cX9_readSeaWord 0 = .ok (.aload_n 0, 1) := by decide +kernel
theorem dX9_readSeaWord_1 : decode cX9_readSeaWord 1 = .ok (.ldc 171, 2) := by decide +kernel
theorem dX9_readSeaWord_3 : decode cX9_readSeaWord 3 = .ok (.invokevirtual 106, 3) := by decide +kernel
theorem dX9_readSeaWord_6 : decode cX9_readSeaWord 6 = .ok (.ifCond .eq 7, 3) := by decide +kernel
theorem dX9_readSeaWord_9 : decode cX9_readSeaWord 9 = .ok (.iconst 0, 1) := by decide +kernel
theorem dX9_readSeaWord_10 : decode cX9_readSeaWord 10 = .ok (.goto 43, 3) := by decide +kernel
theorem dX9_readSeaWord_13 : decode cX9_readSeaWord 13 = .ok (.aload_n 0, 1) := by decide +kernel
theorem dX9_readSeaWord_14 : decode cX9_readSeaWord 14 = .ok (.ldc 173, 2) := by decide +kernel
theorem dX9_readSeaWord_16 : decode cX9_readSeaWord 16 = .ok (.invokevirtual 106, 3) := by decide +kernel
theorem dX9_readSeaWord_19 : decode cX9_readSeaWord 19 = .ok (.ifCond .eq 7, 3) := by decide +kernel
theorem dX9_readSeaWord_22 : decode cX9_readSeaWord 22 = .ok (.iconst 1, 1) := by decide +kernel
theorem dX9_readSeaWord_23 : decode cX9_readSeaWord 23 = .ok (.goto 30, 3) := by decide +kernel
theorem dX9_readSeaWord_26 : decode cX9_readSeaWord 26 = .ok (.aload_n 0, 1) := by decide +kernel
theorem dX9_readSeaWord_27 : decode cX9_readSeaWord 27 = .ok (.ldc 175, 2) := by decide +kernel
theorem dX9_readSeaWord_29 : decode cX9_readSeaWord 29 = .ok (.invokevirtual 106, 3) := by decide +kernel
theorem dX9_readSeaWord_32 : decode cX9_readSeaWord 32 = .ok (.ifCond .eq 7, 3) := by decide +kernel
theorem dX9_readSeaWord_35 : decode cX9_readSeaWord 35 = .ok (.iconst 2, 1) := by decide +kernel
theorem dX9_readSeaWord_36 : decode cX9_readSeaWord 36 = .ok (.goto 17, 3) := by decide +kernel
theorem dX9_readSeaWord_39 : decode cX9_readSeaWord 39 = .ok (.aload_n 0, 1) := by decide +kernel
theorem dX9_readSeaWord_40 : decode cX9_readSeaWord 40 = .ok (.ldc 177, 2) := by decide +kernel
theorem dX9_readSeaWord_42 : decode cX9_readSeaWord 42 = .ok (.invokevirtual 106, 3) := by decide +kernel
theorem dX9_readSeaWord_45 : decode cX9_readSeaWord 45 = .ok (.ifCond .eq 7, 3) := by decide +kernel
theorem dX9_readSeaWord_48 : decode cX9_readSeaWord 48 = .ok (.iconst 3, 1) := by decide +kernel
theorem dX9_readSeaWord_49 : decode cX9_readSeaWord 49 = .ok (.goto 4, 3) := by decide +kernel
theorem dX9_readSeaWord_52 : decode cX9_readSeaWord 52 = .ok (.iconst (-1), 1) := by decide +kernel
theorem dX9_readSeaWord_53 : decode cX9_readSeaWord 53 = .ok (.istore_n 1, 1) := by decide +kernel
theorem dX9_readSeaWord_54 : decode cX9_readSeaWord 54 = .ok (.iload_n 1, 1) := by decide +kernel
theorem dX9_readSeaWord_55 : decode cX9_readSeaWord 55 = .ok (.iconst (-1), 1) := by decide +kernel
theorem dX9_readSeaWord_56 : decode cX9_readSeaWord 56 = .ok (.if_icmp .ne 9, 3) := by decide +kernel
theorem dX9_readSeaWord_59 : decode cX9_readSeaWord 59 = .ok (.aload_n 0, 1) := by decide +kernel
theorem dX9_readSeaWord_60 : decode cX9_readSeaWord 60 = .ok (.iconst 1, 1) := by decide +kernel
theorem dX9_readSeaWord_61 : decode cX9_readSeaWord 61 = .ok (.invokevirtual 49, 3) := by decide +kernel
theorem dX9_readSeaWord_64 : decode cX9_readSeaWord 64 = .ok (.ireturn, 1) := by decide +kernel
theorem dX9_readSeaWord_65 : decode cX9_readSeaWord 65 = .ok (.aload_n 0, 1) := by decide +kernel
theorem dX9_readSeaWord_66 : decode cX9_readSeaWord 66 = .ok (.getfield 101, 3) := by decide +kernel
theorem dX9_readSeaWord_69 : decode cX9_readSeaWord 69 = .ok (.iload_n 1, 1) := by decide +kernel
theorem dX9_readSeaWord_70 : decode cX9_readSeaWord 70 = .ok (.ishr, 1) := by decide +kernel
theorem dX9_readSeaWord_71 : decode cX9_readSeaWord 71 = .ok (.iconst 1, 1) := by decide +kernel
theorem dX9_readSeaWord_72 : decode cX9_readSeaWord 72 = .ok (.iand, 1) := by decide +kernel
theorem dX9_readSeaWord_73 : decode cX9_readSeaWord 73 = .ok (.iconst 1, 1) := by decide +kernel
theorem dX9_readSeaWord_74 : decode cX9_readSeaWord 74 = .ok (.if_icmp .ne 9, 3) := by decide +kernel
theorem dX9_readSeaWord_77 : decode cX9_readSeaWord 77 = .ok (.aload_n 0, 1) := by decide +kernel
theorem dX9_readSeaWord_78 : decode cX9_readSeaWord 78 = .ok (.iconst 3, 1) := by decide +kernel
theorem dX9_readSeaWord_79 : decode cX9_readSeaWord 79 = .ok (.invokevirtual 49, 3) := by decide +kernel
theorem dX9_readSeaWord_82 : decode cX9_readSeaWord 82 = .ok (.ireturn, 1) := by decide +kernel
theorem dX9_readSeaWord_83 : decode cX9_readSeaWord 83 = .ok (.aload_n 0, 1) := by decide +kernel
theorem dX9_readSeaWord_84 : decode cX9_readSeaWord 84 = .ok (.dup, 1) := by decide +kernel
theorem dX9_readSeaWord_85 : decode cX9_readSeaWord 85 = .ok (.getfield 101, 3) := by decide +kernel
theorem dX9_readSeaWord_88 : decode cX9_readSeaWord 88 = .ok (.iconst 1, 1) := by decide +kernel
theorem dX9_readSeaWord_89 : decode cX9_readSeaWord 89 = .ok (.iload_n 1, 1) := by decide +kernel
theorem dX9_readSeaWord_90 : decode cX9_readSeaWord 90 = .ok (.ishl, 1) := by decide +kernel
theorem dX9_readSeaWord_91 : decode cX9_readSeaWord 91 = .ok (.ior, 1) := by decide +kernel
theorem dX9_readSeaWord_92 : decode cX9_readSeaWord 92 = .ok (.putfield 101, 3) := by decide +kernel
theorem dX9_readSeaWord_95 : decode cX9_readSeaWord 95 = .ok (.aload_n 0, 1) := by decide +kernel
theorem dX9_readSeaWord_96 : decode cX9_readSeaWord 96 = .ok (.invokevirtual 63, 3) := by decide +kernel
theorem dX9_readSeaWord_99 : decode cX9_readSeaWord 99 = .ok (.iload_n 1, 1) := by decide +kernel
theorem dX9_readSeaWord_100 : decode cX9_readSeaWord 100 = .ok (.ifCond .ne 8, 3) := by decide +kernel
theorem dX9_readSeaWord_103 : decode cX9_readSeaWord 103 = .ok (.aload_n 0, 1) := by decide +kernel
theorem dX9_readSeaWord_104 : decode cX9_readSeaWord 104 = .ok (.invokevirtual 179, 3) := by decide +kernel
theorem dX9_readSeaWord_107 : decode cX9_readSeaWord 107 = .ok (.ireturn, 1) := by decide +kernel
theorem dX9_readSeaWord_108 : decode cX9_readSeaWord 108 = .ok (.iload_n 1, 1) := by decide +kernel
theorem dX9_readSeaWord_109 : decode cX9_readSeaWord 109 = .ok (.iconst 1, 1) := by decide +kernel
theorem dX9_readSeaWord_110 : decode cX9_readSeaWord 110 = .ok (.if_icmp .ne 15, 3) := by decide +kernel
theorem dX9_readSeaWord_113 : decode cX9_readSeaWord 113 = .ok (.aload_n 0, 1) := by decide +kernel
theorem dX9_readSeaWord_114 : decode cX9_readSeaWord 114 = .ok (.aload_n 0, 1) := by decide +kernel
theorem dX9_readSeaWord_115 : decode cX9_readSeaWord 115 = .ok (.getfield 181, 3) := by decide +kernel
theorem dX9_readSeaWord_118 : decode cX9_readSeaWord 118 = .ok (.iconst 1, 1) := by decide +kernel
theorem dX9_readSeaWord_119 : decode cX9_readSeaWord 119 = .ok (.bipush 8, 2) := by decide +kernel
theorem dX9_readSeaWord_121 : decode cX9_readSeaWord 121 = .ok (.invokevirtual 184, 3) := by decide +kernel
theorem dX9_readSeaWord_124 : decode cX9_readSeaWord 124 = .ok (.ireturn, 1) := by decide +kernel
theorem dX9_readSeaWord_125 : decode cX9_readSeaWord 125 = .ok (.iload_n 1, 1) := by decide +kernel
theorem dX9_readSeaWord_126 : decode cX9_readSeaWord 126 = .ok (.iconst 2, 1) := by decide +kernel
theorem dX9_readSeaWord_127 : decode cX9_readSeaWord 127 = .ok (.if_icmp .ne 15, 3) := by decide +kernel
theorem dX9_readSeaWord_130 : decode cX9_readSeaWord 130 = .ok (.aload_n 0, 1) := by decide +kernel
theorem dX9_readSeaWord_131 : decode cX9_readSeaWord 131 = .ok (.aload_n 0, 1) := by decide +kernel
theorem dX9_readSeaWord_132 : decode cX9_readSeaWord 132 = .ok (.getfield 188, 3) := by decide +kernel
theorem dX9_readSeaWord_135 : decode cX9_readSeaWord 135 = .ok (.iconst 0, 1) := by decide +kernel
theorem dX9_readSeaWord_136 : decode cX9_readSeaWord 136 = .ok (.bipush 99, 2) := by decide +kernel
theorem dX9_readSeaWord_138 : decode cX9_readSeaWord 138 = .ok (.invokevirtual 184, 3) := by decide +kernel
theorem dX9_readSeaWord_141 : decode cX9_readSeaWord 141 = .ok (.ireturn, 1) := by decide +kernel
theorem dX9_readSeaWord_142 : decode cX9_readSeaWord 142 = .ok (.aload_n 0, 1) := by decide +kernel
theorem dX9_readSeaWord_143 : decode cX9_readSeaWord 143 = .ok (.iconst 0, 1) := by decide +kernel
theorem dX9_readSeaWord_144 : decode cX9_readSeaWord 144 = .ok (.bipush 9, 2) := by decide +kernel
theorem dX9_readSeaWord_146 : decode cX9_readSeaWord 146 = .ok (.invokevirtual 70, 3) := by decide +kernel
theorem dX9_readSeaWord_149 : decode cX9_readSeaWord 149 = .ok (.ifCond .ne 5, 3) := by decide +kernel
theorem dX9_readSeaWord_152 : decode cX9_readSeaWord 152 = .ok (.iconst 0, 1) := by decide +kernel
theorem dX9_readSeaWord_153 : decode cX9_readSeaWord 153 = .ok (.ireturn, 1) := by decide +kernel
theorem dX9_readSeaWord_154 : decode cX9_readSeaWord 154 = .ok (.aload_n 0, 1) := by decide +kernel
theorem dX9_readSeaWord_155 : decode cX9_readSeaWord 155 = .ok (.aload_n 0, 1) := by decide +kernel
theorem dX9_readSeaWord_156 : decode cX9_readSeaWord 156 = .ok (.getfield 56, 3) := by decide +kernel
theorem dX9_readSeaWord_159 : decode cX9_readSeaWord 159 = .ok (.putfield 191, 3) := by decide +kernel
theorem dX9_readSeaWord_162 : decode cX9_readSeaWord 162 = .ok (.iconst 1, 1) := by decide +kernel
theorem dX9_readSeaWord_163 : decode cX9_readSeaWord 163 = .ok (.ireturn, 1) := by decide +kernel
theorem dX9_readSea_0 : decode cX9_readSea 0 = .ok (.aload_n 0, 1) := by decide +kernel
theorem dX9_readSea_1 : decode cX9_readSea 1 = .ok (.iconst 0, 1) := by decide +kernel
theorem dX9_readSea_2 : decode cX9_readSea 2 = .ok (.putfield 162, 3) := by decide +kernel
theorem dX9_readSea_5 : decode cX9_readSea 5 = .ok (.aload_n 0, 1) := by decide +kernel
theorem dX9_readSea_6 : decode cX9_readSea 6 = .ok (.iconst 0, 1) := by decide +kernel
theorem dX9_readSea_7 : decode cX9_readSea 7 = .ok (.putfield 101, 3) := by decide +kernel
theorem dX9_readSea_10 : decode cX9_readSea 10 = .ok (.aload_n 0, 1) := by decide +kernel
theorem dX9_readSea_11 : decode cX9_readSea 11 = .ok (.iconst 0, 1) := by decide +kernel
theorem dX9_readSea_12 : decode cX9_readSea 12 = .ok (.putfield 131, 3) := by decide +kernel
theorem dX9_readSea_15 : decode cX9_readSea 15 = .ok (.iconst 0, 1) := by decide +kernel
theorem dX9_readSea_16 : decode cX9_readSea 16 = .ok (.istore_n 1, 1) := by decide +kernel
theorem dX9_readSea_17 : decode cX9_readSea 17 = .ok (.iload_n 1, 1) := by decide +kernel
theorem dX9_readSea_18 : decode cX9_readSea 18 = .ok (.iconst 4, 1) := by decide +kernel
theorem dX9_readSea_19 : decode cX9_readSea 19 = .ok (.if_icmp .ge 16, 3) := by decide +kernel
theorem dX9_readSea_22 : decode cX9_readSea 22 = .ok (.aload_n 0, 1) := by decide +kernel
theorem dX9_readSea_23 : decode cX9_readSea 23 = .ok (.getfield 168, 3) := by decide +kernel
theorem dX9_readSea_26 : decode cX9_readSea 26 = .ok (.iload_n 1, 1) := by decide +kernel
theorem dX9_readSea_27 : decode cX9_readSea 27 = .ok (.iconst (-1), 1) := by decide +kernel
theorem dX9_readSea_28 : decode cX9_readSea 28 = .ok (.iastore, 1) := by decide +kernel
theorem dX9_readSea_29 : decode cX9_readSea 29 = .ok (.iinc 1 1, 3) := by decide +kernel
theorem dX9_readSea_32 : decode cX9_readSea 32 = .ok (.goto (-15), 3) := by decide +kernel
theorem dX9_readSea_35 : decode cX9_readSea 35 = .ok (.aload_n 0, 1) := by decide +kernel
theorem dX9_readSea_36 : decode cX9_readSea 36 = .ok (.getfield 181, 3) := by decide +kernel
theorem dX9_readSea_39 : decode cX9_readSea 39 = .ok (.iconst 0, 1) := by decide +kernel
theorem dX9_readSea_40 : decode cX9_readSea 40 = .ok (.iconst 1, 1) := by decide +kernel
theorem dX9_readSea_41 : decode cX9_readSea 41 = .ok (.iastore, 1) := by decide +kernel
theorem dX9_readSea_42 : decode cX9_readSea 42 = .ok (.aload_n 0, 1) := by decide +kernel
theorem dX9_readSea_43 : decode cX9_readSea 43 = .ok (.getfield 181, 3) := by decide +kernel
theorem dX9_readSea_46 : decode cX9_readSea 46 = .ok (.iconst 1, 1) := by decide +kernel
theorem dX9_readSea_47 : decode cX9_readSea 47 = .ok (.iconst 3, 1) := by decide +kernel
theorem dX9_readSea_48 : decode cX9_readSea 48 = .ok (.iastore, 1) := by decide +kernel
theorem dX9_readSea_49 : decode cX9_readSea 49 = .ok (.aload_n 0, 1) := by decide +kernel
theorem dX9_readSea_50 : decode cX9_readSea 50 = .ok (.getfield 188, 3) := by decide +kernel
theorem dX9_readSea_53 : decode cX9_readSea 53 = .ok (.iconst 0, 1) := by decide +kernel
theorem dX9_readSea_54 : decode cX9_readSea 54 = .ok (.iconst 4, 1) := by decide +kernel
theorem dX9_readSea_55 : decode cX9_readSea 55 = .ok (.iastore, 1) := by decide +kernel
theorem dX9_readSea_56 : decode cX9_readSea 56 = .ok (.aload_n 0, 1) := by decide +kernel
theorem dX9_readSea_57 : decode cX9_readSea 57 = .ok (.getfield 188, 3) := by decide +kernel
theorem dX9_readSea_60 : decode cX9_readSea 60 = .ok (.iconst 1, 1) := by decide +kernel
theorem dX9_readSea_61 : decode cX9_readSea 61 = .ok (.bipush 8, 2) := by decide +kernel
theorem dX9_readSea_63 : decode cX9_readSea 63 = .ok (.iastore, 1) := by decide +kernel
theorem dX9_readSea_64 : decode cX9_readSea 64 = .ok (.aload_n 0, 1) := by decide +kernel
theorem dX9_readSea_65 : decode cX9_readSea 65 = .ok (.iconst 1, 1) := by decide +kernel
theorem dX9_readSea_66 : decode cX9_readSea 66 = .ok (.putfield 191, 3) := by decide +kernel
theorem dX9_readSea_69 : decode cX9_readSea 69 = .ok (.aload_n 0, 1) := by decide +kernel
theorem dX9_readSea_70 : decode cX9_readSea 70 = .ok (.getfield 27, 3) := by decide +kernel
theorem dX9_readSea_73 : decode cX9_readSea 73 = .ok (.ifCond .eq 51, 3) := by decide +kernel
theorem dX9_readSea_76 : decode cX9_readSea 76 = .ok (.aload_n 0, 1) := by decide +kernel
theorem dX9_readSea_77 : decode cX9_readSea 77 = .ok (.ldc 194, 2) := by decide +kernel
theorem dX9_readSea_79 : decode cX9_readSea 79 = .ok (.invokevirtual 106, 3) := by decide +kernel
theorem dX9_readSea_82 : decode cX9_readSea 82 = .ok (.ifCond .eq 13, 3) := by decide +kernel
theorem dX9_readSea_85 : decode cX9_readSea 85 = .ok (.aload_n 0, 1) := by decide +kernel
theorem dX9_readSea_86 : decode cX9_readSea 86 = .ok (.invokevirtual 196, 3) := by decide +kernel
theorem dX9_readSea_89 : decode cX9_readSea 89 = .ok (.ifCond .eq 20, 3) := by decide +kernel
theorem dX9_readSea_92 : decode cX9_readSea 92 = .ok (.goto 10, 3) := by decide +kernel
theorem dX9_readSea_95 : decode cX9_readSea 95 = .ok (.aload_n 0, 1) := by decide +kernel
theorem dX9_readSea_96 : decode cX9_readSea 96 = .ok (.invokevirtual 198, 3) := by decide +kernel
theorem dX9_readSea_99 : decode cX9_readSea 99 = .ok (.ifCond .eq 10, 3) := by decide +kernel
theorem dX9_readSea_102 : decode cX9_readSea 102 = .ok (.aload_n 0, 1) := by decide +kernel
theorem dX9_readSea_103 : decode cX9_readSea 103 = .ok (.invokevirtual 159, 3) := by decide +kernel
theorem dX9_readSea_106 : decode cX9_readSea 106 = .ok (.ifCond .ne 5, 3) := by decide +kernel
theorem dX9_readSea_109 : decode cX9_readSea 109 = .ok (.iconst 0, 1) := by decide +kernel
theorem dX9_readSea_110 : decode cX9_readSea 110 = .ok (.ireturn, 1) := by decide +kernel
theorem dX9_readSea_111 : decode cX9_readSea 111 = .ok (.aload_n 0, 1) := by decide +kernel
theorem dX9_readSea_112 : decode cX9_readSea 112 = .ok (.dup, 1) := by decide +kernel
theorem dX9_readSea_113 : decode cX9_readSea 113 = .ok (.getfield 131, 3) := by decide +kernel
theorem dX9_readSea_116 : decode cX9_readSea 116 = .ok (.iconst 1, 1) := by decide +kernel
theorem dX9_readSea_117 : decode cX9_readSea 117 = .ok (.iadd, 1) := by decide +kernel
theorem dX9_readSea_118 : decode cX9_readSea 118 = .ok (.putfield 131, 3) := by decide +kernel
theorem dX9_readSea_121 : decode cX9_readSea 121 = .ok (.goto (-52), 3) := by decide +kernel
theorem dX9_readSea_124 : decode cX9_readSea 124 = .ok (.iconst 1, 1) := by decide +kernel
theorem dX9_readSea_125 : decode cX9_readSea 125 = .ok (.ireturn, 1) := by decide +kernel
theorem dX9_readCell_0 : decode cX9_readCell 0 = .ok (.aload_n 0, 1) := by decide +kernel
theorem dX9_readCell_1 : decode cX9_readCell 1 = .ok (.iconst 0, 1) := by decide +kernel
theorem dX9_readCell_2 : decode cX9_readCell 2 = .ok (.aload_n 0, 1) := by decide +kernel
theorem dX9_readCell_3 : decode cX9_readCell 3 = .ok (.getfield 201, 3) := by decide +kernel
theorem dX9_readCell_6 : decode cX9_readCell 6 = .ok (.iconst 1, 1) := by decide +kernel
theorem dX9_readCell_7 : decode cX9_readCell 7 = .ok (.isub, 1) := by decide +kernel
theorem dX9_readCell_8 : decode cX9_readCell 8 = .ok (.invokevirtual 70, 3) := by decide +kernel
theorem dX9_readCell_11 : decode cX9_readCell 11 = .ok (.ifCond .eq 22, 3) := by decide +kernel
theorem dX9_readCell_14 : decode cX9_readCell 14 = .ok (.aload_n 0, 1) := by decide +kernel
theorem dX9_readCell_15 : decode cX9_readCell 15 = .ok (.aload_n 0, 1) := by decide +kernel
theorem dX9_readCell_16 : decode cX9_readCell 16 = .ok (.getfield 56, 3) := by decide +kernel
theorem dX9_readCell_19 : decode cX9_readCell 19 = .ok (.aload_n 0, 1) := by decide +kernel
theorem dX9_readCell_20 : decode cX9_readCell 20 = .ok (.getfield 201, 3) := by decide +kernel
theorem dX9_readCell_23 : decode cX9_readCell 23 = .ok (.aload_n 0, 1) := by decide +kernel
theorem dX9_readCell_24 : decode cX9_readCell 24 = .ok (.getfield 204, 3) := by decide +kernel
theorem dX9_readCell_27 : decode cX9_readCell 27 = .ok (.invokevirtual 79, 3) := by decide +kernel
theorem dX9_readCell_30 : decode cX9_readCell 30 = .ok (.ifCond .ne 5, 3) := by decide +kernel
theorem dX9_readCell_33 : decode cX9_readCell 33 = .ok (.iconst 0, 1) := by decide +kernel
theorem dX9_readCell_34 : decode cX9_readCell 34 = .ok (.ireturn, 1) := by decide +kernel
theorem dX9_readCell_35 : decode cX9_readCell 35 = .ok (.iconst 1, 1) := by decide +kernel
theorem dX9_readCell_36 : decode cX9_readCell 36 = .ok (.ireturn, 1) := by decide +kernel
theorem dX9_readAct_0 : decode cX9_readAct 0 = .ok (.aload_n 0, 1) := by decide +kernel
theorem dX9_readAct_1 : decode cX9_readAct 1 = .ok (.invokevirtual 63, 3) := by decide +kernel
theorem dX9_readAct_4 : decode cX9_readAct 4 = .ok (.aload_n 0, 1) := by decide +kernel
theorem dX9_readAct_5 : decode cX9_readAct 5 = .ok (.getfield 207, 3) := by decide +kernel
theorem dX9_readAct_8 : decode cX9_readAct 8 = .ok (.iload_n 1, 1) := by decide +kernel
theorem dX9_readAct_9 : decode cX9_readAct 9 = .ok (.iload_n 2, 1) := by decide +kernel
theorem dX9_readAct_10 : decode cX9_readAct 10 = .ok (.iastore, 1) := by decide +kernel
theorem dX9_readAct_11 : decode cX9_readAct 11 = .ok (.aload_n 0, 1) := by decide +kernel
theorem dX9_readAct_12 : decode cX9_readAct 12 = .ok (.getfield 207, 3) := by decide +kernel
theorem dX9_readAct_15 : decode cX9_readAct 15 = .ok (.iload_n 1, 1) := by decide +kernel
theorem dX9_readAct_16 : decode cX9_readAct 16 = .ok (.iconst 1, 1) := by decide +kernel
theorem dX9_readAct_17 : decode cX9_readAct 17 = .ok (.iadd, 1) := by decide +kernel
theorem dX9_readAct_18 : decode cX9_readAct 18 = .ok (.iconst (-1), 1) := by decide +kernel
theorem dX9_readAct_19 : decode cX9_readAct 19 = .ok (.iastore, 1) := by decide +kernel
theorem dX9_readAct_20 : decode cX9_readAct 20 = .ok (.aload_n 0, 1) := by decide +kernel
theorem dX9_readAct_21 : decode cX9_readAct 21 = .ok (.getfield 207, 3) := by decide +kernel
theorem dX9_readAct_24 : decode cX9_readAct 24 = .ok (.iload_n 1, 1) := by decide +kernel
theorem dX9_readAct_25 : decode cX9_readAct 25 = .ok (.iconst 2, 1) := by decide +kernel
theorem dX9_readAct_26 : decode cX9_readAct 26 = .ok (.iadd, 1) := by decide +kernel
theorem dX9_readAct_27 : decode cX9_readAct 27 = .ok (.iconst (-1), 1) := by decide +kernel
theorem dX9_readAct_28 : decode cX9_readAct 28 = .ok (.iastore, 1) := by decide +kernel
theorem dX9_readAct_29 : decode cX9_readAct 29 = .ok (.iload_n 2, 1) := by decide +kernel
theorem dX9_readAct_30 : decode cX9_readAct 30 = .ok (.iconst 3, 1) := by decide +kernel
theorem dX9_readAct_31 : decode cX9_readAct 31 = .ok (.if_icmp .le 5, 3) := by decide +kernel
theorem dX9_readAct_34 : decode cX9_readAct 34 = .ok (.iconst 1, 1) := by decide +kernel
theorem dX9_readAct_35 : decode cX9_readAct 35 = .ok (.ireturn, 1) := by decide +kernel
theorem dX9_readAct_36 : decode cX9_readAct 36 = .ok (.aload_n 0, 1) := by decide +kernel
theorem dX9_readAct_37 : decode cX9_readAct 37 = .ok (.invokevirtual 210, 3) := by decide +kernel
theorem dX9_readAct_40 : decode cX9_readAct 40 = .ok (.ifCond .ne 5, 3) := by decide +kernel
theorem dX9_readAct_43 : decode cX9_readAct 43 = .ok (.iconst 0, 1) := by decide +kernel
theorem dX9_readAct_44 : decode cX9_readAct 44 = .ok (.ireturn, 1) := by decide +kernel
theorem dX9_readAct_45 : decode cX9_readAct 45 = .ok (.aload_n 0, 1) := by decide +kernel
theorem dX9_readAct_46 : decode cX9_readAct 46 = .ok (.getfield 207, 3) := by decide +kernel
theorem dX9_readAct_49 : decode cX9_readAct 49 = .ok (.iload_n 1, 1) := by decide +kernel
theorem dX9_readAct_50 : decode cX9_readAct 50 = .ok (.iconst 1, 1) := by decide +kernel
theorem dX9_readAct_51 : decode cX9_readAct 51 = .ok (.iadd, 1) := by decide +kernel
theorem dX9_readAct_52 : decode cX9_readAct 52 = .ok (.aload_n 0, 1) := by decide +kernel
theorem dX9_readAct_53 : decode cX9_readAct 53 = .ok (.getfield 56, 3) := by decide +kernel
theorem dX9_readAct_56 : decode cX9_readAct 56 = .ok (.iastore, 1) := by decide +kernel
theorem dX9_readAct_57 : decode cX9_readAct 57 = .ok (.aload_n 0, 1) := by decide +kernel
theorem dX9_readAct_58 : decode cX9_readAct 58 = .ok (.invokevirtual 63, 3) := by decide +kernel
theorem dX9_readAct_61 : decode cX9_readAct 61 = .ok (.iload_n 2, 1) := by decide +kernel
theorem dX9_readAct_62 : decode cX9_readAct 62 = .ok (.ifCond .eq 5, 3) := by decide +kernel
theorem dX9_readAct_65 : decode cX9_readAct 65 = .ok (.iconst 1, 1) := by decide +kernel
theorem dX9_readAct_66 : decode cX9_readAct 66 = .ok (.ireturn, 1) := by decide +kernel
theorem dX9_readAct_67 : decode cX9_readAct 67 = .ok (.aload_n 0, 1) := by decide +kernel
theorem dX9_readAct_68 : decode cX9_readAct 68 = .ok (.invokevirtual 210, 3) := by decide +kernel
theorem dX9_readAct_71 : decode cX9_readAct 71 = .ok (.ifCond .ne 5, 3) := by decide +kernel
theorem dX9_readAct_74 : decode cX9_readAct 74 = .ok (.iconst 0, 1) := by decide +kernel
theorem dX9_readAct_75 : decode cX9_readAct 75 = .ok (.ireturn, 1) := by decide +kernel
theorem dX9_readAct_76 : decode cX9_readAct 76 = .ok (.aload_n 0, 1) := by decide +kernel
theorem dX9_readAct_77 : decode cX9_readAct 77 = .ok (.getfield 56, 3) := by decide +kernel
theorem dX9_readAct_80 : decode cX9_readAct 80 = .ok (.aload_n 0, 1) := by decide +kernel
theorem dX9_readAct_81 : decode cX9_readAct 81 = .ok (.getfield 207, 3) := by decide +kernel
theorem dX9_readAct_84 : decode cX9_readAct 84 = .ok (.iload_n 1, 1) := by decide +kernel
theorem dX9_readAct_85 : decode cX9_readAct 85 = .ok (.iconst 1, 1) := by decide +kernel
theorem dX9_readAct_86 : decode cX9_readAct 86 = .ok (.iadd, 1) := by decide +kernel
theorem dX9_readAct_87 : decode cX9_readAct 87 = .ok (.iaload, 1) := by decide +kernel
theorem dX9_readAct_88 : decode cX9_readAct 88 = .ok (.if_icmp .ne 9, 3) := by decide +kernel
theorem dX9_readAct_91 : decode cX9_readAct 91 = .ok (.aload_n 0, 1) := by decide +kernel
theorem dX9_readAct_92 : decode cX9_readAct 92 = .ok (.iconst 3, 1) := by decide +kernel
theorem dX9_readAct_93 : decode cX9_readAct 93 = .ok (.invokevirtual 49, 3) := by decide +kernel
theorem dX9_readAct_96 : decode cX9_readAct 96 = .ok (.ireturn, 1) := by decide +kernel
theorem dX9_readAct_97 : decode cX9_readAct 97 = .ok (.aload_n 0, 1) := by decide +kernel
theorem dX9_readAct_98 : decode cX9_readAct 98 = .ok (.getfield 207, 3) := by decide +kernel
theorem dX9_readAct_101 : decode cX9_readAct 101 = .ok (.iload_n 1, 1) := by decide +kernel
theorem dX9_readAct_102 : decode cX9_readAct 102 = .ok (.iconst 2, 1) := by decide +kernel
theorem dX9_readAct_103 : decode cX9_readAct 103 = .ok (.iadd, 1) := by decide +kernel
theorem dX9_readAct_104 : decode cX9_readAct 104 = .ok (.aload_n 0, 1) := by decide +kernel
theorem dX9_readAct_105 : decode cX9_readAct 105 = .ok (.getfield 56, 3) := by decide +kernel
theorem dX9_readAct_108 : decode cX9_readAct 108 = .ok (.iastore, 1) := by decide +kernel
theorem dX9_readAct_109 : decode cX9_readAct 109 = .ok (.aload_n 0, 1) := by decide +kernel
theorem dX9_readAct_110 : decode cX9_readAct 110 = .ok (.invokevirtual 63, 3) := by decide +kernel
theorem dX9_readAct_113 : decode cX9_readAct 113 = .ok (.iconst 1, 1) := by decide +kernel
theorem dX9_readAct_114 : decode cX9_readAct 114 = .ok (.ireturn, 1) := by decide +kernel
theorem dX9_actAt_0 : decode cX9_actAt 0 = .ok (.aload_n 0, 1) := by decide +kernel
theorem dX9_actAt_1 : decode cX9_actAt 1 = .ok (.ldc 213, 2) := by decide +kernel
theorem dX9_actAt_3 : decode cX9_actAt 3 = .ok (.invokevirtual 106, 3) := by decide +kernel
theorem dX9_actAt_6 : decode cX9_actAt 6 = .ok (.ifCond .eq 7, 3) := by decide +kernel
theorem dX9_actAt_9 : decode cX9_actAt 9 = .ok (.iconst 0, 1) := by decide +kernel
theorem dX9_actAt_10 : decode cX9_actAt 10 = .ok (.goto 56, 3) := by decide +kernel
theorem dX9_actAt_13 : decode cX9_actAt 13 = .ok (.aload_n 0, 1) := by decide +kernel
theorem dX9_actAt_14 : decode cX9_actAt 14 = .ok (.ldc 110, 2) := by decide +kernel
theorem dX9_actAt_16 : decode cX9_actAt 16 = .ok (.invokevirtual 106, 3) := by decide +kernel
theorem dX9_actAt_19 : decode cX9_actAt 19 = .ok (.ifCond .eq 7, 3) := by decide +kernel
theorem dX9_actAt_22 : decode cX9_actAt 22 = .ok (.iconst 1, 1) := by decide +kernel
theorem dX9_actAt_23 : decode cX9_actAt 23 = .ok (.goto 43, 3) := by decide +kernel
theorem dX9_actAt_26 : decode cX9_actAt 26 = .ok (.aload_n 0, 1) := by decide +kernel
theorem dX9_actAt_27 : decode cX9_actAt 27 = .ok (.ldc 215, 2) := by decide +kernel
theorem dX9_actAt_29 : decode cX9_actAt 29 = .ok (.invokevirtual 106, 3) := by decide +kernel
theorem dX9_actAt_32 : decode cX9_actAt 32 = .ok (.ifCond .eq 7, 3) := by decide +kernel
theorem dX9_actAt_35 : decode cX9_actAt 35 = .ok (.iconst 2, 1) := by decide +kernel
theorem dX9_actAt_36 : decode cX9_actAt 36 = .ok (.goto 30, 3) := by decide +kernel
theorem dX9_actAt_39 : decode cX9_actAt 39 = .ok (.aload_n 0, 1) := by decide +kernel
theorem dX9_actAt_40 : decode cX9_actAt 40 = .ok (.ldc 217, 2) := by decide +kernel
theorem dX9_actAt_42 : decode cX9_actAt 42 = .ok (.invokevirtual 106, 3) := by decide +kernel
theorem dX9_actAt_45 : decode cX9_actAt 45 = .ok (.ifCond .eq 7, 3) := by decide +kernel
theorem dX9_actAt_48 : decode cX9_actAt 48 = .ok (.iconst 3, 1) := by decide +kernel
theorem dX9_actAt_49 : decode cX9_actAt 49 = .ok (.goto 17, 3) := by decide +kernel
theorem dX9_actAt_52 : decode cX9_actAt 52 = .ok (.aload_n 0, 1) := by decide +kernel
theorem dX9_actAt_53 : decode cX9_actAt 53 = .ok (.ldc 219, 2) := by decide +kernel
theorem dX9_actAt_55 : decode cX9_actAt 55 = .ok (.invokevirtual 106, 3) := by decide +kernel
theorem dX9_actAt_58 : decode cX9_actAt 58 = .ok (.ifCond .eq 7, 3) := by decide +kernel
theorem dX9_actAt_61 : decode cX9_actAt 61 = .ok (.iconst 4, 1) := by decide +kernel
theorem dX9_actAt_62 : decode cX9_actAt 62 = .ok (.goto 4, 3) := by decide +kernel
theorem dX9_actAt_65 : decode cX9_actAt 65 = .ok (.iconst (-1), 1) := by decide +kernel
theorem dX9_actAt_66 : decode cX9_actAt 66 = .ok (.ireturn, 1) := by decide +kernel
theorem dX9_readHand_0 : decode cX9_readHand 0 = .ok (.aload_n 0, 1) := by decide +kernel
theorem dX9_readHand_1 : decode cX9_readHand 1 = .ok (.ldc 221, 2) := by decide +kernel
theorem dX9_readHand_3 : decode cX9_readHand 3 = .ok (.invokevirtual 106, 3) := by decide +kernel
theorem dX9_readHand_6 : decode cX9_readHand 6 = .ok (.ifCond .ne 9, 3) := by decide +kernel
theorem dX9_readHand_9 : decode cX9_readHand 9 = .ok (.aload_n 0, 1) := by decide +kernel
theorem dX9_readHand_10 : decode cX9_readHand 10 = .ok (.iconst 1, 1) := by decide +kernel
theorem dX9_readHand_11 : decode cX9_readHand 11 = .ok (.invokevirtual 49, 3) := by decide +kernel
theorem dX9_readHand_14 : decode cX9_readHand 14 = .ok (.ireturn, 1) := by decide +kernel
theorem dX9_readHand_15 : decode cX9_readHand 15 = .ok (.aload_n 0, 1) := by decide +kernel
theorem dX9_readHand_16 : decode cX9_readHand 16 = .ok (.getfield 222, 3) := by decide +kernel
theorem dX9_readHand_19 : decode cX9_readHand 19 = .ok (.iconst 4, 1) := by decide +kernel
theorem dX9_readHand_20 : decode cX9_readHand 20 = .ok (.if_icmp .ne 9, 3) := by decide +kernel
theorem dX9_readHand_23 : decode cX9_readHand 23 = .ok (.aload_n 0, 1) := by decide +kernel
theorem dX9_readHand_24 : decode cX9_readHand 24 = .ok (.iconst 4, 1) := by decide +kernel
theorem dX9_readHand_25 : decode cX9_readHand 25 = .ok (.invokevirtual 49, 3) := by decide +kernel
theorem dX9_readHand_28 : decode cX9_readHand 28 = .ok (.ireturn, 1) := by decide +kernel
theorem dX9_readHand_29 : decode cX9_readHand 29 = .ok (.iconst 4, 1) := by decide +kernel
theorem dX9_readHand_30 : decode cX9_readHand 30 = .ok (.aload_n 0, 1) := by decide +kernel
theorem dX9_readHand_31 : decode cX9_readHand 31 = .ok (.getfield 225, 3) := by decide +kernel
theorem dX9_readHand_34 : decode cX9_readHand 34 = .ok (.imul, 1) := by decide +kernel
theorem dX9_readHand_35 : decode cX9_readHand 35 = .ok (.aload_n 0, 1) := by decide +kernel
theorem dX9_readHand_36 : decode cX9_readHand 36 = .ok (.getfield 222, 3) := by decide +kernel
theorem dX9_readHand_39 : decode cX9_readHand 39 = .ok (.iadd, 1) := by decide +kernel
theorem dX9_readHand_40 : decode cX9_readHand 40 = .ok (.istore_n 1, 1) := by decide +kernel
theorem dX9_readHand_41 : decode cX9_readHand 41 = .ok (.aload_n 0, 1) := by decide +kernel
theorem dX9_readHand_42 : decode cX9_readHand 42 = .ok (.invokevirtual 63, 3) := by decide +kernel
theorem dX9_readHand_45 : decode cX9_readHand 45 = .ok (.aload_n 0, 1) := by decide +kernel
theorem dX9_readHand_46 : decode cX9_readHand 46 = .ok (.getfield 228, 3) := by decide +kernel
theorem dX9_readHand_49 : decode cX9_readHand 49 = .ok (.iload_n 1, 1) := by decide +kernel
theorem dX9_readHand_50 : decode cX9_readHand 50 = .ok (.iconst 0, 1) := by decide +kernel
theorem dX9_readHand_51 : decode cX9_readHand 51 = .ok (.iastore, 1) := by decide +kernel
theorem dX9_readHand_52 : decode cX9_readHand 52 = .ok (.aload_n 0, 1) := by decide +kernel
theorem dX9_readHand_53 : decode cX9_readHand 53 = .ok (.invokevirtual 231, 3) := by decide +kernel
theorem dX9_readHand_56 : decode cX9_readHand 56 = .ok (.iconst (-1), 1) := by decide +kernel
theorem dX9_readHand_57 : decode cX9_readHand 57 = .ok (.if_icmp .ne 9, 3) := by decide +kernel
theorem dX9_readHand_60 : decode cX9_readHand 60 = .ok (.aload_n 0, 1) := by decide +kernel
theorem dX9_readHand_61 : decode cX9_readHand 61 = .ok (.iconst 1, 1) := by decide +kernel
theorem dX9_readHand_62 : decode cX9_readHand 62 = .ok (.invokevirtual 49, 3) := by decide +kernel
theorem dX9_readHand_65 : decode cX9_readHand 65 = .ok (.ireturn, 1) := by decide +kernel
theorem dX9_readHand_66 : decode cX9_readHand 66 = .ok (.aload_n 0, 1) := by decide +kernel
theorem dX9_readHand_67 : decode cX9_readHand 67 = .ok (.invokevirtual 231, 3) := by decide +kernel
theorem dX9_readHand_70 : decode cX9_readHand 70 = .ok (.istore_n 2, 1) := by decide +kernel
theorem dX9_readHand_71 : decode cX9_readHand 71 = .ok (.iload_n 2, 1) := by decide +kernel
theorem dX9_readHand_72 : decode cX9_readHand 72 = .ok (.iconst (-1), 1) := by decide +kernel
theorem dX9_readHand_73 : decode cX9_readHand 73 = .ok (.if_icmp .eq 61, 3) := by decide +kernel
theorem dX9_readHand_76 : decode cX9_readHand 76 = .ok (.aload_n 0, 1) := by decide +kernel
theorem dX9_readHand_77 : decode cX9_readHand 77 = .ok (.getfield 228, 3) := by decide +kernel
theorem dX9_readHand_80 : decode cX9_readHand 80 = .ok (.iload_n 1, 1) := by decide +kernel
theorem dX9_readHand_81 : decode cX9_readHand 81 = .ok (.iaload, 1) := by decide +kernel
theorem dX9_readHand_82 : decode cX9_readHand 82 = .ok (.bipush 8, 2) := by decide +kernel
theorem dX9_readHand_84 : decode cX9_readHand 84 = .ok (.if_icmp .ne 9, 3) := by decide +kernel
theorem dX9_readHand_87 : decode cX9_readHand 87 = .ok (.aload_n 0, 1) := by decide +kernel
theorem dX9_readHand_88 : decode cX9_readHand 88 = .ok (.iconst 4, 1) := by decide +kernel
theorem dX9_readHand_89 : decode cX9_readHand 89 = .ok (.invokevirtual 49, 3) := by decide +kernel
theorem dX9_readHand_92 : decode cX9_readHand 92 = .ok (.ireturn, 1) := by decide +kernel
theorem dX9_readHand_93 : decode cX9_readHand 93 = .ok (.aload_n 0, 1) := by decide +kernel
theorem dX9_readHand_94 : decode cX9_readHand 94 = .ok (.iconst 3, 1) := by decide +kernel
theorem dX9_readHand_95 : decode cX9_readHand 95 = .ok (.bipush 8, 2) := by decide +kernel
theorem dX9_readHand_97 : decode cX9_readHand 97 = .ok (.iload_n 1, 1) := by decide +kernel
theorem dX9_readHand_98 : decode cX9_readHand 98 = .ok (.imul, 1) := by decide +kernel
theorem dX9_readHand_99 : decode cX9_readHand 99 = .ok (.aload_n 0, 1) := by decide +kernel
theorem dX9_readHand_100 : decode cX9_readHand 100 = .ok (.getfield 228, 3) := by decide +kernel
theorem dX9_readHand_103 : decode cX9_readHand 103 = .ok (.iload_n 1, 1) := by decide +kernel
theorem dX9_readHand_104 : decode cX9_readHand 104 = .ok (.iaload, 1) := by decide +kernel
theorem dX9_readHand_105 : decode cX9_readHand 105 = .ok (.iadd, 1) := by decide +kernel
theorem dX9_readHand_106 : decode cX9_readHand 106 = .ok (.imul, 1) := by decide +kernel
theorem dX9_readHand_107 : decode cX9_readHand 107 = .ok (.iload_n 2, 1) := by decide +kernel
theorem dX9_readHand_108 : decode cX9_readHand 108 = .ok (.invokevirtual 234, 3) := by decide +kernel
theorem dX9_readHand_111 : decode cX9_readHand 111 = .ok (.ifCond .ne 5, 3) := by decide +kernel
theorem dX9_readHand_114 : decode cX9_readHand 114 = .ok (.iconst 0, 1) := by decide +kernel
theorem dX9_readHand_115 : decode cX9_readHand 115 = .ok (.ireturn, 1) := by decide +kernel
theorem dX9_readHand_116 : decode cX9_readHand 116 = .ok (.aload_n 0, 1) := by decide +kernel
theorem dX9_readHand_117 : decode cX9_readHand 117 = .ok (.getfield 228, 3) := by decide +kernel
theorem dX9_readHand_120 : decode cX9_readHand 120 = .ok (.iload_n 1, 1) := by decide +kernel
theorem dX9_readHand_121 : decode cX9_readHand 121 = .ok (.dup2, 1) := by decide +kernel
theorem dX9_readHand_122 : decode cX9_readHand 122 = .ok (.iaload, 1) := by decide +kernel
theorem dX9_readHand_123 : decode cX9_readHand 123 = .ok (.iconst 1, 1) := by decide +kernel
theorem dX9_readHand_124 : decode cX9_readHand 124 = .ok (.iadd, 1) := by decide +kernel
theorem dX9_readHand_125 : decode cX9_readHand 125 = .ok (.iastore, 1) := by decide +kernel
theorem dX9_readHand_126 : decode cX9_readHand 126 = .ok (.aload_n 0, 1) := by decide +kernel
theorem dX9_readHand_127 : decode cX9_readHand 127 = .ok (.invokevirtual 231, 3) := by decide +kernel
theorem dX9_readHand_130 : decode cX9_readHand 130 = .ok (.istore_n 2, 1) := by decide +kernel
theorem dX9_readHand_131 : decode cX9_readHand 131 = .ok (.goto (-60), 3) := by decide +kernel
theorem dX9_readHand_134 : decode cX9_readHand 134 = .ok (.aload_n 0, 1) := by decide +kernel
theorem dX9_readHand_135 : decode cX9_readHand 135 = .ok (.dup, 1) := by decide +kernel
theorem dX9_readHand_136 : decode cX9_readHand 136 = .ok (.getfield 222, 3) := by decide +kernel
theorem dX9_readHand_139 : decode cX9_readHand 139 = .ok (.iconst 1, 1) := by decide +kernel
theorem dX9_readHand_140 : decode cX9_readHand 140 = .ok (.iadd, 1) := by decide +kernel
theorem dX9_readHand_141 : decode cX9_readHand 141 = .ok (.putfield 222, 3) := by decide +kernel
theorem dX9_readHand_144 : decode cX9_readHand 144 = .ok (.iconst 1, 1) := by decide +kernel
theorem dX9_readHand_145 : decode cX9_readHand 145 = .ok (.ireturn, 1) := by decide +kernel
theorem dX9_readPlan_0 : decode cX9_readPlan 0 = .ok (.aload_n 0, 1) := by decide +kernel
theorem dX9_readPlan_1 : decode cX9_readPlan 1 = .ok (.iconst 0, 1) := by decide +kernel
theorem dX9_readPlan_2 : decode cX9_readPlan 2 = .ok (.putfield 222, 3) := by decide +kernel
theorem dX9_readPlan_5 : decode cX9_readPlan 5 = .ok (.aload_n 0, 1) := by decide +kernel
theorem dX9_readPlan_6 : decode cX9_readPlan 6 = .ok (.getfield 27, 3) := by decide +kernel
theorem dX9_readPlan_9 : decode cX9_readPlan 9 = .ok (.ifCond .eq 19, 3) := by decide +kernel
theorem dX9_readPlan_12 : decode cX9_readPlan 12 = .ok (.aload_n 0, 1) := by decide +kernel
theorem dX9_readPlan_13 : decode cX9_readPlan 13 = .ok (.invokevirtual 237, 3) := by decide +kernel
theorem dX9_readPlan_16 : decode cX9_readPlan 16 = .ok (.ifCond .eq 10, 3) := by decide +kernel
theorem dX9_readPlan_19 : decode cX9_readPlan 19 = .ok (.aload_n 0, 1) := by decide +kernel
theorem dX9_readPlan_20 : decode cX9_readPlan 20 = .ok (.invokevirtual 159, 3) := by decide +kernel
theorem dX9_readPlan_23 : decode cX9_readPlan 23 = .ok (.ifCond .ne (-18), 3) := by decide +kernel
theorem dX9_readPlan_26 : decode cX9_readPlan 26 = .ok (.iconst 0, 1) := by decide +kernel
theorem dX9_readPlan_27 : decode cX9_readPlan 27 = .ok (.ireturn, 1) := by decide +kernel
theorem dX9_readPlan_28 : decode cX9_readPlan 28 = .ok (.iconst 1, 1) := by decide +kernel
theorem dX9_readPlan_29 : decode cX9_readPlan 29 = .ok (.ireturn, 1) := by decide +kernel
theorem dX9_init_0 : decode cX9_init 0 = .ok (.aload_n 0, 1) := by decide +kernel
theorem dX9_init_1 : decode cX9_init 1 = .ok (.invokespecial 240, 3) := by decide +kernel
theorem dX9_init_4 : decode cX9_init 4 = .ok (.aload_n 0, 1) := by decide +kernel
theorem dX9_init_5 : decode cX9_init 5 = .ok (.sipush 900, 3) := by decide +kernel
theorem dX9_init_8 : decode cX9_init 8 = .ok (.newarray .byte, 2) := by decide +kernel
theorem dX9_init_10 : decode cX9_init 10 = .ok (.putfield 16, 3) := by decide +kernel
theorem dX9_init_13 : decode cX9_init 13 = .ok (.aload_n 0, 1) := by decide +kernel
theorem dX9_init_14 : decode cX9_init 14 = .ok (.iconst (-1), 1) := by decide +kernel
theorem dX9_init_15 : decode cX9_init 15 = .ok (.putfield 10, 3) := by decide +kernel
theorem dX9_init_18 : decode cX9_init 18 = .ok (.aload_n 0, 1) := by decide +kernel
theorem dX9_init_19 : decode cX9_init 19 = .ok (.iconst 5, 1) := by decide +kernel
theorem dX9_init_20 : decode cX9_init 20 = .ok (.putfield 201, 3) := by decide +kernel
theorem dX9_init_23 : decode cX9_init 23 = .ok (.aload_n 0, 1) := by decide +kernel
theorem dX9_init_24 : decode cX9_init 24 = .ok (.iconst 5, 1) := by decide +kernel
theorem dX9_init_25 : decode cX9_init 25 = .ok (.putfield 204, 3) := by decide +kernel
theorem dX9_init_28 : decode cX9_init 28 = .ok (.aload_n 0, 1) := by decide +kernel
theorem dX9_init_29 : decode cX9_init 29 = .ok (.bipush 9, 2) := by decide +kernel
theorem dX9_init_31 : decode cX9_init 31 = .ok (.newarray .int, 2) := by decide +kernel
theorem dX9_init_33 : decode cX9_init 33 = .ok (.dup, 1) := by decide +kernel
theorem dX9_init_34 : decode cX9_init 34 = .ok (.iconst 0, 1) := by decide +kernel
theorem dX9_init_35 : decode cX9_init 35 = .ok (.bipush 6, 2) := by decide +kernel
theorem dX9_init_37 : decode cX9_init 37 = .ok (.iastore, 1) := by decide +kernel
theorem dX9_init_38 : decode cX9_init 38 = .ok (.dup, 1) := by decide +kernel
theorem dX9_init_39 : decode cX9_init 39 = .ok (.iconst 1, 1) := by decide +kernel
theorem dX9_init_40 : decode cX9_init 40 = .ok (.iconst 2, 1) := by decide +kernel
theorem dX9_init_41 : decode cX9_init 41 = .ok (.iastore, 1) := by decide +kernel
theorem dX9_init_42 : decode cX9_init 42 = .ok (.dup, 1) := by decide +kernel
theorem dX9_init_43 : decode cX9_init 43 = .ok (.iconst 2, 1) := by decide +kernel
theorem dX9_init_44 : decode cX9_init 44 = .ok (.bipush 10, 2) := by decide +kernel
theorem dX9_init_46 : decode cX9_init 46 = .ok (.iastore, 1) := by decide +kernel
theorem dX9_init_47 : decode cX9_init 47 = .ok (.dup, 1) := by decide +kernel
theorem dX9_init_48 : decode cX9_init 48 = .ok (.iconst 3, 1) := by decide +kernel
theorem dX9_init_49 : decode cX9_init 49 = .ok (.iconst 4, 1) := by decide +kernel
theorem dX9_init_50 : decode cX9_init 50 = .ok (.iastore, 1) := by decide +kernel
theorem dX9_init_51 : decode cX9_init 51 = .ok (.dup, 1) := by decide +kernel
theorem dX9_init_52 : decode cX9_init 52 = .ok (.iconst 4, 1) := by decide +kernel
theorem dX9_init_53 : decode cX9_init 53 = .ok (.iconst 1, 1) := by decide +kernel
theorem dX9_init_54 : decode cX9_init 54 = .ok (.iastore, 1) := by decide +kernel
theorem dX9_init_55 : decode cX9_init 55 = .ok (.dup, 1) := by decide +kernel
theorem dX9_init_56 : decode cX9_init 56 = .ok (.iconst 5, 1) := by decide +kernel
theorem dX9_init_57 : decode cX9_init 57 = .ok (.iconst 0, 1) := by decide +kernel
theorem dX9_init_58 : decode cX9_init 58 = .ok (.iastore, 1) := by decide +kernel
theorem dX9_init_59 : decode cX9_init 59 = .ok (.dup, 1) := by decide +kernel
theorem dX9_init_60 : decode cX9_init 60 = .ok (.bipush 6, 2) := by decide +kernel
theorem dX9_init_62 : decode cX9_init 62 = .ok (.iconst 4, 1) := by decide +kernel
theorem dX9_init_63 : decode cX9_init 63 = .ok (.iastore, 1) := by decide +kernel
theorem dX9_init_64 : decode cX9_init 64 = .ok (.dup, 1) := by decide +kernel
theorem dX9_init_65 : decode cX9_init 65 = .ok (.bipush 7, 2) := by decide +kernel
theorem dX9_init_67 : decode cX9_init 67 = .ok (.bipush 6, 2) := by decide +kernel
theorem dX9_init_69 : decode cX9_init 69 = .ok (.iastore, 1) := by decide +kernel
theorem dX9_init_70 : decode cX9_init 70 = .ok (.dup, 1) := by decide +kernel
theorem dX9_init_71 : decode cX9_init 71 = .ok (.bipush 8, 2) := by decide +kernel
theorem dX9_init_73 : decode cX9_init 73 = .ok (.iconst 1, 1) := by decide +kernel
theorem dX9_init_74 : decode cX9_init 74 = .ok (.iastore, 1) := by decide +kernel
theorem dX9_init_75 : decode cX9_init 75 = .ok (.putfield 245, 3) := by decide +kernel
theorem dX9_init_78 : decode cX9_init 78 = .ok (.aload_n 0, 1) := by decide +kernel
theorem dX9_init_79 : decode cX9_init 79 = .ok (.bipush 9, 2) := by decide +kernel
theorem dX9_init_81 : decode cX9_init 81 = .ok (.newarray .int, 2) := by decide +kernel
theorem dX9_init_83 : decode cX9_init 83 = .ok (.putfield 128, 3) := by decide +kernel
theorem dX9_init_86 : decode cX9_init 86 = .ok (.aload_n 0, 1) := by decide +kernel
theorem dX9_init_87 : decode cX9_init 87 = .ok (.bipush 64, 2) := by decide +kernel
theorem dX9_init_89 : decode cX9_init 89 = .ok (.newarray .int, 2) := by decide +kernel
theorem dX9_init_91 : decode cX9_init 91 = .ok (.putfield 248, 3) := by decide +kernel
theorem dX9_init_94 : decode cX9_init 94 = .ok (.aload_n 0, 1) := by decide +kernel
theorem dX9_init_95 : decode cX9_init 95 = .ok (.bipush 64, 2) := by decide +kernel
theorem dX9_init_97 : decode cX9_init 97 = .ok (.newarray .int, 2) := by decide +kernel
theorem dX9_init_99 : decode cX9_init 99 = .ok (.putfield 83, 3) := by decide +kernel
theorem dX9_init_102 : decode cX9_init 102 = .ok (.aload_n 0, 1) := by decide +kernel
theorem dX9_init_103 : decode cX9_init 103 = .ok (.iconst 3, 1) := by decide +kernel
theorem dX9_init_104 : decode cX9_init 104 = .ok (.newarray .int, 2) := by decide +kernel
theorem dX9_init_106 : decode cX9_init 106 = .ok (.putfield 250, 3) := by decide +kernel
theorem dX9_init_109 : decode cX9_init 109 = .ok (.aload_n 0, 1) := by decide +kernel
theorem dX9_init_110 : decode cX9_init 110 = .ok (.iconst 3, 1) := by decide +kernel
theorem dX9_init_111 : decode cX9_init 111 = .ok (.newarray .int, 2) := by decide +kernel
theorem dX9_init_113 : decode cX9_init 113 = .ok (.putfield 98, 3) := by decide +kernel
theorem dX9_init_116 : decode cX9_init 116 = .ok (.aload_n 0, 1) := by decide +kernel
theorem dX9_init_117 : decode cX9_init 117 = .ok (.bipush 64, 2) := by decide +kernel
theorem dX9_init_119 : decode cX9_init 119 = .ok (.newarray .boolean, 2) := by decide +kernel
theorem dX9_init_121 : decode cX9_init 121 = .ok (.putfield 253, 3) := by decide +kernel
theorem dX9_init_124 : decode cX9_init 124 = .ok (.aload_n 0, 1) := by decide +kernel
theorem dX9_init_125 : decode cX9_init 125 = .ok (.bipush 64, 2) := by decide +kernel
theorem dX9_init_127 : decode cX9_init 127 = .ok (.newarray .boolean, 2) := by decide +kernel
theorem dX9_init_129 : decode cX9_init 129 = .ok (.putfield 91, 3) := by decide +kernel
theorem dX9_init_132 : decode cX9_init 132 = .ok (.aload_n 0, 1) := by decide +kernel
theorem dX9_init_133 : decode cX9_init 133 = .ok (.bipush 36, 2) := by decide +kernel
theorem dX9_init_135 : decode cX9_init 135 = .ok (.newarray .int, 2) := by decide +kernel
theorem dX9_init_137 : decode cX9_init 137 = .ok (.putfield 256, 3) := by decide +kernel
theorem dX9_init_140 : decode cX9_init 140 = .ok (.aload_n 0, 1) := by decide +kernel
theorem dX9_init_141 : decode cX9_init 141 = .ok (.bipush 36, 2) := by decide +kernel
theorem dX9_init_143 : decode cX9_init 143 = .ok (.newarray .int, 2) := by decide +kernel
theorem dX9_init_145 : decode cX9_init 145 = .ok (.putfield 165, 3) := by decide +kernel
theorem dX9_init_148 : decode cX9_init 148 = .ok (.aload_n 0, 1) := by decide +kernel
theorem dX9_init_149 : decode cX9_init 149 = .ok (.iconst 4, 1) := by decide +kernel
theorem dX9_init_150 : decode cX9_init 150 = .ok (.newarray .int, 2) := by decide +kernel
theorem dX9_init_152 : decode cX9_init 152 = .ok (.dup, 1) := by decide +kernel
theorem dX9_init_153 : decode cX9_init 153 = .ok (.iconst 0, 1) := by decide +kernel
theorem dX9_init_154 : decode cX9_init 154 = .ok (.iconst (-1), 1) := by decide +kernel
theorem dX9_init_155 : decode cX9_init 155 = .ok (.iastore, 1) := by decide +kernel
theorem dX9_init_156 : decode cX9_init 156 = .ok (.dup, 1) := by decide +kernel
theorem dX9_init_157 : decode cX9_init 157 = .ok (.iconst 1, 1) := by decide +kernel
theorem dX9_init_158 : decode cX9_init 158 = .ok (.iconst (-1), 1) := by decide +kernel
theorem dX9_init_159 : decode cX9_init 159 = .ok (.iastore, 1) := by decide +kernel
theorem dX9_init_160 : decode cX9_init 160 = .ok (.dup, 1) := by decide +kernel
theorem dX9_init_161 : decode cX9_init 161 = .ok (.iconst 2, 1) := by decide +kernel
theorem dX9_init_162 : decode cX9_init 162 = .ok (.iconst (-1), 1) := by decide +kernel
theorem dX9_init_163 : decode cX9_init 163 = .ok (.iastore, 1) := by decide +kernel
theorem dX9_init_164 : decode cX9_init 164 = .ok (.dup, 1) := by decide +kernel
theorem dX9_init_165 : decode cX9_init 165 = .ok (.iconst 3, 1) := by decide +kernel
theorem dX9_init_166 : decode cX9_init 166 = .ok (.iconst (-1), 1) := by decide +kernel
theorem dX9_init_167 : decode cX9_init 167 = .ok (.iastore, 1) := by decide +kernel
theorem dX9_init_168 : decode cX9_init 168 = .ok (.putfield 258, 3) := by decide +kernel
theorem dX9_init_171 : decode cX9_init 171 = .ok (.aload_n 0, 1) := by decide +kernel
theorem dX9_init_172 : decode cX9_init 172 = .ok (.iconst 4, 1) := by decide +kernel
theorem dX9_init_173 : decode cX9_init 173 = .ok (.newarray .int, 2) := by decide +kernel
theorem dX9_init_175 : decode cX9_init 175 = .ok (.putfield 168, 3) := by decide +kernel
theorem dX9_init_178 : decode cX9_init 178 = .ok (.aload_n 0, 1) := by decide +kernel
theorem dX9_init_179 : decode cX9_init 179 = .ok (.iconst 2, 1) := by decide +kernel
theorem dX9_init_180 : decode cX9_init 180 = .ok (.newarray .int, 2) := by decide +kernel
theorem dX9_init_182 : decode cX9_init 182 = .ok (.dup, 1) := by decide +kernel
theorem dX9_init_183 : decode cX9_init 183 = .ok (.iconst 0, 1) := by decide +kernel
theorem dX9_init_184 : decode cX9_init 184 = .ok (.iconst 1, 1) := by decide +kernel
theorem dX9_init_185 : decode cX9_init 185 = .ok (.iastore, 1) := by decide +kernel
theorem dX9_init_186 : decode cX9_init 186 = .ok (.dup, 1) := by decide +kernel
theorem dX9_init_187 : decode cX9_init 187 = .ok (.iconst 1, 1) := by decide +kernel
theorem dX9_init_188 : decode cX9_init 188 = .ok (.iconst 3, 1) := by decide +kernel
theorem dX9_init_189 : decode cX9_init 189 = .ok (.iastore, 1) := by decide +kernel
theorem dX9_init_190 : decode cX9_init 190 = .ok (.putfield 260, 3) := by decide +kernel
theorem dX9_init_193 : decode cX9_init 193 = .ok (.aload_n 0, 1) := by decide +kernel
theorem dX9_init_194 : decode cX9_init 194 = .ok (.iconst 2, 1) := by decide +kernel
theorem dX9_init_195 : decode cX9_init 195 = .ok (.newarray .int, 2) := by decide +kernel
theorem dX9_init_197 : decode cX9_init 197 = .ok (.dup, 1) := by decide +kernel
theorem dX9_init_198 : decode cX9_init 198 = .ok (.iconst 0, 1) := by decide +kernel
theorem dX9_init_199 : decode cX9_init 199 = .ok (.iconst 4, 1) := by decide +kernel
theorem dX9_init_200 : decode cX9_init 200 = .ok (.iastore, 1) := by decide +kernel
theorem dX9_init_201 : decode cX9_init 201 = .ok (.dup, 1) := by decide +kernel
theorem dX9_init_202 : decode cX9_init 202 = .ok (.iconst 1, 1) := by decide +kernel
theorem dX9_init_203 : decode cX9_init 203 = .ok (.bipush 8, 2) := by decide +kernel
theorem dX9_init_205 : decode cX9_init 205 = .ok (.iastore, 1) := by decide +kernel
theorem dX9_init_206 : decode cX9_init 206 = .ok (.putfield 262, 3) := by decide +kernel
theorem dX9_init_209 : decode cX9_init 209 = .ok (.aload_n 0, 1) := by decide +kernel
theorem dX9_init_210 : decode cX9_init 210 = .ok (.iconst 2, 1) := by decide +kernel
theorem dX9_init_211 : decode cX9_init 211 = .ok (.newarray .int, 2) := by decide +kernel
theorem dX9_init_213 : decode cX9_init 213 = .ok (.putfield 181, 3) := by decide +kernel
theorem dX9_init_216 : decode cX9_init 216 = .ok (.aload_n 0, 1) := by decide +kernel
theorem dX9_init_217 : decode cX9_init 217 = .ok (.iconst 2, 1) := by decide +kernel
theorem dX9_init_218 : decode cX9_init 218 = .ok (.newarray .int, 2) := by decide +kernel
theorem dX9_init_220 : decode cX9_init 220 = .ok (.putfield 188, 3) := by decide +kernel
theorem dX9_init_223 : decode cX9_init 223 = .ok (.aload_n 0, 1) := by decide +kernel
theorem dX9_init_224 : decode cX9_init 224 = .ok (.iconst 1, 1) := by decide +kernel
theorem dX9_init_225 : decode cX9_init 225 = .ok (.putfield 264, 3) := by decide +kernel
theorem dX9_init_228 : decode cX9_init 228 = .ok (.aload_n 0, 1) := by decide +kernel
theorem dX9_init_229 : decode cX9_init 229 = .ok (.iconst 3, 1) := by decide +kernel
theorem dX9_init_230 : decode cX9_init 230 = .ok (.newarray .int, 2) := by decide +kernel
theorem dX9_init_232 : decode cX9_init 232 = .ok (.putfield 266, 3) := by decide +kernel
theorem dX9_init_235 : decode cX9_init 235 = .ok (.aload_n 0, 1) := by decide +kernel
theorem dX9_init_236 : decode cX9_init 236 = .ok (.bipush 12, 2) := by decide +kernel
theorem dX9_init_238 : decode cX9_init 238 = .ok (.newarray .int, 2) := by decide +kernel
theorem dX9_init_240 : decode cX9_init 240 = .ok (.putfield 228, 3) := by decide +kernel
theorem dX9_init_243 : decode cX9_init 243 = .ok (.aload_n 0, 1) := by decide +kernel
theorem dX9_init_244 : decode cX9_init 244 = .ok (.sipush 288, 3) := by decide +kernel
theorem dX9_init_247 : decode cX9_init 247 = .ok (.newarray .int, 2) := by decide +kernel
theorem dX9_init_249 : decode cX9_init 249 = .ok (.putfield 207, 3) := by decide +kernel
theorem dX9_init_252 : decode cX9_init 252 = .ok (.aload_n 0, 1) := by decide +kernel
theorem dX9_init_253 : decode cX9_init 253 = .ok (.sipush 289, 3) := by decide +kernel
theorem dX9_init_256 : decode cX9_init 256 = .ok (.newarray .int, 2) := by decide +kernel
theorem dX9_init_258 : decode cX9_init 258 = .ok (.putfield 269, 3) := by decide +kernel
theorem dX9_init_261 : decode cX9_init 261 = .ok (.aload_n 0, 1) := by decide +kernel
theorem dX9_init_262 : decode cX9_init 262 = .ok (.sipush 289, 3) := by decide +kernel
theorem dX9_init_265 : decode cX9_init 265 = .ok (.newarray .int, 2) := by decide +kernel
theorem dX9_init_267 : decode cX9_init 267 = .ok (.putfield 272, 3) := by decide +kernel
theorem dX9_init_270 : decode cX9_init 270 = .ok (.aload_n 0, 1) := by decide +kernel
theorem dX9_init_271 : decode cX9_init 271 = .ok (.sipush 867, 3) := by decide +kernel
theorem dX9_init_274 : decode cX9_init 274 = .ok (.newarray .int, 2) := by decide +kernel
theorem dX9_init_276 : decode cX9_init 276 = .ok (.putfield 275, 3) := by decide +kernel
theorem dX9_init_279 : decode cX9_init 279 = .ok (.aload_n 0, 1) := by decide +kernel
theorem dX9_init_280 : decode cX9_init 280 = .ok (.iconst 3, 1) := by decide +kernel
theorem dX9_init_281 : decode cX9_init 281 = .ok (.newarray .boolean, 2) := by decide +kernel
theorem dX9_init_283 : decode cX9_init 283 = .ok (.putfield 278, 3) := by decide +kernel
theorem dX9_init_286 : decode cX9_init 286 = .ok (.aload_n 0, 1) := by decide +kernel
theorem dX9_init_287 : decode cX9_init 287 = .ok (.bipush 9, 2) := by decide +kernel
theorem dX9_init_289 : decode cX9_init 289 = .ok (.newarray .int, 2) := by decide +kernel
theorem dX9_init_291 : decode cX9_init 291 = .ok (.putfield 281, 3) := by decide +kernel
theorem dX9_init_294 : decode cX9_init 294 = .ok (.aload_n 0, 1) := by decide +kernel
theorem dX9_init_295 : decode cX9_init 295 = .ok (.bipush 16, 2) := by decide +kernel
theorem dX9_init_297 : decode cX9_init 297 = .ok (.newarray .int, 2) := by decide +kernel
theorem dX9_init_299 : decode cX9_init 299 = .ok (.putfield 284, 3) := by decide +kernel
theorem dX9_init_302 : decode cX9_init 302 = .ok (.aload_n 0, 1) := by decide +kernel
theorem dX9_init_303 : decode cX9_init 303 = .ok (.bipush 16, 2) := by decide +kernel
theorem dX9_init_305 : decode cX9_init 305 = .ok (.newarray .int, 2) := by decide +kernel
theorem dX9_init_307 : decode cX9_init 307 = .ok (.putfield 287, 3) := by decide +kernel
theorem dX9_init_310 : decode cX9_init 310 = .ok (.aload_n 0, 1) := by decide +kernel
theorem dX9_init_311 : decode cX9_init 311 = .ok (.bipush 16, 2) := by decide +kernel
theorem dX9_init_313 : decode cX9_init 313 = .ok (.newarray .int, 2) := by decide +kernel
theorem dX9_init_315 : decode cX9_init 315 = .ok (.putfield 290, 3) := by decide +kernel
theorem dX9_init_318 : decode cX9_init 318 = .ok (.aload_n 0, 1) := by decide +kernel
theorem dX9_init_319 : decode cX9_init 319 = .ok (.bipush 16, 2) := by decide +kernel
theorem dX9_init_321 : decode cX9_init 321 = .ok (.newarray .int, 2) := by decide +kernel
theorem dX9_init_323 : decode cX9_init 323 = .ok (.putfield 293, 3) := by decide +kernel
theorem dX9_init_326 : decode cX9_init 326 = .ok (.aload_n 0, 1) := by decide +kernel
theorem dX9_init_327 : decode cX9_init 327 = .ok (.bipush 20, 2) := by decide +kernel
theorem dX9_init_329 : decode cX9_init 329 = .ok (.newarray .int, 2) := by decide +kernel
theorem dX9_init_331 : decode cX9_init 331 = .ok (.putfield 296, 3) := by decide +kernel
theorem dX9_init_334 : decode cX9_init 334 = .ok (.aload_n 0, 1) := by decide +kernel
theorem dX9_init_335 : decode cX9_init 335 = .ok (.bipush 20, 2) := by decide +kernel
theorem dX9_init_337 : decode cX9_init 337 = .ok (.newarray .int, 2) := by decide +kernel
theorem dX9_init_339 : decode cX9_init 339 = .ok (.putfield 299, 3) := by decide +kernel
theorem dX9_init_342 : decode cX9_init 342 = .ok (.aload_n 0, 1) := by decide +kernel
theorem dX9_init_343 : decode cX9_init 343 = .ok (.bipush 20, 2) := by decide +kernel
theorem dX9_init_345 : decode cX9_init 345 = .ok (.newarray .int, 2) := by decide +kernel
theorem dX9_init_347 : decode cX9_init 347 = .ok (.putfield 302, 3) := by decide +kernel
theorem dX9_init_350 : decode cX9_init 350 = .ok (.aload_n 0, 1) := by decide +kernel
theorem dX9_init_351 : decode cX9_init 351 = .ok (.sipush 496, 3) := by decide +kernel
theorem dX9_init_354 : decode cX9_init 354 = .ok (.newarray .int, 2) := by decide +kernel
theorem dX9_init_356 : decode cX9_init 356 = .ok (.putfield 305, 3) := by decide +kernel
theorem dX9_init_359 : decode cX9_init 359 = .ok (.aload_n 0, 1) := by decide +kernel
theorem dX9_init_360 : decode cX9_init 360 = .ok (.getfield 269, 3) := by decide +kernel
theorem dX9_init_363 : decode cX9_init 363 = .ok (.sipush 288, 3) := by decide +kernel
theorem dX9_init_366 : decode cX9_init 366 = .ok (.iconst 1, 1) := by decide +kernel
theorem dX9_init_367 : decode cX9_init 367 = .ok (.iastore, 1) := by decide +kernel
theorem dX9_init_368 : decode cX9_init 368 = .ok (.aload_n 0, 1) := by decide +kernel
theorem dX9_init_369 : decode cX9_init 369 = .ok (.invokevirtual 308, 3) := by decide +kernel
theorem dX9_init_372 : decode cX9_init 372 = .ok (.return_, 1) := by decide +kernel
theorem dX9_beginNow_0 : decode cX9_beginNow 0 = .ok (.aload_n 0, 1) := by decide +kernel
theorem dX9_beginNow_1 : decode cX9_beginNow 1 = .ok (.getfield 269, 3) := by decide +kernel
theorem dX9_beginNow_4 : decode cX9_beginNow 4 = .ok (.sipush 288, 3) := by decide +kernel
theorem dX9_beginNow_7 : decode cX9_beginNow 7 = .ok (.iaload, 1) := by decide +kernel
theorem dX9_beginNow_8 : decode cX9_beginNow 8 = .ok (.istore_n 1, 1) := by decide +kernel
theorem dX9_beginNow_9 : decode cX9_beginNow 9 = .ok (.iconst 0, 1) := by decide +kernel
theorem dX9_beginNow_10 : decode cX9_beginNow 10 = .ok (.istore_n 2, 1) := by decide +kernel
theorem dX9_beginNow_11 : decode cX9_beginNow 11 = .ok (.iload_n 2, 1) := by decide +kernel
theorem dX9_beginNow_12 : decode cX9_beginNow 12 = .ok (.sipush 289, 3) := by decide +kernel
theorem dX9_beginNow_15 : decode cX9_beginNow 15 = .ok (.if_icmp .ge 16, 3) := by decide +kernel
theorem dX9_beginNow_18 : decode cX9_beginNow 18 = .ok (.aload_n 0, 1) := by decide +kernel
theorem dX9_beginNow_19 : decode cX9_beginNow 19 = .ok (.getfield 269, 3) := by decide +kernel
theorem dX9_beginNow_22 : decode cX9_beginNow 22 = .ok (.iload_n 2, 1) := by decide +kernel
theorem dX9_beginNow_23 : decode cX9_beginNow 23 = .ok (.iconst 0, 1) := by decide +kernel
theorem dX9_beginNow_24 : decode cX9_beginNow 24 = .ok (.iastore, 1) := by decide +kernel
theorem dX9_beginNow_25 : decode cX9_beginNow 25 = .ok (.iinc 2 1, 3) := by decide +kernel
theorem dX9_beginNow_28 : decode cX9_beginNow 28 = .ok (.goto (-17), 3) := by decide +kernel
theorem dX9_beginNow_31 : decode cX9_beginNow 31 = .ok (.iconst 0, 1) := by decide +kernel
theorem dX9_beginNow_32 : decode cX9_beginNow 32 = .ok (.istore_n 2, 1) := by decide +kernel
theorem dX9_beginNow_33 : decode cX9_beginNow 33 = .ok (.iload_n 2, 1) := by decide +kernel
theorem dX9_beginNow_34 : decode cX9_beginNow 34 = .ok (.aload_n 0, 1) := by decide +kernel
theorem dX9_beginNow_35 : decode cX9_beginNow 35 = .ok (.getfield 201, 3) := by decide +kernel
theorem dX9_beginNow_38 : decode cX9_beginNow 38 = .ok (.aload_n 0, 1) := by decide +kernel
theorem dX9_beginNow_39 : decode cX9_beginNow 39 = .ok (.getfield 204, 3) := by decide +kernel
theorem dX9_beginNow_42 : decode cX9_beginNow 42 = .ok (.imul, 1) := by decide +kernel
theorem dX9_beginNow_43 : decode cX9_beginNow 43 = .ok (.if_icmp .ge 69, 3) := by decide +kernel
theorem dX9_beginNow_46 : decode cX9_beginNow 46 = .ok (.aload_n 0, 1) := by decide +kernel
theorem dX9_beginNow_47 : decode cX9_beginNow 47 = .ok (.getfield 269, 3) := by decide +kernel
theorem dX9_beginNow_50 : decode cX9_beginNow 50 = .ok (.iconst 0, 1) := by decide +kernel
theorem dX9_beginNow_51 : decode cX9_beginNow 51 = .ok (.iload_n 2, 1) := by decide +kernel
theorem dX9_beginNow_52 : decode cX9_beginNow 52 = .ok (.iadd, 1) := by decide +kernel
theorem dX9_beginNow_53 : decode cX9_beginNow 53 = .ok (.aload_n 0, 1) := by decide +kernel
theorem dX9_beginNow_54 : decode cX9_beginNow 54 = .ok (.getfield 245, 3) := by decide +kernel
theorem dX9_beginNow_57 : decode cX9_beginNow 57 = .ok (.iconst 0, 1) := by decide +kernel
theorem dX9_beginNow_58 : decode cX9_beginNow 58 = .ok (.iaload, 1) := by decide +kernel
theorem dX9_beginNow_59 : decode cX9_beginNow 59 = .ok (.aload_n 0, 1) := by decide +kernel
theorem dX9_beginNow_60 : decode cX9_beginNow 60 = .ok (.getfield 248, 3) := by decide +kernel
theorem dX9_beginNow_63 : decode cX9_beginNow 63 = .ok (.iload_n 2, 1) := by decide +kernel
theorem dX9_beginNow_64 : decode cX9_beginNow 64 = .ok (.iaload, 1) := by decide +kernel
theorem dX9_beginNow_65 : decode cX9_beginNow 65 = .ok (.iadd, 1) := by decide +kernel
theorem dX9_beginNow_66 : decode cX9_beginNow 66 = .ok (.iastore, 1) := by decide +kernel
theorem dX9_beginNow_67 : decode cX9_beginNow 67 = .ok (.aload_n 0, 1) := by decide +kernel
theorem dX9_beginNow_68 : decode cX9_beginNow 68 = .ok (.getfield 269, 3) := by decide +kernel
theorem dX9_beginNow_71 : decode cX9_beginNow 71 = .ok (.bipush 64, 2) := by decide +kernel
theorem dX9_beginNow_73 : decode cX9_beginNow 73 = .ok (.iload_n 2, 1) := by decide +kernel
theorem dX9_beginNow_74 : decode cX9_beginNow 74 = .ok (.iadd, 1) := by decide +kernel
theorem dX9_beginNow_75 : decode cX9_beginNow 75 = .ok (.aload_n 0, 1) := by decide +kernel
theorem dX9_beginNow_76 : decode cX9_beginNow 76 = .ok (.getfield 245, 3) := by decide +kernel
theorem dX9_beginNow_79 : decode cX9_beginNow 79 = .ok (.iconst 3, 1) := by decide +kernel
theorem dX9_beginNow_80 : decode cX9_beginNow 80 = .ok (.iaload, 1) := by decide +kernel
theorem dX9_beginNow_81 : decode cX9_beginNow 81 = .ok (.iastore, 1) := by decide +kernel
theorem dX9_beginNow_82 : decode cX9_beginNow 82 = .ok (.aload_n 0, 1) := by decide +kernel
theorem dX9_beginNow_83 : decode cX9_beginNow 83 = .ok (.getfield 269, 3) := by decide +kernel
theorem dX9_beginNow_86 : decode cX9_beginNow 86 = .ok (.sipush 192, 3) := by decide +kernel
theorem dX9_beginNow_89 : decode cX9_beginNow 89 = .ok (.iload_n 2, 1) := by decide +kernel
theorem dX9_beginNow_90 : decode cX9_beginNow 90 = .ok (.iadd, 1) := by decide +kernel
theorem dX9_beginNow_91 : decode cX9_beginNow 91 = .ok (.aload_n 0, 1) := by decide +kernel
theorem dX9_beginNow_92 : decode cX9_beginNow 92 = .ok (.getfield 253, 3) := by decide +kernel
theorem dX9_beginNow_95 : decode cX9_beginNow 95 = .ok (.iload_n 2, 1) := by decide +kernel
theorem dX9_beginNow_96 : decode cX9_beginNow 96 = .ok (.baload, 1) := by decide +kernel
theorem dX9_beginNow_97 : decode cX9_beginNow 97 = .ok (.ifCond .eq 7, 3) := by decide +kernel
theorem dX9_beginNow_100 : decode cX9_beginNow 100 = .ok (.iconst 1, 1) := by decide +kernel
theorem dX9_beginNow_101 : decode cX9_beginNow 101 = .ok (.goto 4, 3) := by decide +kernel
theorem dX9_beginNow_104 : decode cX9_beginNow 104 = .ok (.iconst 0, 1) := by decide +kernel
theorem dX9_beginNow_105 : decode cX9_beginNow 105 = .ok (.iastore, 1) := by decide +kernel
theorem dX9_beginNow_106 : decode cX9_beginNow 106 = .ok (.iinc 2 1, 3) := by decide +kernel
theorem dX9_beginNow_109 : decode cX9_beginNow 109 = .ok (.goto (-76), 3) := by decide +kernel
theorem dX9_beginNow_112 : decode cX9_beginNow 112 = .ok (.iconst 0, 1) := by decide +kernel
theorem dX9_beginNow_113 : decode cX9_beginNow 113 = .ok (.istore_n 2, 1) := by decide +kernel
theorem dX9_beginNow_114 : decode cX9_beginNow 114 = .ok (.iload_n 2, 1) := by decide +kernel
theorem dX9_beginNow_115 : decode cX9_beginNow 115 = .ok (.aload_n 0, 1) := by decide +kernel
theorem dX9_beginNow_116 : decode cX9_beginNow 116 = .ok (.getfield 311, 3) := by decide +kernel
theorem dX9_beginNow_119 : decode cX9_beginNow 119 = .ok (.if_icmp .ge 22, 3) := by decide +kernel
theorem dX9_beginNow_122 : decode cX9_beginNow 122 = .ok (.aload_n 0, 1) := by decide +kernel
theorem dX9_beginNow_123 : decode cX9_beginNow 123 = .ok (.getfield 269, 3) := by decide +kernel
theorem dX9_beginNow_126 : decode cX9_beginNow 126 = .ok (.aload_n 0, 1) := by decide +kernel
theorem dX9_beginNow_127 : decode cX9_beginNow 127 = .ok (.getfield 250, 3) := by decide +kernel
theorem dX9_beginNow_130 : decode cX9_beginNow 130 = .ok (.iload_n 2, 1) := by decide +kernel
theorem dX9_beginNow_131 : decode cX9_beginNow 131 = .ok (.iaload, 1) := by decide +kernel
theorem dX9_beginNow_132 : decode cX9_beginNow 132 = .ok (.invokestatic 314, 3) := by decide +kernel
theorem dX9_beginNow_135 : decode cX9_beginNow 135 = .ok (.iinc 2 1, 3) := by decide +kernel
theorem dX9_beginNow_138 : decode cX9_beginNow 138 = .ok (.goto (-24), 3) := by decide +kernel
theorem dX9_beginNow_141 : decode cX9_beginNow 141 = .ok (.aload_n 0, 1) := by decide +kernel
theorem dX9_beginNow_142 : decode cX9_beginNow 142 = .ok (.getfield 269, 3) := by decide +kernel
theorem dX9_beginNow_145 : decode cX9_beginNow 145 = .ok (.sipush 275, 3) := by decide +kernel
theorem dX9_beginNow_148 : decode cX9_beginNow 148 = .ok (.iconst (-1), 1) := by decide +kernel
theorem dX9_beginNow_149 : decode cX9_beginNow 149 = .ok (.iastore, 1) := by decide +kernel
theorem dX9_beginNow_150 : decode cX9_beginNow 150 = .ok (.aload_n 0, 1) := by decide +kernel
theorem dX9_beginNow_151 : decode cX9_beginNow 151 = .ok (.getfield 269, 3) := by decide +kernel
theorem dX9_beginNow_154 : decode cX9_beginNow 154 = .ok (.sipush 288, 3) := by decide +kernel
theorem dX9_beginNow_157 : decode cX9_beginNow 157 = .ok (.iload_n 1, 1) := by decide +kernel
theorem dX9_beginNow_158 : decode cX9_beginNow 158 = .ok (.iastore, 1) := by decide +kernel
theorem dX9_beginNow_159 : decode cX9_beginNow 159 = .ok (.return_, 1) := by decide +kernel
theorem dX9_putFlag_0 : decode cX9_putFlag 0 = .ok (.aload_n 0, 1) := by decide +kernel
theorem dX9_putFlag_1 : decode cX9_putFlag 1 = .ok (.sipush 268, 3) := by decide +kernel
theorem dX9_putFlag_4 : decode cX9_putFlag 4 = .ok (.iaload, 1) := by decide +kernel
theorem dX9_putFlag_5 : decode cX9_putFlag 5 = .ok (.istore_n 2, 1) := by decide +kernel
theorem dX9_putFlag_6 : decode cX9_putFlag 6 = .ok (.aload_n 0, 1) := by decide +kernel
theorem dX9_putFlag_7 : decode cX9_putFlag 7 = .ok (.sipush 256, 3) := by decide +kernel
theorem dX9_putFlag_10 : decode cX9_putFlag 10 = .ok (.iload_n 2, 1) := by decide +kernel
theorem dX9_putFlag_11 : decode cX9_putFlag 11 = .ok (.iadd, 1) := by decide +kernel
theorem dX9_putFlag_12 : decode cX9_putFlag 12 = .ok (.iload_n 1, 1) := by decide +kernel
theorem dX9_putFlag_13 : decode cX9_putFlag 13 = .ok (.iastore, 1) := by decide +kernel
theorem dX9_putFlag_14 : decode cX9_putFlag 14 = .ok (.aload_n 0, 1) := by decide +kernel
theorem dX9_putFlag_15 : decode cX9_putFlag 15 = .ok (.sipush 260, 3) := by decide +kernel
theorem dX9_putFlag_18 : decode cX9_putFlag 18 = .ok (.iload_n 2, 1) := by decide +kernel
theorem dX9_putFlag_19 : decode cX9_putFlag 19 = .ok (.iadd, 1) := by decide +kernel
theorem dX9_putFlag_20 : decode cX9_putFlag 20 = .ok (.aload_n 0, 1) := by decide +kernel
theorem dX9_putFlag_21 : decode cX9_putFlag 21 = .ok (.iconst 0, 1) := by decide +kernel
theorem dX9_putFlag_22 : decode cX9_putFlag 22 = .ok (.iload_n 1, 1) := by decide +kernel
theorem dX9_putFlag_23 : decode cX9_putFlag 23 = .ok (.iadd, 1) := by decide +kernel
theorem dX9_putFlag_24 : decode cX9_putFlag 24 = .ok (.iaload, 1) := by decide +kernel
theorem dX9_putFlag_25 : decode cX9_putFlag 25 = .ok (.iastore, 1) := by decide +kernel
theorem dX9_putFlag_26 : decode cX9_putFlag 26 = .ok (.aload_n 0, 1) := by decide +kernel
theorem dX9_putFlag_27 : decode cX9_putFlag 27 = .ok (.sipush 264, 3) := by decide +kernel
theorem dX9_putFlag_30 : decode cX9_putFlag 30 = .ok (.iload_n 2, 1) := by decide +kernel
theorem dX9_putFlag_31 : decode cX9_putFlag 31 = .ok (.iadd, 1) := by decide +kernel
theorem dX9_putFlag_32 : decode cX9_putFlag 32 = .ok (.iconst (-1), 1) := by decide +kernel
theorem dX9_putFlag_33 : decode cX9_putFlag 33 = .ok (.iastore, 1) := by decide +kernel
theorem dX9_putFlag_34 : decode cX9_putFlag 34 = .ok (.aload_n 0, 1) := by decide +kernel
theorem dX9_putFlag_35 : decode cX9_putFlag 35 = .ok (.sipush 268, 3) := by decide +kernel
theorem dX9_putFlag_38 : decode cX9_putFlag 38 = .ok (.dup2, 1) := by decide +kernel
theorem dX9_putFlag_39 : decode cX9_putFlag 39 = .ok (.iaload, 1) := by decide +kernel
theorem dX9_putFlag_40 : decode cX9_putFlag 40 = .ok (.iconst 1, 1) := by decide +kernel
theorem dX9_putFlag_41 : decode cX9_putFlag 41 = .ok (.iadd, 1) := by decide +kernel
theorem dX9_putFlag_42 : decode cX9_putFlag 42 = .ok (.iastore, 1) := by decide +kernel
theorem dX9_putFlag_43 : decode cX9_putFlag 43 = .ok (.return_, 1) := by decide +kernel
theorem dX9_feed_0 : decode cX9_feed 0 = .ok (.aload_n 0, 1) := by decide +kernel
theorem dX9_feed_1 : decode cX9_feed 1 = .ok (.getfield 67, 3) := by decide +kernel
theorem dX9_feed_4 : decode cX9_feed 4 = .ok (.bipush 20, 2) := by decide +kernel
theorem dX9_feed_6 : decode cX9_feed 6 = .ok (.iadd, 1) := by decide +kernel
theorem dX9_feed_7 : decode cX9_feed 7 = .ok (.sipush 900, 3) := by decide +kernel
theorem dX9_feed_10 : decode cX9_feed 10 = .ok (.if_icmp .le 6, 3) := by decide +kernel
theorem dX9_feed_13 : decode cX9_feed 13 = .ok (.bipush (-3), 2) := by decide +kernel
theorem dX9_feed_15 : decode cX9_feed 15 = .ok (.ireturn, 1) := by decide +kernel
theorem dX9_feed_16 : decode cX9_feed 16 = .ok (.aload_n 0, 1) := by decide +kernel
theorem dX9_feed_17 : decode cX9_feed 17 = .ok (.iload_n 1, 1) := by decide +kernel
theorem dX9_feed_18 : decode cX9_feed 18 = .ok (.invokevirtual 318, 3) := by decide +kernel
theorem dX9_feed_21 : decode cX9_feed 21 = .ok (.aload_n 0, 1) := by decide +kernel
theorem dX9_feed_22 : decode cX9_feed 22 = .ok (.iload_n 2, 1) := by decide +kernel
theorem dX9_feed_23 : decode cX9_feed 23 = .ok (.invokevirtual 318, 3) := by decide +kernel
theorem dX9_feed_26 : decode cX9_feed 26 = .ok (.aload_n 0, 1) := by decide +kernel
theorem dX9_feed_27 : decode cX9_feed 27 = .ok (.iload_n 3, 1) := by decide +kernel
theorem dX9_feed_28 : decode cX9_feed 28 = .ok (.invokevirtual 318, 3) := by decide +kernel
theorem dX9_feed_31 : decode cX9_feed 31 = .ok (.aload_n 0, 1) := by decide +kernel
theorem dX9_feed_32 : decode cX9_feed 32 = .ok (.iload 4, 2) := by decide +kernel
theorem dX9_feed_34 : decode cX9_feed 34 = .ok (.invokevirtual 318, 3) := by decide +kernel
theorem dX9_feed_37 : decode cX9_feed 37 = .ok (.aload_n 0, 1) := by decide +kernel
theorem dX9_feed_38 : decode cX9_feed 38 = .ok (.iload 5, 2) := by decide +kernel
theorem dX9_feed_40 : decode cX9_feed 40 = .ok (.invokevirtual 318, 3) := by decide +kernel
theorem dX9_feed_43 : decode cX9_feed 43 = .ok (.aload_n 0, 1) := by decide +kernel
theorem dX9_feed_44 : decode cX9_feed 44 = .ok (.getfield 67, 3) := by decide +kernel
theorem dX9_feed_47 : decode cX9_feed 47 = .ok (.ireturn, 1) := by decide +kernel
theorem dX9_putFour_0 : decode cX9_putFour 0 = .ok (.bipush 24, 2) := by decide +kernel
theorem dX9_putFour_2 : decode cX9_putFour 2 = .ok (.istore_n 2, 1) := by decide +kernel
theorem dX9_putFour_3 : decode cX9_putFour 3 = .ok (.iload_n 2, 1) := by decide +kernel
theorem dX9_putFour_4 : decode cX9_putFour 4 = .ok (.ifCond .lt 32, 3) := by decide +kernel
theorem dX9_putFour_7 : decode cX9_putFour 7 = .ok (.aload_n 0, 1) := by decide +kernel
theorem dX9_putFour_8 : decode cX9_putFour 8 = .ok (.getfield 16, 3) := by decide +kernel
theorem dX9_putFour_11 : decode cX9_putFour 11 = .ok (.aload_n 0, 1) := by decide +kernel
theorem dX9_putFour_12 : decode cX9_putFour 12 = .ok (.getfield 67, 3) := by decide +kernel
theorem dX9_putFour_15 : decode cX9_putFour 15 = .ok (.iload_n 1, 1) := by decide +kernel
theorem dX9_putFour_16 : decode cX9_putFour 16 = .ok (.iload_n 2, 1) := by decide +kernel
theorem dX9_putFour_17 : decode cX9_putFour 17 = .ok (.ishr, 1) := by decide +kernel
theorem dX9_putFour_18 : decode cX9_putFour 18 = .ok (.i2b, 1) := by decide +kernel
theorem dX9_putFour_19 : decode cX9_putFour 19 = .ok (.bastore, 1) := by decide +kernel
theorem dX9_putFour_20 : decode cX9_putFour 20 = .ok (.aload_n 0, 1) := by decide +kernel
theorem dX9_putFour_21 : decode cX9_putFour 21 = .ok (.dup, 1) := by decide +kernel
theorem dX9_putFour_22 : decode cX9_putFour 22 = .ok (.getfield 67, 3) := by decide +kernel
theorem dX9_putFour_25 : decode cX9_putFour 25 = .ok (.iconst 1, 1) := by decide +kernel
theorem dX9_putFour_26 : decode cX9_putFour 26 = .ok (.iadd, 1) := by decide +kernel
theorem dX9_putFour_27 : decode cX9_putFour 27 = .ok (.putfield 67, 3) := by decide +kernel
theorem dX9_putFour_30 : decode cX9_putFour 30 = .ok (.iinc 2 (-8), 3) := by decide +kernel
theorem dX9_putFour_33 : decode cX9_putFour 33 = .ok (.goto (-30), 3) := by decide +kernel
theorem dX9_putFour_36 : decode cX9_putFour 36 = .ok (.return_, 1) := by decide +kernel
theorem dX9_end_0 : decode cX9_end 0 = .ok (.iload_n 1, 1) := by decide +kernel
theorem dX9_end_1 : decode cX9_end 1 = .ok (.i2l, 1) := by decide +kernel
theorem dX9_end_2 : decode cX9_end 2 = .ok (.lconst 0, 1) := by decide +kernel
theorem dX9_end_3 : decode cX9_end 3 = .ok (.aload_n 0, 1) := by decide +kernel
theorem dX9_end_4 : decode cX9_end 4 = .ok (.getfield 67, 3) := by decide +kernel
theorem dX9_end_7 : decode cX9_end 7 = .ok (.i2l, 1) := by decide +kernel
theorem dX9_end_8 : decode cX9_end 8 = .ok (.invokestatic 52, 3) := by decide +kernel
theorem dX9_end_11 : decode cX9_end 11 = .ok (.ifCond .ne 5, 3) := by decide +kernel
theorem dX9_end_14 : decode cX9_end 14 = .ok (.iconst (-1), 1) := by decide +kernel
theorem dX9_end_15 : decode cX9_end 15 = .ok (.ireturn, 1) := by decide +kernel
theorem dX9_end_16 : decode cX9_end 16 = .ok (.aload_n 0, 1) := by decide +kernel
theorem dX9_end_17 : decode cX9_end 17 = .ok (.iload_n 1, 1) := by decide +kernel
theorem dX9_end_18 : decode cX9_end 18 = .ok (.putfield 67, 3) := by decide +kernel
theorem dX9_end_21 : decode cX9_end 21 = .ok (.iload_n 1, 1) := by decide +kernel
theorem dX9_end_22 : decode cX9_end 22 = .ok (.ireturn, 1) := by decide +kernel
theorem dX9_beach_0 : decode cX9_beach 0 = .ok (.aload_n 0, 1) := by decide +kernel
theorem dX9_beach_1 : decode cX9_beach 1 = .ok (.invokevirtual 322, 3) := by decide +kernel
theorem dX9_beach_4 : decode cX9_beach 4 = .ok (.aload_n 0, 1) := by decide +kernel
theorem dX9_beach_5 : decode cX9_beach 5 = .ok (.invokevirtual 325, 3) := by decide +kernel
theorem dX9_beach_8 : decode cX9_beach 8 = .ok (.ifCond .ne 5, 3) := by decide +kernel
theorem dX9_beach_11 : decode cX9_beach 11 = .ok (.iconst (-1), 1) := by decide +kernel
theorem dX9_beach_12 : decode cX9_beach 12 = .ok (.ireturn, 1) := by decide +kernel
theorem dX9_beach_13 : decode cX9_beach 13 = .ok (.aload_n 0, 1) := by decide +kernel
theorem dX9_beach_14 : decode cX9_beach 14 = .ok (.aload_n 0, 1) := by decide +kernel
theorem dX9_beach_15 : decode cX9_beach 15 = .ok (.getfield 73, 3) := by decide +kernel
theorem dX9_beach_18 : decode cX9_beach 18 = .ok (.putfield 201, 3) := by decide +kernel
theorem dX9_beach_21 : decode cX9_beach 21 = .ok (.aload_n 0, 1) := by decide +kernel
theorem dX9_beach_22 : decode cX9_beach 22 = .ok (.aload_n 0, 1) := by decide +kernel
theorem dX9_beach_23 : decode cX9_beach 23 = .ok (.getfield 76, 3) := by decide +kernel
theorem dX9_beach_26 : decode cX9_beach 26 = .ok (.putfield 204, 3) := by decide +kernel
theorem dX9_beach_29 : decode cX9_beach 29 = .ok (.aload_n 0, 1) := by decide +kernel
theorem dX9_beach_30 : decode cX9_beach 30 = .ok (.aload_n 0, 1) := by decide +kernel
theorem dX9_beach_31 : decode cX9_beach 31 = .ok (.getfield 95, 3) := by decide +kernel
theorem dX9_beach_34 : decode cX9_beach 34 = .ok (.putfield 311, 3) := by decide +kernel
theorem dX9_beach_37 : decode cX9_beach 37 = .ok (.aload_n 0, 1) := by decide +kernel
theorem dX9_beach_38 : decode cX9_beach 38 = .ok (.aload_n 0, 1) := by decide +kernel
theorem dX9_beach_39 : decode cX9_beach 39 = .ok (.getfield 131, 3) := by decide +kernel
theorem dX9_beach_42 : decode cX9_beach 42 = .ok (.putfield 328, 3) := by decide +kernel
theorem dX9_beach_45 : decode cX9_beach 45 = .ok (.iconst 0, 1) := by decide +kernel
theorem dX9_beach_46 : decode cX9_beach 46 = .ok (.istore_n 1, 1) := by decide +kernel
theorem dX9_beach_47 : decode cX9_beach 47 = .ok (.iload_n 1, 1) := by decide +kernel
theorem dX9_beach_48 : decode cX9_beach 48 = .ok (.bipush 9, 2) := by decide +kernel
theorem dX9_beach_50 : decode cX9_beach 50 = .ok (.if_icmp .ge 21, 3) := by decide +kernel
theorem dX9_beach_53 : decode cX9_beach 53 = .ok (.aload_n 0, 1) := by decide +kernel
theorem dX9_beach_54 : decode cX9_beach 54 = .ok (.getfield 245, 3) := by decide +kernel
theorem dX9_beach_57 : decode cX9_beach 57 = .ok (.iload_n 1, 1) := by decide +kernel
theorem dX9_beach_58 : decode cX9_beach 58 = .ok (.aload_n 0, 1) := by decide +kernel
theorem dX9_beach_59 : decode cX9_beach 59 = .ok (.getfield 128, 3) := by decide +kernel
theorem dX9_beach_62 : decode cX9_beach 62 = .ok (.iload_n 1, 1) := by decide +kernel
theorem dX9_beach_63 : decode cX9_beach 63 = .ok (.iaload, 1) := by decide +kernel
theorem dX9_beach_64 : decode cX9_beach 64 = .ok (.iastore, 1) := by decide +kernel
theorem dX9_beach_65 : decode cX9_beach 65 = .ok (.iinc 1 1, 3) := by decide +kernel
theorem dX9_beach_68 : decode cX9_beach 68 = .ok (.goto (-21), 3) := by decide +kernel
theorem dX9_beach_71 : decode cX9_beach 71 = .ok (.iconst 0, 1) := by decide +kernel
theorem dX9_beach_72 : decode cX9_beach 72 = .ok (.istore_n 1, 1) := by decide +kernel
theorem dX9_beach_73 : decode cX9_beach 73 = .ok (.iload_n 1, 1) := by decide +kernel
theorem dX9_beach_74 : decode cX9_beach 74 = .ok (.bipush 64, 2) := by decide +kernel
theorem dX9_beach_76 : decode cX9_beach 76 = .ok (.if_icmp .ge 33, 3) := by decide +kernel
theorem dX9_beach_79 : decode cX9_beach 79 = .ok (.aload_n 0, 1) := by decide +kernel
theorem dX9_beach_80 : decode cX9_beach 80 = .ok (.getfield 248, 3) := by decide +kernel
theorem dX9_beach_83 : decode cX9_beach 83 = .ok (.iload_n 1, 1) := by decide +kernel
theorem dX9_beach_84 : decode cX9_beach 84 = .ok (.aload_n 0, 1) := by decide +kernel
theorem dX9_beach_85 : decode cX9_beach 85 = .ok (.getfield 83, 3) := by decide +kernel
theorem dX9_beach_88 : decode cX9_beach 88 = .ok (.iload_n 1, 1) := by decide +kernel
theorem dX9_beach_89 : decode cX9_beach 89 = .ok (.iaload, 1) := by decide +kernel
theorem dX9_beach_90 : decode cX9_beach 90 = .ok (.iastore, 1) := by decide +kernel
theorem dX9_beach_91 : decode cX9_beach 91 = .ok (.aload_n 0, 1) := by decide +kernel
theorem dX9_beach_92 : decode cX9_beach 92 = .ok (.getfield 253, 3) := by decide +kernel
theorem dX9_beach_95 : decode cX9_beach 95 = .ok (.iload_n 1, 1) := by decide +kernel
theorem dX9_beach_96 : decode cX9_beach 96 = .ok (.aload_n 0, 1) := by decide +kernel
theorem dX9_beach_97 : decode cX9_beach 97 = .ok (.getfield 91, 3) := by decide +kernel
theorem dX9_beach_100 : decode cX9_beach 100 = .ok (.iload_n 1, 1) := by decide +kernel
theorem dX9_beach_101 : decode cX9_beach 101 = .ok (.baload, 1) := by decide +kernel
theorem dX9_beach_102 : decode cX9_beach 102 = .ok (.bastore, 1) := by decide +kernel
theorem dX9_beach_103 : decode cX9_beach 103 = .ok (.iinc 1 1, 3) := by decide +kernel
theorem dX9_beach_106 : decode cX9_beach 106 = .ok (.goto (-33), 3) := by decide +kernel
theorem dX9_beach_109 : decode cX9_beach 109 = .ok (.iconst 0, 1) := by decide +kernel
theorem dX9_beach_110 : decode cX9_beach 110 = .ok (.istore_n 1, 1) := by decide +kernel
theorem dX9_beach_111 : decode cX9_beach 111 = .ok (.iload_n 1, 1) := by decide +kernel
theorem dX9_beach_112 : decode cX9_beach 112 = .ok (.aload_n 0, 1) := by decide +kernel
theorem dX9_beach_113 : decode cX9_beach 113 = .ok (.getfield 311, 3) := by decide +kernel
theorem dX9_beach_116 : decode cX9_beach 116 = .ok (.if_icmp .ge 21, 3) := by decide +kernel
theorem dX9_beach_119 : decode cX9_beach 119 = .ok (.aload_n 0, 1) := by decide +kernel
theorem dX9_beach_120 : decode cX9_beach 120 = .ok (.getfield 250, 3) := by decide +kernel
theorem dX9_beach_123 : decode cX9_beach 123 = .ok (.iload_n 1, 1) := by decide +kernel
theorem dX9_beach_124 : decode cX9_beach 124 = .ok (.aload_n 0, 1) := by decide +kernel
theorem dX9_beach_125 : decode cX9_beach 125 = .ok (.getfield 98, 3) := by decide +kernel
theorem dX9_beach_128 : decode cX9_beach 128 = .ok (.iload_n 1, 1) := by decide +kernel
theorem dX9_beach_129 : decode cX9_beach 129 = .ok (.iaload, 1) := by decide +kernel
theorem dX9_beach_130 : decode cX9_beach 130 = .ok (.iastore, 1) := by decide +kernel
theorem dX9_beach_131 : decode cX9_beach 131 = .ok (.iinc 1 1, 3) := by decide +kernel
theorem dX9_beach_134 : decode cX9_beach 134 = .ok (.goto (-23), 3) := by decide +kernel
theorem dX9_beach_137 : decode cX9_beach 137 = .ok (.aload_n 0, 1) := by decide +kernel
theorem dX9_beach_138 : decode cX9_beach 138 = .ok (.iconst 0, 1) := by decide +kernel
theorem dX9_beach_139 : decode cX9_beach 139 = .ok (.putfield 225, 3) := by decide +kernel
theorem dX9_beach_142 : decode cX9_beach 142 = .ok (.iconst 0, 1) := by decide +kernel
theorem dX9_beach_143 : decode cX9_beach 143 = .ok (.istore_n 1, 1) := by decide +kernel
theorem dX9_beach_144 : decode cX9_beach 144 = .ok (.iload_n 1, 1) := by decide +kernel
theorem dX9_beach_145 : decode cX9_beach 145 = .ok (.iconst 3, 1) := by decide +kernel
theorem dX9_beach_146 : decode cX9_beach 146 = .ok (.if_icmp .ge 16, 3) := by decide +kernel
theorem dX9_beach_149 : decode cX9_beach 149 = .ok (.aload_n 0, 1) := by decide +kernel
theorem dX9_beach_150 : decode cX9_beach 150 = .ok (.getfield 278, 3) := by decide +kernel
theorem dX9_beach_153 : decode cX9_beach 153 = .ok (.iload_n 1, 1) := by decide +kernel
theorem dX9_beach_154 : decode cX9_beach 154 = .ok (.iconst 0, 1) := by decide +kernel
theorem dX9_beach_155 : decode cX9_beach 155 = .ok (.bastore, 1) := by decide +kernel
theorem dX9_beach_156 : decode cX9_beach 156 = .ok (.iinc 1 1, 3) := by decide +kernel
theorem dX9_beach_159 : decode cX9_beach 159 = .ok (.goto (-15), 3) := by decide +kernel
theorem dX9_beach_162 : decode cX9_beach 162 = .ok (.aload_n 0, 1) := by decide +kernel
theorem dX9_beach_163 : decode cX9_beach 163 = .ok (.invokevirtual 308, 3) := by decide +kernel
theorem dX9_beach_166 : decode cX9_beach 166 = .ok (.aload_n 0, 1) := by decide +kernel
theorem dX9_beach_167 : decode cX9_beach 167 = .ok (.getfield 328, 3) := by decide +kernel
theorem dX9_beach_170 : decode cX9_beach 170 = .ok (.ireturn, 1) := by decide +kernel
theorem dX9_sea_0 : decode cX9_sea 0 = .ok (.aload_n 0, 1) := by decide +kernel
theorem dX9_sea_1 : decode cX9_sea 1 = .ok (.invokevirtual 322, 3) := by decide +kernel
theorem dX9_sea_4 : decode cX9_sea 4 = .ok (.aload_n 0, 1) := by decide +kernel
theorem dX9_sea_5 : decode cX9_sea 5 = .ok (.invokevirtual 331, 3) := by decide +kernel
theorem dX9_sea_8 : decode cX9_sea 8 = .ok (.ifCond .ne 5, 3) := by decide +kernel
theorem dX9_sea_11 : decode cX9_sea 11 = .ok (.iconst (-1), 1) := by decide +kernel
theorem dX9_sea_12 : decode cX9_sea 12 = .ok (.ireturn, 1) := by decide +kernel
theorem dX9_sea_13 : decode cX9_sea 13 = .ok (.aload_n 0, 1) := by decide +kernel
theorem dX9_sea_14 : decode cX9_sea 14 = .ok (.aload_n 0, 1) := by decide +kernel
theorem dX9_sea_15 : decode cX9_sea 15 = .ok (.getfield 162, 3) := by decide +kernel
theorem dX9_sea_18 : decode cX9_sea 18 = .ok (.putfield 334, 3) := by decide +kernel
theorem dX9_sea_21 : decode cX9_sea 21 = .ok (.aload_n 0, 1) := by decide +kernel
theorem dX9_sea_22 : decode cX9_sea 22 = .ok (.aload_n 0, 1) := by decide +kernel
theorem dX9_sea_23 : decode cX9_sea 23 = .ok (.getfield 131, 3) := by decide +kernel
theorem dX9_sea_26 : decode cX9_sea 26 = .ok (.putfield 337, 3) := by decide +kernel
theorem dX9_sea_29 : decode cX9_sea 29 = .ok (.iconst 0, 1) := by decide +kernel
theorem dX9_sea_30 : decode cX9_sea 30 = .ok (.istore_n 1, 1) := by decide +kernel
theorem dX9_sea_31 : decode cX9_sea 31 = .ok (.iload_n 1, 1) := by decide +kernel
theorem dX9_sea_32 : decode cX9_sea 32 = .ok (.iconst 3, 1) := by decide +kernel
theorem dX9_sea_33 : decode cX9_sea 33 = .ok (.aload_n 0, 1) := by decide +kernel
theorem dX9_sea_34 : decode cX9_sea 34 = .ok (.getfield 334, 3) := by decide +kernel
theorem dX9_sea_37 : decode cX9_sea 37 = .ok (.imul, 1) := by decide +kernel
theorem dX9_sea_38 : decode cX9_sea 38 = .ok (.if_icmp .ge 21, 3) := by decide +kernel
theorem dX9_sea_41 : decode cX9_sea 41 = .ok (.aload_n 0, 1) := by decide +kernel
theorem dX9_sea_42 : decode cX9_sea 42 = .ok (.getfield 256, 3) := by decide +kernel
theorem dX9_sea_45 : decode cX9_sea 45 = .ok (.iload_n 1, 1) := by decide +kernel
theorem dX9_sea_46 : decode cX9_sea 46 = .ok (.aload_n 0, 1) := by decide +kernel
theorem dX9_sea_47 : decode cX9_sea 47 = .ok (.getfield 165, 3) := by decide +kernel
theorem dX9_sea_50 : decode cX9_sea 50 = .ok (.iload_n 1, 1) := by decide +kernel
theorem dX9_sea_51 : decode cX9_sea 51 = .ok (.iaload, 1) := by decide +kernel
theorem dX9_sea_52 : decode cX9_sea 52 = .ok (.iastore, 1) := by decide +kernel
theorem dX9_sea_53 : decode cX9_sea 53 = .ok (.iinc 1 1, 3) := by decide +kernel
theorem dX9_sea_56 : decode cX9_sea 56 = .ok (.goto (-25), 3) := by decide +kernel
theorem dX9_sea_59 : decode cX9_sea 59 = .ok (.iconst 0, 1) := by decide +kernel
theorem dX9_sea_60 : decode cX9_sea 60 = .ok (.istore_n 1, 1) := by decide +kernel
theorem dX9_sea_61 : decode cX9_sea 61 = .ok (.iload_n 1, 1) := by decide +kernel
theorem dX9_sea_62 : decode cX9_sea 62 = .ok (.iconst 4, 1) := by decide +kernel
theorem dX9_sea_63 : decode cX9_sea 63 = .ok (.if_icmp .ge 21, 3) := by decide +kernel
theorem dX9_sea_66 : decode cX9_sea 66 = .ok (.aload_n 0, 1) := by decide +kernel
theorem dX9_sea_67 : decode cX9_sea 67 = .ok (.getfield 258, 3) := by decide +kernel
theorem dX9_sea_70 : decode cX9_sea 70 = .ok (.iload_n 1, 1) := by decide +kernel
theorem dX9_sea_71 : decode cX9_sea 71 = .ok (.aload_n 0, 1) := by decide +kernel
theorem dX9_sea_72 : decode cX9_sea 72 = .ok (.getfield 168, 3) := by decide +kernel
theorem dX9_sea_75 : decode cX9_sea 75 = .ok (.iload_n 1, 1) := by decide +kernel
theorem dX9_sea_76 : decode cX9_sea 76 = .ok (.iaload, 1) := by decide +kernel
theorem dX9_sea_77 : decode cX9_sea 77 = .ok (.iastore, 1) := by decide +kernel
theorem dX9_sea_78 : decode cX9_sea 78 = .ok (.iinc 1 1, 3) := by decide +kernel
theorem dX9_sea_81 : decode cX9_sea 81 = .ok (.goto (-20), 3) := by decide +kernel
theorem dX9_sea_84 : decode cX9_sea 84 = .ok (.iconst 0, 1) := by decide +kernel
theorem dX9_sea_85 : decode cX9_sea 85 = .ok (.istore_n 1, 1) := by decide +kernel
theorem dX9_sea_86 : decode cX9_sea 86 = .ok (.iload_n 1, 1) := by decide +kernel
theorem dX9_sea_87 : decode cX9_sea 87 = .ok (.iconst 2, 1) := by decide +kernel
theorem dX9_sea_88 : decode cX9_sea 88 = .ok (.if_icmp .ge 33, 3) := by decide +kernel
theorem dX9_sea_91 : decode cX9_sea 91 = .ok (.aload_n 0, 1) := by decide +kernel
theorem dX9_sea_92 : decode cX9_sea 92 = .ok (.getfield 260, 3) := by decide +kernel
theorem dX9_sea_95 : decode cX9_sea 95 = .ok (.iload_n 1, 1) := by decide +kernel
theorem dX9_sea_96 : decode cX9_sea 96 = .ok (.aload_n 0, 1) := by decide +kernel
theorem dX9_sea_97 : decode cX9_sea 97 = .ok (.getfield 181, 3) := by decide +kernel
theorem dX9_sea_100 : decode cX9_sea 100 = .ok (.iload_n 1, 1) := by decide +kernel
theorem dX9_sea_101 : decode cX9_sea 101 = .ok (.iaload, 1) := by decide +kernel
theorem dX9_sea_102 : decode cX9_sea 102 = .ok (.iastore, 1) := by decide +kernel
theorem dX9_sea_103 : decode cX9_sea 103 = .ok (.aload_n 0, 1) := by decide +kernel
theorem dX9_sea_104 : decode cX9_sea 104 = .ok (.getfield 262, 3) := by decide +kernel
theorem dX9_sea_107 : decode cX9_sea 107 = .ok (.iload_n 1, 1) := by decide +kernel
theorem dX9_sea_108 : decode cX9_sea 108 = .ok (.aload_n 0, 1) := by decide +kernel
theorem dX9_sea_109 : decode cX9_sea 109 = .ok (.getfield 188, 3) := by decide +kernel
theorem dX9_sea_112 : decode cX9_sea 112 = .ok (.iload_n 1, 1) := by decide +kernel
theorem dX9_sea_113 : decode cX9_sea 113 = .ok (.iaload, 1) := by decide +kernel
theorem dX9_sea_114 : decode cX9_sea 114 = .ok (.iastore, 1) := by decide +kernel
theorem dX9_sea_115 : decode cX9_sea 115 = .ok (.iinc 1 1, 3) := by decide +kernel
theorem dX9_sea_118 : decode cX9_sea 118 = .ok (.goto (-32), 3) := by decide +kernel
theorem dX9_sea_121 : decode cX9_sea 121 = .ok (.aload_n 0, 1) := by decide +kernel
theorem dX9_sea_122 : decode cX9_sea 122 = .ok (.aload_n 0, 1) := by decide +kernel
theorem dX9_sea_123 : decode cX9_sea 123 = .ok (.getfield 191, 3) := by decide +kernel
theorem dX9_sea_126 : decode cX9_sea 126 = .ok (.putfield 264, 3) := by decide +kernel
theorem dX9_sea_129 : decode cX9_sea 129 = .ok (.aload_n 0, 1) := by decide +kernel
theorem dX9_sea_130 : decode cX9_sea 130 = .ok (.getfield 337, 3) := by decide +kernel
theorem dX9_sea_133 : decode cX9_sea 133 = .ok (.ireturn, 1) := by decide +kernel
theorem dX9_plan_0 : decode cX9_plan 0 = .ok (.aload_n 0, 1) := by decide +kernel
theorem dX9_plan_1 : decode cX9_plan 1 = .ok (.getfield 225, 3) := by decide +kernel
theorem dX9_plan_4 : decode cX9_plan 4 = .ok (.iconst 3, 1) := by decide +kernel
theorem dX9_plan_5 : decode cX9_plan 5 = .ok (.if_icmp .ne 11, 3) := by decide +kernel
theorem dX9_plan_8 : decode cX9_plan 8 = .ok (.aload_n 0, 1) := by decide +kernel
theorem dX9_plan_9 : decode cX9_plan 9 = .ok (.iconst 0, 1) := by decide +kernel
theorem dX9_plan_10 : decode cX9_plan 10 = .ok (.putfield 67, 3) := by decide +kernel
theorem dX9_plan_13 : decode cX9_plan 13 = .ok (.bipush (-3), 2) := by decide +kernel
theorem dX9_plan_15 : decode cX9_plan 15 = .ok (.ireturn, 1) := by decide +kernel
theorem dX9_plan_16 : decode cX9_plan 16 = .ok (.aload_n 0, 1) := by decide +kernel
theorem dX9_plan_17 : decode cX9_plan 17 = .ok (.invokevirtual 322, 3) := by decide +kernel
theorem dX9_plan_20 : decode cX9_plan 20 = .ok (.aload_n 0, 1) := by decide +kernel
theorem dX9_plan_21 : decode cX9_plan 21 = .ok (.invokevirtual 340, 3) := by decide +kernel
theorem dX9_plan_24 : decode cX9_plan 24 = .ok (.ifCond .ne 5, 3) := by decide +kernel
theorem dX9_plan_27 : decode cX9_plan 27 = .ok (.iconst (-1), 1) := by decide +kernel
theorem dX9_plan_28 : decode cX9_plan 28 = .ok (.ireturn, 1) := by decide +kernel
theorem dX9_plan_29 : decode cX9_plan 29 = .ok (.aload_n 0, 1) := by decide +kernel
theorem dX9_plan_30 : decode cX9_plan 30 = .ok (.getfield 266, 3) := by decide +kernel
theorem dX9_plan_33 : decode cX9_plan 33 = .ok (.aload_n 0, 1) := by decide +kernel
theorem dX9_plan_34 : decode cX9_plan 34 = .ok (.getfield 225, 3) := by decide +kernel
theorem dX9_plan_37 : decode cX9_plan 37 = .ok (.aload_n 0, 1) := by decide +kernel
theorem dX9_plan_38 : decode cX9_plan 38 = .ok (.getfield 222, 3) := by decide +kernel
theorem dX9_plan_41 : decode cX9_plan 41 = .ok (.iastore, 1) := by decide +kernel
theorem dX9_plan_42 : decode cX9_plan 42 = .ok (.aload_n 0, 1) := by decide +kernel
theorem dX9_plan_43 : decode cX9_plan 43 = .ok (.dup, 1) := by decide +kernel
theorem dX9_plan_44 : decode cX9_plan 44 = .ok (.getfield 225, 3) := by decide +kernel
theorem dX9_plan_47 : decode cX9_plan 47 = .ok (.iconst 1, 1) := by decide +kernel
theorem dX9_plan_48 : decode cX9_plan 48 = .ok (.iadd, 1) := by decide +kernel
theorem dX9_plan_49 : decode cX9_plan 49 = .ok (.putfield 225, 3) := by decide +kernel
theorem dX9_plan_52 : decode cX9_plan 52 = .ok (.aload_n 0, 1) := by decide +kernel
theorem dX9_plan_53 : decode cX9_plan 53 = .ok (.getfield 225, 3) := by decide +kernel
theorem dX9_plan_56 : decode cX9_plan 56 = .ok (.iconst 1, 1) := by decide +kernel
theorem dX9_plan_57 : decode cX9_plan 57 = .ok (.isub, 1) := by decide +kernel
theorem dX9_plan_58 : decode cX9_plan 58 = .ok (.ireturn, 1) := by decide +kernel
theorem dX9_fault_0 : decode cX9_fault 0 = .ok (.iload_n 1, 1) := by decide +kernel
theorem dX9_fault_1 : decode cX9_fault 1 = .ok (.ifCond .ne 10, 3) := by decide +kernel
theorem dX9_fault_4 : decode cX9_fault 4 = .ok (.aload_n 0, 1) := by decide +kernel
theorem dX9_fault_5 : decode cX9_fault 5 = .ok (.getfield 1, 3) := by decide +kernel
theorem dX9_fault_8 : decode cX9_fault 8 = .ok (.goto 16, 3) := by decide +kernel
theorem dX9_fault_11 : decode cX9_fault 11 = .ok (.iload_n 1, 1) := by decide +kernel
theorem dX9_fault_12 : decode cX9_fault 12 = .ok (.iconst 1, 1) := by decide +kernel
theorem dX9_fault_13 : decode cX9_fault 13 = .ok (.if_icmp .ne 10, 3) := by decide +kernel
theorem dX9_fault_16 : decode cX9_fault 16 = .ok (.aload_n 0, 1) := by decide +kernel
theorem dX9_fault_17 : decode cX9_fault 17 = .ok (.getfield 10, 3) := by decide +kernel
theorem dX9_fault_20 : decode cX9_fault 20 = .ok (.goto 4, 3) := by decide +kernel
theorem dX9_fault_23 : decode cX9_fault 23 = .ok (.iconst (-1), 1) := by decide +kernel
theorem dX9_fault_24 : decode cX9_fault 24 = .ok (.ireturn, 1) := by decide +kernel
theorem dX9_told_0 : decode cX9_told 0 = .ok (.iload_n 1, 1) := by decide +kernel
theorem dX9_told_1 : decode cX9_told 1 = .ok (.i2l, 1) := by decide +kernel
theorem dX9_told_2 : decode cX9_told 2 = .ok (.ldc2_w 343, 3) := by decide +kernel
theorem dX9_told_5 : decode cX9_told 5 = .ok (.ldc2_w 345, 3) := by decide +kernel
theorem dX9_told_8 : decode cX9_told 8 = .ok (.invokestatic 52, 3) := by decide +kernel
theorem dX9_told_11 : decode cX9_told 11 = .ok (.ifCond .eq 12, 3) := by decide +kernel
theorem dX9_told_14 : decode cX9_told 14 = .ok (.aload_n 0, 1) := by decide +kernel
theorem dX9_told_15 : decode cX9_told 15 = .ok (.getfield 245, 3) := by decide +kernel
theorem dX9_told_18 : decode cX9_told 18 = .ok (.iload_n 1, 1) := by decide +kernel
theorem dX9_told_19 : decode cX9_told 19 = .ok (.iconst 2, 1) := by decide +kernel
theorem dX9_told_20 : decode cX9_told 20 = .ok (.isub, 1) := by decide +kernel
theorem dX9_told_21 : decode cX9_told 21 = .ok (.iaload, 1) := by decide +kernel
theorem dX9_told_22 : decode cX9_told 22 = .ok (.ireturn, 1) := by decide +kernel
theorem dX9_told_23 : decode cX9_told 23 = .ok (.iload_n 1, 1) := by decide +kernel
theorem dX9_told_24 : decode cX9_told 24 = .ok (.i2l, 1) := by decide +kernel
theorem dX9_told_25 : decode cX9_told 25 = .ok (.ldc2_w 347, 3) := by decide +kernel
theorem dX9_told_28 : decode cX9_told 28 = .ok (.ldc2_w 349, 3) := by decide +kernel
theorem dX9_told_31 : decode cX9_told 31 = .ok (.invokestatic 52, 3) := by decide +kernel
theorem dX9_told_34 : decode cX9_told 34 = .ok (.ifCond .eq 13, 3) := by decide +kernel
theorem dX9_told_37 : decode cX9_told 37 = .ok (.aload_n 0, 1) := by decide +kernel
theorem dX9_told_38 : decode cX9_told 38 = .ok (.getfield 258, 3) := by decide +kernel
theorem dX9_told_41 : decode cX9_told 41 = .ok (.iload_n 1, 1) := by decide +kernel
theorem dX9_told_42 : decode cX9_told 42 = .ok (.bipush 13, 2) := by decide +kernel
theorem dX9_told_44 : decode cX9_told 44 = .ok (.isub, 1) := by decide +kernel
theorem dX9_told_45 : decode cX9_told 45 = .ok (.iaload, 1) := by decide +kernel
theorem dX9_told_46 : decode cX9_told 46 = .ok (.ireturn, 1) := by decide +kernel
theorem dX9_told_47 : decode cX9_told 47 = .ok (.iload_n 1, 1) := by decide +kernel
theorem dX9_told_48 : decode cX9_told 48 = .ok (.tableswitch 179 0 23 #[112, 117, 179, 179, 179, 179, 179, 179, 179, 179, 179, 122, 127, 179, 179, 179, 179, 132, 139, 146, 153, 160, 165, 170], 112) := by decide +kernel
theorem dX9_told_160 : decode cX9_told 160 = .ok (.aload_n 0, 1) := by decide +kernel
theorem dX9_told_161 : decode cX9_told 161 = .ok (.getfield 201, 3) := by decide +kernel
theorem dX9_told_164 : decode cX9_told 164 = .ok (.ireturn, 1) := by decide +kernel
theorem dX9_told_165 : decode cX9_told 165 = .ok (.aload_n 0, 1) := by decide +kernel
theorem dX9_told_166 : decode cX9_told 166 = .ok (.getfield 204, 3) := by decide +kernel
theorem dX9_told_169 : decode cX9_told 169 = .ok (.ireturn, 1) := by decide +kernel
theorem dX9_told_170 : decode cX9_told 170 = .ok (.aload_n 0, 1) := by decide +kernel
theorem dX9_told_171 : decode cX9_told 171 = .ok (.getfield 311, 3) := by decide +kernel
theorem dX9_told_174 : decode cX9_told 174 = .ok (.ireturn, 1) := by decide +kernel
theorem dX9_told_175 : decode cX9_told 175 = .ok (.aload_n 0, 1) := by decide +kernel
theorem dX9_told_176 : decode cX9_told 176 = .ok (.getfield 334, 3) := by decide +kernel
theorem dX9_told_179 : decode cX9_told 179 = .ok (.ireturn, 1) := by decide +kernel
theorem dX9_told_180 : decode cX9_told 180 = .ok (.aload_n 0, 1) := by decide +kernel
theorem dX9_told_181 : decode cX9_told 181 = .ok (.getfield 260, 3) := by decide +kernel
theorem dX9_told_184 : decode cX9_told 184 = .ok (.iconst 0, 1) := by decide +kernel
theorem dX9_told_185 : decode cX9_told 185 = .ok (.iaload, 1) := by decide +kernel
theorem dX9_told_186 : decode cX9_told 186 = .ok (.ireturn, 1) := by decide +kernel
theorem dX9_told_187 : decode cX9_told 187 = .ok (.aload_n 0, 1) := by decide +kernel
theorem dX9_told_188 : decode cX9_told 188 = .ok (.getfield 260, 3) := by decide +kernel
theorem dX9_told_191 : decode cX9_told 191 = .ok (.iconst 1, 1) := by decide +kernel
theorem dX9_told_192 : decode cX9_told 192 = .ok (.iaload, 1) := by decide +kernel
theorem dX9_told_193 : decode cX9_told 193 = .ok (.ireturn, 1) := by decide +kernel
theorem dX9_told_194 : decode cX9_told 194 = .ok (.aload_n 0, 1) := by decide +kernel
theorem dX9_told_195 : decode cX9_told 195 = .ok (.getfield 262, 3) := by decide +kernel
theorem dX9_told_198 : decode cX9_told 198 = .ok (.iconst 0, 1) := by decide +kernel
theorem dX9_told_199 : decode cX9_told 199 = .ok (.iaload, 1) := by decide +kernel
theorem dX9_told_200 : decode cX9_told 200 = .ok (.ireturn, 1) := by decide +kernel
theorem dX9_told_201 : decode cX9_told 201 = .ok (.aload_n 0, 1) := by decide +kernel
theorem dX9_told_202 : decode cX9_told 202 = .ok (.getfield 262, 3) := by decide +kernel
theorem dX9_told_205 : decode cX9_told 205 = .ok (.iconst 1, 1) := by decide +kernel
theorem dX9_told_206 : decode cX9_told 206 = .ok (.iaload, 1) := by decide +kernel
theorem dX9_told_207 : decode cX9_told 207 = .ok (.ireturn, 1) := by decide +kernel
theorem dX9_told_208 : decode cX9_told 208 = .ok (.aload_n 0, 1) := by decide +kernel
theorem dX9_told_209 : decode cX9_told 209 = .ok (.getfield 264, 3) := by decide +kernel
theorem dX9_told_212 : decode cX9_told 212 = .ok (.ireturn, 1) := by decide +kernel
theorem dX9_told_213 : decode cX9_told 213 = .ok (.aload_n 0, 1) := by decide +kernel
theorem dX9_told_214 : decode cX9_told 214 = .ok (.getfield 225, 3) := by decide +kernel
theorem dX9_told_217 : decode cX9_told 217 = .ok (.ireturn, 1) := by decide +kernel
theorem dX9_told_218 : decode cX9_told 218 = .ok (.aload_n 0, 1) := by decide +kernel
theorem dX9_told_219 : decode cX9_told 219 = .ok (.getfield 269, 3) := by decide +kernel
theorem dX9_told_222 : decode cX9_told 222 = .ok (.sipush 275, 3) := by decide +kernel
theorem dX9_told_225 : decode cX9_told 225 = .ok (.iaload, 1) := by decide +kernel
theorem dX9_told_226 : decode cX9_told 226 = .ok (.ireturn, 1) := by decide +kernel
theorem dX9_told_227 : decode cX9_told 227 = .ok (.iconst (-1), 1) := by decide +kernel
theorem dX9_told_228 : decode cX9_told 228 = .ok (.ireturn, 1) := by decide +kernel
theorem dX9_wave_0 : decode cX9_wave 0 = .ok (.iload_n 1, 1) := by decide +kernel
theorem dX9_wave_1 : decode cX9_wave 1 = .ok (.i2l, 1) := by decide +kernel
theorem dX9_wave_2 : decode cX9_wave 2 = .ok (.lconst 0, 1) := by decide +kernel
theorem dX9_wave_3 : decode cX9_wave 3 = .ok (.aload_n 0, 1) := by decide +kernel
theorem dX9_wave_4 : decode cX9_wave 4 = .ok (.getfield 334, 3) := by decide +kernel
theorem dX9_wave_7 : decode cX9_wave 7 = .ok (.i2l, 1) := by decide +kernel
theorem dX9_wave_8 : decode cX9_wave 8 = .ok (.lconst 1, 1) := by decide +kernel
theorem dX9_wave_9 : decode cX9_wave 9 = .ok (.lsub, 1) := by decide +kernel
theorem dX9_wave_10 : decode cX9_wave 10 = .ok (.invokestatic 52, 3) := by decide +kernel
theorem dX9_wave_13 : decode cX9_wave 13 = .ok (.ifCond .eq 28, 3) := by decide +kernel
theorem dX9_wave_16 : decode cX9_wave 16 = .ok (.iload_n 2, 1) := by decide +kernel
theorem dX9_wave_17 : decode cX9_wave 17 = .ok (.i2l, 1) := by decide +kernel
theorem dX9_wave_18 : decode cX9_wave 18 = .ok (.lconst 0, 1) := by decide +kernel
theorem dX9_wave_19 : decode cX9_wave 19 = .ok (.ldc2_w 343, 3) := by decide +kernel
theorem dX9_wave_22 : decode cX9_wave 22 = .ok (.invokestatic 52, 3) := by decide +kernel
theorem dX9_wave_25 : decode cX9_wave 25 = .ok (.ifCond .eq 16, 3) := by decide +kernel
theorem dX9_wave_28 : decode cX9_wave 28 = .ok (.aload_n 0, 1) := by decide +kernel
theorem dX9_wave_29 : decode cX9_wave 29 = .ok (.getfield 256, 3) := by decide +kernel
theorem dX9_wave_32 : decode cX9_wave 32 = .ok (.iconst 3, 1) := by decide +kernel
theorem dX9_wave_33 : decode cX9_wave 33 = .ok (.iload_n 1, 1) := by decide +kernel
theorem dX9_wave_34 : decode cX9_wave 34 = .ok (.imul, 1) := by decide +kernel
theorem dX9_wave_35 : decode cX9_wave 35 = .ok (.iload_n 2, 1) := by decide +kernel
theorem dX9_wave_36 : decode cX9_wave 36 = .ok (.iadd, 1) := by decide +kernel
theorem dX9_wave_37 : decode cX9_wave 37 = .ok (.iaload, 1) := by decide +kernel
theorem dX9_wave_38 : decode cX9_wave 38 = .ok (.goto 5, 3) := by decide +kernel
theorem dX9_wave_41 : decode cX9_wave 41 = .ok (.bipush (-2), 2) := by decide +kernel
theorem dX9_wave_43 : decode cX9_wave 43 = .ok (.ireturn, 1) := by decide +kernel
theorem dX9_isPlan_0 : decode cX9_isPlan 0 = .ok (.iload_n 1, 1) := by decide +kernel
theorem dX9_isPlan_1 : decode cX9_isPlan 1 = .ok (.i2l, 1) := by decide +kernel
theorem dX9_isPlan_2 : decode cX9_isPlan 2 = .ok (.lconst 0, 1) := by decide +kernel
theorem dX9_isPlan_3 : decode cX9_isPlan 3 = .ok (.aload_n 0, 1) := by decide +kernel
theorem dX9_isPlan_4 : decode cX9_isPlan 4 = .ok (.getfield 225, 3) := by decide +kernel
theorem dX9_isPlan_7 : decode cX9_isPlan 7 = .ok (.i2l, 1) := by decide +kernel
theorem dX9_isPlan_8 : decode cX9_isPlan 8 = .ok (.lconst 1, 1) := by decide +kernel
theorem dX9_isPlan_9 : decode cX9_isPlan 9 = .ok (.lsub, 1) := by decide +kernel
theorem dX9_isPlan_10 : decode cX9_isPlan 10 = .ok (.invokestatic 52, 3) := by decide +kernel
theorem dX9_isPlan_13 : decode cX9_isPlan 13 = .ok (.ireturn, 1) := by decide +kernel
theorem dX9_act_0 : decode cX9_act 0 = .ok (.aload_n 0, 1) := by decide +kernel
theorem dX9_act_1 : decode cX9_act 1 = .ok (.iload_n 1, 1) := by decide +kernel
theorem dX9_act_2 : decode cX9_act 2 = .ok (.invokevirtual 351, 3) := by decide +kernel
theorem dX9_act_5 : decode cX9_act 5 = .ok (.ifCond .ne 6, 3) := by decide +kernel
theorem dX9_act_8 : decode cX9_act 8 = .ok (.bipush (-2), 2) := by decide +kernel
theorem dX9_act_10 : decode cX9_act 10 = .ok (.ireturn, 1) := by decide +kernel
theorem dX9_act_11 : decode cX9_act 11 = .ok (.iload_n 2, 1) := by decide +kernel
theorem dX9_act_12 : decode cX9_act 12 = .ok (.iconst (-1), 1) := by decide +kernel
theorem dX9_act_13 : decode cX9_act 13 = .ok (.if_icmp .ne 10, 3) := by decide +kernel
theorem dX9_act_16 : decode cX9_act 16 = .ok (.aload_n 0, 1) := by decide +kernel
theorem dX9_act_17 : decode cX9_act 17 = .ok (.getfield 266, 3) := by decide +kernel
theorem dX9_act_20 : decode cX9_act 20 = .ok (.iload_n 1, 1) := by decide +kernel
theorem dX9_act_21 : decode cX9_act 21 = .ok (.iaload, 1) := by decide +kernel
theorem dX9_act_22 : decode cX9_act 22 = .ok (.ireturn, 1) := by decide +kernel
theorem dX9_act_23 : decode cX9_act 23 = .ok (.iload_n 2, 1) := by decide +kernel
theorem dX9_act_24 : decode cX9_act 24 = .ok (.i2l, 1) := by decide +kernel
theorem dX9_act_25 : decode cX9_act 25 = .ok (.lconst 0, 1) := by decide +kernel
theorem dX9_act_26 : decode cX9_act 26 = .ok (.aload_n 0, 1) := by decide +kernel
theorem dX9_act_27 : decode cX9_act 27 = .ok (.getfield 266, 3) := by decide +kernel
theorem dX9_act_30 : decode cX9_act 30 = .ok (.iload_n 1, 1) := by decide +kernel
theorem dX9_act_31 : decode cX9_act 31 = .ok (.iaload, 1) := by decide +kernel
theorem dX9_act_32 : decode cX9_act 32 = .ok (.i2l, 1) := by decide +kernel
theorem dX9_act_33 : decode cX9_act 33 = .ok (.lconst 1, 1) := by decide +kernel
theorem dX9_act_34 : decode cX9_act 34 = .ok (.lsub, 1) := by decide +kernel
theorem dX9_act_35 : decode cX9_act 35 = .ok (.invokestatic 52, 3) := by decide +kernel
theorem dX9_act_38 : decode cX9_act 38 = .ok (.ifCond .ne 6, 3) := by decide +kernel
theorem dX9_act_41 : decode cX9_act 41 = .ok (.bipush (-2), 2) := by decide +kernel
theorem dX9_act_43 : decode cX9_act 43 = .ok (.ireturn, 1) := by decide +kernel
theorem dX9_act_44 : decode cX9_act 44 = .ok (.iconst 4, 1) := by decide +kernel
theorem dX9_act_45 : decode cX9_act 45 = .ok (.iload_n 1, 1) := by decide +kernel
theorem dX9_act_46 : decode cX9_act 46 = .ok (.imul, 1) := by decide +kernel
theorem dX9_act_47 : decode cX9_act 47 = .ok (.iload_n 2, 1) := by decide +kernel
theorem dX9_act_48 : decode cX9_act 48 = .ok (.iadd, 1) := by decide +kernel
theorem dX9_act_49 : decode cX9_act 49 = .ok (.istore 5, 2) := by decide +kernel
theorem dX9_act_51 : decode cX9_act 51 = .ok (.iload_n 3, 1) := by decide +kernel
theorem dX9_act_52 : decode cX9_act 52 = .ok (.iconst (-1), 1) := by decide +kernel
theorem dX9_act_53 : decode cX9_act 53 = .ok (.if_icmp .ne 11, 3) := by decide +kernel
theorem dX9_act_56 : decode cX9_act 56 = .ok (.aload_n 0, 1) := by decide +kernel
theorem dX9_act_57 : decode cX9_act 57 = .ok (.getfield 228, 3) := by decide +kernel
theorem dX9_act_60 : decode cX9_act 60 = .ok (.iload 5, 2) := by decide +kernel
theorem dX9_act_62 : decode cX9_act 62 = .ok (.iaload, 1) := by decide +kernel
theorem dX9_act_63 : decode cX9_act 63 = .ok (.ireturn, 1) := by decide +kernel
theorem dX9_act_64 : decode cX9_act 64 = .ok (.iload_n 3, 1) := by decide +kernel
theorem dX9_act_65 : decode cX9_act 65 = .ok (.i2l, 1) := by decide +kernel
theorem dX9_act_66 : decode cX9_act 66 = .ok (.lconst 0, 1) := by decide +kernel
theorem dX9_act_67 : decode cX9_act 67 = .ok (.aload_n 0, 1) := by decide +kernel
theorem dX9_act_68 : decode cX9_act 68 = .ok (.getfield 228, 3) := by decide +kernel
theorem dX9_act_71 : decode cX9_act 71 = .ok (.iload 5, 2) := by decide +kernel
theorem dX9_act_73 : decode cX9_act 73 = .ok (.iaload, 1) := by decide +kernel
theorem dX9_act_74 : decode cX9_act 74 = .ok (.i2l, 1) := by decide +kernel
theorem dX9_act_75 : decode cX9_act 75 = .ok (.lconst 1, 1) := by decide +kernel
theorem dX9_act_76 : decode cX9_act 76 = .ok (.lsub, 1) := by decide +kernel
theorem dX9_act_77 : decode cX9_act 77 = .ok (.invokestatic 52, 3) := by decide +kernel
theorem dX9_act_80 : decode cX9_act 80 = .ok (.ifCond .eq 36, 3) := by decide +kernel
theorem dX9_act_83 : decode cX9_act 83 = .ok (.iload 4, 2) := by decide +kernel
theorem dX9_act_85 : decode cX9_act 85 = .ok (.i2l, 1) := by decide +kernel
theorem dX9_act_86 : decode cX9_act 86 = .ok (.lconst 0, 1) := by decide +kernel
theorem dX9_act_87 : decode cX9_act 87 = .ok (.ldc2_w 343, 3) := by decide +kernel
theorem dX9_act_90 : decode cX9_act 90 = .ok (.invokestatic 52, 3) := by decide +kernel
theorem dX9_act_93 : decode cX9_act 93 = .ok (.ifCond .eq 23, 3) := by decide +kernel
theorem dX9_act_96 : decode cX9_act 96 = .ok (.aload_n 0, 1) := by decide +kernel
theorem dX9_act_97 : decode cX9_act 97 = .ok (.getfield 207, 3) := by decide +kernel
theorem dX9_act_100 : decode cX9_act 100 = .ok (.iconst 3, 1) := by decide +kernel
theorem dX9_act_101 : decode cX9_act 101 = .ok (.bipush 8, 2) := by decide +kernel
theorem dX9_act_103 : decode cX9_act 103 = .ok (.iload 5, 2) := by decide +kernel
theorem dX9_act_105 : decode cX9_act 105 = .ok (.imul, 1) := by decide +kernel
theorem dX9_act_106 : decode cX9_act 106 = .ok (.iload_n 3, 1) := by decide +kernel
theorem dX9_act_107 : decode cX9_act 107 = .ok (.iadd, 1) := by decide +kernel
theorem dX9_act_108 : decode cX9_act 108 = .ok (.imul, 1) := by decide +kernel
theorem dX9_act_109 : decode cX9_act 109 = .ok (.iload 4, 2) := by decide +kernel
theorem dX9_act_111 : decode cX9_act 111 = .ok (.iadd, 1) := by decide +kernel
theorem dX9_act_112 : decode cX9_act 112 = .ok (.iaload, 1) := by decide +kernel
theorem dX9_act_113 : decode cX9_act 113 = .ok (.goto 5, 3) := by decide +kernel
theorem dX9_act_116 : decode cX9_act 116 = .ok (.bipush (-2), 2) := by decide +kernel
theorem dX9_act_118 : decode cX9_act 118 = .ok (.ireturn, 1) := by decide +kernel
theorem dX9_strength_0 : decode cX9_strength 0 = .ok (.iload_n 1, 1) := by decide +kernel
theorem dX9_strength_1 : decode cX9_strength 1 = .ok (.ifCond .eq 9, 3) := by decide +kernel
theorem dX9_strength_4 : decode cX9_strength 4 = .ok (.iload_n 1, 1) := by decide +kernel
theorem dX9_strength_5 : decode cX9_strength 5 = .ok (.bipush 16, 2) := by decide +kernel
theorem dX9_strength_7 : decode cX9_strength 7 = .ok (.if_icmp .ne 7, 3) := by decide +kernel
theorem dX9_strength_10 : decode cX9_strength 10 = .ok (.iconst 0, 1) := by decide +kernel
theorem dX9_strength_11 : decode cX9_strength 11 = .ok (.goto 35, 3) := by decide +kernel
theorem dX9_strength_14 : decode cX9_strength 14 = .ok (.iconst 0, 1) := by decide +kernel
theorem dX9_strength_15 : decode cX9_strength 15 = .ok (.aload_n 0, 1) := by decide +kernel
theorem dX9_strength_16 : decode cX9_strength 16 = .ok (.getfield 245, 3) := by decide +kernel
theorem dX9_strength_19 : decode cX9_strength 19 = .ok (.bipush 7, 2) := by decide +kernel
theorem dX9_strength_21 : decode cX9_strength 21 = .ok (.iaload, 1) := by decide +kernel
theorem dX9_strength_22 : decode cX9_strength 22 = .ok (.aload_n 0, 1) := by decide +kernel
theorem dX9_strength_23 : decode cX9_strength 23 = .ok (.getfield 245, 3) := by decide +kernel
theorem dX9_strength_26 : decode cX9_strength 26 = .ok (.bipush 8, 2) := by decide +kernel
theorem dX9_strength_28 : decode cX9_strength 28 = .ok (.iaload, 1) := by decide +kernel
theorem dX9_strength_29 : decode cX9_strength 29 = .ok (.iload_n 1, 1) := by decide +kernel
theorem dX9_strength_30 : decode cX9_strength 30 = .ok (.aload_n 0, 1) := by decide +kernel
theorem dX9_strength_31 : decode cX9_strength 31 = .ok (.getfield 245, 3) := by decide +kernel
theorem dX9_strength_34 : decode cX9_strength 34 = .ok (.bipush 6, 2) := by decide +kernel
theorem dX9_strength_36 : decode cX9_strength 36 = .ok (.iaload, 1) := by decide +kernel
theorem dX9_strength_37 : decode cX9_strength 37 = .ok (.isub, 1) := by decide +kernel
theorem dX9_strength_38 : decode cX9_strength 38 = .ok (.invokestatic 354, 3) := by decide +kernel
theorem dX9_strength_41 : decode cX9_strength 41 = .ok (.imul, 1) := by decide +kernel
theorem dX9_strength_42 : decode cX9_strength 42 = .ok (.isub, 1) := by decide +kernel
theorem dX9_strength_43 : decode cX9_strength 43 = .ok (.invokestatic 359, 3) := by decide +kernel
theorem dX9_strength_46 : decode cX9_strength 46 = .ok (.ireturn, 1) := by decide +kernel
theorem dX9_holdsOf_0 : decode cX9_holdsOf 0 = .ok (.iconst 1, 1) := by decide +kernel
theorem dX9_holdsOf_1 : decode cX9_holdsOf 1 = .ok (.aload_n 0, 1) := by decide +kernel
theorem dX9_holdsOf_2 : decode cX9_holdsOf 2 = .ok (.iload_n 1, 1) := by decide +kernel
theorem dX9_holdsOf_3 : decode cX9_holdsOf 3 = .ok (.invokevirtual 363, 3) := by decide +kernel
theorem dX9_holdsOf_6 : decode cX9_holdsOf 6 = .ok (.iadd, 1) := by decide +kernel
theorem dX9_holdsOf_7 : decode cX9_holdsOf 7 = .ok (.aload_n 0, 1) := by decide +kernel
theorem dX9_holdsOf_8 : decode cX9_holdsOf 8 = .ok (.getfield 245, 3) := by decide +kernel
theorem dX9_holdsOf_11 : decode cX9_holdsOf 11 = .ok (.iconst 1, 1) := by decide +kernel
theorem dX9_holdsOf_12 : decode cX9_holdsOf 12 = .ok (.iaload, 1) := by decide +kernel
theorem dX9_holdsOf_13 : decode cX9_holdsOf 13 = .ok (.iload_n 2, 1) := by decide +kernel
theorem dX9_holdsOf_14 : decode cX9_holdsOf 14 = .ok (.imul, 1) := by decide +kernel
theorem dX9_holdsOf_15 : decode cX9_holdsOf 15 = .ok (.iadd, 1) := by decide +kernel
theorem dX9_holdsOf_16 : decode cX9_holdsOf 16 = .ok (.ireturn, 1) := by decide +kernel
theorem dX9_unitGoes_0 : decode cX9_unitGoes 0 = .ok (.aload_n 1, 1) := by decide +kernel
theorem dX9_unitGoes_1 : decode cX9_unitGoes 1 = .ok (.bipush 64, 2) := by decide +kernel
theorem dX9_unitGoes_3 : decode cX9_unitGoes 3 = .ok (.iload_n 3, 1) := by decide +kernel
theorem dX9_unitGoes_4 : decode cX9_unitGoes 4 = .ok (.iadd, 1) := by decide +kernel
theorem dX9_unitGoes_5 : decode cX9_unitGoes 5 = .ok (.aload_n 1, 1) := by decide +kernel
theorem dX9_unitGoes_6 : decode cX9_unitGoes 6 = .ok (.bipush 64, 2) := by decide +kernel
theorem dX9_unitGoes_8 : decode cX9_unitGoes 8 = .ok (.iload_n 3, 1) := by decide +kernel
theorem dX9_unitGoes_9 : decode cX9_unitGoes 9 = .ok (.iadd, 1) := by decide +kernel
theorem dX9_unitGoes_10 : decode cX9_unitGoes 10 = .ok (.iaload, 1) := by decide +kernel
theorem dX9_unitGoes_11 : decode cX9_unitGoes 11 = .ok (.aload_n 1, 1) := by decide +kernel
theorem dX9_unitGoes_12 : decode cX9_unitGoes 12 = .ok (.iconst 0, 1) := by decide +kernel
theorem dX9_unitGoes_13 : decode cX9_unitGoes 13 = .ok (.iload_n 3, 1) := by decide +kernel
theorem dX9_unitGoes_14 : decode cX9_unitGoes 14 = .ok (.iadd, 1) := by decide +kernel
theorem dX9_unitGoes_15 : decode cX9_unitGoes 15 = .ok (.iaload, 1) := by decide +kernel
theorem dX9_unitGoes_16 : decode cX9_unitGoes 16 = .ok (.imul, 1) := by decide +kernel
theorem dX9_unitGoes_17 : decode cX9_unitGoes 17 = .ok (.aload_n 1, 1) := by decide +kernel
theorem dX9_unitGoes_18 : decode cX9_unitGoes 18 = .ok (.bipush 64, 2) := by decide +kernel
theorem dX9_unitGoes_20 : decode cX9_unitGoes 20 = .ok (.iload_n 2, 1) := by decide +kernel
theorem dX9_unitGoes_21 : decode cX9_unitGoes 21 = .ok (.iadd, 1) := by decide +kernel
theorem dX9_unitGoes_22 : decode cX9_unitGoes 22 = .ok (.iaload, 1) := by decide +kernel
theorem dX9_unitGoes_23 : decode cX9_unitGoes 23 = .ok (.iadd, 1) := by decide +kernel
theorem dX9_unitGoes_24 : decode cX9_unitGoes 24 = .ok (.aload_n 1, 1) := by decide +kernel
theorem dX9_unitGoes_25 : decode cX9_unitGoes 25 = .ok (.iconst 0, 1) := by decide +kernel
theorem dX9_unitGoes_26 : decode cX9_unitGoes 26 = .ok (.iload_n 3, 1) := by decide +kernel
theorem dX9_unitGoes_27 : decode cX9_unitGoes 27 = .ok (.iadd, 1) := by decide +kernel
theorem dX9_unitGoes_28 : decode cX9_unitGoes 28 = .ok (.iaload, 1) := by decide +kernel
theorem dX9_unitGoes_29 : decode cX9_unitGoes 29 = .ok (.iconst 1, 1) := by decide +kernel
theorem dX9_unitGoes_30 : decode cX9_unitGoes 30 = .ok (.iadd, 1) := by decide +kernel
theorem dX9_unitGoes_31 : decode cX9_unitGoes 31 = .ok (.idiv, 1) := by decide +kernel
theorem dX9_unitGoes_32 : decode cX9_unitGoes 32 = .ok (.iastore, 1) := by decide +kernel
theorem dX9_unitGoes_33 : decode cX9_unitGoes 33 = .ok (.aload_n 1, 1) := by decide +kernel
theorem dX9_unitGoes_34 : decode cX9_unitGoes 34 = .ok (.sipush 128, 3) := by decide +kernel
theorem dX9_unitGoes_37 : decode cX9_unitGoes 37 = .ok (.iload_n 3, 1) := by decide +kernel
theorem dX9_unitGoes_38 : decode cX9_unitGoes 38 = .ok (.iadd, 1) := by decide +kernel
theorem dX9_unitGoes_39 : decode cX9_unitGoes 39 = .ok (.iconst 0, 1) := by decide +kernel
theorem dX9_unitGoes_40 : decode cX9_unitGoes 40 = .ok (.iastore, 1) := by decide +kernel
theorem dX9_unitGoes_41 : decode cX9_unitGoes 41 = .ok (.aload_n 1, 1) := by decide +kernel
theorem dX9_unitGoes_42 : decode cX9_unitGoes 42 = .ok (.iconst 0, 1) := by decide +kernel
theorem dX9_unitGoes_43 : decode cX9_unitGoes 43 = .ok (.iload_n 2, 1) := by decide +kernel
theorem dX9_unitGoes_44 : decode cX9_unitGoes 44 = .ok (.iadd, 1) := by decide +kernel
theorem dX9_unitGoes_45 : decode cX9_unitGoes 45 = .ok (.dup2, 1) := by decide +kernel
theorem dX9_unitGoes_46 : decode cX9_unitGoes 46 = .ok (.iaload, 1) := by decide +kernel
theorem dX9_unitGoes_47 : decode cX9_unitGoes 47 = .ok (.iconst 1, 1) := by decide +kernel
theorem dX9_unitGoes_48 : decode cX9_unitGoes 48 = .ok (.isub, 1) := by decide +kernel
theorem dX9_unitGoes_49 : decode cX9_unitGoes 49 = .ok (.iastore, 1) := by decide +kernel
theorem dX9_unitGoes_50 : decode cX9_unitGoes 50 = .ok (.aload_n 1, 1) := by decide +kernel
theorem dX9_unitGoes_51 : decode cX9_unitGoes 51 = .ok (.iconst 0, 1) := by decide +kernel
theorem dX9_unitGoes_52 : decode cX9_unitGoes 52 = .ok (.iload_n 3, 1) := by decide +kernel
theorem dX9_unitGoes_53 : decode cX9_unitGoes 53 = .ok (.iadd, 1) := by decide +kernel
theorem dX9_unitGoes_54 : decode cX9_unitGoes 54 = .ok (.dup2, 1) := by decide +kernel
theorem dX9_unitGoes_55 : decode cX9_unitGoes 55 = .ok (.iaload, 1) := by decide +kernel
theorem dX9_unitGoes_56 : decode cX9_unitGoes 56 = .ok (.iconst 1, 1) := by decide +kernel
theorem dX9_unitGoes_57 : decode cX9_unitGoes 57 = .ok (.iadd, 1) := by decide +kernel
theorem dX9_unitGoes_58 : decode cX9_unitGoes 58 = .ok (.iastore, 1) := by decide +kernel
theorem dX9_unitGoes_59 : decode cX9_unitGoes 59 = .ok (.return_, 1) := by decide +kernel
theorem dX9_does_0 : decode cX9_does 0 = .ok (.iload_n 2, 1) := by decide +kernel
theorem dX9_does_1 : decode cX9_does 1 = .ok (.tableswitch 138 0 3 #[31, 82, 105, 127], 31) := by decide +kernel
theorem dX9_does_32 : decode cX9_does 32 = .ok (.aload_n 1, 1) := by decide +kernel
theorem dX9_does_33 : decode cX9_does 33 = .ok (.iconst 0, 1) := by decide +kernel
theorem dX9_does_34 : decode cX9_does 34 = .ok (.iload_n 3, 1) := by decide +kernel
theorem dX9_does_35 : decode cX9_does 35 = .ok (.iadd, 1) := by decide +kernel
theorem dX9_does_36 : decode cX9_does 36 = .ok (.iaload, 1) := by decide +kernel
theorem dX9_does_37 : decode cX9_does 37 = .ok (.ifCond .eq 26, 3) := by decide +kernel
theorem dX9_does_40 : decode cX9_does 40 = .ok (.aload_n 1, 1) := by decide +kernel
theorem dX9_does_41 : decode cX9_does 41 = .ok (.sipush 192, 3) := by decide +kernel
theorem dX9_does_44 : decode cX9_does 44 = .ok (.iload_n 3, 1) := by decide +kernel
theorem dX9_does_45 : decode cX9_does 45 = .ok (.iadd, 1) := by decide +kernel
theorem dX9_does_46 : decode cX9_does 46 = .ok (.iaload, 1) := by decide +kernel
theorem dX9_does_47 : decode cX9_does 47 = .ok (.iconst 1, 1) := by decide +kernel
theorem dX9_does_48 : decode cX9_does 48 = .ok (.if_icmp .eq 15, 3) := by decide +kernel
theorem dX9_does_51 : decode cX9_does 51 = .ok (.aload_n 1, 1) := by decide +kernel
theorem dX9_does_52 : decode cX9_does 52 = .ok (.sipush 192, 3) := by decide +kernel
theorem dX9_does_55 : decode cX9_does 55 = .ok (.iload 4, 2) := by decide +kernel
theorem dX9_does_57 : decode cX9_does 57 = .ok (.iadd, 1) := by decide +kernel
theorem dX9_does_58 : decode cX9_does 58 = .ok (.iaload, 1) := by decide +kernel
theorem dX9_does_59 : decode cX9_does 59 = .ok (.iconst 1, 1) := by decide +kernel
theorem dX9_does_60 : decode cX9_does 60 = .ok (.if_icmp .ne 4, 3) := by decide +kernel
theorem dX9_does_63 : decode cX9_does 63 = .ok (.return_, 1) := by decide +kernel
theorem dX9_does_64 : decode cX9_does 64 = .ok (.aload_n 0, 1) := by decide +kernel
theorem dX9_does_65 : decode cX9_does 65 = .ok (.aload_n 1, 1) := by decide +kernel
theorem dX9_does_66 : decode cX9_does 66 = .ok (.iload_n 3, 1) := by decide +kernel
theorem dX9_does_67 : decode cX9_does 67 = .ok (.iload 4, 2) := by decide +kernel
theorem dX9_does_69 : decode cX9_does 69 = .ok (.invokevirtual 366, 3) := by decide +kernel
theorem dX9_does_72 : decode cX9_does 72 = .ok (.aload_n 1, 1) := by decide +kernel
theorem dX9_does_73 : decode cX9_does 73 = .ok (.sipush 128, 3) := by decide +kernel
theorem dX9_does_76 : decode cX9_does 76 = .ok (.iload_n 3, 1) := by decide +kernel
theorem dX9_does_77 : decode cX9_does 77 = .ok (.iadd, 1) := by decide +kernel
theorem dX9_does_78 : decode cX9_does 78 = .ok (.iconst 0, 1) := by decide +kernel
theorem dX9_does_79 : decode cX9_does 79 = .ok (.iastore, 1) := by decide +kernel
theorem dX9_does_80 : decode cX9_does 80 = .ok (.goto 59, 3) := by decide +kernel
theorem dX9_does_83 : decode cX9_does 83 = .ok (.aload_n 1, 1) := by decide +kernel
theorem dX9_does_84 : decode cX9_does 84 = .ok (.sipush 128, 3) := by decide +kernel
theorem dX9_does_87 : decode cX9_does 87 = .ok (.iload_n 3, 1) := by decide +kernel
theorem dX9_does_88 : decode cX9_does 88 = .ok (.iadd, 1) := by decide +kernel
theorem dX9_does_89 : decode cX9_does 89 = .ok (.iconst 4, 1) := by decide +kernel
theorem dX9_does_90 : decode cX9_does 90 = .ok (.aload_n 1, 1) := by decide +kernel
theorem dX9_does_91 : decode cX9_does 91 = .ok (.sipush 128, 3) := by decide +kernel
theorem dX9_does_94 : decode cX9_does 94 = .ok (.iload_n 3, 1) := by decide +kernel
theorem dX9_does_95 : decode cX9_does 95 = .ok (.iadd, 1) := by decide +kernel
theorem dX9_does_96 : decode cX9_does 96 = .ok (.iaload, 1) := by decide +kernel
theorem dX9_does_97 : decode cX9_does 97 = .ok (.iconst 1, 1) := by decide +kernel
theorem dX9_does_98 : decode cX9_does 98 = .ok (.iadd, 1) := by decide +kernel
theorem dX9_does_99 : decode cX9_does 99 = .ok (.invokestatic 370, 3) := by decide +kernel
theorem dX9_does_102 : decode cX9_does 102 = .ok (.iastore, 1) := by decide +kernel
theorem dX9_does_103 : decode cX9_does 103 = .ok (.goto 36, 3) := by decide +kernel
theorem dX9_does_106 : decode cX9_does 106 = .ok (.aload_n 1, 1) := by decide +kernel
theorem dX9_does_107 : decode cX9_does 107 = .ok (.bipush 64, 2) := by decide +kernel
theorem dX9_does_109 : decode cX9_does 109 = .ok (.iload_n 3, 1) := by decide +kernel
theorem dX9_does_110 : decode cX9_does 110 = .ok (.iadd, 1) := by decide +kernel
theorem dX9_does_111 : decode cX9_does 111 = .ok (.bipush 15, 2) := by decide +kernel
theorem dX9_does_113 : decode cX9_does 113 = .ok (.aload_n 1, 1) := by decide +kernel
theorem dX9_does_114 : decode cX9_does 114 = .ok (.bipush 64, 2) := by decide +kernel
theorem dX9_does_116 : decode cX9_does 116 = .ok (.iload_n 3, 1) := by decide +kernel
theorem dX9_does_117 : decode cX9_does 117 = .ok (.iadd, 1) := by decide +kernel
theorem dX9_does_118 : decode cX9_does 118 = .ok (.iaload, 1) := by decide +kernel
theorem dX9_does_119 : decode cX9_does 119 = .ok (.iconst 4, 1) := by decide +kernel
theorem dX9_does_120 : decode cX9_does 120 = .ok (.iadd, 1) := by decide +kernel
theorem dX9_does_121 : decode cX9_does 121 = .ok (.invokestatic 370, 3) := by decide +kernel
theorem dX9_does_124 : decode cX9_does 124 = .ok (.iastore, 1) := by decide +kernel
theorem dX9_does_125 : decode cX9_does 125 = .ok (.goto 14, 3) := by decide +kernel
theorem dX9_does_128 : decode cX9_does 128 = .ok (.aload_n 1, 1) := by decide +kernel
theorem dX9_does_129 : decode cX9_does 129 = .ok (.sipush 192, 3) := by decide +kernel
theorem dX9_does_132 : decode cX9_does 132 = .ok (.iload_n 3, 1) := by decide +kernel
theorem dX9_does_133 : decode cX9_does 133 = .ok (.iadd, 1) := by decide +kernel
theorem dX9_does_134 : decode cX9_does 134 = .ok (.iconst 1, 1) := by decide +kernel
theorem dX9_does_135 : decode cX9_does 135 = .ok (.iastore, 1) := by decide +kernel
theorem dX9_does_136 : decode cX9_does 136 = .ok (.goto 3, 3) := by decide +kernel
theorem dX9_does_139 : decode cX9_does 139 = .ok (.return_, 1) := by decide +kernel
theorem dX9_handsDo_0 : decode cX9_handsDo 0 = .ok (.aload_n 1, 1) := by decide +kernel
theorem dX9_handsDo_1 : decode cX9_handsDo 1 = .ok (.sipush 275, 3) := by decide +kernel
theorem dX9_handsDo_4 : decode cX9_handsDo 4 = .ok (.iaload, 1) := by decide +kernel
theorem dX9_handsDo_5 : decode cX9_handsDo 5 = .ok (.istore_n 2, 1) := by decide +kernel
theorem dX9_handsDo_6 : decode cX9_handsDo 6 = .ok (.iconst 0, 1) := by decide +kernel
theorem dX9_handsDo_7 : decode cX9_handsDo 7 = .ok (.istore_n 3, 1) := by decide +kernel
theorem dX9_handsDo_8 : decode cX9_handsDo 8 = .ok (.iload_n 2, 1) := by decide +kernel
theorem dX9_handsDo_9 : decode cX9_handsDo 9 = .ok (.iconst (-1), 1) := by decide +kernel
theorem dX9_handsDo_10 : decode cX9_handsDo 10 = .ok (.if_icmp .eq 174, 3) := by decide +kernel
theorem dX9_handsDo_13 : decode cX9_handsDo 13 = .ok (.iload_n 3, 1) := by decide +kernel
theorem dX9_handsDo_14 : decode cX9_handsDo 14 = .ok (.aload_n 0, 1) := by decide +kernel
theorem dX9_handsDo_15 : decode cX9_handsDo 15 = .ok (.getfield 266, 3) := by decide +kernel
theorem dX9_handsDo_18 : decode cX9_handsDo 18 = .ok (.iload_n 2, 1) := by decide +kernel
theorem dX9_handsDo_19 : decode cX9_handsDo 19 = .ok (.iaload, 1) := by decide +kernel
theorem dX9_handsDo_20 : decode cX9_handsDo 20 = .ok (.if_icmp .ge 164, 3) := by decide +kernel
theorem dX9_handsDo_23 : decode cX9_handsDo 23 = .ok (.iconst 4, 1) := by decide +kernel
theorem dX9_handsDo_24 : decode cX9_handsDo 24 = .ok (.iload_n 2, 1) := by decide +kernel
theorem dX9_handsDo_25 : decode cX9_handsDo 25 = .ok (.imul, 1) := by decide +kernel
theorem dX9_handsDo_26 : decode cX9_handsDo 26 = .ok (.iload_n 3, 1) := by decide +kernel
theorem dX9_handsDo_27 : decode cX9_handsDo 27 = .ok (.iadd, 1) := by decide +kernel
theorem dX9_handsDo_28 : decode cX9_handsDo 28 = .ok (.istore 4, 2) := by decide +kernel
theorem dX9_handsDo_30 : decode cX9_handsDo 30 = .ok (.aload_n 1, 1) := by decide +kernel
theorem dX9_handsDo_31 : decode cX9_handsDo 31 = .ok (.sipush 284, 3) := by decide +kernel
theorem dX9_handsDo_34 : decode cX9_handsDo 34 = .ok (.iload_n 3, 1) := by decide +kernel
theorem dX9_handsDo_35 : decode cX9_handsDo 35 = .ok (.iadd, 1) := by decide +kernel
theorem dX9_handsDo_36 : decode cX9_handsDo 36 = .ok (.iaload, 1) := by decide +kernel
theorem dX9_handsDo_37 : decode cX9_handsDo 37 = .ok (.iconst 1, 1) := by decide +kernel
theorem dX9_handsDo_38 : decode cX9_handsDo 38 = .ok (.if_icmp .ne 14, 3) := by decide +kernel
theorem dX9_handsDo_41 : decode cX9_handsDo 41 = .ok (.aload_n 1, 1) := by decide +kernel
theorem dX9_handsDo_42 : decode cX9_handsDo 42 = .ok (.sipush 284, 3) := by decide +kernel
theorem dX9_handsDo_45 : decode cX9_handsDo 45 = .ok (.iload_n 3, 1) := by decide +kernel
theorem dX9_handsDo_46 : decode cX9_handsDo 46 = .ok (.iadd, 1) := by decide +kernel
theorem dX9_handsDo_47 : decode cX9_handsDo 47 = .ok (.iconst 0, 1) := by decide +kernel
theorem dX9_handsDo_48 : decode cX9_handsDo 48 = .ok (.iastore, 1) := by decide +kernel
theorem dX9_handsDo_49 : decode cX9_handsDo 49 = .ok (.goto 129, 3) := by decide +kernel
theorem dX9_handsDo_52 : decode cX9_handsDo 52 = .ok (.iconst 3, 1) := by decide +kernel
theorem dX9_handsDo_53 : decode cX9_handsDo 53 = .ok (.bipush 8, 2) := by decide +kernel
theorem dX9_handsDo_55 : decode cX9_handsDo 55 = .ok (.iload 4, 2) := by decide +kernel
theorem dX9_handsDo_57 : decode cX9_handsDo 57 = .ok (.imul, 1) := by decide +kernel
theorem dX9_handsDo_58 : decode cX9_handsDo 58 = .ok (.aload_n 1, 1) := by decide +kernel
theorem dX9_handsDo_59 : decode cX9_handsDo 59 = .ok (.sipush 276, 3) := by decide +kernel
theorem dX9_handsDo_62 : decode cX9_handsDo 62 = .ok (.iload_n 3, 1) := by decide +kernel
theorem dX9_handsDo_63 : decode cX9_handsDo 63 = .ok (.iadd, 1) := by decide +kernel
theorem dX9_handsDo_64 : decode cX9_handsDo 64 = .ok (.iaload, 1) := by decide +kernel
theorem dX9_handsDo_65 : decode cX9_handsDo 65 = .ok (.iadd, 1) := by decide +kernel
theorem dX9_handsDo_66 : decode cX9_handsDo 66 = .ok (.imul, 1) := by decide +kernel
theorem dX9_handsDo_67 : decode cX9_handsDo 67 = .ok (.istore 5, 2) := by decide +kernel
theorem dX9_handsDo_69 : decode cX9_handsDo 69 = .ok (.aload_n 0, 1) := by decide +kernel
theorem dX9_handsDo_70 : decode cX9_handsDo 70 = .ok (.aload_n 1, 1) := by decide +kernel
theorem dX9_handsDo_71 : decode cX9_handsDo 71 = .ok (.aload_n 0, 1) := by decide +kernel
theorem dX9_handsDo_72 : decode cX9_handsDo 72 = .ok (.getfield 207, 3) := by decide +kernel
theorem dX9_handsDo_75 : decode cX9_handsDo 75 = .ok (.iload 5, 2) := by decide +kernel
theorem dX9_handsDo_77 : decode cX9_handsDo 77 = .ok (.iaload, 1) := by decide +kernel
theorem dX9_handsDo_78 : decode cX9_handsDo 78 = .ok (.aload_n 0, 1) := by decide +kernel
theorem dX9_handsDo_79 : decode cX9_handsDo 79 = .ok (.getfield 207, 3) := by decide +kernel
theorem dX9_handsDo_82 : decode cX9_handsDo 82 = .ok (.iload 5, 2) := by decide +kernel
theorem dX9_handsDo_84 : decode cX9_handsDo 84 = .ok (.iconst 1, 1) := by decide +kernel
theorem dX9_handsDo_85 : decode cX9_handsDo 85 = .ok (.iadd, 1) := by decide +kernel
theorem dX9_handsDo_86 : decode cX9_handsDo 86 = .ok (.iaload, 1) := by decide +kernel
theorem dX9_handsDo_87 : decode cX9_handsDo 87 = .ok (.aload_n 0, 1) := by decide +kernel
theorem dX9_handsDo_88 : decode cX9_handsDo 88 = .ok (.getfield 207, 3) := by decide +kernel
theorem dX9_handsDo_91 : decode cX9_handsDo 91 = .ok (.iload 5, 2) := by decide +kernel
theorem dX9_handsDo_93 : decode cX9_handsDo 93 = .ok (.iconst 2, 1) := by decide +kernel
theorem dX9_handsDo_94 : decode cX9_handsDo 94 = .ok (.iadd, 1) := by decide +kernel
theorem dX9_handsDo_95 : decode cX9_handsDo 95 = .ok (.iaload, 1) := by decide +kernel
theorem dX9_handsDo_96 : decode cX9_handsDo 96 = .ok (.invokevirtual 373, 3) := by decide +kernel
theorem dX9_handsDo_99 : decode cX9_handsDo 99 = .ok (.aload_n 1, 1) := by decide +kernel
theorem dX9_handsDo_100 : decode cX9_handsDo 100 = .ok (.sipush 276, 3) := by decide +kernel
theorem dX9_handsDo_103 : decode cX9_handsDo 103 = .ok (.iload_n 3, 1) := by decide +kernel
theorem dX9_handsDo_104 : decode cX9_handsDo 104 = .ok (.iadd, 1) := by decide +kernel
theorem dX9_handsDo_105 : decode cX9_handsDo 105 = .ok (.aload_n 1, 1) := by decide +kernel
theorem dX9_handsDo_106 : decode cX9_handsDo 106 = .ok (.sipush 276, 3) := by decide +kernel
theorem dX9_handsDo_109 : decode cX9_handsDo 109 = .ok (.iload_n 3, 1) := by decide +kernel
theorem dX9_handsDo_110 : decode cX9_handsDo 110 = .ok (.iadd, 1) := by decide +kernel
theorem dX9_handsDo_111 : decode cX9_handsDo 111 = .ok (.iaload, 1) := by decide +kernel
theorem dX9_handsDo_112 : decode cX9_handsDo 112 = .ok (.iconst 1, 1) := by decide +kernel
theorem dX9_handsDo_113 : decode cX9_handsDo 113 = .ok (.iadd, 1) := by decide +kernel
theorem dX9_handsDo_114 : decode cX9_handsDo 114 = .ok (.aload_n 0, 1) := by decide +kernel
theorem dX9_handsDo_115 : decode cX9_handsDo 115 = .ok (.getfield 228, 3) := by decide +kernel
theorem dX9_handsDo_118 : decode cX9_handsDo 118 = .ok (.iload 4, 2) := by decide +kernel
theorem dX9_handsDo_120 : decode cX9_handsDo 120 = .ok (.iaload, 1) := by decide +kernel
theorem dX9_handsDo_121 : decode cX9_handsDo 121 = .ok (.irem, 1) := by decide +kernel
theorem dX9_handsDo_122 : decode cX9_handsDo 122 = .ok (.iastore, 1) := by decide +kernel
theorem dX9_handsDo_123 : decode cX9_handsDo 123 = .ok (.aload_n 1, 1) := by decide +kernel
theorem dX9_handsDo_124 : decode cX9_handsDo 124 = .ok (.sipush 280, 3) := by decide +kernel
theorem dX9_handsDo_127 : decode cX9_handsDo 127 = .ok (.iload_n 3, 1) := by decide +kernel
theorem dX9_handsDo_128 : decode cX9_handsDo 128 = .ok (.iadd, 1) := by decide +kernel
theorem dX9_handsDo_129 : decode cX9_handsDo 129 = .ok (.dup2, 1) := by decide +kernel
theorem dX9_handsDo_130 : decode cX9_handsDo 130 = .ok (.iaload, 1) := by decide +kernel
theorem dX9_handsDo_131 : decode cX9_handsDo 131 = .ok (.iconst 1, 1) := by decide +kernel
theorem dX9_handsDo_132 : decode cX9_handsDo 132 = .ok (.iadd, 1) := by decide +kernel
theorem dX9_handsDo_133 : decode cX9_handsDo 133 = .ok (.iastore, 1) := by decide +kernel
theorem dX9_handsDo_134 : decode cX9_handsDo 134 = .ok (.aload_n 0, 1) := by decide +kernel
theorem dX9_handsDo_135 : decode cX9_handsDo 135 = .ok (.getfield 245, 3) := by decide +kernel
theorem dX9_handsDo_138 : decode cX9_handsDo 138 = .ok (.iconst 5, 1) := by decide +kernel
theorem dX9_handsDo_139 : decode cX9_handsDo 139 = .ok (.iaload, 1) := by decide +kernel
theorem dX9_handsDo_140 : decode cX9_handsDo 140 = .ok (.ifCond .eq 38, 3) := by decide +kernel
theorem dX9_handsDo_143 : decode cX9_handsDo 143 = .ok (.aload_n 1, 1) := by decide +kernel
theorem dX9_handsDo_144 : decode cX9_handsDo 144 = .ok (.sipush 280, 3) := by decide +kernel
theorem dX9_handsDo_147 : decode cX9_handsDo 147 = .ok (.iload_n 3, 1) := by decide +kernel
theorem dX9_handsDo_148 : decode cX9_handsDo 148 = .ok (.iadd, 1) := by decide +kernel
theorem dX9_handsDo_149 : decode cX9_handsDo 149 = .ok (.iaload, 1) := by decide +kernel
theorem dX9_handsDo_150 : decode cX9_handsDo 150 = .ok (.aload_n 0, 1) := by decide +kernel
theorem dX9_handsDo_151 : decode cX9_handsDo 151 = .ok (.getfield 245, 3) := by decide +kernel
theorem dX9_handsDo_154 : decode cX9_handsDo 154 = .ok (.iconst 5, 1) := by decide +kernel
theorem dX9_handsDo_155 : decode cX9_handsDo 155 = .ok (.iaload, 1) := by decide +kernel
theorem dX9_handsDo_156 : decode cX9_handsDo 156 = .ok (.if_icmp .ge 6, 3) := by decide +kernel
theorem dX9_handsDo_159 : decode cX9_handsDo 159 = .ok (.goto 19, 3) := by decide +kernel
theorem dX9_handsDo_162 : decode cX9_handsDo 162 = .ok (.aload_n 1, 1) := by decide +kernel
theorem dX9_handsDo_163 : decode cX9_handsDo 163 = .ok (.sipush 280, 3) := by decide +kernel
theorem dX9_handsDo_166 : decode cX9_handsDo 166 = .ok (.iload_n 3, 1) := by decide +kernel
theorem dX9_handsDo_167 : decode cX9_handsDo 167 = .ok (.iadd, 1) := by decide +kernel
theorem dX9_handsDo_168 : decode cX9_handsDo 168 = .ok (.iconst 0, 1) := by decide +kernel
theorem dX9_handsDo_169 : decode cX9_handsDo 169 = .ok (.iastore, 1) := by decide +kernel
theorem dX9_handsDo_170 : decode cX9_handsDo 170 = .ok (.aload_n 1, 1) := by decide +kernel
theorem dX9_handsDo_171 : decode cX9_handsDo 171 = .ok (.sipush 284, 3) := by decide +kernel
theorem dX9_handsDo_174 : decode cX9_handsDo 174 = .ok (.iload_n 3, 1) := by decide +kernel
theorem dX9_handsDo_175 : decode cX9_handsDo 175 = .ok (.iadd, 1) := by decide +kernel
theorem dX9_handsDo_176 : decode cX9_handsDo 176 = .ok (.iconst 1, 1) := by decide +kernel
theorem dX9_handsDo_177 : decode cX9_handsDo 177 = .ok (.iastore, 1) := by decide +kernel
theorem dX9_handsDo_178 : decode cX9_handsDo 178 = .ok (.iinc 3 1, 3) := by decide +kernel
theorem dX9_handsDo_181 : decode cX9_handsDo 181 = .ok (.goto (-173), 3) := by decide +kernel
theorem dX9_handsDo_184 : decode cX9_handsDo 184 = .ok (.return_, 1) := by decide +kernel
theorem dX9_waveComes_0 : decode cX9_waveComes 0 = .ok (.aload_n 1, 1) := by decide +kernel
theorem dX9_waveComes_1 : decode cX9_waveComes 1 = .ok (.sipush 274, 3) := by decide +kernel
theorem dX9_waveComes_4 : decode cX9_waveComes 4 = .ok (.dup2, 1) := by decide +kernel
theorem dX9_waveComes_5 : decode cX9_waveComes 5 = .ok (.iaload, 1) := by decide +kernel
theorem dX9_waveComes_6 : decode cX9_waveComes 6 = .ok (.iconst 1, 1) := by decide +kernel
theorem dX9_waveComes_7 : decode cX9_waveComes 7 = .ok (.iadd, 1) := by decide +kernel
theorem dX9_waveComes_8 : decode cX9_waveComes 8 = .ok (.iastore, 1) := by decide +kernel
theorem dX9_waveComes_9 : decode cX9_waveComes 9 = .ok (.iconst 0, 1) := by decide +kernel
theorem dX9_waveComes_10 : decode cX9_waveComes 10 = .ok (.istore 4, 2) := by decide +kernel
theorem dX9_waveComes_12 : decode cX9_waveComes 12 = .ok (.iload 4, 2) := by decide +kernel
theorem dX9_waveComes_14 : decode cX9_waveComes 14 = .ok (.aload_n 0, 1) := by decide +kernel
