theorem dX1_isInsideBehindBegin_0 : decode cX1_isInsideBehindBegin 0 = .ok (.aload_n 0, 1) := by decide +kernel
theorem dX1_isInsideBehindBegin_1 : decode cX1_isInsideBehindBegin 1 = .ok (.getfield 22, 3) := by decide +kernel
theorem dX1_isInsideBehindBegin_4 : decode cX1_isInsideBehindBegin 4 = .ok (.getfield 182, 3) := by decide +kernel
theorem dX1_isInsideBehindBegin_7 : decode cX1_isInsideBehindBegin 7 = .ok (.iload_n 2, 1) := by decide +kernel
theorem dX1_isInsideBehindBegin_8 : decode cX1_isInsideBehindBegin 8 = .ok (.iaload, 1) := by decide +kernel
theorem dX1_isInsideBehindBegin_9 : decode cX1_isInsideBehindBegin 9 = .ok (.istore_n 3, 1) := by decide +kernel
theorem dX1_isInsideBehindBegin_10 : decode cX1_isInsideBehindBegin 10 = .ok (.aload_n 0, 1) := by decide +kernel
theorem dX1_isInsideBehindBegin_11 : decode cX1_isInsideBehindBegin 11 = .ok (.getfield 22, 3) := by decide +kernel
theorem dX1_isInsideBehindBegin_14 : decode cX1_isInsideBehindBegin 14 = .ok (.getfield 185, 3) := by decide +kernel
theorem dX1_isInsideBehindBegin_17 : decode cX1_isInsideBehindBegin 17 = .ok (.iload_n 2, 1) := by decide +kernel
theorem dX1_isInsideBehindBegin_18 : decode cX1_isInsideBehindBegin 18 = .ok (.iaload, 1) := by decide +kernel
theorem dX1_isInsideBehindBegin_19 : decode cX1_isInsideBehindBegin 19 = .ok (.istore 4, 2) := by decide +kernel
theorem dX1_isInsideBehindBegin_21 : decode cX1_isInsideBehindBegin 21 = .ok (.aload_n 0, 1) := by decide +kernel
theorem dX1_isInsideBehindBegin_22 : decode cX1_isInsideBehindBegin 22 = .ok (.getfield 22, 3) := by decide +kernel
theorem dX1_isInsideBehindBegin_25 : decode cX1_isInsideBehindBegin 25 = .ok (.getfield 172, 3) := by decide +kernel
theorem dX1_isInsideBehindBegin_28 : decode cX1_isInsideBehindBegin 28 = .ok (.iload_n 2, 1) := by decide +kernel
theorem dX1_isInsideBehindBegin_29 : decode cX1_isInsideBehindBegin 29 = .ok (.iaload, 1) := by decide +kernel
theorem dX1_isInsideBehindBegin_30 : decode cX1_isInsideBehindBegin 30 = .ok (.i2l, 1) := by decide +kernel
theorem dX1_isInsideBehindBegin_31 : decode cX1_isInsideBehindBegin 31 = .ok (.iload_n 3, 1) := by decide +kernel
theorem dX1_isInsideBehindBegin_32 : decode cX1_isInsideBehindBegin 32 = .ok (.i2l, 1) := by decide +kernel
theorem dX1_isInsideBehindBegin_33 : decode cX1_isInsideBehindBegin 33 = .ok (.lsub, 1) := by decide +kernel
theorem dX1_isInsideBehindBegin_34 : decode cX1_isInsideBehindBegin 34 = .ok (.lstore 5, 2) := by decide +kernel
theorem dX1_isInsideBehindBegin_36 : decode cX1_isInsideBehindBegin 36 = .ok (.aload_n 0, 1) := by decide +kernel
theorem dX1_isInsideBehindBegin_37 : decode cX1_isInsideBehindBegin 37 = .ok (.getfield 22, 3) := by decide +kernel
theorem dX1_isInsideBehindBegin_40 : decode cX1_isInsideBehindBegin 40 = .ok (.getfield 175, 3) := by decide +kernel
theorem dX1_isInsideBehindBegin_43 : decode cX1_isInsideBehindBegin 43 = .ok (.iload_n 2, 1) := by decide +kernel
theorem dX1_isInsideBehindBegin_44 : decode cX1_isInsideBehindBegin 44 = .ok (.iaload, 1) := by decide +kernel
theorem dX1_isInsideBehindBegin_45 : decode cX1_isInsideBehindBegin 45 = .ok (.i2l, 1) := by decide +kernel
theorem dX1_isInsideBehindBegin_46 : decode cX1_isInsideBehindBegin 46 = .ok (.iload 4, 2) := by decide +kernel
theorem dX1_isInsideBehindBegin_48 : decode cX1_isInsideBehindBegin 48 = .ok (.i2l, 1) := by decide +kernel
theorem dX1_isInsideBehindBegin_49 : decode cX1_isInsideBehindBegin 49 = .ok (.lsub, 1) := by decide +kernel
theorem dX1_isInsideBehindBegin_50 : decode cX1_isInsideBehindBegin 50 = .ok (.lstore 7, 2) := by decide +kernel
theorem dX1_isInsideBehindBegin_52 : decode cX1_isInsideBehindBegin 52 = .ok (.iconst 0, 1) := by decide +kernel
theorem dX1_isInsideBehindBegin_53 : decode cX1_isInsideBehindBegin 53 = .ok (.istore 9, 2) := by decide +kernel
theorem dX1_isInsideBehindBegin_55 : decode cX1_isInsideBehindBegin 55 = .ok (.aload_n 0, 1) := by decide +kernel
theorem dX1_isInsideBehindBegin_56 : decode cX1_isInsideBehindBegin 56 = .ok (.getfield 35, 3) := by decide +kernel
theorem dX1_isInsideBehindBegin_59 : decode cX1_isInsideBehindBegin 59 = .ok (.iload_n 1, 1) := by decide +kernel
theorem dX1_isInsideBehindBegin_60 : decode cX1_isInsideBehindBegin 60 = .ok (.iaload, 1) := by decide +kernel
theorem dX1_isInsideBehindBegin_61 : decode cX1_isInsideBehindBegin 61 = .ok (.istore 10, 2) := by decide +kernel
theorem dX1_isInsideBehindBegin_63 : decode cX1_isInsideBehindBegin 63 = .ok (.iload 10, 2) := by decide +kernel
theorem dX1_isInsideBehindBegin_65 : decode cX1_isInsideBehindBegin 65 = .ok (.aload_n 0, 1) := by decide +kernel
theorem dX1_isInsideBehindBegin_66 : decode cX1_isInsideBehindBegin 66 = .ok (.getfield 38, 3) := by decide +kernel
theorem dX1_isInsideBehindBegin_69 : decode cX1_isInsideBehindBegin 69 = .ok (.iload_n 1, 1) := by decide +kernel
theorem dX1_isInsideBehindBegin_70 : decode cX1_isInsideBehindBegin 70 = .ok (.iaload, 1) := by decide +kernel
theorem dX1_isInsideBehindBegin_71 : decode cX1_isInsideBehindBegin 71 = .ok (.if_icmp .ge 213, 3) := by decide +kernel
theorem dX1_isInsideBehindBegin_74 : decode cX1_isInsideBehindBegin 74 = .ok (.aload_n 0, 1) := by decide +kernel
theorem dX1_isInsideBehindBegin_75 : decode cX1_isInsideBehindBegin 75 = .ok (.getfield 22, 3) := by decide +kernel
theorem dX1_isInsideBehindBegin_78 : decode cX1_isInsideBehindBegin 78 = .ok (.getfield 185, 3) := by decide +kernel
theorem dX1_isInsideBehindBegin_81 : decode cX1_isInsideBehindBegin 81 = .ok (.iload 10, 2) := by decide +kernel
theorem dX1_isInsideBehindBegin_83 : decode cX1_isInsideBehindBegin 83 = .ok (.iaload, 1) := by decide +kernel
theorem dX1_isInsideBehindBegin_84 : decode cX1_isInsideBehindBegin 84 = .ok (.iload 4, 2) := by decide +kernel
theorem dX1_isInsideBehindBegin_86 : decode cX1_isInsideBehindBegin 86 = .ok (.if_icmp .gt 25, 3) := by decide +kernel
theorem dX1_isInsideBehindBegin_89 : decode cX1_isInsideBehindBegin 89 = .ok (.aload_n 0, 1) := by decide +kernel
theorem dX1_isInsideBehindBegin_90 : decode cX1_isInsideBehindBegin 90 = .ok (.getfield 22, 3) := by decide +kernel
theorem dX1_isInsideBehindBegin_93 : decode cX1_isInsideBehindBegin 93 = .ok (.getfield 185, 3) := by decide +kernel
theorem dX1_isInsideBehindBegin_96 : decode cX1_isInsideBehindBegin 96 = .ok (.iload 10, 2) := by decide +kernel
theorem dX1_isInsideBehindBegin_98 : decode cX1_isInsideBehindBegin 98 = .ok (.iaload, 1) := by decide +kernel
theorem dX1_isInsideBehindBegin_99 : decode cX1_isInsideBehindBegin 99 = .ok (.iload 4, 2) := by decide +kernel
theorem dX1_isInsideBehindBegin_101 : decode cX1_isInsideBehindBegin 101 = .ok (.if_icmp .ne 14, 3) := by decide +kernel
theorem dX1_isInsideBehindBegin_104 : decode cX1_isInsideBehindBegin 104 = .ok (.lload 7, 2) := by decide +kernel
theorem dX1_isInsideBehindBegin_106 : decode cX1_isInsideBehindBegin 106 = .ok (.lconst 0, 1) := by decide +kernel
theorem dX1_isInsideBehindBegin_107 : decode cX1_isInsideBehindBegin 107 = .ok (.lcmp, 1) := by decide +kernel
theorem dX1_isInsideBehindBegin_108 : decode cX1_isInsideBehindBegin 108 = .ok (.ifCond .ge 7, 3) := by decide +kernel
theorem dX1_isInsideBehindBegin_111 : decode cX1_isInsideBehindBegin 111 = .ok (.iconst 1, 1) := by decide +kernel
theorem dX1_isInsideBehindBegin_112 : decode cX1_isInsideBehindBegin 112 = .ok (.goto 4, 3) := by decide +kernel
theorem dX1_isInsideBehindBegin_115 : decode cX1_isInsideBehindBegin 115 = .ok (.iconst 0, 1) := by decide +kernel
theorem dX1_isInsideBehindBegin_116 : decode cX1_isInsideBehindBegin 116 = .ok (.istore 11, 2) := by decide +kernel
theorem dX1_isInsideBehindBegin_118 : decode cX1_isInsideBehindBegin 118 = .ok (.aload_n 0, 1) := by decide +kernel
theorem dX1_isInsideBehindBegin_119 : decode cX1_isInsideBehindBegin 119 = .ok (.getfield 22, 3) := by decide +kernel
theorem dX1_isInsideBehindBegin_122 : decode cX1_isInsideBehindBegin 122 = .ok (.getfield 175, 3) := by decide +kernel
theorem dX1_isInsideBehindBegin_125 : decode cX1_isInsideBehindBegin 125 = .ok (.iload 10, 2) := by decide +kernel
theorem dX1_isInsideBehindBegin_127 : decode cX1_isInsideBehindBegin 127 = .ok (.iaload, 1) := by decide +kernel
theorem dX1_isInsideBehindBegin_128 : decode cX1_isInsideBehindBegin 128 = .ok (.iload 4, 2) := by decide +kernel
theorem dX1_isInsideBehindBegin_130 : decode cX1_isInsideBehindBegin 130 = .ok (.if_icmp .gt 25, 3) := by decide +kernel
theorem dX1_isInsideBehindBegin_133 : decode cX1_isInsideBehindBegin 133 = .ok (.aload_n 0, 1) := by decide +kernel
theorem dX1_isInsideBehindBegin_134 : decode cX1_isInsideBehindBegin 134 = .ok (.getfield 22, 3) := by decide +kernel
theorem dX1_isInsideBehindBegin_137 : decode cX1_isInsideBehindBegin 137 = .ok (.getfield 175, 3) := by decide +kernel
theorem dX1_isInsideBehindBegin_140 : decode cX1_isInsideBehindBegin 140 = .ok (.iload 10, 2) := by decide +kernel
theorem dX1_isInsideBehindBegin_142 : decode cX1_isInsideBehindBegin 142 = .ok (.iaload, 1) := by decide +kernel
theorem dX1_isInsideBehindBegin_143 : decode cX1_isInsideBehindBegin 143 = .ok (.iload 4, 2) := by decide +kernel
theorem dX1_isInsideBehindBegin_145 : decode cX1_isInsideBehindBegin 145 = .ok (.if_icmp .ne 14, 3) := by decide +kernel
theorem dX1_isInsideBehindBegin_148 : decode cX1_isInsideBehindBegin 148 = .ok (.lload 7, 2) := by decide +kernel
theorem dX1_isInsideBehindBegin_150 : decode cX1_isInsideBehindBegin 150 = .ok (.lconst 0, 1) := by decide +kernel
theorem dX1_isInsideBehindBegin_151 : decode cX1_isInsideBehindBegin 151 = .ok (.lcmp, 1) := by decide +kernel
theorem dX1_isInsideBehindBegin_152 : decode cX1_isInsideBehindBegin 152 = .ok (.ifCond .ge 7, 3) := by decide +kernel
theorem dX1_isInsideBehindBegin_155 : decode cX1_isInsideBehindBegin 155 = .ok (.iconst 1, 1) := by decide +kernel
theorem dX1_isInsideBehindBegin_156 : decode cX1_isInsideBehindBegin 156 = .ok (.goto 4, 3) := by decide +kernel
theorem dX1_isInsideBehindBegin_159 : decode cX1_isInsideBehindBegin 159 = .ok (.iconst 0, 1) := by decide +kernel
theorem dX1_isInsideBehindBegin_160 : decode cX1_isInsideBehindBegin 160 = .ok (.istore 12, 2) := by decide +kernel
theorem dX1_isInsideBehindBegin_162 : decode cX1_isInsideBehindBegin 162 = .ok (.iload 11, 2) := by decide +kernel
theorem dX1_isInsideBehindBegin_164 : decode cX1_isInsideBehindBegin 164 = .ok (.iload 12, 2) := by decide +kernel
theorem dX1_isInsideBehindBegin_166 : decode cX1_isInsideBehindBegin 166 = .ok (.if_icmp .ne 6, 3) := by decide +kernel
theorem dX1_isInsideBehindBegin_169 : decode cX1_isInsideBehindBegin 169 = .ok (.goto 109, 3) := by decide +kernel
theorem dX1_isInsideBehindBegin_172 : decode cX1_isInsideBehindBegin 172 = .ok (.aload_n 0, 1) := by decide +kernel
theorem dX1_isInsideBehindBegin_173 : decode cX1_isInsideBehindBegin 173 = .ok (.getfield 22, 3) := by decide +kernel
theorem dX1_isInsideBehindBegin_176 : decode cX1_isInsideBehindBegin 176 = .ok (.iload 10, 2) := by decide +kernel
theorem dX1_isInsideBehindBegin_178 : decode cX1_isInsideBehindBegin 178 = .ok (.iload_n 3, 1) := by decide +kernel
theorem dX1_isInsideBehindBegin_179 : decode cX1_isInsideBehindBegin 179 = .ok (.iload 4, 2) := by decide +kernel
theorem dX1_isInsideBehindBegin_181 : decode cX1_isInsideBehindBegin 181 = .ok (.invokevirtual 208, 3) := by decide +kernel
theorem dX1_isInsideBehindBegin_184 : decode cX1_isInsideBehindBegin 184 = .ok (.istore 13, 2) := by decide +kernel
theorem dX1_isInsideBehindBegin_186 : decode cX1_isInsideBehindBegin 186 = .ok (.iload 13, 2) := by decide +kernel
theorem dX1_isInsideBehindBegin_188 : decode cX1_isInsideBehindBegin 188 = .ok (.ifCond .ne 60, 3) := by decide +kernel
theorem dX1_isInsideBehindBegin_191 : decode cX1_isInsideBehindBegin 191 = .ok (.lconst 0, 1) := by decide +kernel
theorem dX1_isInsideBehindBegin_192 : decode cX1_isInsideBehindBegin 192 = .ok (.lconst 0, 1) := by decide +kernel
theorem dX1_isInsideBehindBegin_193 : decode cX1_isInsideBehindBegin 193 = .ok (.aload_n 0, 1) := by decide +kernel
theorem dX1_isInsideBehindBegin_194 : decode cX1_isInsideBehindBegin 194 = .ok (.getfield 22, 3) := by decide +kernel
theorem dX1_isInsideBehindBegin_197 : decode cX1_isInsideBehindBegin 197 = .ok (.getfield 172, 3) := by decide +kernel
theorem dX1_isInsideBehindBegin_200 : decode cX1_isInsideBehindBegin 200 = .ok (.iload 10, 2) := by decide +kernel
theorem dX1_isInsideBehindBegin_202 : decode cX1_isInsideBehindBegin 202 = .ok (.iaload, 1) := by decide +kernel
theorem dX1_isInsideBehindBegin_203 : decode cX1_isInsideBehindBegin 203 = .ok (.i2l, 1) := by decide +kernel
theorem dX1_isInsideBehindBegin_204 : decode cX1_isInsideBehindBegin 204 = .ok (.aload_n 0, 1) := by decide +kernel
theorem dX1_isInsideBehindBegin_205 : decode cX1_isInsideBehindBegin 205 = .ok (.getfield 22, 3) := by decide +kernel
theorem dX1_isInsideBehindBegin_208 : decode cX1_isInsideBehindBegin 208 = .ok (.getfield 182, 3) := by decide +kernel
theorem dX1_isInsideBehindBegin_211 : decode cX1_isInsideBehindBegin 211 = .ok (.iload 10, 2) := by decide +kernel
theorem dX1_isInsideBehindBegin_213 : decode cX1_isInsideBehindBegin 213 = .ok (.iaload, 1) := by decide +kernel
theorem dX1_isInsideBehindBegin_214 : decode cX1_isInsideBehindBegin 214 = .ok (.i2l, 1) := by decide +kernel
theorem dX1_isInsideBehindBegin_215 : decode cX1_isInsideBehindBegin 215 = .ok (.lsub, 1) := by decide +kernel
theorem dX1_isInsideBehindBegin_216 : decode cX1_isInsideBehindBegin 216 = .ok (.aload_n 0, 1) := by decide +kernel
theorem dX1_isInsideBehindBegin_217 : decode cX1_isInsideBehindBegin 217 = .ok (.getfield 22, 3) := by decide +kernel
theorem dX1_isInsideBehindBegin_220 : decode cX1_isInsideBehindBegin 220 = .ok (.getfield 175, 3) := by decide +kernel
theorem dX1_isInsideBehindBegin_223 : decode cX1_isInsideBehindBegin 223 = .ok (.iload 10, 2) := by decide +kernel
theorem dX1_isInsideBehindBegin_225 : decode cX1_isInsideBehindBegin 225 = .ok (.iaload, 1) := by decide +kernel
theorem dX1_isInsideBehindBegin_226 : decode cX1_isInsideBehindBegin 226 = .ok (.i2l, 1) := by decide +kernel
theorem dX1_isInsideBehindBegin_227 : decode cX1_isInsideBehindBegin 227 = .ok (.aload_n 0, 1) := by decide +kernel
theorem dX1_isInsideBehindBegin_228 : decode cX1_isInsideBehindBegin 228 = .ok (.getfield 22, 3) := by decide +kernel
theorem dX1_isInsideBehindBegin_231 : decode cX1_isInsideBehindBegin 231 = .ok (.getfield 185, 3) := by decide +kernel
theorem dX1_isInsideBehindBegin_234 : decode cX1_isInsideBehindBegin 234 = .ok (.iload 10, 2) := by decide +kernel
theorem dX1_isInsideBehindBegin_236 : decode cX1_isInsideBehindBegin 236 = .ok (.iaload, 1) := by decide +kernel
theorem dX1_isInsideBehindBegin_237 : decode cX1_isInsideBehindBegin 237 = .ok (.i2l, 1) := by decide +kernel
theorem dX1_isInsideBehindBegin_238 : decode cX1_isInsideBehindBegin 238 = .ok (.lsub, 1) := by decide +kernel
theorem dX1_isInsideBehindBegin_239 : decode cX1_isInsideBehindBegin 239 = .ok (.lload 5, 2) := by decide +kernel
theorem dX1_isInsideBehindBegin_241 : decode cX1_isInsideBehindBegin 241 = .ok (.lload 7, 2) := by decide +kernel
theorem dX1_isInsideBehindBegin_243 : decode cX1_isInsideBehindBegin 243 = .ok (.invokestatic 188, 3) := by decide +kernel
theorem dX1_isInsideBehindBegin_246 : decode cX1_isInsideBehindBegin 246 = .ok (.istore 13, 2) := by decide +kernel
theorem dX1_isInsideBehindBegin_248 : decode cX1_isInsideBehindBegin 248 = .ok (.iload 12, 2) := by decide +kernel
theorem dX1_isInsideBehindBegin_250 : decode cX1_isInsideBehindBegin 250 = .ok (.ifCond .eq 11, 3) := by decide +kernel
theorem dX1_isInsideBehindBegin_253 : decode cX1_isInsideBehindBegin 253 = .ok (.iload 13, 2) := by decide +kernel
theorem dX1_isInsideBehindBegin_255 : decode cX1_isInsideBehindBegin 255 = .ok (.ifCond .le 23, 3) := by decide +kernel
theorem dX1_isInsideBehindBegin_258 : decode cX1_isInsideBehindBegin 258 = .ok (.goto 8, 3) := by decide +kernel
theorem dX1_isInsideBehindBegin_261 : decode cX1_isInsideBehindBegin 261 = .ok (.iload 13, 2) := by decide +kernel
theorem dX1_isInsideBehindBegin_263 : decode cX1_isInsideBehindBegin 263 = .ok (.ifCond .ge 15, 3) := by decide +kernel
theorem dX1_isInsideBehindBegin_266 : decode cX1_isInsideBehindBegin 266 = .ok (.iload 9, 2) := by decide +kernel
theorem dX1_isInsideBehindBegin_268 : decode cX1_isInsideBehindBegin 268 = .ok (.ifCond .ne 7, 3) := by decide +kernel
theorem dX1_isInsideBehindBegin_271 : decode cX1_isInsideBehindBegin 271 = .ok (.iconst 1, 1) := by decide +kernel
theorem dX1_isInsideBehindBegin_272 : decode cX1_isInsideBehindBegin 272 = .ok (.goto 4, 3) := by decide +kernel
theorem dX1_isInsideBehindBegin_275 : decode cX1_isInsideBehindBegin 275 = .ok (.iconst 0, 1) := by decide +kernel
theorem dX1_isInsideBehindBegin_276 : decode cX1_isInsideBehindBegin 276 = .ok (.istore 9, 2) := by decide +kernel
theorem dX1_isInsideBehindBegin_278 : decode cX1_isInsideBehindBegin 278 = .ok (.iinc 10 1, 3) := by decide +kernel
theorem dX1_isInsideBehindBegin_281 : decode cX1_isInsideBehindBegin 281 = .ok (.goto (-218), 3) := by decide +kernel
theorem dX1_isInsideBehindBegin_284 : decode cX1_isInsideBehindBegin 284 = .ok (.iload 9, 2) := by decide +kernel
theorem dX1_isInsideBehindBegin_286 : decode cX1_isInsideBehindBegin 286 = .ok (.ireturn, 1) := by decide +kernel
theorem dX1_isSplit_0 : decode cX1_isSplit 0 = .ok (.aload_n 0, 1) := by decide +kernel
theorem dX1_isSplit_1 : decode cX1_isSplit 1 = .ok (.getfield 44, 3) := by decide +kernel
theorem dX1_isSplit_4 : decode cX1_isSplit 4 = .ok (.iload_n 1, 1) := by decide +kernel
theorem dX1_isSplit_5 : decode cX1_isSplit 5 = .ok (.iaload, 1) := by decide +kernel
theorem dX1_isSplit_6 : decode cX1_isSplit 6 = .ok (.aload_n 0, 1) := by decide +kernel
theorem dX1_isSplit_7 : decode cX1_isSplit 7 = .ok (.getfield 41, 3) := by decide +kernel
theorem dX1_isSplit_10 : decode cX1_isSplit 10 = .ok (.iload_n 1, 1) := by decide +kernel
theorem dX1_isSplit_11 : decode cX1_isSplit 11 = .ok (.iaload, 1) := by decide +kernel
theorem dX1_isSplit_12 : decode cX1_isSplit 12 = .ok (.isub, 1) := by decide +kernel
theorem dX1_isSplit_13 : decode cX1_isSplit 13 = .ok (.iconst 2, 1) := by decide +kernel
theorem dX1_isSplit_14 : decode cX1_isSplit 14 = .ok (.if_icmp .ge 5, 3) := by decide +kernel
theorem dX1_isSplit_17 : decode cX1_isSplit 17 = .ok (.iconst 0, 1) := by decide +kernel
theorem dX1_isSplit_18 : decode cX1_isSplit 18 = .ok (.ireturn, 1) := by decide +kernel
theorem dX1_isSplit_19 : decode cX1_isSplit 19 = .ok (.aload_n 0, 1) := by decide +kernel
theorem dX1_isSplit_20 : decode cX1_isSplit 20 = .ok (.getfield 41, 3) := by decide +kernel
theorem dX1_isSplit_23 : decode cX1_isSplit 23 = .ok (.iload_n 1, 1) := by decide +kernel
theorem dX1_isSplit_24 : decode cX1_isSplit 24 = .ok (.iaload, 1) := by decide +kernel
theorem dX1_isSplit_25 : decode cX1_isSplit 25 = .ok (.istore_n 2, 1) := by decide +kernel
theorem dX1_isSplit_26 : decode cX1_isSplit 26 = .ok (.iload_n 2, 1) := by decide +kernel
theorem dX1_isSplit_27 : decode cX1_isSplit 27 = .ok (.aload_n 0, 1) := by decide +kernel
theorem dX1_isSplit_28 : decode cX1_isSplit 28 = .ok (.getfield 44, 3) := by decide +kernel
theorem dX1_isSplit_31 : decode cX1_isSplit 31 = .ok (.iload_n 1, 1) := by decide +kernel
theorem dX1_isSplit_32 : decode cX1_isSplit 32 = .ok (.iaload, 1) := by decide +kernel
theorem dX1_isSplit_33 : decode cX1_isSplit 33 = .ok (.if_icmp .ge 16, 3) := by decide +kernel
theorem dX1_isSplit_36 : decode cX1_isSplit 36 = .ok (.aload_n 0, 1) := by decide +kernel
theorem dX1_isSplit_37 : decode cX1_isSplit 37 = .ok (.getfield 47, 3) := by decide +kernel
theorem dX1_isSplit_40 : decode cX1_isSplit 40 = .ok (.iload_n 2, 1) := by decide +kernel
theorem dX1_isSplit_41 : decode cX1_isSplit 41 = .ok (.iload_n 2, 1) := by decide +kernel
theorem dX1_isSplit_42 : decode cX1_isSplit 42 = .ok (.iastore, 1) := by decide +kernel
theorem dX1_isSplit_43 : decode cX1_isSplit 43 = .ok (.iinc 2 1, 3) := by decide +kernel
theorem dX1_isSplit_46 : decode cX1_isSplit 46 = .ok (.goto (-20), 3) := by decide +kernel
theorem dX1_isSplit_49 : decode cX1_isSplit 49 = .ok (.aload_n 0, 1) := by decide +kernel
theorem dX1_isSplit_50 : decode cX1_isSplit 50 = .ok (.getfield 41, 3) := by decide +kernel
theorem dX1_isSplit_53 : decode cX1_isSplit 53 = .ok (.iload_n 1, 1) := by decide +kernel
theorem dX1_isSplit_54 : decode cX1_isSplit 54 = .ok (.iaload, 1) := by decide +kernel
theorem dX1_isSplit_55 : decode cX1_isSplit 55 = .ok (.istore_n 2, 1) := by decide +kernel
theorem dX1_isSplit_56 : decode cX1_isSplit 56 = .ok (.iload_n 2, 1) := by decide +kernel
theorem dX1_isSplit_57 : decode cX1_isSplit 57 = .ok (.aload_n 0, 1) := by decide +kernel
theorem dX1_isSplit_58 : decode cX1_isSplit 58 = .ok (.getfield 44, 3) := by decide +kernel
theorem dX1_isSplit_61 : decode cX1_isSplit 61 = .ok (.iload_n 1, 1) := by decide +kernel
theorem dX1_isSplit_62 : decode cX1_isSplit 62 = .ok (.iaload, 1) := by decide +kernel
theorem dX1_isSplit_63 : decode cX1_isSplit 63 = .ok (.if_icmp .ge 61, 3) := by decide +kernel
theorem dX1_isSplit_66 : decode cX1_isSplit 66 = .ok (.aload_n 0, 1) := by decide +kernel
theorem dX1_isSplit_67 : decode cX1_isSplit 67 = .ok (.getfield 35, 3) := by decide +kernel
theorem dX1_isSplit_70 : decode cX1_isSplit 70 = .ok (.iload_n 2, 1) := by decide +kernel
theorem dX1_isSplit_71 : decode cX1_isSplit 71 = .ok (.iaload, 1) := by decide +kernel
theorem dX1_isSplit_72 : decode cX1_isSplit 72 = .ok (.istore_n 3, 1) := by decide +kernel
theorem dX1_isSplit_73 : decode cX1_isSplit 73 = .ok (.iload_n 3, 1) := by decide +kernel
theorem dX1_isSplit_74 : decode cX1_isSplit 74 = .ok (.aload_n 0, 1) := by decide +kernel
theorem dX1_isSplit_75 : decode cX1_isSplit 75 = .ok (.getfield 38, 3) := by decide +kernel
theorem dX1_isSplit_78 : decode cX1_isSplit 78 = .ok (.iload_n 2, 1) := by decide +kernel
theorem dX1_isSplit_79 : decode cX1_isSplit 79 = .ok (.iaload, 1) := by decide +kernel
theorem dX1_isSplit_80 : decode cX1_isSplit 80 = .ok (.if_icmp .ge 38, 3) := by decide +kernel
theorem dX1_isSplit_83 : decode cX1_isSplit 83 = .ok (.aload_n 0, 1) := by decide +kernel
theorem dX1_isSplit_84 : decode cX1_isSplit 84 = .ok (.iload_n 1, 1) := by decide +kernel
theorem dX1_isSplit_85 : decode cX1_isSplit 85 = .ok (.iload_n 2, 1) := by decide +kernel
theorem dX1_isSplit_86 : decode cX1_isSplit 86 = .ok (.aload_n 0, 1) := by decide +kernel
theorem dX1_isSplit_87 : decode cX1_isSplit 87 = .ok (.getfield 22, 3) := by decide +kernel
theorem dX1_isSplit_90 : decode cX1_isSplit 90 = .ok (.getfield 182, 3) := by decide +kernel
theorem dX1_isSplit_93 : decode cX1_isSplit 93 = .ok (.iload_n 3, 1) := by decide +kernel
theorem dX1_isSplit_94 : decode cX1_isSplit 94 = .ok (.iaload, 1) := by decide +kernel
theorem dX1_isSplit_95 : decode cX1_isSplit 95 = .ok (.aload_n 0, 1) := by decide +kernel
theorem dX1_isSplit_96 : decode cX1_isSplit 96 = .ok (.getfield 22, 3) := by decide +kernel
theorem dX1_isSplit_99 : decode cX1_isSplit 99 = .ok (.getfield 185, 3) := by decide +kernel
theorem dX1_isSplit_102 : decode cX1_isSplit 102 = .ok (.iload_n 3, 1) := by decide +kernel
theorem dX1_isSplit_103 : decode cX1_isSplit 103 = .ok (.iaload, 1) := by decide +kernel
theorem dX1_isSplit_104 : decode cX1_isSplit 104 = .ok (.invokevirtual 211, 3) := by decide +kernel
theorem dX1_isSplit_107 : decode cX1_isSplit 107 = .ok (.ifCond .eq 5, 3) := by decide +kernel
theorem dX1_isSplit_110 : decode cX1_isSplit 110 = .ok (.iconst 1, 1) := by decide +kernel
theorem dX1_isSplit_111 : decode cX1_isSplit 111 = .ok (.ireturn, 1) := by decide +kernel
theorem dX1_isSplit_112 : decode cX1_isSplit 112 = .ok (.iinc 3 1, 3) := by decide +kernel
theorem dX1_isSplit_115 : decode cX1_isSplit 115 = .ok (.goto (-42), 3) := by decide +kernel
theorem dX1_isSplit_118 : decode cX1_isSplit 118 = .ok (.iinc 2 1, 3) := by decide +kernel
theorem dX1_isSplit_121 : decode cX1_isSplit 121 = .ok (.goto (-65), 3) := by decide +kernel
theorem dX1_isSplit_124 : decode cX1_isSplit 124 = .ok (.iconst 0, 1) := by decide +kernel
theorem dX1_isSplit_125 : decode cX1_isSplit 125 = .ok (.ireturn, 1) := by decide +kernel
theorem dX1_joinsInRound_0 : decode cX1_joinsInRound 0 = .ok (.aload_n 0, 1) := by decide +kernel
theorem dX1_joinsInRound_1 : decode cX1_joinsInRound 1 = .ok (.getfield 35, 3) := by decide +kernel
theorem dX1_joinsInRound_4 : decode cX1_joinsInRound 4 = .ok (.aload_n 0, 1) := by decide +kernel
theorem dX1_joinsInRound_5 : decode cX1_joinsInRound 5 = .ok (.getfield 41, 3) := by decide +kernel
theorem dX1_joinsInRound_8 : decode cX1_joinsInRound 8 = .ok (.iload_n 1, 1) := by decide +kernel
theorem dX1_joinsInRound_9 : decode cX1_joinsInRound 9 = .ok (.iaload, 1) := by decide +kernel
theorem dX1_joinsInRound_10 : decode cX1_joinsInRound 10 = .ok (.iaload, 1) := by decide +kernel
theorem dX1_joinsInRound_11 : decode cX1_joinsInRound 11 = .ok (.istore 5, 2) := by decide +kernel
theorem dX1_joinsInRound_13 : decode cX1_joinsInRound 13 = .ok (.iload 5, 2) := by decide +kernel
theorem dX1_joinsInRound_15 : decode cX1_joinsInRound 15 = .ok (.aload_n 0, 1) := by decide +kernel
theorem dX1_joinsInRound_16 : decode cX1_joinsInRound 16 = .ok (.getfield 35, 3) := by decide +kernel
theorem dX1_joinsInRound_19 : decode cX1_joinsInRound 19 = .ok (.iload_n 2, 1) := by decide +kernel
theorem dX1_joinsInRound_20 : decode cX1_joinsInRound 20 = .ok (.iaload, 1) := by decide +kernel
theorem dX1_joinsInRound_21 : decode cX1_joinsInRound 21 = .ok (.if_icmp .ge 26, 3) := by decide +kernel
theorem dX1_joinsInRound_24 : decode cX1_joinsInRound 24 = .ok (.aload_n 0, 1) := by decide +kernel
theorem dX1_joinsInRound_25 : decode cX1_joinsInRound 25 = .ok (.getfield 22, 3) := by decide +kernel
theorem dX1_joinsInRound_28 : decode cX1_joinsInRound 28 = .ok (.iload 5, 2) := by decide +kernel
theorem dX1_joinsInRound_30 : decode cX1_joinsInRound 30 = .ok (.iload_n 3, 1) := by decide +kernel
theorem dX1_joinsInRound_31 : decode cX1_joinsInRound 31 = .ok (.iload 4, 2) := by decide +kernel
theorem dX1_joinsInRound_33 : decode cX1_joinsInRound 33 = .ok (.invokevirtual 169, 3) := by decide +kernel
theorem dX1_joinsInRound_36 : decode cX1_joinsInRound 36 = .ok (.ifCond .eq 5, 3) := by decide +kernel
theorem dX1_joinsInRound_39 : decode cX1_joinsInRound 39 = .ok (.iconst 0, 1) := by decide +kernel
theorem dX1_joinsInRound_40 : decode cX1_joinsInRound 40 = .ok (.ireturn, 1) := by decide +kernel
theorem dX1_joinsInRound_41 : decode cX1_joinsInRound 41 = .ok (.iinc 5 1, 3) := by decide +kernel
theorem dX1_joinsInRound_44 : decode cX1_joinsInRound 44 = .ok (.goto (-31), 3) := by decide +kernel
theorem dX1_joinsInRound_47 : decode cX1_joinsInRound 47 = .ok (.aload_n 0, 1) := by decide +kernel
theorem dX1_joinsInRound_48 : decode cX1_joinsInRound 48 = .ok (.getfield 41, 3) := by decide +kernel
theorem dX1_joinsInRound_51 : decode cX1_joinsInRound 51 = .ok (.iload_n 1, 1) := by decide +kernel
theorem dX1_joinsInRound_52 : decode cX1_joinsInRound 52 = .ok (.iaload, 1) := by decide +kernel
theorem dX1_joinsInRound_53 : decode cX1_joinsInRound 53 = .ok (.istore 5, 2) := by decide +kernel
theorem dX1_joinsInRound_55 : decode cX1_joinsInRound 55 = .ok (.iload 5, 2) := by decide +kernel
theorem dX1_joinsInRound_57 : decode cX1_joinsInRound 57 = .ok (.aload_n 0, 1) := by decide +kernel
theorem dX1_joinsInRound_58 : decode cX1_joinsInRound 58 = .ok (.getfield 44, 3) := by decide +kernel
theorem dX1_joinsInRound_61 : decode cX1_joinsInRound 61 = .ok (.iload_n 1, 1) := by decide +kernel
theorem dX1_joinsInRound_62 : decode cX1_joinsInRound 62 = .ok (.iaload, 1) := by decide +kernel
theorem dX1_joinsInRound_63 : decode cX1_joinsInRound 63 = .ok (.if_icmp .ge 63, 3) := by decide +kernel
theorem dX1_joinsInRound_66 : decode cX1_joinsInRound 66 = .ok (.iload 5, 2) := by decide +kernel
theorem dX1_joinsInRound_68 : decode cX1_joinsInRound 68 = .ok (.iload_n 2, 1) := by decide +kernel
theorem dX1_joinsInRound_69 : decode cX1_joinsInRound 69 = .ok (.if_icmp .eq 51, 3) := by decide +kernel
theorem dX1_joinsInRound_72 : decode cX1_joinsInRound 72 = .ok (.aload_n 0, 1) := by decide +kernel
theorem dX1_joinsInRound_73 : decode cX1_joinsInRound 73 = .ok (.iload 5, 2) := by decide +kernel
theorem dX1_joinsInRound_75 : decode cX1_joinsInRound 75 = .ok (.iload_n 3, 1) := by decide +kernel
theorem dX1_joinsInRound_76 : decode cX1_joinsInRound 76 = .ok (.iload 4, 2) := by decide +kernel
theorem dX1_joinsInRound_78 : decode cX1_joinsInRound 78 = .ok (.invokevirtual 214, 3) := by decide +kernel
theorem dX1_joinsInRound_81 : decode cX1_joinsInRound 81 = .ok (.ifCond .ne 6, 3) := by decide +kernel
theorem dX1_joinsInRound_84 : decode cX1_joinsInRound 84 = .ok (.goto 36, 3) := by decide +kernel
theorem dX1_joinsInRound_87 : decode cX1_joinsInRound 87 = .ok (.aload_n 0, 1) := by decide +kernel
theorem dX1_joinsInRound_88 : decode cX1_joinsInRound 88 = .ok (.iload_n 2, 1) := by decide +kernel
theorem dX1_joinsInRound_89 : decode cX1_joinsInRound 89 = .ok (.invokevirtual 217, 3) := by decide +kernel
theorem dX1_joinsInRound_92 : decode cX1_joinsInRound 92 = .ok (.istore 6, 2) := by decide +kernel
theorem dX1_joinsInRound_94 : decode cX1_joinsInRound 94 = .ok (.aload_n 0, 1) := by decide +kernel
theorem dX1_joinsInRound_95 : decode cX1_joinsInRound 95 = .ok (.iload 5, 2) := by decide +kernel
theorem dX1_joinsInRound_97 : decode cX1_joinsInRound 97 = .ok (.invokevirtual 217, 3) := by decide +kernel
theorem dX1_joinsInRound_100 : decode cX1_joinsInRound 100 = .ok (.istore 7, 2) := by decide +kernel
theorem dX1_joinsInRound_102 : decode cX1_joinsInRound 102 = .ok (.iload 6, 2) := by decide +kernel
theorem dX1_joinsInRound_104 : decode cX1_joinsInRound 104 = .ok (.iload 7, 2) := by decide +kernel
theorem dX1_joinsInRound_106 : decode cX1_joinsInRound 106 = .ok (.if_icmp .ne 5, 3) := by decide +kernel
theorem dX1_joinsInRound_109 : decode cX1_joinsInRound 109 = .ok (.iconst 1, 1) := by decide +kernel
theorem dX1_joinsInRound_110 : decode cX1_joinsInRound 110 = .ok (.ireturn, 1) := by decide +kernel
theorem dX1_joinsInRound_111 : decode cX1_joinsInRound 111 = .ok (.aload_n 0, 1) := by decide +kernel
theorem dX1_joinsInRound_112 : decode cX1_joinsInRound 112 = .ok (.getfield 47, 3) := by decide +kernel
theorem dX1_joinsInRound_115 : decode cX1_joinsInRound 115 = .ok (.iload 7, 2) := by decide +kernel
theorem dX1_joinsInRound_117 : decode cX1_joinsInRound 117 = .ok (.iload 6, 2) := by decide +kernel
theorem dX1_joinsInRound_119 : decode cX1_joinsInRound 119 = .ok (.iastore, 1) := by decide +kernel
theorem dX1_joinsInRound_120 : decode cX1_joinsInRound 120 = .ok (.iinc 5 1, 3) := by decide +kernel
theorem dX1_joinsInRound_123 : decode cX1_joinsInRound 123 = .ok (.goto (-68), 3) := by decide +kernel
theorem dX1_joinsInRound_126 : decode cX1_joinsInRound 126 = .ok (.iconst 0, 1) := by decide +kernel
theorem dX1_joinsInRound_127 : decode cX1_joinsInRound 127 = .ok (.ireturn, 1) := by decide +kernel
theorem dX1_passes_0 : decode cX1_passes 0 = .ok (.aload_n 0, 1) := by decide +kernel
theorem dX1_passes_1 : decode cX1_passes 1 = .ok (.getfield 35, 3) := by decide +kernel
theorem dX1_passes_4 : decode cX1_passes 4 = .ok (.iload_n 1, 1) := by decide +kernel
theorem dX1_passes_5 : decode cX1_passes 5 = .ok (.iaload, 1) := by decide +kernel
theorem dX1_passes_6 : decode cX1_passes 6 = .ok (.istore 4, 2) := by decide +kernel
theorem dX1_passes_8 : decode cX1_passes 8 = .ok (.iload 4, 2) := by decide +kernel
theorem dX1_passes_10 : decode cX1_passes 10 = .ok (.aload_n 0, 1) := by decide +kernel
theorem dX1_passes_11 : decode cX1_passes 11 = .ok (.getfield 38, 3) := by decide +kernel
theorem dX1_passes_14 : decode cX1_passes 14 = .ok (.iload_n 1, 1) := by decide +kernel
theorem dX1_passes_15 : decode cX1_passes 15 = .ok (.iaload, 1) := by decide +kernel
theorem dX1_passes_16 : decode cX1_passes 16 = .ok (.if_icmp .ge 59, 3) := by decide +kernel
theorem dX1_passes_19 : decode cX1_passes 19 = .ok (.aload_n 0, 1) := by decide +kernel
theorem dX1_passes_20 : decode cX1_passes 20 = .ok (.getfield 22, 3) := by decide +kernel
theorem dX1_passes_23 : decode cX1_passes 23 = .ok (.getfield 182, 3) := by decide +kernel
theorem dX1_passes_26 : decode cX1_passes 26 = .ok (.iload 4, 2) := by decide +kernel
theorem dX1_passes_28 : decode cX1_passes 28 = .ok (.iaload, 1) := by decide +kernel
theorem dX1_passes_29 : decode cX1_passes 29 = .ok (.aload_n 0, 1) := by decide +kernel
theorem dX1_passes_30 : decode cX1_passes 30 = .ok (.getfield 22, 3) := by decide +kernel
theorem dX1_passes_33 : decode cX1_passes 33 = .ok (.getfield 185, 3) := by decide +kernel
theorem dX1_passes_36 : decode cX1_passes 36 = .ok (.iload 4, 2) := by decide +kernel
theorem dX1_passes_38 : decode cX1_passes 38 = .ok (.iaload, 1) := by decide +kernel
theorem dX1_passes_39 : decode cX1_passes 39 = .ok (.aload_n 0, 1) := by decide +kernel
theorem dX1_passes_40 : decode cX1_passes 40 = .ok (.getfield 22, 3) := by decide +kernel
theorem dX1_passes_43 : decode cX1_passes 43 = .ok (.getfield 172, 3) := by decide +kernel
theorem dX1_passes_46 : decode cX1_passes 46 = .ok (.iload 4, 2) := by decide +kernel
theorem dX1_passes_48 : decode cX1_passes 48 = .ok (.iaload, 1) := by decide +kernel
theorem dX1_passes_49 : decode cX1_passes 49 = .ok (.aload_n 0, 1) := by decide +kernel
theorem dX1_passes_50 : decode cX1_passes 50 = .ok (.getfield 22, 3) := by decide +kernel
theorem dX1_passes_53 : decode cX1_passes 53 = .ok (.getfield 175, 3) := by decide +kernel
theorem dX1_passes_56 : decode cX1_passes 56 = .ok (.iload 4, 2) := by decide +kernel
theorem dX1_passes_58 : decode cX1_passes 58 = .ok (.iaload, 1) := by decide +kernel
theorem dX1_passes_59 : decode cX1_passes 59 = .ok (.iload_n 2, 1) := by decide +kernel
theorem dX1_passes_60 : decode cX1_passes 60 = .ok (.iload_n 3, 1) := by decide +kernel
theorem dX1_passes_61 : decode cX1_passes 61 = .ok (.invokestatic 201, 3) := by decide +kernel
theorem dX1_passes_64 : decode cX1_passes 64 = .ok (.ifCond .eq 5, 3) := by decide +kernel
theorem dX1_passes_67 : decode cX1_passes 67 = .ok (.iconst 1, 1) := by decide +kernel
theorem dX1_passes_68 : decode cX1_passes 68 = .ok (.ireturn, 1) := by decide +kernel
theorem dX1_passes_69 : decode cX1_passes 69 = .ok (.iinc 4 1, 3) := by decide +kernel
theorem dX1_passes_72 : decode cX1_passes 72 = .ok (.goto (-64), 3) := by decide +kernel
theorem dX1_passes_75 : decode cX1_passes 75 = .ok (.iconst 0, 1) := by decide +kernel
theorem dX1_passes_76 : decode cX1_passes 76 = .ok (.ireturn, 1) := by decide +kernel
theorem dX1_rootOf_0 : decode cX1_rootOf 0 = .ok (.iload_n 1, 1) := by decide +kernel
theorem dX1_rootOf_1 : decode cX1_rootOf 1 = .ok (.istore_n 2, 1) := by decide +kernel
theorem dX1_rootOf_2 : decode cX1_rootOf 2 = .ok (.iconst 0, 1) := by decide +kernel
theorem dX1_rootOf_3 : decode cX1_rootOf 3 = .ok (.istore_n 3, 1) := by decide +kernel
theorem dX1_rootOf_4 : decode cX1_rootOf 4 = .ok (.iload_n 3, 1) := by decide +kernel
theorem dX1_rootOf_5 : decode cX1_rootOf 5 = .ok (.aload_n 0, 1) := by decide +kernel
theorem dX1_rootOf_6 : decode cX1_rootOf 6 = .ok (.getfield 88, 3) := by decide +kernel
theorem dX1_rootOf_9 : decode cX1_rootOf 9 = .ok (.if_icmp .ge 26, 3) := by decide +kernel
theorem dX1_rootOf_12 : decode cX1_rootOf 12 = .ok (.aload_n 0, 1) := by decide +kernel
theorem dX1_rootOf_13 : decode cX1_rootOf 13 = .ok (.getfield 47, 3) := by decide +kernel
theorem dX1_rootOf_16 : decode cX1_rootOf 16 = .ok (.iload_n 2, 1) := by decide +kernel
theorem dX1_rootOf_17 : decode cX1_rootOf 17 = .ok (.iaload, 1) := by decide +kernel
theorem dX1_rootOf_18 : decode cX1_rootOf 18 = .ok (.iload_n 2, 1) := by decide +kernel
theorem dX1_rootOf_19 : decode cX1_rootOf 19 = .ok (.if_icmp .eq 16, 3) := by decide +kernel
theorem dX1_rootOf_22 : decode cX1_rootOf 22 = .ok (.aload_n 0, 1) := by decide +kernel
theorem dX1_rootOf_23 : decode cX1_rootOf 23 = .ok (.getfield 47, 3) := by decide +kernel
theorem dX1_rootOf_26 : decode cX1_rootOf 26 = .ok (.iload_n 2, 1) := by decide +kernel
theorem dX1_rootOf_27 : decode cX1_rootOf 27 = .ok (.iaload, 1) := by decide +kernel
theorem dX1_rootOf_28 : decode cX1_rootOf 28 = .ok (.istore_n 2, 1) := by decide +kernel
theorem dX1_rootOf_29 : decode cX1_rootOf 29 = .ok (.iinc 3 1, 3) := by decide +kernel
theorem dX1_rootOf_32 : decode cX1_rootOf 32 = .ok (.goto (-28), 3) := by decide +kernel
theorem dX1_rootOf_35 : decode cX1_rootOf 35 = .ok (.iload_n 2, 1) := by decide +kernel
theorem dX1_rootOf_36 : decode cX1_rootOf 36 = .ok (.ireturn, 1) := by decide +kernel
theorem dX1_partPairsFault_0 : decode cX1_partPairsFault 0 = .ok (.iconst 0, 1) := by decide +kernel
theorem dX1_partPairsFault_1 : decode cX1_partPairsFault 1 = .ok (.istore_n 2, 1) := by decide +kernel
theorem dX1_partPairsFault_2 : decode cX1_partPairsFault 2 = .ok (.iload_n 2, 1) := by decide +kernel
theorem dX1_partPairsFault_3 : decode cX1_partPairsFault 3 = .ok (.iconst 1, 1) := by decide +kernel
theorem dX1_partPairsFault_4 : decode cX1_partPairsFault 4 = .ok (.iadd, 1) := by decide +kernel
theorem dX1_partPairsFault_5 : decode cX1_partPairsFault 5 = .ok (.iload_n 1, 1) := by decide +kernel
theorem dX1_partPairsFault_6 : decode cX1_partPairsFault 6 = .ok (.if_icmp .ge 135, 3) := by decide +kernel
theorem dX1_partPairsFault_9 : decode cX1_partPairsFault 9 = .ok (.aload_n 0, 1) := by decide +kernel
theorem dX1_partPairsFault_10 : decode cX1_partPairsFault 10 = .ok (.iload_n 2, 1) := by decide +kernel
theorem dX1_partPairsFault_11 : decode cX1_partPairsFault 11 = .ok (.invokevirtual 135, 3) := by decide +kernel
theorem dX1_partPairsFault_14 : decode cX1_partPairsFault 14 = .ok (.ifCond .eq 6, 3) := by decide +kernel
theorem dX1_partPairsFault_17 : decode cX1_partPairsFault 17 = .ok (.goto 118, 3) := by decide +kernel
theorem dX1_partPairsFault_20 : decode cX1_partPairsFault 20 = .ok (.aload_n 0, 1) := by decide +kernel
theorem dX1_partPairsFault_21 : decode cX1_partPairsFault 21 = .ok (.getfield 38, 3) := by decide +kernel
theorem dX1_partPairsFault_24 : decode cX1_partPairsFault 24 = .ok (.aload_n 0, 1) := by decide +kernel
theorem dX1_partPairsFault_25 : decode cX1_partPairsFault 25 = .ok (.getfield 44, 3) := by decide +kernel
theorem dX1_partPairsFault_28 : decode cX1_partPairsFault 28 = .ok (.iload_n 2, 1) := by decide +kernel
theorem dX1_partPairsFault_29 : decode cX1_partPairsFault 29 = .ok (.iaload, 1) := by decide +kernel
theorem dX1_partPairsFault_30 : decode cX1_partPairsFault 30 = .ok (.iconst 1, 1) := by decide +kernel
theorem dX1_partPairsFault_31 : decode cX1_partPairsFault 31 = .ok (.isub, 1) := by decide +kernel
theorem dX1_partPairsFault_32 : decode cX1_partPairsFault 32 = .ok (.iaload, 1) := by decide +kernel
theorem dX1_partPairsFault_33 : decode cX1_partPairsFault 33 = .ok (.istore_n 3, 1) := by decide +kernel
theorem dX1_partPairsFault_34 : decode cX1_partPairsFault 34 = .ok (.aload_n 0, 1) := by decide +kernel
theorem dX1_partPairsFault_35 : decode cX1_partPairsFault 35 = .ok (.getfield 35, 3) := by decide +kernel
theorem dX1_partPairsFault_38 : decode cX1_partPairsFault 38 = .ok (.aload_n 0, 1) := by decide +kernel
theorem dX1_partPairsFault_39 : decode cX1_partPairsFault 39 = .ok (.getfield 41, 3) := by decide +kernel
theorem dX1_partPairsFault_42 : decode cX1_partPairsFault 42 = .ok (.iload_n 2, 1) := by decide +kernel
theorem dX1_partPairsFault_43 : decode cX1_partPairsFault 43 = .ok (.iaload, 1) := by decide +kernel
theorem dX1_partPairsFault_44 : decode cX1_partPairsFault 44 = .ok (.iaload, 1) := by decide +kernel
theorem dX1_partPairsFault_45 : decode cX1_partPairsFault 45 = .ok (.istore 4, 2) := by decide +kernel
theorem dX1_partPairsFault_47 : decode cX1_partPairsFault 47 = .ok (.iload 4, 2) := by decide +kernel
theorem dX1_partPairsFault_49 : decode cX1_partPairsFault 49 = .ok (.iload_n 3, 1) := by decide +kernel
theorem dX1_partPairsFault_50 : decode cX1_partPairsFault 50 = .ok (.if_icmp .ge 85, 3) := by decide +kernel
theorem dX1_partPairsFault_53 : decode cX1_partPairsFault 53 = .ok (.iload_n 3, 1) := by decide +kernel
theorem dX1_partPairsFault_54 : decode cX1_partPairsFault 54 = .ok (.istore 5, 2) := by decide +kernel
theorem dX1_partPairsFault_56 : decode cX1_partPairsFault 56 = .ok (.iload 5, 2) := by decide +kernel
theorem dX1_partPairsFault_58 : decode cX1_partPairsFault 58 = .ok (.aload_n 0, 1) := by decide +kernel
theorem dX1_partPairsFault_59 : decode cX1_partPairsFault 59 = .ok (.getfield 22, 3) := by decide +kernel
theorem dX1_partPairsFault_62 : decode cX1_partPairsFault 62 = .ok (.getfield 85, 3) := by decide +kernel
theorem dX1_partPairsFault_65 : decode cX1_partPairsFault 65 = .ok (.if_icmp .ge 64, 3) := by decide +kernel
theorem dX1_partPairsFault_68 : decode cX1_partPairsFault 68 = .ok (.aload_n 0, 1) := by decide +kernel
theorem dX1_partPairsFault_69 : decode cX1_partPairsFault 69 = .ok (.getfield 22, 3) := by decide +kernel
theorem dX1_partPairsFault_72 : decode cX1_partPairsFault 72 = .ok (.iload 4, 2) := by decide +kernel
theorem dX1_partPairsFault_74 : decode cX1_partPairsFault 74 = .ok (.iload 5, 2) := by decide +kernel
theorem dX1_partPairsFault_76 : decode cX1_partPairsFault 76 = .ok (.invokevirtual 138, 3) := by decide +kernel
theorem dX1_partPairsFault_79 : decode cX1_partPairsFault 79 = .ok (.ifCond .eq 7, 3) := by decide +kernel
theorem dX1_partPairsFault_82 : decode cX1_partPairsFault 82 = .ok (.iconst 0, 1) := by decide +kernel
theorem dX1_partPairsFault_83 : decode cX1_partPairsFault 83 = .ok (.goto 11, 3) := by decide +kernel
theorem dX1_partPairsFault_86 : decode cX1_partPairsFault 86 = .ok (.aload_n 0, 1) := by decide +kernel
theorem dX1_partPairsFault_87 : decode cX1_partPairsFault 87 = .ok (.iload 4, 2) := by decide +kernel
theorem dX1_partPairsFault_89 : decode cX1_partPairsFault 89 = .ok (.iload 5, 2) := by decide +kernel
theorem dX1_partPairsFault_91 : decode cX1_partPairsFault 91 = .ok (.invokevirtual 141, 3) := by decide +kernel
theorem dX1_partPairsFault_94 : decode cX1_partPairsFault 94 = .ok (.istore 6, 2) := by decide +kernel
theorem dX1_partPairsFault_96 : decode cX1_partPairsFault 96 = .ok (.iload 6, 2) := by decide +kernel
theorem dX1_partPairsFault_98 : decode cX1_partPairsFault 98 = .ok (.ifCond .eq 25, 3) := by decide +kernel
theorem dX1_partPairsFault_101 : decode cX1_partPairsFault 101 = .ok (.aload_n 0, 1) := by decide +kernel
theorem dX1_partPairsFault_102 : decode cX1_partPairsFault 102 = .ok (.iload 6, 2) := by decide +kernel
theorem dX1_partPairsFault_104 : decode cX1_partPairsFault 104 = .ok (.iconst 3, 1) := by decide +kernel
theorem dX1_partPairsFault_105 : decode cX1_partPairsFault 105 = .ok (.if_icmp .ne 8, 3) := by decide +kernel
theorem dX1_partPairsFault_108 : decode cX1_partPairsFault 108 = .ok (.bipush 9, 2) := by decide +kernel
theorem dX1_partPairsFault_110 : decode cX1_partPairsFault 110 = .ok (.goto 5, 3) := by decide +kernel
theorem dX1_partPairsFault_113 : decode cX1_partPairsFault 113 = .ok (.bipush 10, 2) := by decide +kernel
theorem dX1_partPairsFault_115 : decode cX1_partPairsFault 115 = .ok (.iload 4, 2) := by decide +kernel
theorem dX1_partPairsFault_117 : decode cX1_partPairsFault 117 = .ok (.iload 5, 2) := by decide +kernel
theorem dX1_partPairsFault_119 : decode cX1_partPairsFault 119 = .ok (.invokevirtual 144, 3) := by decide +kernel
theorem dX1_partPairsFault_122 : decode cX1_partPairsFault 122 = .ok (.ireturn, 1) := by decide +kernel
theorem dX1_partPairsFault_123 : decode cX1_partPairsFault 123 = .ok (.iinc 5 1, 3) := by decide +kernel
theorem dX1_partPairsFault_126 : decode cX1_partPairsFault 126 = .ok (.goto (-70), 3) := by decide +kernel
theorem dX1_partPairsFault_129 : decode cX1_partPairsFault 129 = .ok (.iinc 4 1, 3) := by decide +kernel
theorem dX1_partPairsFault_132 : decode cX1_partPairsFault 132 = .ok (.goto (-85), 3) := by decide +kernel
theorem dX1_partPairsFault_135 : decode cX1_partPairsFault 135 = .ok (.iinc 2 1, 3) := by decide +kernel
theorem dX1_partPairsFault_138 : decode cX1_partPairsFault 138 = .ok (.goto (-136), 3) := by decide +kernel
theorem dX1_partPairsFault_141 : decode cX1_partPairsFault 141 = .ok (.iconst 0, 1) := by decide +kernel
theorem dX1_partPairsFault_142 : decode cX1_partPairsFault 142 = .ok (.ireturn, 1) := by decide +kernel
theorem dX1_innerFault_0 : decode cX1_innerFault 0 = .ok (.iconst 0, 1) := by decide +kernel
theorem dX1_innerFault_1 : decode cX1_innerFault 1 = .ok (.istore_n 2, 1) := by decide +kernel
theorem dX1_innerFault_2 : decode cX1_innerFault 2 = .ok (.iload_n 2, 1) := by decide +kernel
theorem dX1_innerFault_3 : decode cX1_innerFault 3 = .ok (.iload_n 1, 1) := by decide +kernel
theorem dX1_innerFault_4 : decode cX1_innerFault 4 = .ok (.if_icmp .ge 58, 3) := by decide +kernel
theorem dX1_innerFault_7 : decode cX1_innerFault 7 = .ok (.iload_n 2, 1) := by decide +kernel
theorem dX1_innerFault_8 : decode cX1_innerFault 8 = .ok (.iconst 1, 1) := by decide +kernel
theorem dX1_innerFault_9 : decode cX1_innerFault 9 = .ok (.iadd, 1) := by decide +kernel
theorem dX1_innerFault_10 : decode cX1_innerFault 10 = .ok (.istore_n 3, 1) := by decide +kernel
theorem dX1_innerFault_11 : decode cX1_innerFault 11 = .ok (.iload_n 3, 1) := by decide +kernel
theorem dX1_innerFault_12 : decode cX1_innerFault 12 = .ok (.iload_n 1, 1) := by decide +kernel
theorem dX1_innerFault_13 : decode cX1_innerFault 13 = .ok (.if_icmp .ge 43, 3) := by decide +kernel
theorem dX1_innerFault_16 : decode cX1_innerFault 16 = .ok (.aload_n 0, 1) := by decide +kernel
theorem dX1_innerFault_17 : decode cX1_innerFault 17 = .ok (.iload_n 2, 1) := by decide +kernel
theorem dX1_innerFault_18 : decode cX1_innerFault 18 = .ok (.iload_n 3, 1) := by decide +kernel
theorem dX1_innerFault_19 : decode cX1_innerFault 19 = .ok (.invokevirtual 220, 3) := by decide +kernel
theorem dX1_innerFault_22 : decode cX1_innerFault 22 = .ok (.ifCond .ne 12, 3) := by decide +kernel
theorem dX1_innerFault_25 : decode cX1_innerFault 25 = .ok (.aload_n 0, 1) := by decide +kernel
theorem dX1_innerFault_26 : decode cX1_innerFault 26 = .ok (.iload_n 3, 1) := by decide +kernel
theorem dX1_innerFault_27 : decode cX1_innerFault 27 = .ok (.iload_n 2, 1) := by decide +kernel
theorem dX1_innerFault_28 : decode cX1_innerFault 28 = .ok (.invokevirtual 220, 3) := by decide +kernel
theorem dX1_innerFault_31 : decode cX1_innerFault 31 = .ok (.ifCond .eq 19, 3) := by decide +kernel
theorem dX1_innerFault_34 : decode cX1_innerFault 34 = .ok (.aload_n 0, 1) := by decide +kernel
theorem dX1_innerFault_35 : decode cX1_innerFault 35 = .ok (.getfield 11, 3) := by decide +kernel
theorem dX1_innerFault_38 : decode cX1_innerFault 38 = .ok (.iconst 4, 1) := by decide +kernel
theorem dX1_innerFault_39 : decode cX1_innerFault 39 = .ok (.iload_n 3, 1) := by decide +kernel
theorem dX1_innerFault_40 : decode cX1_innerFault 40 = .ok (.iastore, 1) := by decide +kernel
theorem dX1_innerFault_41 : decode cX1_innerFault 41 = .ok (.aload_n 0, 1) := by decide +kernel
theorem dX1_innerFault_42 : decode cX1_innerFault 42 = .ok (.bipush 11, 2) := by decide +kernel
theorem dX1_innerFault_44 : decode cX1_innerFault 44 = .ok (.iload_n 2, 1) := by decide +kernel
theorem dX1_innerFault_45 : decode cX1_innerFault 45 = .ok (.iconst (-1), 1) := by decide +kernel
theorem dX1_innerFault_46 : decode cX1_innerFault 46 = .ok (.invokevirtual 108, 3) := by decide +kernel
theorem dX1_innerFault_49 : decode cX1_innerFault 49 = .ok (.ireturn, 1) := by decide +kernel
theorem dX1_innerFault_50 : decode cX1_innerFault 50 = .ok (.iinc 3 1, 3) := by decide +kernel
theorem dX1_innerFault_53 : decode cX1_innerFault 53 = .ok (.goto (-42), 3) := by decide +kernel
theorem dX1_innerFault_56 : decode cX1_innerFault 56 = .ok (.iinc 2 1, 3) := by decide +kernel
theorem dX1_innerFault_59 : decode cX1_innerFault 59 = .ok (.goto (-57), 3) := by decide +kernel
theorem dX1_innerFault_62 : decode cX1_innerFault 62 = .ok (.iconst 0, 1) := by decide +kernel
theorem dX1_innerFault_63 : decode cX1_innerFault 63 = .ok (.ireturn, 1) := by decide +kernel
theorem dX1_liesInPart_0 : decode cX1_liesInPart 0 = .ok (.aload_n 0, 1) := by decide +kernel
theorem dX1_liesInPart_1 : decode cX1_liesInPart 1 = .ok (.iload_n 1, 1) := by decide +kernel
theorem dX1_liesInPart_2 : decode cX1_liesInPart 2 = .ok (.invokevirtual 135, 3) := by decide +kernel
theorem dX1_liesInPart_5 : decode cX1_liesInPart 5 = .ok (.ifCond .ne 11, 3) := by decide +kernel
theorem dX1_liesInPart_8 : decode cX1_liesInPart 8 = .ok (.aload_n 0, 1) := by decide +kernel
theorem dX1_liesInPart_9 : decode cX1_liesInPart 9 = .ok (.iload_n 2, 1) := by decide +kernel
theorem dX1_liesInPart_10 : decode cX1_liesInPart 10 = .ok (.invokevirtual 135, 3) := by decide +kernel
theorem dX1_liesInPart_13 : decode cX1_liesInPart 13 = .ok (.ifCond .eq 5, 3) := by decide +kernel
theorem dX1_liesInPart_16 : decode cX1_liesInPart 16 = .ok (.iconst 0, 1) := by decide +kernel
theorem dX1_liesInPart_17 : decode cX1_liesInPart 17 = .ok (.ireturn, 1) := by decide +kernel
theorem dX1_liesInPart_18 : decode cX1_liesInPart 18 = .ok (.aload_n 0, 1) := by decide +kernel
theorem dX1_liesInPart_19 : decode cX1_liesInPart 19 = .ok (.getfield 41, 3) := by decide +kernel
theorem dX1_liesInPart_22 : decode cX1_liesInPart 22 = .ok (.iload_n 1, 1) := by decide +kernel
theorem dX1_liesInPart_23 : decode cX1_liesInPart 23 = .ok (.iaload, 1) := by decide +kernel
theorem dX1_liesInPart_24 : decode cX1_liesInPart 24 = .ok (.istore_n 3, 1) := by decide +kernel
theorem dX1_liesInPart_25 : decode cX1_liesInPart 25 = .ok (.aload_n 0, 1) := by decide +kernel
theorem dX1_liesInPart_26 : decode cX1_liesInPart 26 = .ok (.iload_n 3, 1) := by decide +kernel
theorem dX1_liesInPart_27 : decode cX1_liesInPart 27 = .ok (.aload_n 0, 1) := by decide +kernel
theorem dX1_liesInPart_28 : decode cX1_liesInPart 28 = .ok (.getfield 41, 3) := by decide +kernel
theorem dX1_liesInPart_31 : decode cX1_liesInPart 31 = .ok (.iload_n 2, 1) := by decide +kernel
theorem dX1_liesInPart_32 : decode cX1_liesInPart 32 = .ok (.iaload, 1) := by decide +kernel
theorem dX1_liesInPart_33 : decode cX1_liesInPart 33 = .ok (.invokevirtual 192, 3) := by decide +kernel
theorem dX1_liesInPart_36 : decode cX1_liesInPart 36 = .ok (.ifCond .ne 5, 3) := by decide +kernel
theorem dX1_liesInPart_39 : decode cX1_liesInPart 39 = .ok (.iconst 0, 1) := by decide +kernel
theorem dX1_liesInPart_40 : decode cX1_liesInPart 40 = .ok (.ireturn, 1) := by decide +kernel
theorem dX1_liesInPart_41 : decode cX1_liesInPart 41 = .ok (.aload_n 0, 1) := by decide +kernel
theorem dX1_liesInPart_42 : decode cX1_liesInPart 42 = .ok (.getfield 41, 3) := by decide +kernel
theorem dX1_liesInPart_45 : decode cX1_liesInPart 45 = .ok (.iload_n 2, 1) := by decide +kernel
theorem dX1_liesInPart_46 : decode cX1_liesInPart 46 = .ok (.iaload, 1) := by decide +kernel
theorem dX1_liesInPart_47 : decode cX1_liesInPart 47 = .ok (.iconst 1, 1) := by decide +kernel
theorem dX1_liesInPart_48 : decode cX1_liesInPart 48 = .ok (.iadd, 1) := by decide +kernel
theorem dX1_liesInPart_49 : decode cX1_liesInPart 49 = .ok (.istore 4, 2) := by decide +kernel
theorem dX1_liesInPart_51 : decode cX1_liesInPart 51 = .ok (.iload 4, 2) := by decide +kernel
theorem dX1_liesInPart_53 : decode cX1_liesInPart 53 = .ok (.aload_n 0, 1) := by decide +kernel
theorem dX1_liesInPart_54 : decode cX1_liesInPart 54 = .ok (.getfield 44, 3) := by decide +kernel
theorem dX1_liesInPart_57 : decode cX1_liesInPart 57 = .ok (.iload_n 2, 1) := by decide +kernel
theorem dX1_liesInPart_58 : decode cX1_liesInPart 58 = .ok (.iaload, 1) := by decide +kernel
theorem dX1_liesInPart_59 : decode cX1_liesInPart 59 = .ok (.if_icmp .ge 21, 3) := by decide +kernel
theorem dX1_liesInPart_62 : decode cX1_liesInPart 62 = .ok (.aload_n 0, 1) := by decide +kernel
theorem dX1_liesInPart_63 : decode cX1_liesInPart 63 = .ok (.iload_n 3, 1) := by decide +kernel
theorem dX1_liesInPart_64 : decode cX1_liesInPart 64 = .ok (.iload 4, 2) := by decide +kernel
theorem dX1_liesInPart_66 : decode cX1_liesInPart 66 = .ok (.invokevirtual 192, 3) := by decide +kernel
theorem dX1_liesInPart_69 : decode cX1_liesInPart 69 = .ok (.ifCond .eq 5, 3) := by decide +kernel
theorem dX1_liesInPart_72 : decode cX1_liesInPart 72 = .ok (.iconst 0, 1) := by decide +kernel
theorem dX1_liesInPart_73 : decode cX1_liesInPart 73 = .ok (.ireturn, 1) := by decide +kernel
theorem dX1_liesInPart_74 : decode cX1_liesInPart 74 = .ok (.iinc 4 1, 3) := by decide +kernel
theorem dX1_liesInPart_77 : decode cX1_liesInPart 77 = .ok (.goto (-26), 3) := by decide +kernel
theorem dX1_liesInPart_80 : decode cX1_liesInPart 80 = .ok (.iconst 1, 1) := by decide +kernel
theorem dX1_liesInPart_81 : decode cX1_liesInPart 81 = .ok (.ireturn, 1) := by decide +kernel
theorem dX8_snap_0 : decode cX8_snap 0 = .ok (.aload_n 0, 1) := by decide +kernel
theorem dX8_snap_1 : decode cX8_snap 1 = .ok (.getfield 14, 3) := by decide +kernel
theorem dX8_snap_4 : decode cX8_snap 4 = .ok (.iconst 0, 1) := by decide +kernel
theorem dX8_snap_5 : decode cX8_snap 5 = .ok (.putfield 44, 3) := by decide +kernel
theorem dX8_snap_8 : decode cX8_snap 8 = .ok (.aload_n 0, 1) := by decide +kernel
theorem dX8_snap_9 : decode cX8_snap 9 = .ok (.iconst 0, 1) := by decide +kernel
theorem dX8_snap_10 : decode cX8_snap 10 = .ok (.putfield 48, 3) := by decide +kernel
theorem dX8_snap_13 : decode cX8_snap 13 = .ok (.aload_n 0, 1) := by decide +kernel
theorem dX8_snap_14 : decode cX8_snap 14 = .ok (.iconst 0, 1) := by decide +kernel
theorem dX8_snap_15 : decode cX8_snap 15 = .ok (.putfield 51, 3) := by decide +kernel
theorem dX8_snap_18 : decode cX8_snap 18 = .ok (.aload_n 0, 1) := by decide +kernel
theorem dX8_snap_19 : decode cX8_snap 19 = .ok (.aload_n 1, 1) := by decide +kernel
theorem dX8_snap_20 : decode cX8_snap 20 = .ok (.iconst 1, 1) := by decide +kernel
theorem dX8_snap_21 : decode cX8_snap 21 = .ok (.invokevirtual 54, 3) := by decide +kernel
theorem dX8_snap_24 : decode cX8_snap 24 = .ok (.ifCond .eq 37, 3) := by decide +kernel
theorem dX8_snap_27 : decode cX8_snap 27 = .ok (.aload_n 0, 1) := by decide +kernel
theorem dX8_snap_28 : decode cX8_snap 28 = .ok (.aload_n 2, 1) := by decide +kernel
theorem dX8_snap_29 : decode cX8_snap 29 = .ok (.iconst 2, 1) := by decide +kernel
theorem dX8_snap_30 : decode cX8_snap 30 = .ok (.invokevirtual 54, 3) := by decide +kernel
theorem dX8_snap_33 : decode cX8_snap 33 = .ok (.ifCond .eq 28, 3) := by decide +kernel
theorem dX8_snap_36 : decode cX8_snap 36 = .ok (.aload_n 0, 1) := by decide +kernel
theorem dX8_snap_37 : decode cX8_snap 37 = .ok (.invokevirtual 58, 3) := by decide +kernel
theorem dX8_snap_40 : decode cX8_snap 40 = .ok (.ifCond .eq 21, 3) := by decide +kernel
theorem dX8_snap_43 : decode cX8_snap 43 = .ok (.aload_n 0, 1) := by decide +kernel
theorem dX8_snap_44 : decode cX8_snap 44 = .ok (.invokevirtual 62, 3) := by decide +kernel
theorem dX8_snap_47 : decode cX8_snap 47 = .ok (.ifCond .eq 14, 3) := by decide +kernel
theorem dX8_snap_50 : decode cX8_snap 50 = .ok (.aload_n 0, 1) := by decide +kernel
theorem dX8_snap_51 : decode cX8_snap 51 = .ok (.invokevirtual 65, 3) := by decide +kernel
theorem dX8_snap_54 : decode cX8_snap 54 = .ok (.ifCond .eq 7, 3) := by decide +kernel
theorem dX8_snap_57 : decode cX8_snap 57 = .ok (.iconst 1, 1) := by decide +kernel
theorem dX8_snap_58 : decode cX8_snap 58 = .ok (.goto 4, 3) := by decide +kernel
theorem dX8_snap_61 : decode cX8_snap 61 = .ok (.iconst 0, 1) := by decide +kernel
theorem dX8_snap_62 : decode cX8_snap 62 = .ok (.ireturn, 1) := by decide +kernel
theorem dX8_collect_0 : decode cX8_collect 0 = .ok (.iconst 0, 1) := by decide +kernel
theorem dX8_collect_1 : decode cX8_collect 1 = .ok (.istore_n 3, 1) := by decide +kernel
theorem dX8_collect_2 : decode cX8_collect 2 = .ok (.iconst 0, 1) := by decide +kernel
theorem dX8_collect_3 : decode cX8_collect 3 = .ok (.istore 4, 2) := by decide +kernel
theorem dX8_collect_5 : decode cX8_collect 5 = .ok (.iload 4, 2) := by decide +kernel
theorem dX8_collect_7 : decode cX8_collect 7 = .ok (.iconst 1, 1) := by decide +kernel
theorem dX8_collect_8 : decode cX8_collect 8 = .ok (.iadd, 1) := by decide +kernel
theorem dX8_collect_9 : decode cX8_collect 9 = .ok (.aload_n 1, 1) := by decide +kernel
theorem dX8_collect_10 : decode cX8_collect 10 = .ok (.getfield 68, 3) := by decide +kernel
theorem dX8_collect_13 : decode cX8_collect 13 = .ok (.if_icmp .ge 82, 3) := by decide +kernel
theorem dX8_collect_16 : decode cX8_collect 16 = .ok (.iconst 0, 1) := by decide +kernel
theorem dX8_collect_17 : decode cX8_collect 17 = .ok (.istore 5, 2) := by decide +kernel
theorem dX8_collect_19 : decode cX8_collect 19 = .ok (.iload 5, 2) := by decide +kernel
theorem dX8_collect_21 : decode cX8_collect 21 = .ok (.aload_n 1, 1) := by decide +kernel
theorem dX8_collect_22 : decode cX8_collect 22 = .ok (.iload 4, 2) := by decide +kernel
theorem dX8_collect_24 : decode cX8_collect 24 = .ok (.invokevirtual 73, 3) := by decide +kernel
theorem dX8_collect_27 : decode cX8_collect 27 = .ok (.if_icmp .ge 57, 3) := by decide +kernel
theorem dX8_collect_30 : decode cX8_collect 30 = .ok (.aload_n 1, 1) := by decide +kernel
theorem dX8_collect_31 : decode cX8_collect 31 = .ok (.iload 4, 2) := by decide +kernel
theorem dX8_collect_33 : decode cX8_collect 33 = .ok (.iload 5, 2) := by decide +kernel
theorem dX8_collect_35 : decode cX8_collect 35 = .ok (.invokevirtual 77, 3) := by decide +kernel
theorem dX8_collect_38 : decode cX8_collect 38 = .ok (.istore 6, 2) := by decide +kernel
theorem dX8_collect_40 : decode cX8_collect 40 = .ok (.iload_n 3, 1) := by decide +kernel
theorem dX8_collect_41 : decode cX8_collect 41 = .ok (.istore 7, 2) := by decide +kernel
theorem dX8_collect_43 : decode cX8_collect 43 = .ok (.iload 7, 2) := by decide +kernel
theorem dX8_collect_45 : decode cX8_collect 45 = .ok (.iconst 1, 1) := by decide +kernel
theorem dX8_collect_46 : decode cX8_collect 46 = .ok (.iadd, 1) := by decide +kernel
theorem dX8_collect_47 : decode cX8_collect 47 = .ok (.iload_n 3, 1) := by decide +kernel
theorem dX8_collect_48 : decode cX8_collect 48 = .ok (.iload 6, 2) := by decide +kernel
theorem dX8_collect_50 : decode cX8_collect 50 = .ok (.iadd, 1) := by decide +kernel
theorem dX8_collect_51 : decode cX8_collect 51 = .ok (.if_icmp .ge 22, 3) := by decide +kernel
theorem dX8_collect_54 : decode cX8_collect 54 = .ok (.aload_n 0, 1) := by decide +kernel
theorem dX8_collect_55 : decode cX8_collect 55 = .ok (.aload_n 1, 1) := by decide +kernel
theorem dX8_collect_56 : decode cX8_collect 56 = .ok (.iload 7, 2) := by decide +kernel
theorem dX8_collect_58 : decode cX8_collect 58 = .ok (.iload_n 2, 1) := by decide +kernel
theorem dX8_collect_59 : decode cX8_collect 59 = .ok (.invokevirtual 81, 3) := by decide +kernel
theorem dX8_collect_62 : decode cX8_collect 62 = .ok (.ifCond .ne 5, 3) := by decide +kernel
theorem dX8_collect_65 : decode cX8_collect 65 = .ok (.iconst 0, 1) := by decide +kernel
theorem dX8_collect_66 : decode cX8_collect 66 = .ok (.ireturn, 1) := by decide +kernel
theorem dX8_collect_67 : decode cX8_collect 67 = .ok (.iinc 7 1, 3) := by decide +kernel
theorem dX8_collect_70 : decode cX8_collect 70 = .ok (.goto (-27), 3) := by decide +kernel
theorem dX8_collect_73 : decode cX8_collect 73 = .ok (.iload_n 3, 1) := by decide +kernel
theorem dX8_collect_74 : decode cX8_collect 74 = .ok (.iload 6, 2) := by decide +kernel
theorem dX8_collect_76 : decode cX8_collect 76 = .ok (.iadd, 1) := by decide +kernel
theorem dX8_collect_77 : decode cX8_collect 77 = .ok (.istore_n 3, 1) := by decide +kernel
theorem dX8_collect_78 : decode cX8_collect 78 = .ok (.iinc 5 1, 3) := by decide +kernel
theorem dX8_collect_81 : decode cX8_collect 81 = .ok (.goto (-62), 3) := by decide +kernel
theorem dX8_collect_84 : decode cX8_collect 84 = .ok (.aload_n 1, 1) := by decide +kernel
theorem dX8_collect_85 : decode cX8_collect 85 = .ok (.iload 4, 2) := by decide +kernel
theorem dX8_collect_87 : decode cX8_collect 87 = .ok (.invokevirtual 85, 3) := by decide +kernel
theorem dX8_collect_90 : decode cX8_collect 90 = .ok (.istore 4, 2) := by decide +kernel
theorem dX8_collect_92 : decode cX8_collect 92 = .ok (.goto (-87), 3) := by decide +kernel
theorem dX8_collect_95 : decode cX8_collect 95 = .ok (.iconst 1, 1) := by decide +kernel
theorem dX8_collect_96 : decode cX8_collect 96 = .ok (.ireturn, 1) := by decide +kernel
theorem dX8_addSegment_0 : decode cX8_addSegment 0 = .ok (.aload_n 0, 1) := by decide +kernel
theorem dX8_addSegment_1 : decode cX8_addSegment 1 = .ok (.getfield 14, 3) := by decide +kernel
theorem dX8_addSegment_4 : decode cX8_addSegment 4 = .ok (.getfield 44, 3) := by decide +kernel
theorem dX8_addSegment_7 : decode cX8_addSegment 7 = .ok (.aload_n 0, 1) := by decide +kernel
theorem dX8_addSegment_8 : decode cX8_addSegment 8 = .ok (.getfield 48, 3) := by decide +kernel
theorem dX8_addSegment_11 : decode cX8_addSegment 11 = .ok (.iadd, 1) := by decide +kernel
theorem dX8_addSegment_12 : decode cX8_addSegment 12 = .ok (.sipush 2048, 3) := by decide +kernel
theorem dX8_addSegment_15 : decode cX8_addSegment 15 = .ok (.if_icmp .lt 5, 3) := by decide +kernel
theorem dX8_addSegment_18 : decode cX8_addSegment 18 = .ok (.iconst 0, 1) := by decide +kernel
theorem dX8_addSegment_19 : decode cX8_addSegment 19 = .ok (.ireturn, 1) := by decide +kernel
theorem dX8_addSegment_20 : decode cX8_addSegment 20 = .ok (.aload_n 1, 1) := by decide +kernel
theorem dX8_addSegment_21 : decode cX8_addSegment 21 = .ok (.iload_n 2, 1) := by decide +kernel
theorem dX8_addSegment_22 : decode cX8_addSegment 22 = .ok (.iload_n 2, 1) := by decide +kernel
theorem dX8_addSegment_23 : decode cX8_addSegment 23 = .ok (.iconst 1, 1) := by decide +kernel
theorem dX8_addSegment_24 : decode cX8_addSegment 24 = .ok (.iadd, 1) := by decide +kernel
theorem dX8_addSegment_25 : decode cX8_addSegment 25 = .ok (.invokevirtual 88, 3) := by decide +kernel
theorem dX8_addSegment_28 : decode cX8_addSegment 28 = .ok (.ifCond .eq 16, 3) := by decide +kernel
theorem dX8_addSegment_31 : decode cX8_addSegment 31 = .ok (.aload_n 0, 1) := by decide +kernel
theorem dX8_addSegment_32 : decode cX8_addSegment 32 = .ok (.dup, 1) := by decide +kernel
theorem dX8_addSegment_33 : decode cX8_addSegment 33 = .ok (.getfield 48, 3) := by decide +kernel
theorem dX8_addSegment_36 : decode cX8_addSegment 36 = .ok (.iconst 1, 1) := by decide +kernel
theorem dX8_addSegment_37 : decode cX8_addSegment 37 = .ok (.iadd, 1) := by decide +kernel
theorem dX8_addSegment_38 : decode cX8_addSegment 38 = .ok (.putfield 48, 3) := by decide +kernel
theorem dX8_addSegment_41 : decode cX8_addSegment 41 = .ok (.goto 17, 3) := by decide +kernel
theorem dX8_addSegment_44 : decode cX8_addSegment 44 = .ok (.aload_n 0, 1) := by decide +kernel
theorem dX8_addSegment_45 : decode cX8_addSegment 45 = .ok (.getfield 14, 3) := by decide +kernel
theorem dX8_addSegment_48 : decode cX8_addSegment 48 = .ok (.aload_n 1, 1) := by decide +kernel
theorem dX8_addSegment_49 : decode cX8_addSegment 49 = .ok (.iload_n 2, 1) := by decide +kernel
theorem dX8_addSegment_50 : decode cX8_addSegment 50 = .ok (.iload_n 2, 1) := by decide +kernel
theorem dX8_addSegment_51 : decode cX8_addSegment 51 = .ok (.iconst 1, 1) := by decide +kernel
theorem dX8_addSegment_52 : decode cX8_addSegment 52 = .ok (.iadd, 1) := by decide +kernel
theorem dX8_addSegment_53 : decode cX8_addSegment 53 = .ok (.iload_n 3, 1) := by decide +kernel
theorem dX8_addSegment_54 : decode cX8_addSegment 54 = .ok (.invokevirtual 92, 3) := by decide +kernel
theorem dX8_addSegment_57 : decode cX8_addSegment 57 = .ok (.pop, 1) := by decide +kernel
theorem dX8_addSegment_58 : decode cX8_addSegment 58 = .ok (.aload_n 0, 1) := by decide +kernel
theorem dX8_addSegment_59 : decode cX8_addSegment 59 = .ok (.aload_n 1, 1) := by decide +kernel
theorem dX8_addSegment_60 : decode cX8_addSegment 60 = .ok (.getfield 96, 3) := by decide +kernel
theorem dX8_addSegment_63 : decode cX8_addSegment 63 = .ok (.iload_n 2, 1) := by decide +kernel
theorem dX8_addSegment_64 : decode cX8_addSegment 64 = .ok (.iaload, 1) := by decide +kernel
theorem dX8_addSegment_65 : decode cX8_addSegment 65 = .ok (.aload_n 1, 1) := by decide +kernel
theorem dX8_addSegment_66 : decode cX8_addSegment 66 = .ok (.getfield 99, 3) := by decide +kernel
theorem dX8_addSegment_69 : decode cX8_addSegment 69 = .ok (.iload_n 2, 1) := by decide +kernel
theorem dX8_addSegment_70 : decode cX8_addSegment 70 = .ok (.iaload, 1) := by decide +kernel
theorem dX8_addSegment_71 : decode cX8_addSegment 71 = .ok (.invokevirtual 102, 3) := by decide +kernel
theorem dX8_addSegment_74 : decode cX8_addSegment 74 = .ok (.ifCond .eq 30, 3) := by decide +kernel
theorem dX8_addSegment_77 : decode cX8_addSegment 77 = .ok (.aload_n 0, 1) := by decide +kernel
theorem dX8_addSegment_78 : decode cX8_addSegment 78 = .ok (.aload_n 1, 1) := by decide +kernel
theorem dX8_addSegment_79 : decode cX8_addSegment 79 = .ok (.getfield 96, 3) := by decide +kernel
theorem dX8_addSegment_82 : decode cX8_addSegment 82 = .ok (.iload_n 2, 1) := by decide +kernel
theorem dX8_addSegment_83 : decode cX8_addSegment 83 = .ok (.iconst 1, 1) := by decide +kernel
theorem dX8_addSegment_84 : decode cX8_addSegment 84 = .ok (.iadd, 1) := by decide +kernel
theorem dX8_addSegment_85 : decode cX8_addSegment 85 = .ok (.iaload, 1) := by decide +kernel
theorem dX8_addSegment_86 : decode cX8_addSegment 86 = .ok (.aload_n 1, 1) := by decide +kernel
theorem dX8_addSegment_87 : decode cX8_addSegment 87 = .ok (.getfield 99, 3) := by decide +kernel
theorem dX8_addSegment_90 : decode cX8_addSegment 90 = .ok (.iload_n 2, 1) := by decide +kernel
theorem dX8_addSegment_91 : decode cX8_addSegment 91 = .ok (.iconst 1, 1) := by decide +kernel
theorem dX8_addSegment_92 : decode cX8_addSegment 92 = .ok (.iadd, 1) := by decide +kernel
theorem dX8_addSegment_93 : decode cX8_addSegment 93 = .ok (.iaload, 1) := by decide +kernel
theorem dX8_addSegment_94 : decode cX8_addSegment 94 = .ok (.invokevirtual 102, 3) := by decide +kernel
theorem dX8_addSegment_97 : decode cX8_addSegment 97 = .ok (.ifCond .eq 7, 3) := by decide +kernel
theorem dX8_addSegment_100 : decode cX8_addSegment 100 = .ok (.iconst 1, 1) := by decide +kernel
theorem dX8_addSegment_101 : decode cX8_addSegment 101 = .ok (.goto 4, 3) := by decide +kernel
theorem dX8_addSegment_104 : decode cX8_addSegment 104 = .ok (.iconst 0, 1) := by decide +kernel
theorem dX8_addSegment_105 : decode cX8_addSegment 105 = .ok (.ireturn, 1) := by decide +kernel
theorem dX8_addHot_0 : decode cX8_addHot 0 = .ok (.aload_n 0, 1) := by decide +kernel
theorem dX8_addHot_1 : decode cX8_addHot 1 = .ok (.getfield 51, 3) := by decide +kernel
theorem dX8_addHot_4 : decode cX8_addHot 4 = .ok (.aload_n 0, 1) := by decide +kernel
theorem dX8_addHot_5 : decode cX8_addHot 5 = .ok (.getfield 18, 3) := by decide +kernel
theorem dX8_addHot_8 : decode cX8_addHot 8 = .ok (.arraylength, 1) := by decide +kernel
theorem dX8_addHot_9 : decode cX8_addHot 9 = .ok (.if_icmp .lt 12, 3) := by decide +kernel
theorem dX8_addHot_12 : decode cX8_addHot 12 = .ok (.aload_n 0, 1) := by decide +kernel
theorem dX8_addHot_13 : decode cX8_addHot 13 = .ok (.invokevirtual 105, 3) := by decide +kernel
theorem dX8_addHot_16 : decode cX8_addHot 16 = .ok (.ifCond .ne 5, 3) := by decide +kernel
theorem dX8_addHot_19 : decode cX8_addHot 19 = .ok (.iconst 0, 1) := by decide +kernel
theorem dX8_addHot_20 : decode cX8_addHot 20 = .ok (.ireturn, 1) := by decide +kernel
theorem dX8_addHot_21 : decode cX8_addHot 21 = .ok (.aload_n 0, 1) := by decide +kernel
theorem dX8_addHot_22 : decode cX8_addHot 22 = .ok (.getfield 18, 3) := by decide +kernel
theorem dX8_addHot_25 : decode cX8_addHot 25 = .ok (.aload_n 0, 1) := by decide +kernel
theorem dX8_addHot_26 : decode cX8_addHot 26 = .ok (.getfield 51, 3) := by decide +kernel
theorem dX8_addHot_29 : decode cX8_addHot 29 = .ok (.iload_n 1, 1) := by decide +kernel
theorem dX8_addHot_30 : decode cX8_addHot 30 = .ok (.iload_n 2, 1) := by decide +kernel
theorem dX8_addHot_31 : decode cX8_addHot 31 = .ok (.invokestatic 108, 3) := by decide +kernel
theorem dX8_addHot_34 : decode cX8_addHot 34 = .ok (.lastore, 1) := by decide +kernel
theorem dX8_addHot_35 : decode cX8_addHot 35 = .ok (.aload_n 0, 1) := by decide +kernel
theorem dX8_addHot_36 : decode cX8_addHot 36 = .ok (.dup, 1) := by decide +kernel
theorem dX8_addHot_37 : decode cX8_addHot 37 = .ok (.getfield 51, 3) := by decide +kernel
theorem dX8_addHot_40 : decode cX8_addHot 40 = .ok (.iconst 1, 1) := by decide +kernel
theorem dX8_addHot_41 : decode cX8_addHot 41 = .ok (.iadd, 1) := by decide +kernel
theorem dX8_addHot_42 : decode cX8_addHot 42 = .ok (.putfield 51, 3) := by decide +kernel
theorem dX8_addHot_45 : decode cX8_addHot 45 = .ok (.iconst 1, 1) := by decide +kernel
theorem dX8_addHot_46 : decode cX8_addHot 46 = .ok (.ireturn, 1) := by decide +kernel
theorem dX8_sortOutKeys_0 : decode cX8_sortOutKeys 0 = .ok (.aload_n 0, 1) := by decide +kernel
theorem dX8_sortOutKeys_1 : decode cX8_sortOutKeys 1 = .ok (.getfield 18, 3) := by decide +kernel
theorem dX8_sortOutKeys_4 : decode cX8_sortOutKeys 4 = .ok (.aload_n 0, 1) := by decide +kernel
theorem dX8_sortOutKeys_5 : decode cX8_sortOutKeys 5 = .ok (.getfield 51, 3) := by decide +kernel
theorem dX8_sortOutKeys_8 : decode cX8_sortOutKeys 8 = .ok (.invokestatic 114, 3) := by decide +kernel
theorem dX8_sortOutKeys_11 : decode cX8_sortOutKeys 11 = .ok (.aload_n 0, 1) := by decide +kernel
theorem dX8_sortOutKeys_12 : decode cX8_sortOutKeys 12 = .ok (.aload_n 0, 1) := by decide +kernel
theorem dX8_sortOutKeys_13 : decode cX8_sortOutKeys 13 = .ok (.getfield 18, 3) := by decide +kernel
theorem dX8_sortOutKeys_16 : decode cX8_sortOutKeys 16 = .ok (.aload_n 0, 1) := by decide +kernel
theorem dX8_sortOutKeys_17 : decode cX8_sortOutKeys 17 = .ok (.getfield 51, 3) := by decide +kernel
theorem dX8_sortOutKeys_20 : decode cX8_sortOutKeys 20 = .ok (.invokestatic 118, 3) := by decide +kernel
theorem dX8_sortOutKeys_23 : decode cX8_sortOutKeys 23 = .ok (.putfield 51, 3) := by decide +kernel
theorem dX8_sortOutKeys_26 : decode cX8_sortOutKeys 26 = .ok (.aload_n 0, 1) := by decide +kernel
theorem dX8_sortOutKeys_27 : decode cX8_sortOutKeys 27 = .ok (.getfield 51, 3) := by decide +kernel
theorem dX8_sortOutKeys_30 : decode cX8_sortOutKeys 30 = .ok (.sipush 8192, 3) := by decide +kernel
theorem dX8_sortOutKeys_33 : decode cX8_sortOutKeys 33 = .ok (.if_icmp .gt 7, 3) := by decide +kernel
theorem dX8_sortOutKeys_36 : decode cX8_sortOutKeys 36 = .ok (.iconst 1, 1) := by decide +kernel
theorem dX8_sortOutKeys_37 : decode cX8_sortOutKeys 37 = .ok (.goto 4, 3) := by decide +kernel
theorem dX8_sortOutKeys_40 : decode cX8_sortOutKeys 40 = .ok (.iconst 0, 1) := by decide +kernel
theorem dX8_sortOutKeys_41 : decode cX8_sortOutKeys 41 = .ok (.ireturn, 1) := by decide +kernel
theorem dX8_addCrossings_0 : decode cX8_addCrossings 0 = .ok (.iconst 0, 1) := by decide +kernel
theorem dX8_addCrossings_1 : decode cX8_addCrossings 1 = .ok (.istore_n 1, 1) := by decide +kernel
theorem dX8_addCrossings_2 : decode cX8_addCrossings 2 = .ok (.iload_n 1, 1) := by decide +kernel
theorem dX8_addCrossings_3 : decode cX8_addCrossings 3 = .ok (.aload_n 0, 1) := by decide +kernel
theorem dX8_addCrossings_4 : decode cX8_addCrossings 4 = .ok (.getfield 14, 3) := by decide +kernel
theorem dX8_addCrossings_7 : decode cX8_addCrossings 7 = .ok (.getfield 44, 3) := by decide +kernel
theorem dX8_addCrossings_10 : decode cX8_addCrossings 10 = .ok (.if_icmp .ge 30, 3) := by decide +kernel
theorem dX8_addCrossings_13 : decode cX8_addCrossings 13 = .ok (.aload_n 0, 1) := by decide +kernel
theorem dX8_addCrossings_14 : decode cX8_addCrossings 14 = .ok (.getfield 22, 3) := by decide +kernel
theorem dX8_addCrossings_17 : decode cX8_addCrossings 17 = .ok (.iload_n 1, 1) := by decide +kernel
theorem dX8_addCrossings_18 : decode cX8_addCrossings 18 = .ok (.aload_n 0, 1) := by decide +kernel
theorem dX8_addCrossings_19 : decode cX8_addCrossings 19 = .ok (.getfield 14, 3) := by decide +kernel
theorem dX8_addCrossings_22 : decode cX8_addCrossings 22 = .ok (.iload_n 1, 1) := by decide +kernel
theorem dX8_addCrossings_23 : decode cX8_addCrossings 23 = .ok (.invokevirtual 122, 3) := by decide +kernel
theorem dX8_addCrossings_26 : decode cX8_addCrossings 26 = .ok (.i2l, 1) := by decide +kernel
theorem dX8_addCrossings_27 : decode cX8_addCrossings 27 = .ok (.bipush 32, 2) := by decide +kernel
theorem dX8_addCrossings_29 : decode cX8_addCrossings 29 = .ok (.lshl, 1) := by decide +kernel
theorem dX8_addCrossings_30 : decode cX8_addCrossings 30 = .ok (.iload_n 1, 1) := by decide +kernel
theorem dX8_addCrossings_31 : decode cX8_addCrossings 31 = .ok (.i2l, 1) := by decide +kernel
theorem dX8_addCrossings_32 : decode cX8_addCrossings 32 = .ok (.lor, 1) := by decide +kernel
theorem dX8_addCrossings_33 : decode cX8_addCrossings 33 = .ok (.lastore, 1) := by decide +kernel
theorem dX8_addCrossings_34 : decode cX8_addCrossings 34 = .ok (.iinc 1 1, 3) := by decide +kernel
theorem dX8_addCrossings_37 : decode cX8_addCrossings 37 = .ok (.goto (-35), 3) := by decide +kernel
theorem dX8_addCrossings_40 : decode cX8_addCrossings 40 = .ok (.aload_n 0, 1) := by decide +kernel
theorem dX8_addCrossings_41 : decode cX8_addCrossings 41 = .ok (.getfield 22, 3) := by decide +kernel
theorem dX8_addCrossings_44 : decode cX8_addCrossings 44 = .ok (.aload_n 0, 1) := by decide +kernel
theorem dX8_addCrossings_45 : decode cX8_addCrossings 45 = .ok (.getfield 14, 3) := by decide +kernel
theorem dX8_addCrossings_48 : decode cX8_addCrossings 48 = .ok (.getfield 44, 3) := by decide +kernel
theorem dX8_addCrossings_51 : decode cX8_addCrossings 51 = .ok (.invokestatic 114, 3) := by decide +kernel
theorem dX8_addCrossings_54 : decode cX8_addCrossings 54 = .ok (.iconst 0, 1) := by decide +kernel
theorem dX8_addCrossings_55 : decode cX8_addCrossings 55 = .ok (.istore_n 1, 1) := by decide +kernel
theorem dX8_addCrossings_56 : decode cX8_addCrossings 56 = .ok (.iload_n 1, 1) := by decide +kernel
theorem dX8_addCrossings_57 : decode cX8_addCrossings 57 = .ok (.aload_n 0, 1) := by decide +kernel
theorem dX8_addCrossings_58 : decode cX8_addCrossings 58 = .ok (.getfield 14, 3) := by decide +kernel
theorem dX8_addCrossings_61 : decode cX8_addCrossings 61 = .ok (.getfield 44, 3) := by decide +kernel
theorem dX8_addCrossings_64 : decode cX8_addCrossings 64 = .ok (.if_icmp .ge 101, 3) := by decide +kernel
theorem dX8_addCrossings_67 : decode cX8_addCrossings 67 = .ok (.aload_n 0, 1) := by decide +kernel
theorem dX8_addCrossings_68 : decode cX8_addCrossings 68 = .ok (.getfield 22, 3) := by decide +kernel
theorem dX8_addCrossings_71 : decode cX8_addCrossings 71 = .ok (.iload_n 1, 1) := by decide +kernel
theorem dX8_addCrossings_72 : decode cX8_addCrossings 72 = .ok (.laload, 1) := by decide +kernel
theorem dX8_addCrossings_73 : decode cX8_addCrossings 73 = .ok (.l2i, 1) := by decide +kernel
theorem dX8_addCrossings_74 : decode cX8_addCrossings 74 = .ok (.istore_n 2, 1) := by decide +kernel
theorem dX8_addCrossings_75 : decode cX8_addCrossings 75 = .ok (.aload_n 0, 1) := by decide +kernel
theorem dX8_addCrossings_76 : decode cX8_addCrossings 76 = .ok (.getfield 14, 3) := by decide +kernel
theorem dX8_addCrossings_79 : decode cX8_addCrossings 79 = .ok (.iload_n 2, 1) := by decide +kernel
theorem dX8_addCrossings_80 : decode cX8_addCrossings 80 = .ok (.invokevirtual 125, 3) := by decide +kernel
theorem dX8_addCrossings_83 : decode cX8_addCrossings 83 = .ok (.istore_n 3, 1) := by decide +kernel
theorem dX8_addCrossings_84 : decode cX8_addCrossings 84 = .ok (.iload_n 1, 1) := by decide +kernel
theorem dX8_addCrossings_85 : decode cX8_addCrossings 85 = .ok (.iconst 1, 1) := by decide +kernel
theorem dX8_addCrossings_86 : decode cX8_addCrossings 86 = .ok (.iadd, 1) := by decide +kernel
theorem dX8_addCrossings_87 : decode cX8_addCrossings 87 = .ok (.istore 4, 2) := by decide +kernel
theorem dX8_addCrossings_89 : decode cX8_addCrossings 89 = .ok (.iload 4, 2) := by decide +kernel
theorem dX8_addCrossings_91 : decode cX8_addCrossings 91 = .ok (.aload_n 0, 1) := by decide +kernel
theorem dX8_addCrossings_92 : decode cX8_addCrossings 92 = .ok (.getfield 14, 3) := by decide +kernel
theorem dX8_addCrossings_95 : decode cX8_addCrossings 95 = .ok (.getfield 44, 3) := by decide +kernel
theorem dX8_addCrossings_98 : decode cX8_addCrossings 98 = .ok (.if_icmp .ge 61, 3) := by decide +kernel
theorem dX8_addCrossings_101 : decode cX8_addCrossings 101 = .ok (.aload_n 0, 1) := by decide +kernel
theorem dX8_addCrossings_102 : decode cX8_addCrossings 102 = .ok (.getfield 22, 3) := by decide +kernel
theorem dX8_addCrossings_105 : decode cX8_addCrossings 105 = .ok (.iload 4, 2) := by decide +kernel
theorem dX8_addCrossings_107 : decode cX8_addCrossings 107 = .ok (.laload, 1) := by decide +kernel
theorem dX8_addCrossings_108 : decode cX8_addCrossings 108 = .ok (.bipush 32, 2) := by decide +kernel
theorem dX8_addCrossings_110 : decode cX8_addCrossings 110 = .ok (.lshr, 1) := by decide +kernel
theorem dX8_addCrossings_111 : decode cX8_addCrossings 111 = .ok (.iload_n 3, 1) := by decide +kernel
theorem dX8_addCrossings_112 : decode cX8_addCrossings 112 = .ok (.i2l, 1) := by decide +kernel
theorem dX8_addCrossings_113 : decode cX8_addCrossings 113 = .ok (.lcmp, 1) := by decide +kernel
theorem dX8_addCrossings_114 : decode cX8_addCrossings 114 = .ok (.ifCond .gt 45, 3) := by decide +kernel
theorem dX8_addCrossings_117 : decode cX8_addCrossings 117 = .ok (.aload_n 0, 1) := by decide +kernel
theorem dX8_addCrossings_118 : decode cX8_addCrossings 118 = .ok (.getfield 22, 3) := by decide +kernel
theorem dX8_addCrossings_121 : decode cX8_addCrossings 121 = .ok (.iload 4, 2) := by decide +kernel
theorem dX8_addCrossings_123 : decode cX8_addCrossings 123 = .ok (.laload, 1) := by decide +kernel
theorem dX8_addCrossings_124 : decode cX8_addCrossings 124 = .ok (.l2i, 1) := by decide +kernel
theorem dX8_addCrossings_125 : decode cX8_addCrossings 125 = .ok (.istore 5, 2) := by decide +kernel
theorem dX8_addCrossings_127 : decode cX8_addCrossings 127 = .ok (.aload_n 0, 1) := by decide +kernel
theorem dX8_addCrossings_128 : decode cX8_addCrossings 128 = .ok (.getfield 14, 3) := by decide +kernel
theorem dX8_addCrossings_131 : decode cX8_addCrossings 131 = .ok (.iload_n 2, 1) := by decide +kernel
theorem dX8_addCrossings_132 : decode cX8_addCrossings 132 = .ok (.iload 5, 2) := by decide +kernel
theorem dX8_addCrossings_134 : decode cX8_addCrossings 134 = .ok (.invokevirtual 128, 3) := by decide +kernel
theorem dX8_addCrossings_137 : decode cX8_addCrossings 137 = .ok (.iconst 1, 1) := by decide +kernel
theorem dX8_addCrossings_138 : decode cX8_addCrossings 138 = .ok (.if_icmp .ne 15, 3) := by decide +kernel
theorem dX8_addCrossings_141 : decode cX8_addCrossings 141 = .ok (.aload_n 0, 1) := by decide +kernel
theorem dX8_addCrossings_142 : decode cX8_addCrossings 142 = .ok (.iload_n 2, 1) := by decide +kernel
theorem dX8_addCrossings_143 : decode cX8_addCrossings 143 = .ok (.iload 5, 2) := by decide +kernel
theorem dX8_addCrossings_145 : decode cX8_addCrossings 145 = .ok (.invokevirtual 131, 3) := by decide +kernel
theorem dX8_addCrossings_148 : decode cX8_addCrossings 148 = .ok (.ifCond .ne 5, 3) := by decide +kernel
theorem dX8_addCrossings_151 : decode cX8_addCrossings 151 = .ok (.iconst 0, 1) := by decide +kernel
theorem dX8_addCrossings_152 : decode cX8_addCrossings 152 = .ok (.ireturn, 1) := by decide +kernel
theorem dX8_addCrossings_153 : decode cX8_addCrossings 153 = .ok (.iinc 4 1, 3) := by decide +kernel
theorem dX8_addCrossings_156 : decode cX8_addCrossings 156 = .ok (.goto (-67), 3) := by decide +kernel
theorem dX8_addCrossings_159 : decode cX8_addCrossings 159 = .ok (.iinc 1 1, 3) := by decide +kernel
theorem dX8_addCrossings_162 : decode cX8_addCrossings 162 = .ok (.goto (-106), 3) := by decide +kernel
theorem dX8_addCrossings_165 : decode cX8_addCrossings 165 = .ok (.iconst 1, 1) := by decide +kernel
theorem dX8_addCrossings_166 : decode cX8_addCrossings 166 = .ok (.ireturn, 1) := by decide +kernel
theorem dX8_addCrossing_0 : decode cX8_addCrossing 0 = .ok (.aload_n 0, 1) := by decide +kernel
theorem dX8_addCrossing_1 : decode cX8_addCrossing 1 = .ok (.getfield 14, 3) := by decide +kernel
theorem dX8_addCrossing_4 : decode cX8_addCrossing 4 = .ok (.getfield 134, 3) := by decide +kernel
theorem dX8_addCrossing_7 : decode cX8_addCrossing 7 = .ok (.iload_n 1, 1) := by decide +kernel
theorem dX8_addCrossing_8 : decode cX8_addCrossing 8 = .ok (.iaload, 1) := by decide +kernel
theorem dX8_addCrossing_9 : decode cX8_addCrossing 9 = .ok (.aload_n 0, 1) := by decide +kernel
theorem dX8_addCrossing_10 : decode cX8_addCrossing 10 = .ok (.getfield 14, 3) := by decide +kernel
theorem dX8_addCrossing_13 : decode cX8_addCrossing 13 = .ok (.getfield 137, 3) := by decide +kernel
theorem dX8_addCrossing_16 : decode cX8_addCrossing 16 = .ok (.iload_n 1, 1) := by decide +kernel
theorem dX8_addCrossing_17 : decode cX8_addCrossing 17 = .ok (.iaload, 1) := by decide +kernel
theorem dX8_addCrossing_18 : decode cX8_addCrossing 18 = .ok (.isub, 1) := by decide +kernel
theorem dX8_addCrossing_19 : decode cX8_addCrossing 19 = .ok (.istore_n 3, 1) := by decide +kernel
theorem dX8_addCrossing_20 : decode cX8_addCrossing 20 = .ok (.aload_n 0, 1) := by decide +kernel
theorem dX8_addCrossing_21 : decode cX8_addCrossing 21 = .ok (.getfield 14, 3) := by decide +kernel
theorem dX8_addCrossing_24 : decode cX8_addCrossing 24 = .ok (.getfield 140, 3) := by decide +kernel
theorem dX8_addCrossing_27 : decode cX8_addCrossing 27 = .ok (.iload_n 1, 1) := by decide +kernel
theorem dX8_addCrossing_28 : decode cX8_addCrossing 28 = .ok (.iaload, 1) := by decide +kernel
theorem dX8_addCrossing_29 : decode cX8_addCrossing 29 = .ok (.aload_n 0, 1) := by decide +kernel
theorem dX8_addCrossing_30 : decode cX8_addCrossing 30 = .ok (.getfield 14, 3) := by decide +kernel
theorem dX8_addCrossing_33 : decode cX8_addCrossing 33 = .ok (.getfield 143, 3) := by decide +kernel
theorem dX8_addCrossing_36 : decode cX8_addCrossing 36 = .ok (.iload_n 1, 1) := by decide +kernel
theorem dX8_addCrossing_37 : decode cX8_addCrossing 37 = .ok (.iaload, 1) := by decide +kernel
theorem dX8_addCrossing_38 : decode cX8_addCrossing 38 = .ok (.isub, 1) := by decide +kernel
theorem dX8_addCrossing_39 : decode cX8_addCrossing 39 = .ok (.istore 4, 2) := by decide +kernel
theorem dX8_addCrossing_41 : decode cX8_addCrossing 41 = .ok (.aload_n 0, 1) := by decide +kernel
theorem dX8_addCrossing_42 : decode cX8_addCrossing 42 = .ok (.getfield 14, 3) := by decide +kernel
theorem dX8_addCrossing_45 : decode cX8_addCrossing 45 = .ok (.getfield 134, 3) := by decide +kernel
theorem dX8_addCrossing_48 : decode cX8_addCrossing 48 = .ok (.iload_n 2, 1) := by decide +kernel
theorem dX8_addCrossing_49 : decode cX8_addCrossing 49 = .ok (.iaload, 1) := by decide +kernel
theorem dX8_addCrossing_50 : decode cX8_addCrossing 50 = .ok (.i2l, 1) := by decide +kernel
theorem dX8_addCrossing_51 : decode cX8_addCrossing 51 = .ok (.aload_n 0, 1) := by decide +kernel
theorem dX8_addCrossing_52 : decode cX8_addCrossing 52 = .ok (.getfield 14, 3) := by decide +kernel
theorem dX8_addCrossing_55 : decode cX8_addCrossing 55 = .ok (.getfield 137, 3) := by decide +kernel
theorem dX8_addCrossing_58 : decode cX8_addCrossing 58 = .ok (.iload_n 2, 1) := by decide +kernel
theorem dX8_addCrossing_59 : decode cX8_addCrossing 59 = .ok (.iaload, 1) := by decide +kernel
theorem dX8_addCrossing_60 : decode cX8_addCrossing 60 = .ok (.i2l, 1) := by decide +kernel
theorem dX8_addCrossing_61 : decode cX8_addCrossing 61 = .ok (.lsub, 1) := by decide +kernel
theorem dX8_addCrossing_62 : decode cX8_addCrossing 62 = .ok (.lstore 5, 2) := by decide +kernel
theorem dX8_addCrossing_64 : decode cX8_addCrossing 64 = .ok (.aload_n 0, 1) := by decide +kernel
theorem dX8_addCrossing_65 : decode cX8_addCrossing 65 = .ok (.getfield 14, 3) := by decide +kernel
theorem dX8_addCrossing_68 : decode cX8_addCrossing 68 = .ok (.getfield 140, 3) := by decide +kernel
theorem dX8_addCrossing_71 : decode cX8_addCrossing 71 = .ok (.iload_n 2, 1) := by decide +kernel
theorem dX8_addCrossing_72 : decode cX8_addCrossing 72 = .ok (.iaload, 1) := by decide +kernel
theorem dX8_addCrossing_73 : decode cX8_addCrossing 73 = .ok (.i2l, 1) := by decide +kernel
theorem dX8_addCrossing_74 : decode cX8_addCrossing 74 = .ok (.aload_n 0, 1) := by decide +kernel
theorem dX8_addCrossing_75 : decode cX8_addCrossing 75 = .ok (.getfield 14, 3) := by decide +kernel
theorem dX8_addCrossing_78 : decode cX8_addCrossing 78 = .ok (.getfield 143, 3) := by decide +kernel
theorem dX8_addCrossing_81 : decode cX8_addCrossing 81 = .ok (.iload_n 2, 1) := by decide +kernel
theorem dX8_addCrossing_82 : decode cX8_addCrossing 82 = .ok (.iaload, 1) := by decide +kernel
theorem dX8_addCrossing_83 : decode cX8_addCrossing 83 = .ok (.i2l, 1) := by decide +kernel
theorem dX8_addCrossing_84 : decode cX8_addCrossing 84 = .ok (.lsub, 1) := by decide +kernel
theorem dX8_addCrossing_85 : decode cX8_addCrossing 85 = .ok (.lstore 7, 2) := by decide +kernel
theorem dX8_addCrossing_87 : decode cX8_addCrossing 87 = .ok (.aload_n 0, 1) := by decide +kernel
theorem dX8_addCrossing_88 : decode cX8_addCrossing 88 = .ok (.getfield 14, 3) := by decide +kernel
theorem dX8_addCrossing_91 : decode cX8_addCrossing 91 = .ok (.getfield 137, 3) := by decide +kernel
theorem dX8_addCrossing_94 : decode cX8_addCrossing 94 = .ok (.iload_n 2, 1) := by decide +kernel
theorem dX8_addCrossing_95 : decode cX8_addCrossing 95 = .ok (.iaload, 1) := by decide +kernel
theorem dX8_addCrossing_96 : decode cX8_addCrossing 96 = .ok (.i2l, 1) := by decide +kernel
theorem dX8_addCrossing_97 : decode cX8_addCrossing 97 = .ok (.aload_n 0, 1) := by decide +kernel
theorem dX8_addCrossing_98 : decode cX8_addCrossing 98 = .ok (.getfield 14, 3) := by decide +kernel
theorem dX8_addCrossing_101 : decode cX8_addCrossing 101 = .ok (.getfield 137, 3) := by decide +kernel
theorem dX8_addCrossing_104 : decode cX8_addCrossing 104 = .ok (.iload_n 1, 1) := by decide +kernel
theorem dX8_addCrossing_105 : decode cX8_addCrossing 105 = .ok (.iaload, 1) := by decide +kernel
theorem dX8_addCrossing_106 : decode cX8_addCrossing 106 = .ok (.i2l, 1) := by decide +kernel
theorem dX8_addCrossing_107 : decode cX8_addCrossing 107 = .ok (.lsub, 1) := by decide +kernel
theorem dX8_addCrossing_108 : decode cX8_addCrossing 108 = .ok (.lstore 9, 2) := by decide +kernel
theorem dX8_addCrossing_110 : decode cX8_addCrossing 110 = .ok (.aload_n 0, 1) := by decide +kernel
theorem dX8_addCrossing_111 : decode cX8_addCrossing 111 = .ok (.getfield 14, 3) := by decide +kernel
theorem dX8_addCrossing_114 : decode cX8_addCrossing 114 = .ok (.getfield 143, 3) := by decide +kernel
theorem dX8_addCrossing_117 : decode cX8_addCrossing 117 = .ok (.iload_n 2, 1) := by decide +kernel
theorem dX8_addCrossing_118 : decode cX8_addCrossing 118 = .ok (.iaload, 1) := by decide +kernel
theorem dX8_addCrossing_119 : decode cX8_addCrossing 119 = .ok (.i2l, 1) := by decide +kernel
theorem dX8_addCrossing_120 : decode cX8_addCrossing 120 = .ok (.aload_n 0, 1) := by decide +kernel
theorem dX8_addCrossing_121 : decode cX8_addCrossing 121 = .ok (.getfield 14, 3) := by decide +kernel
theorem dX8_addCrossing_124 : decode cX8_addCrossing 124 = .ok (.getfield 143, 3) := by decide +kernel
theorem dX8_addCrossing_127 : decode cX8_addCrossing 127 = .ok (.iload_n 1, 1) := by decide +kernel
theorem dX8_addCrossing_128 : decode cX8_addCrossing 128 = .ok (.iaload, 1) := by decide +kernel
theorem dX8_addCrossing_129 : decode cX8_addCrossing 129 = .ok (.i2l, 1) := by decide +kernel
theorem dX8_addCrossing_130 : decode cX8_addCrossing 130 = .ok (.lsub, 1) := by decide +kernel
theorem dX8_addCrossing_131 : decode cX8_addCrossing 131 = .ok (.lstore 11, 2) := by decide +kernel
theorem dX8_addCrossing_133 : decode cX8_addCrossing 133 = .ok (.iload_n 3, 1) := by decide +kernel
theorem dX8_addCrossing_134 : decode cX8_addCrossing 134 = .ok (.i2l, 1) := by decide +kernel
theorem dX8_addCrossing_135 : decode cX8_addCrossing 135 = .ok (.lload 7, 2) := by decide +kernel
theorem dX8_addCrossing_137 : decode cX8_addCrossing 137 = .ok (.lmul, 1) := by decide +kernel
theorem dX8_addCrossing_138 : decode cX8_addCrossing 138 = .ok (.iload 4, 2) := by decide +kernel
theorem dX8_addCrossing_140 : decode cX8_addCrossing 140 = .ok (.i2l, 1) := by decide +kernel
theorem dX8_addCrossing_141 : decode cX8_addCrossing 141 = .ok (.lload 5, 2) := by decide +kernel
theorem dX8_addCrossing_143 : decode cX8_addCrossing 143 = .ok (.lmul, 1) := by decide +kernel
theorem dX8_addCrossing_144 : decode cX8_addCrossing 144 = .ok (.lsub, 1) := by decide +kernel
theorem dX8_addCrossing_145 : decode cX8_addCrossing 145 = .ok (.invokestatic 146, 3) := by decide +kernel
theorem dX8_addCrossing_148 : decode cX8_addCrossing 148 = .ok (.lstore 13, 2) := by decide +kernel
theorem dX8_addCrossing_150 : decode cX8_addCrossing 150 = .ok (.lload 9, 2) := by decide +kernel
theorem dX8_addCrossing_152 : decode cX8_addCrossing 152 = .ok (.lload 7, 2) := by decide +kernel
theorem dX8_addCrossing_154 : decode cX8_addCrossing 154 = .ok (.lmul, 1) := by decide +kernel
theorem dX8_addCrossing_155 : decode cX8_addCrossing 155 = .ok (.lload 11, 2) := by decide +kernel
theorem dX8_addCrossing_157 : decode cX8_addCrossing 157 = .ok (.lload 5, 2) := by decide +kernel
theorem dX8_addCrossing_159 : decode cX8_addCrossing 159 = .ok (.lmul, 1) := by decide +kernel
theorem dX8_addCrossing_160 : decode cX8_addCrossing 160 = .ok (.lsub, 1) := by decide +kernel
theorem dX8_addCrossing_161 : decode cX8_addCrossing 161 = .ok (.invokestatic 146, 3) := by decide +kernel
theorem dX8_addCrossing_164 : decode cX8_addCrossing 164 = .ok (.lstore 15, 2) := by decide +kernel
theorem dX8_addCrossing_166 : decode cX8_addCrossing 166 = .ok (.aload_n 0, 1) := by decide +kernel
theorem dX8_addCrossing_167 : decode cX8_addCrossing 167 = .ok (.aload_n 0, 1) := by decide +kernel
theorem dX8_addCrossing_168 : decode cX8_addCrossing 168 = .ok (.getfield 14, 3) := by decide +kernel
theorem dX8_addCrossing_171 : decode cX8_addCrossing 171 = .ok (.getfield 137, 3) := by decide +kernel
theorem dX8_addCrossing_174 : decode cX8_addCrossing 174 = .ok (.iload_n 1, 1) := by decide +kernel
theorem dX8_addCrossing_175 : decode cX8_addCrossing 175 = .ok (.iaload, 1) := by decide +kernel
theorem dX8_addCrossing_176 : decode cX8_addCrossing 176 = .ok (.iload_n 3, 1) := by decide +kernel
theorem dX8_addCrossing_177 : decode cX8_addCrossing 177 = .ok (.lload 15, 2) := by decide +kernel
theorem dX8_addCrossing_179 : decode cX8_addCrossing 179 = .ok (.lload 13, 2) := by decide +kernel
theorem dX8_addCrossing_181 : decode cX8_addCrossing 181 = .ok (.invokestatic 152, 3) := by decide +kernel
theorem dX8_addCrossing_184 : decode cX8_addCrossing 184 = .ok (.aload_n 0, 1) := by decide +kernel
theorem dX8_addCrossing_185 : decode cX8_addCrossing 185 = .ok (.getfield 14, 3) := by decide +kernel
theorem dX8_addCrossing_188 : decode cX8_addCrossing 188 = .ok (.getfield 143, 3) := by decide +kernel
theorem dX8_addCrossing_191 : decode cX8_addCrossing 191 = .ok (.iload_n 1, 1) := by decide +kernel
theorem dX8_addCrossing_192 : decode cX8_addCrossing 192 = .ok (.iaload, 1) := by decide +kernel
theorem dX8_addCrossing_193 : decode cX8_addCrossing 193 = .ok (.iload 4, 2) := by decide +kernel
theorem dX8_addCrossing_195 : decode cX8_addCrossing 195 = .ok (.lload 15, 2) := by decide +kernel
theorem dX8_addCrossing_197 : decode cX8_addCrossing 197 = .ok (.lload 13, 2) := by decide +kernel
theorem dX8_addCrossing_199 : decode cX8_addCrossing 199 = .ok (.invokestatic 152, 3) := by decide +kernel
theorem dX8_addCrossing_202 : decode cX8_addCrossing 202 = .ok (.invokevirtual 102, 3) := by decide +kernel
theorem dX8_addCrossing_205 : decode cX8_addCrossing 205 = .ok (.ireturn, 1) := by decide +kernel
theorem dX8_pixelAt_0 : decode cX8_pixelAt 0 = .ok (.lload 4, 2) := by decide +kernel
theorem dX8_pixelAt_2 : decode cX8_pixelAt 2 = .ok (.lconst 0, 1) := by decide +kernel
theorem dX8_pixelAt_3 : decode cX8_pixelAt 3 = .ok (.lcmp, 1) := by decide +kernel
theorem dX8_pixelAt_4 : decode cX8_pixelAt 4 = .ok (.ifCond .gt 5, 3) := by decide +kernel
theorem dX8_pixelAt_7 : decode cX8_pixelAt 7 = .ok (.iload_n 0, 1) := by decide +kernel
theorem dX8_pixelAt_8 : decode cX8_pixelAt 8 = .ok (.ireturn, 1) := by decide +kernel
theorem dX8_pixelAt_9 : decode cX8_pixelAt 9 = .ok (.iload_n 1, 1) := by decide +kernel
theorem dX8_pixelAt_10 : decode cX8_pixelAt 10 = .ok (.invokestatic 156, 3) := by decide +kernel
theorem dX8_pixelAt_13 : decode cX8_pixelAt 13 = .ok (.i2l, 1) := by decide +kernel
theorem dX8_pixelAt_14 : decode cX8_pixelAt 14 = .ok (.lstore 6, 2) := by decide +kernel
theorem dX8_pixelAt_16 : decode cX8_pixelAt 16 = .ok (.lconst 0, 1) := by decide +kernel
theorem dX8_pixelAt_17 : decode cX8_pixelAt 17 = .ok (.lstore 8, 2) := by decide +kernel
theorem dX8_pixelAt_19 : decode cX8_pixelAt 19 = .ok (.lconst 0, 1) := by decide +kernel
theorem dX8_pixelAt_20 : decode cX8_pixelAt 20 = .ok (.lstore 10, 2) := by decide +kernel
theorem dX8_pixelAt_22 : decode cX8_pixelAt 22 = .ok (.lload_n 2, 1) := by decide +kernel
theorem dX8_pixelAt_23 : decode cX8_pixelAt 23 = .ok (.ldc2_w 160, 3) := by decide +kernel
theorem dX8_pixelAt_26 : decode cX8_pixelAt 26 = .ok (.lcmp, 1) := by decide +kernel
theorem dX8_pixelAt_27 : decode cX8_pixelAt 27 = .ok (.ifCond .gt 24, 3) := by decide +kernel
theorem dX8_pixelAt_30 : decode cX8_pixelAt 30 = .ok (.lload 6, 2) := by decide +kernel
theorem dX8_pixelAt_32 : decode cX8_pixelAt 32 = .ok (.lload_n 2, 1) := by decide +kernel
theorem dX8_pixelAt_33 : decode cX8_pixelAt 33 = .ok (.lmul, 1) := by decide +kernel
theorem dX8_pixelAt_34 : decode cX8_pixelAt 34 = .ok (.lload 4, 2) := by decide +kernel
theorem dX8_pixelAt_36 : decode cX8_pixelAt 36 = .ok (.ldiv, 1) := by decide +kernel
theorem dX8_pixelAt_37 : decode cX8_pixelAt 37 = .ok (.lstore 8, 2) := by decide +kernel
theorem dX8_pixelAt_39 : decode cX8_pixelAt 39 = .ok (.lload 6, 2) := by decide +kernel
theorem dX8_pixelAt_41 : decode cX8_pixelAt 41 = .ok (.lload_n 2, 1) := by decide +kernel
theorem dX8_pixelAt_42 : decode cX8_pixelAt 42 = .ok (.lmul, 1) := by decide +kernel
theorem dX8_pixelAt_43 : decode cX8_pixelAt 43 = .ok (.lload 4, 2) := by decide +kernel
theorem dX8_pixelAt_45 : decode cX8_pixelAt 45 = .ok (.lrem, 1) := by decide +kernel
theorem dX8_pixelAt_46 : decode cX8_pixelAt 46 = .ok (.lstore 10, 2) := by decide +kernel
theorem dX8_pixelAt_48 : decode cX8_pixelAt 48 = .ok (.goto 72, 3) := by decide +kernel
theorem dX8_pixelAt_51 : decode cX8_pixelAt 51 = .ok (.bipush 30, 2) := by decide +kernel
theorem dX8_pixelAt_53 : decode cX8_pixelAt 53 = .ok (.istore 12, 2) := by decide +kernel
theorem dX8_pixelAt_55 : decode cX8_pixelAt 55 = .ok (.iload 12, 2) := by decide +kernel
theorem dX8_pixelAt_57 : decode cX8_pixelAt 57 = .ok (.ifCond .lt 63, 3) := by decide +kernel
theorem dX8_pixelAt_60 : decode cX8_pixelAt 60 = .ok (.ldc2_w 162, 3) := by decide +kernel
theorem dX8_pixelAt_63 : decode cX8_pixelAt 63 = .ok (.lload 10, 2) := by decide +kernel
theorem dX8_pixelAt_65 : decode cX8_pixelAt 65 = .ok (.lmul, 1) := by decide +kernel
theorem dX8_pixelAt_66 : decode cX8_pixelAt 66 = .ok (.lload 6, 2) := by decide +kernel
theorem dX8_pixelAt_68 : decode cX8_pixelAt 68 = .ok (.iload 12, 2) := by decide +kernel
theorem dX8_pixelAt_70 : decode cX8_pixelAt 70 = .ok (.lshr, 1) := by decide +kernel
theorem dX8_pixelAt_71 : decode cX8_pixelAt 71 = .ok (.lconst 1, 1) := by decide +kernel
theorem dX8_pixelAt_72 : decode cX8_pixelAt 72 = .ok (.land, 1) := by decide +kernel
theorem dX8_pixelAt_73 : decode cX8_pixelAt 73 = .ok (.lconst 1, 1) := by decide +kernel
theorem dX8_pixelAt_74 : decode cX8_pixelAt 74 = .ok (.lcmp, 1) := by decide +kernel
theorem dX8_pixelAt_75 : decode cX8_pixelAt 75 = .ok (.ifCond .ne 7, 3) := by decide +kernel
theorem dX8_pixelAt_78 : decode cX8_pixelAt 78 = .ok (.lload_n 2, 1) := by decide +kernel
theorem dX8_pixelAt_79 : decode cX8_pixelAt 79 = .ok (.goto 4, 3) := by decide +kernel
theorem dX8_pixelAt_82 : decode cX8_pixelAt 82 = .ok (.lconst 0, 1) := by decide +kernel
theorem dX8_pixelAt_83 : decode cX8_pixelAt 83 = .ok (.ladd, 1) := by decide +kernel
theorem dX8_pixelAt_84 : decode cX8_pixelAt 84 = .ok (.lstore 10, 2) := by decide +kernel
theorem dX8_pixelAt_86 : decode cX8_pixelAt 86 = .ok (.lload 10, 2) := by decide +kernel
theorem dX8_pixelAt_88 : decode cX8_pixelAt 88 = .ok (.lload 4, 2) := by decide +kernel
theorem dX8_pixelAt_90 : decode cX8_pixelAt 90 = .ok (.ldiv, 1) := by decide +kernel
theorem dX8_pixelAt_91 : decode cX8_pixelAt 91 = .ok (.lstore 13, 2) := by decide +kernel
theorem dX8_pixelAt_93 : decode cX8_pixelAt 93 = .ok (.lload 10, 2) := by decide +kernel
theorem dX8_pixelAt_95 : decode cX8_pixelAt 95 = .ok (.lload 13, 2) := by decide +kernel
theorem dX8_pixelAt_97 : decode cX8_pixelAt 97 = .ok (.lload 4, 2) := by decide +kernel
theorem dX8_pixelAt_99 : decode cX8_pixelAt 99 = .ok (.lmul, 1) := by decide +kernel
theorem dX8_pixelAt_100 : decode cX8_pixelAt 100 = .ok (.lsub, 1) := by decide +kernel
theorem dX8_pixelAt_101 : decode cX8_pixelAt 101 = .ok (.lstore 10, 2) := by decide +kernel
theorem dX8_pixelAt_103 : decode cX8_pixelAt 103 = .ok (.ldc2_w 162, 3) := by decide +kernel
theorem dX8_pixelAt_106 : decode cX8_pixelAt 106 = .ok (.lload 8, 2) := by decide +kernel
theorem dX8_pixelAt_108 : decode cX8_pixelAt 108 = .ok (.lmul, 1) := by decide +kernel
theorem dX8_pixelAt_109 : decode cX8_pixelAt 109 = .ok (.lload 13, 2) := by decide +kernel
theorem dX8_pixelAt_111 : decode cX8_pixelAt 111 = .ok (.ladd, 1) := by decide +kernel
theorem dX8_pixelAt_112 : decode cX8_pixelAt 112 = .ok (.lstore 8, 2) := by decide +kernel
theorem dX8_pixelAt_114 : decode cX8_pixelAt 114 = .ok (.iinc 12 (-1), 3) := by decide +kernel
theorem dX8_pixelAt_117 : decode cX8_pixelAt 117 = .ok (.goto (-62), 3) := by decide +kernel
theorem dX8_pixelAt_120 : decode cX8_pixelAt 120 = .ok (.iload_n 1, 1) := by decide +kernel
theorem dX8_pixelAt_121 : decode cX8_pixelAt 121 = .ok (.ifCond .lt 23, 3) := by decide +kernel
theorem dX8_pixelAt_124 : decode cX8_pixelAt 124 = .ok (.ldc2_w 162, 3) := by decide +kernel
theorem dX8_pixelAt_127 : decode cX8_pixelAt 127 = .ok (.lload 10, 2) := by decide +kernel
theorem dX8_pixelAt_129 : decode cX8_pixelAt 129 = .ok (.lmul, 1) := by decide +kernel
theorem dX8_pixelAt_130 : decode cX8_pixelAt 130 = .ok (.lload 4, 2) := by decide +kernel
theorem dX8_pixelAt_132 : decode cX8_pixelAt 132 = .ok (.lcmp, 1) := by decide +kernel
theorem dX8_pixelAt_133 : decode cX8_pixelAt 133 = .ok (.ifCond .lt 7, 3) := by decide +kernel
theorem dX8_pixelAt_136 : decode cX8_pixelAt 136 = .ok (.iconst 1, 1) := by decide +kernel
theorem dX8_pixelAt_137 : decode cX8_pixelAt 137 = .ok (.goto 24, 3) := by decide +kernel
theorem dX8_pixelAt_140 : decode cX8_pixelAt 140 = .ok (.iconst 0, 1) := by decide +kernel
theorem dX8_pixelAt_141 : decode cX8_pixelAt 141 = .ok (.goto 20, 3) := by decide +kernel
theorem dX8_pixelAt_144 : decode cX8_pixelAt 144 = .ok (.ldc2_w 162, 3) := by decide +kernel
theorem dX8_pixelAt_147 : decode cX8_pixelAt 147 = .ok (.lload 10, 2) := by decide +kernel
theorem dX8_pixelAt_149 : decode cX8_pixelAt 149 = .ok (.lmul, 1) := by decide +kernel
theorem dX8_pixelAt_150 : decode cX8_pixelAt 150 = .ok (.lload 4, 2) := by decide +kernel
theorem dX8_pixelAt_152 : decode cX8_pixelAt 152 = .ok (.lcmp, 1) := by decide +kernel
theorem dX8_pixelAt_153 : decode cX8_pixelAt 153 = .ok (.ifCond .le 7, 3) := by decide +kernel
theorem dX8_pixelAt_156 : decode cX8_pixelAt 156 = .ok (.iconst 1, 1) := by decide +kernel
theorem dX8_pixelAt_157 : decode cX8_pixelAt 157 = .ok (.goto 4, 3) := by decide +kernel
theorem dX8_pixelAt_160 : decode cX8_pixelAt 160 = .ok (.iconst 0, 1) := by decide +kernel
theorem dX8_pixelAt_161 : decode cX8_pixelAt 161 = .ok (.istore 12, 2) := by decide +kernel
theorem dX8_pixelAt_163 : decode cX8_pixelAt 163 = .ok (.iload 12, 2) := by decide +kernel
theorem dX8_pixelAt_165 : decode cX8_pixelAt 165 = .ok (.ifCond .eq 10, 3) := by decide +kernel
theorem dX8_pixelAt_168 : decode cX8_pixelAt 168 = .ok (.lload 8, 2) := by decide +kernel
theorem dX8_pixelAt_170 : decode cX8_pixelAt 170 = .ok (.lconst 1, 1) := by decide +kernel
theorem dX8_pixelAt_171 : decode cX8_pixelAt 171 = .ok (.ladd, 1) := by decide +kernel
theorem dX8_pixelAt_172 : decode cX8_pixelAt 172 = .ok (.goto 5, 3) := by decide +kernel
theorem dX8_pixelAt_175 : decode cX8_pixelAt 175 = .ok (.lload 8, 2) := by decide +kernel
theorem dX8_pixelAt_177 : decode cX8_pixelAt 177 = .ok (.lstore 13, 2) := by decide +kernel
theorem dX8_pixelAt_179 : decode cX8_pixelAt 179 = .ok (.iload_n 1, 1) := by decide +kernel
theorem dX8_pixelAt_180 : decode cX8_pixelAt 180 = .ok (.ifCond .lt 11, 3) := by decide +kernel
theorem dX8_pixelAt_183 : decode cX8_pixelAt 183 = .ok (.iload_n 0, 1) := by decide +kernel
theorem dX8_pixelAt_184 : decode cX8_pixelAt 184 = .ok (.i2l, 1) := by decide +kernel
theorem dX8_pixelAt_185 : decode cX8_pixelAt 185 = .ok (.lload 13, 2) := by decide +kernel
theorem dX8_pixelAt_187 : decode cX8_pixelAt 187 = .ok (.ladd, 1) := by decide +kernel
theorem dX8_pixelAt_188 : decode cX8_pixelAt 188 = .ok (.goto 8, 3) := by decide +kernel
theorem dX8_pixelAt_191 : decode cX8_pixelAt 191 = .ok (.iload_n 0, 1) := by decide +kernel
theorem dX8_pixelAt_192 : decode cX8_pixelAt 192 = .ok (.i2l, 1) := by decide +kernel
theorem dX8_pixelAt_193 : decode cX8_pixelAt 193 = .ok (.lload 13, 2) := by decide +kernel
theorem dX8_pixelAt_195 : decode cX8_pixelAt 195 = .ok (.lsub, 1) := by decide +kernel
theorem dX8_pixelAt_196 : decode cX8_pixelAt 196 = .ok (.l2i, 1) := by decide +kernel
theorem dX8_pixelAt_197 : decode cX8_pixelAt 197 = .ok (.ireturn, 1) := by decide +kernel
theorem dX8_sortHot_0 : decode cX8_sortHot 0 = .ok (.aload_n 0, 1) := by decide +kernel
theorem dX8_sortHot_1 : decode cX8_sortHot 1 = .ok (.invokevirtual 105, 3) := by decide +kernel
theorem dX8_sortHot_4 : decode cX8_sortHot 4 = .ok (.ifCond .ne 5, 3) := by decide +kernel
theorem dX8_sortHot_7 : decode cX8_sortHot 7 = .ok (.iconst 0, 1) := by decide +kernel
theorem dX8_sortHot_8 : decode cX8_sortHot 8 = .ok (.ireturn, 1) := by decide +kernel
theorem dX8_sortHot_9 : decode cX8_sortHot 9 = .ok (.aload_n 0, 1) := by decide +kernel
theorem dX8_sortHot_10 : decode cX8_sortHot 10 = .ok (.aload_n 0, 1) := by decide +kernel
theorem dX8_sortHot_11 : decode cX8_sortHot 11 = .ok (.getfield 51, 3) := by decide +kernel
theorem dX8_sortHot_14 : decode cX8_sortHot 14 = .ok (.putfield 164, 3) := by decide +kernel
theorem dX8_sortHot_17 : decode cX8_sortHot 17 = .ok (.iconst 0, 1) := by decide +kernel
theorem dX8_sortHot_18 : decode cX8_sortHot 18 = .ok (.istore_n 1, 1) := by decide +kernel
theorem dX8_sortHot_19 : decode cX8_sortHot 19 = .ok (.iload_n 1, 1) := by decide +kernel
theorem dX8_sortHot_20 : decode cX8_sortHot 20 = .ok (.aload_n 0, 1) := by decide +kernel
theorem dX8_sortHot_21 : decode cX8_sortHot 21 = .ok (.getfield 164, 3) := by decide +kernel
theorem dX8_sortHot_24 : decode cX8_sortHot 24 = .ok (.if_icmp .ge 39, 3) := by decide +kernel
theorem dX8_sortHot_27 : decode cX8_sortHot 27 = .ok (.aload_n 0, 1) := by decide +kernel
theorem dX8_sortHot_28 : decode cX8_sortHot 28 = .ok (.getfield 29, 3) := by decide +kernel
theorem dX8_sortHot_31 : decode cX8_sortHot 31 = .ok (.iload_n 1, 1) := by decide +kernel
theorem dX8_sortHot_32 : decode cX8_sortHot 32 = .ok (.aload_n 0, 1) := by decide +kernel
theorem dX8_sortHot_33 : decode cX8_sortHot 33 = .ok (.getfield 18, 3) := by decide +kernel
theorem dX8_sortHot_36 : decode cX8_sortHot 36 = .ok (.iload_n 1, 1) := by decide +kernel
theorem dX8_sortHot_37 : decode cX8_sortHot 37 = .ok (.laload, 1) := by decide +kernel
theorem dX8_sortHot_38 : decode cX8_sortHot 38 = .ok (.invokestatic 167, 3) := by decide +kernel
theorem dX8_sortHot_41 : decode cX8_sortHot 41 = .ok (.iastore, 1) := by decide +kernel
theorem dX8_sortHot_42 : decode cX8_sortHot 42 = .ok (.aload_n 0, 1) := by decide +kernel
theorem dX8_sortHot_43 : decode cX8_sortHot 43 = .ok (.getfield 32, 3) := by decide +kernel
theorem dX8_sortHot_46 : decode cX8_sortHot 46 = .ok (.iload_n 1, 1) := by decide +kernel
theorem dX8_sortHot_47 : decode cX8_sortHot 47 = .ok (.aload_n 0, 1) := by decide +kernel
theorem dX8_sortHot_48 : decode cX8_sortHot 48 = .ok (.getfield 18, 3) := by decide +kernel
theorem dX8_sortHot_51 : decode cX8_sortHot 51 = .ok (.iload_n 1, 1) := by decide +kernel
theorem dX8_sortHot_52 : decode cX8_sortHot 52 = .ok (.laload, 1) := by decide +kernel
theorem dX8_sortHot_53 : decode cX8_sortHot 53 = .ok (.invokestatic 171, 3) := by decide +kernel
theorem dX8_sortHot_56 : decode cX8_sortHot 56 = .ok (.iastore, 1) := by decide +kernel
theorem dX8_sortHot_57 : decode cX8_sortHot 57 = .ok (.iinc 1 1, 3) := by decide +kernel
theorem dX8_sortHot_60 : decode cX8_sortHot 60 = .ok (.goto (-41), 3) := by decide +kernel
theorem dX8_sortHot_63 : decode cX8_sortHot 63 = .ok (.iconst 1, 1) := by decide +kernel
theorem dX8_sortHot_64 : decode cX8_sortHot 64 = .ok (.ireturn, 1) := by decide +kernel
theorem dX8_layChains_0 : decode cX8_layChains 0 = .ok (.aload_n 0, 1) := by decide +kernel
theorem dX8_layChains_1 : decode cX8_layChains 1 = .ok (.getfield 48, 3) := by decide +kernel
theorem dX8_layChains_4 : decode cX8_layChains 4 = .ok (.istore_n 1, 1) := by decide +kernel
theorem dX8_layChains_5 : decode cX8_layChains 5 = .ok (.iconst 0, 1) := by decide +kernel
theorem dX8_layChains_6 : decode cX8_layChains 6 = .ok (.istore_n 2, 1) := by decide +kernel
theorem dX8_layChains_7 : decode cX8_layChains 7 = .ok (.iconst 0, 1) := by decide +kernel
theorem dX8_layChains_8 : decode cX8_layChains 8 = .ok (.istore_n 3, 1) := by decide +kernel
theorem dX8_layChains_9 : decode cX8_layChains 9 = .ok (.iload_n 3, 1) := by decide +kernel
theorem dX8_layChains_10 : decode cX8_layChains 10 = .ok (.aload_n 0, 1) := by decide +kernel
theorem dX8_layChains_11 : decode cX8_layChains 11 = .ok (.getfield 14, 3) := by decide +kernel
theorem dX8_layChains_14 : decode cX8_layChains 14 = .ok (.getfield 44, 3) := by decide +kernel
theorem dX8_layChains_17 : decode cX8_layChains 17 = .ok (.if_icmp .ge 122, 3) := by decide +kernel
theorem dX8_layChains_20 : decode cX8_layChains 20 = .ok (.aload_n 0, 1) := by decide +kernel
theorem dX8_layChains_21 : decode cX8_layChains 21 = .ok (.iload_n 3, 1) := by decide +kernel
theorem dX8_layChains_22 : decode cX8_layChains 22 = .ok (.invokevirtual 174, 3) := by decide +kernel
theorem dX8_layChains_25 : decode cX8_layChains 25 = .ok (.istore 4, 2) := by decide +kernel
theorem dX8_layChains_27 : decode cX8_layChains 27 = .ok (.iload_n 1, 1) := by decide +kernel
theorem dX8_layChains_28 : decode cX8_layChains 28 = .ok (.iload 4, 2) := by decide +kernel
theorem dX8_layChains_30 : decode cX8_layChains 30 = .ok (.iadd, 1) := by decide +kernel
theorem dX8_layChains_31 : decode cX8_layChains 31 = .ok (.istore_n 1, 1) := by decide +kernel
theorem dX8_layChains_32 : decode cX8_layChains 32 = .ok (.iload_n 1, 1) := by decide +kernel
theorem dX8_layChains_33 : decode cX8_layChains 33 = .ok (.sipush 16384, 3) := by decide +kernel
theorem dX8_layChains_36 : decode cX8_layChains 36 = .ok (.if_icmp .le 5, 3) := by decide +kernel
theorem dX8_layChains_39 : decode cX8_layChains 39 = .ok (.iconst 0, 1) := by decide +kernel
theorem dX8_layChains_40 : decode cX8_layChains 40 = .ok (.ireturn, 1) := by decide +kernel
theorem dX8_layChains_41 : decode cX8_layChains 41 = .ok (.iconst 0, 1) := by decide +kernel
theorem dX8_layChains_42 : decode cX8_layChains 42 = .ok (.istore 5, 2) := by decide +kernel
theorem dX8_layChains_44 : decode cX8_layChains 44 = .ok (.iload 5, 2) := by decide +kernel
theorem dX8_layChains_46 : decode cX8_layChains 46 = .ok (.iconst 1, 1) := by decide +kernel
theorem dX8_layChains_47 : decode cX8_layChains 47 = .ok (.iadd, 1) := by decide +kernel
theorem dX8_layChains_48 : decode cX8_layChains 48 = .ok (.iload 4, 2) := by decide +kernel
theorem dX8_layChains_50 : decode cX8_layChains 50 = .ok (.if_icmp .ge 83, 3) := by decide +kernel
theorem dX8_layChains_53 : decode cX8_layChains 53 = .ok (.aload_n 0, 1) := by decide +kernel
theorem dX8_layChains_54 : decode cX8_layChains 54 = .ok (.getfield 25, 3) := by decide +kernel
theorem dX8_layChains_57 : decode cX8_layChains 57 = .ok (.iload 5, 2) := by decide +kernel
theorem dX8_layChains_59 : decode cX8_layChains 59 = .ok (.iaload, 1) := by decide +kernel
theorem dX8_layChains_60 : decode cX8_layChains 60 = .ok (.aload_n 0, 1) := by decide +kernel
theorem dX8_layChains_61 : decode cX8_layChains 61 = .ok (.getfield 25, 3) := by decide +kernel
theorem dX8_layChains_64 : decode cX8_layChains 64 = .ok (.iload 5, 2) := by decide +kernel
theorem dX8_layChains_66 : decode cX8_layChains 66 = .ok (.iconst 1, 1) := by decide +kernel
theorem dX8_layChains_67 : decode cX8_layChains 67 = .ok (.iadd, 1) := by decide +kernel
theorem dX8_layChains_68 : decode cX8_layChains 68 = .ok (.iaload, 1) := by decide +kernel
theorem dX8_layChains_69 : decode cX8_layChains 69 = .ok (.invokestatic 177, 3) := by decide +kernel
theorem dX8_layChains_72 : decode cX8_layChains 72 = .ok (.i2l, 1) := by decide +kernel
theorem dX8_layChains_73 : decode cX8_layChains 73 = .ok (.lstore 6, 2) := by decide +kernel
theorem dX8_layChains_75 : decode cX8_layChains 75 = .ok (.aload_n 0, 1) := by decide +kernel
theorem dX8_layChains_76 : decode cX8_layChains 76 = .ok (.getfield 25, 3) := by decide +kernel
theorem dX8_layChains_79 : decode cX8_layChains 79 = .ok (.iload 5, 2) := by decide +kernel
theorem dX8_layChains_81 : decode cX8_layChains 81 = .ok (.iaload, 1) := by decide +kernel
theorem dX8_layChains_82 : decode cX8_layChains 82 = .ok (.aload_n 0, 1) := by decide +kernel
theorem dX8_layChains_83 : decode cX8_layChains 83 = .ok (.getfield 25, 3) := by decide +kernel
theorem dX8_layChains_86 : decode cX8_layChains 86 = .ok (.iload 5, 2) := by decide +kernel
theorem dX8_layChains_88 : decode cX8_layChains 88 = .ok (.iconst 1, 1) := by decide +kernel
theorem dX8_layChains_89 : decode cX8_layChains 89 = .ok (.iadd, 1) := by decide +kernel
theorem dX8_layChains_90 : decode cX8_layChains 90 = .ok (.iaload, 1) := by decide +kernel
theorem dX8_layChains_91 : decode cX8_layChains 91 = .ok (.invokestatic 180, 3) := by decide +kernel
theorem dX8_layChains_94 : decode cX8_layChains 94 = .ok (.i2l, 1) := by decide +kernel
theorem dX8_layChains_95 : decode cX8_layChains 95 = .ok (.lstore 8, 2) := by decide +kernel
theorem dX8_layChains_97 : decode cX8_layChains 97 = .ok (.aload_n 0, 1) := by decide +kernel
theorem dX8_layChains_98 : decode cX8_layChains 98 = .ok (.getfield 22, 3) := by decide +kernel
theorem dX8_layChains_101 : decode cX8_layChains 101 = .ok (.iload_n 2, 1) := by decide +kernel
theorem dX8_layChains_102 : decode cX8_layChains 102 = .ok (.lload 6, 2) := by decide +kernel
theorem dX8_layChains_104 : decode cX8_layChains 104 = .ok (.bipush 13, 2) := by decide +kernel
theorem dX8_layChains_106 : decode cX8_layChains 106 = .ok (.lshl, 1) := by decide +kernel
theorem dX8_layChains_107 : decode cX8_layChains 107 = .ok (.lload 8, 2) := by decide +kernel
theorem dX8_layChains_109 : decode cX8_layChains 109 = .ok (.lor, 1) := by decide +kernel
theorem dX8_layChains_110 : decode cX8_layChains 110 = .ok (.iconst 2, 1) := by decide +kernel
theorem dX8_layChains_111 : decode cX8_layChains 111 = .ok (.lshl, 1) := by decide +kernel
theorem dX8_layChains_112 : decode cX8_layChains 112 = .ok (.aload_n 0, 1) := by decide +kernel
theorem dX8_layChains_113 : decode cX8_layChains 113 = .ok (.getfield 14, 3) := by decide +kernel
theorem dX8_layChains_116 : decode cX8_layChains 116 = .ok (.getfield 183, 3) := by decide +kernel
theorem dX8_layChains_119 : decode cX8_layChains 119 = .ok (.iload_n 3, 1) := by decide +kernel
theorem dX8_layChains_120 : decode cX8_layChains 120 = .ok (.iaload, 1) := by decide +kernel
theorem dX8_layChains_121 : decode cX8_layChains 121 = .ok (.i2l, 1) := by decide +kernel
theorem dX8_layChains_122 : decode cX8_layChains 122 = .ok (.lor, 1) := by decide +kernel
theorem dX8_layChains_123 : decode cX8_layChains 123 = .ok (.lastore, 1) := by decide +kernel
theorem dX8_layChains_124 : decode cX8_layChains 124 = .ok (.iinc 2 1, 3) := by decide +kernel
theorem dX8_layChains_127 : decode cX8_layChains 127 = .ok (.iinc 5 1, 3) := by decide +kernel
theorem dX8_layChains_130 : decode cX8_layChains 130 = .ok (.goto (-86), 3) := by decide +kernel
theorem dX8_layChains_133 : decode cX8_layChains 133 = .ok (.iinc 3 1, 3) := by decide +kernel
theorem dX8_layChains_136 : decode cX8_layChains 136 = .ok (.goto (-127), 3) := by decide +kernel
theorem dX8_layChains_139 : decode cX8_layChains 139 = .ok (.aload_n 0, 1) := by decide +kernel
theorem dX8_layChains_140 : decode cX8_layChains 140 = .ok (.getfield 22, 3) := by decide +kernel
theorem dX8_layChains_143 : decode cX8_layChains 143 = .ok (.iload_n 2, 1) := by decide +kernel
theorem dX8_layChains_144 : decode cX8_layChains 144 = .ok (.invokestatic 114, 3) := by decide +kernel
theorem dX8_layChains_147 : decode cX8_layChains 147 = .ok (.aload_n 0, 1) := by decide +kernel
theorem dX8_layChains_148 : decode cX8_layChains 148 = .ok (.iload_n 2, 1) := by decide +kernel
theorem dX8_layChains_149 : decode cX8_layChains 149 = .ok (.invokevirtual 186, 3) := by decide +kernel
theorem dX8_layChains_152 : decode cX8_layChains 152 = .ok (.iconst 1, 1) := by decide +kernel
theorem dX8_layChains_153 : decode cX8_layChains 153 = .ok (.ireturn, 1) := by decide +kernel
theorem dX8_layChain_0 : decode cX8_layChain 0 = .ok (.aload_n 0, 1) := by decide +kernel
theorem dX8_layChain_1 : decode cX8_layChain 1 = .ok (.getfield 14, 3) := by decide +kernel
theorem dX8_layChain_4 : decode cX8_layChain 4 = .ok (.getfield 137, 3) := by decide +kernel
theorem dX8_layChain_7 : decode cX8_layChain 7 = .ok (.iload_n 1, 1) := by decide +kernel
theorem dX8_layChain_8 : decode cX8_layChain 8 = .ok (.iaload, 1) := by decide +kernel
theorem dX8_layChain_9 : decode cX8_layChain 9 = .ok (.aload_n 0, 1) := by decide +kernel
theorem dX8_layChain_10 : decode cX8_layChain 10 = .ok (.getfield 14, 3) := by decide +kernel
theorem dX8_layChain_13 : decode cX8_layChain 13 = .ok (.getfield 134, 3) := by decide +kernel
theorem dX8_layChain_16 : decode cX8_layChain 16 = .ok (.iload_n 1, 1) := by decide +kernel
theorem dX8_layChain_17 : decode cX8_layChain 17 = .ok (.iaload, 1) := by decide +kernel
theorem dX8_layChain_18 : decode cX8_layChain 18 = .ok (.if_icmp .gt 45, 3) := by decide +kernel
theorem dX8_layChain_21 : decode cX8_layChain 21 = .ok (.aload_n 0, 1) := by decide +kernel
theorem dX8_layChain_22 : decode cX8_layChain 22 = .ok (.getfield 14, 3) := by decide +kernel
theorem dX8_layChain_25 : decode cX8_layChain 25 = .ok (.getfield 137, 3) := by decide +kernel
theorem dX8_layChain_28 : decode cX8_layChain 28 = .ok (.iload_n 1, 1) := by decide +kernel
theorem dX8_layChain_29 : decode cX8_layChain 29 = .ok (.iaload, 1) := by decide +kernel
theorem dX8_layChain_30 : decode cX8_layChain 30 = .ok (.aload_n 0, 1) := by decide +kernel
theorem dX8_layChain_31 : decode cX8_layChain 31 = .ok (.getfield 14, 3) := by decide +kernel
theorem dX8_layChain_34 : decode cX8_layChain 34 = .ok (.getfield 134, 3) := by decide +kernel
theorem dX8_layChain_37 : decode cX8_layChain 37 = .ok (.iload_n 1, 1) := by decide +kernel
theorem dX8_layChain_38 : decode cX8_layChain 38 = .ok (.iaload, 1) := by decide +kernel
theorem dX8_layChain_39 : decode cX8_layChain 39 = .ok (.if_icmp .ne 28, 3) := by decide +kernel
theorem dX8_layChain_42 : decode cX8_layChain 42 = .ok (.aload_n 0, 1) := by decide +kernel
theorem dX8_layChain_43 : decode cX8_layChain 43 = .ok (.getfield 14, 3) := by decide +kernel
theorem dX8_layChain_46 : decode cX8_layChain 46 = .ok (.getfield 143, 3) := by decide +kernel
theorem dX8_layChain_49 : decode cX8_layChain 49 = .ok (.iload_n 1, 1) := by decide +kernel
theorem dX8_layChain_50 : decode cX8_layChain 50 = .ok (.iaload, 1) := by decide +kernel
theorem dX8_layChain_51 : decode cX8_layChain 51 = .ok (.aload_n 0, 1) := by decide +kernel
theorem dX8_layChain_52 : decode cX8_layChain 52 = .ok (.getfield 14, 3) := by decide +kernel
theorem dX8_layChain_55 : decode cX8_layChain 55 = .ok (.getfield 140, 3) := by decide +kernel
theorem dX8_layChain_58 : decode cX8_layChain 58 = .ok (.iload_n 1, 1) := by decide +kernel
theorem dX8_layChain_59 : decode cX8_layChain 59 = .ok (.iaload, 1) := by decide +kernel
theorem dX8_layChain_60 : decode cX8_layChain 60 = .ok (.if_icmp .le 7, 3) := by decide +kernel
theorem dX8_layChain_63 : decode cX8_layChain 63 = .ok (.iconst 1, 1) := by decide +kernel
theorem dX8_layChain_64 : decode cX8_layChain 64 = .ok (.goto 4, 3) := by decide +kernel
theorem dX8_layChain_67 : decode cX8_layChain 67 = .ok (.iconst 0, 1) := by decide +kernel
theorem dX8_layChain_68 : decode cX8_layChain 68 = .ok (.istore_n 2, 1) := by decide +kernel
theorem dX8_layChain_69 : decode cX8_layChain 69 = .ok (.iload_n 2, 1) := by decide +kernel
theorem dX8_layChain_70 : decode cX8_layChain 70 = .ok (.ifCond .eq 15, 3) := by decide +kernel
theorem dX8_layChain_73 : decode cX8_layChain 73 = .ok (.aload_n 0, 1) := by decide +kernel
theorem dX8_layChain_74 : decode cX8_layChain 74 = .ok (.getfield 14, 3) := by decide +kernel
theorem dX8_layChain_77 : decode cX8_layChain 77 = .ok (.getfield 134, 3) := by decide +kernel
theorem dX8_layChain_80 : decode cX8_layChain 80 = .ok (.iload_n 1, 1) := by decide +kernel
theorem dX8_layChain_81 : decode cX8_layChain 81 = .ok (.iaload, 1) := by decide +kernel
theorem dX8_layChain_82 : decode cX8_layChain 82 = .ok (.goto 12, 3) := by decide +kernel
theorem dX8_layChain_85 : decode cX8_layChain 85 = .ok (.aload_n 0, 1) := by decide +kernel
theorem dX8_layChain_86 : decode cX8_layChain 86 = .ok (.getfield 14, 3) := by decide +kernel
theorem dX8_layChain_89 : decode cX8_layChain 89 = .ok (.getfield 137, 3) := by decide +kernel
theorem dX8_layChain_92 : decode cX8_layChain 92 = .ok (.iload_n 1, 1) := by decide +kernel
theorem dX8_layChain_93 : decode cX8_layChain 93 = .ok (.iaload, 1) := by decide +kernel
theorem dX8_layChain_94 : decode cX8_layChain 94 = .ok (.istore_n 3, 1) := by decide +kernel
theorem dX8_layChain_95 : decode cX8_layChain 95 = .ok (.iload_n 2, 1) := by decide +kernel
theorem dX8_layChain_96 : decode cX8_layChain 96 = .ok (.ifCond .eq 15, 3) := by decide +kernel
theorem dX8_layChain_99 : decode cX8_layChain 99 = .ok (.aload_n 0, 1) := by decide +kernel
theorem dX8_layChain_100 : decode cX8_layChain 100 = .ok (.getfield 14, 3) := by decide +kernel
theorem dX8_layChain_103 : decode cX8_layChain 103 = .ok (.getfield 140, 3) := by decide +kernel
theorem dX8_layChain_106 : decode cX8_layChain 106 = .ok (.iload_n 1, 1) := by decide +kernel
theorem dX8_layChain_107 : decode cX8_layChain 107 = .ok (.iaload, 1) := by decide +kernel
theorem dX8_layChain_108 : decode cX8_layChain 108 = .ok (.goto 12, 3) := by decide +kernel
theorem dX8_layChain_111 : decode cX8_layChain 111 = .ok (.aload_n 0, 1) := by decide +kernel
theorem dX8_layChain_112 : decode cX8_layChain 112 = .ok (.getfield 14, 3) := by decide +kernel
theorem dX8_layChain_115 : decode cX8_layChain 115 = .ok (.getfield 143, 3) := by decide +kernel
theorem dX8_layChain_118 : decode cX8_layChain 118 = .ok (.iload_n 1, 1) := by decide +kernel
theorem dX8_layChain_119 : decode cX8_layChain 119 = .ok (.iaload, 1) := by decide +kernel
theorem dX8_layChain_120 : decode cX8_layChain 120 = .ok (.istore 4, 2) := by decide +kernel
theorem dX8_layChain_122 : decode cX8_layChain 122 = .ok (.iload_n 2, 1) := by decide +kernel
theorem dX8_layChain_123 : decode cX8_layChain 123 = .ok (.ifCond .eq 15, 3) := by decide +kernel
theorem dX8_layChain_126 : decode cX8_layChain 126 = .ok (.aload_n 0, 1) := by decide +kernel
theorem dX8_layChain_127 : decode cX8_layChain 127 = .ok (.getfield 14, 3) := by decide +kernel
theorem dX8_layChain_130 : decode cX8_layChain 130 = .ok (.getfield 137, 3) := by decide +kernel
theorem dX8_layChain_133 : decode cX8_layChain 133 = .ok (.iload_n 1, 1) := by decide +kernel
theorem dX8_layChain_134 : decode cX8_layChain 134 = .ok (.iaload, 1) := by decide +kernel
theorem dX8_layChain_135 : decode cX8_layChain 135 = .ok (.goto 12, 3) := by decide +kernel
theorem dX8_layChain_138 : decode cX8_layChain 138 = .ok (.aload_n 0, 1) := by decide +kernel
theorem dX8_layChain_139 : decode cX8_layChain 139 = .ok (.getfield 14, 3) := by decide +kernel
theorem dX8_layChain_142 : decode cX8_layChain 142 = .ok (.getfield 134, 3) := by decide +kernel
theorem dX8_layChain_145 : decode cX8_layChain 145 = .ok (.iload_n 1, 1) := by decide +kernel
theorem dX8_layChain_146 : decode cX8_layChain 146 = .ok (.iaload, 1) := by decide +kernel
theorem dX8_layChain_147 : decode cX8_layChain 147 = .ok (.iload_n 3, 1) := by decide +kernel
theorem dX8_layChain_148 : decode cX8_layChain 148 = .ok (.isub, 1) := by decide +kernel
theorem dX8_layChain_149 : decode cX8_layChain 149 = .ok (.istore 5, 2) := by decide +kernel
theorem dX8_layChain_151 : decode cX8_layChain 151 = .ok (.iload_n 2, 1) := by decide +kernel
theorem dX8_layChain_152 : decode cX8_layChain 152 = .ok (.ifCond .eq 15, 3) := by decide +kernel
theorem dX8_layChain_155 : decode cX8_layChain 155 = .ok (.aload_n 0, 1) := by decide +kernel
theorem dX8_layChain_156 : decode cX8_layChain 156 = .ok (.getfield 14, 3) := by decide +kernel
theorem dX8_layChain_159 : decode cX8_layChain 159 = .ok (.getfield 143, 3) := by decide +kernel
theorem dX8_layChain_162 : decode cX8_layChain 162 = .ok (.iload_n 1, 1) := by decide +kernel
theorem dX8_layChain_163 : decode cX8_layChain 163 = .ok (.iaload, 1) := by decide +kernel
theorem dX8_layChain_164 : decode cX8_layChain 164 = .ok (.goto 12, 3) := by decide +kernel
theorem dX8_layChain_167 : decode cX8_layChain 167 = .ok (.aload_n 0, 1) := by decide +kernel
theorem dX8_layChain_168 : decode cX8_layChain 168 = .ok (.getfield 14, 3) := by decide +kernel
theorem dX8_layChain_171 : decode cX8_layChain 171 = .ok (.getfield 140, 3) := by decide +kernel
theorem dX8_layChain_174 : decode cX8_layChain 174 = .ok (.iload_n 1, 1) := by decide +kernel
theorem dX8_layChain_175 : decode cX8_layChain 175 = .ok (.iaload, 1) := by decide +kernel
theorem dX8_layChain_176 : decode cX8_layChain 176 = .ok (.iload 4, 2) := by decide +kernel
theorem dX8_layChain_178 : decode cX8_layChain 178 = .ok (.isub, 1) := by decide +kernel
theorem dX8_layChain_179 : decode cX8_layChain 179 = .ok (.istore 6, 2) := by decide +kernel
theorem dX8_layChain_181 : decode cX8_layChain 181 = .ok (.aload_n 0, 1) := by decide +kernel
theorem dX8_layChain_182 : decode cX8_layChain 182 = .ok (.getfield 14, 3) := by decide +kernel
theorem dX8_layChain_185 : decode cX8_layChain 185 = .ok (.iload_n 1, 1) := by decide +kernel
theorem dX8_layChain_186 : decode cX8_layChain 186 = .ok (.invokevirtual 189, 3) := by decide +kernel
theorem dX8_layChain_189 : decode cX8_layChain 189 = .ok (.istore 7, 2) := by decide +kernel
theorem dX8_layChain_191 : decode cX8_layChain 191 = .ok (.aload_n 0, 1) := by decide +kernel
theorem dX8_layChain_192 : decode cX8_layChain 192 = .ok (.getfield 14, 3) := by decide +kernel
theorem dX8_layChain_195 : decode cX8_layChain 195 = .ok (.iload_n 1, 1) := by decide +kernel
theorem dX8_layChain_196 : decode cX8_layChain 196 = .ok (.invokevirtual 192, 3) := by decide +kernel
theorem dX8_layChain_199 : decode cX8_layChain 199 = .ok (.istore 8, 2) := by decide +kernel
theorem dX8_layChain_201 : decode cX8_layChain 201 = .ok (.aload_n 0, 1) := by decide +kernel
theorem dX8_layChain_202 : decode cX8_layChain 202 = .ok (.getfield 14, 3) := by decide +kernel
theorem dX8_layChain_205 : decode cX8_layChain 205 = .ok (.iload_n 1, 1) := by decide +kernel
theorem dX8_layChain_206 : decode cX8_layChain 206 = .ok (.invokevirtual 125, 3) := by decide +kernel
theorem dX8_layChain_209 : decode cX8_layChain 209 = .ok (.istore 9, 2) := by decide +kernel
theorem dX8_layChain_211 : decode cX8_layChain 211 = .ok (.iconst 0, 1) := by decide +kernel
theorem dX8_layChain_212 : decode cX8_layChain 212 = .ok (.istore 10, 2) := by decide +kernel
theorem dX8_layChain_214 : decode cX8_layChain 214 = .ok (.iconst 0, 1) := by decide +kernel
theorem dX8_layChain_215 : decode cX8_layChain 215 = .ok (.istore 11, 2) := by decide +kernel
theorem dX8_layChain_217 : decode cX8_layChain 217 = .ok (.aload_n 0, 1) := by decide +kernel
theorem dX8_layChain_218 : decode cX8_layChain 218 = .ok (.iload_n 3, 1) := by decide +kernel
theorem dX8_layChain_219 : decode cX8_layChain 219 = .ok (.invokevirtual 195, 3) := by decide +kernel
theorem dX8_layChain_222 : decode cX8_layChain 222 = .ok (.istore 12, 2) := by decide +kernel
theorem dX8_layChain_224 : decode cX8_layChain 224 = .ok (.iload 12, 2) := by decide +kernel
theorem dX8_layChain_226 : decode cX8_layChain 226 = .ok (.aload_n 0, 1) := by decide +kernel
theorem dX8_layChain_227 : decode cX8_layChain 227 = .ok (.getfield 164, 3) := by decide +kernel
theorem dX8_layChain_230 : decode cX8_layChain 230 = .ok (.if_icmp .ge 170, 3) := by decide +kernel
theorem dX8_layChain_233 : decode cX8_layChain 233 = .ok (.aload_n 0, 1) := by decide +kernel
theorem dX8_layChain_234 : decode cX8_layChain 234 = .ok (.getfield 29, 3) := by decide +kernel
theorem dX8_layChain_237 : decode cX8_layChain 237 = .ok (.iload 12, 2) := by decide +kernel
theorem dX8_layChain_239 : decode cX8_layChain 239 = .ok (.iaload, 1) := by decide +kernel
theorem dX8_layChain_240 : decode cX8_layChain 240 = .ok (.iload 9, 2) := by decide +kernel
theorem dX8_layChain_242 : decode cX8_layChain 242 = .ok (.if_icmp .gt 158, 3) := by decide +kernel
theorem dX8_layChain_245 : decode cX8_layChain 245 = .ok (.aload_n 0, 1) := by decide +kernel
theorem dX8_layChain_246 : decode cX8_layChain 246 = .ok (.getfield 32, 3) := by decide +kernel
theorem dX8_layChain_249 : decode cX8_layChain 249 = .ok (.iload 12, 2) := by decide +kernel
theorem dX8_layChain_251 : decode cX8_layChain 251 = .ok (.iaload, 1) := by decide +kernel
theorem dX8_layChain_252 : decode cX8_layChain 252 = .ok (.iload 7, 2) := by decide +kernel
theorem dX8_layChain_254 : decode cX8_layChain 254 = .ok (.if_icmp .lt 140, 3) := by decide +kernel
theorem dX8_layChain_257 : decode cX8_layChain 257 = .ok (.aload_n 0, 1) := by decide +kernel
theorem dX8_layChain_258 : decode cX8_layChain 258 = .ok (.getfield 32, 3) := by decide +kernel
theorem dX8_layChain_261 : decode cX8_layChain 261 = .ok (.iload 12, 2) := by decide +kernel
theorem dX8_layChain_263 : decode cX8_layChain 263 = .ok (.iaload, 1) := by decide +kernel
theorem dX8_layChain_264 : decode cX8_layChain 264 = .ok (.iload 8, 2) := by decide +kernel
theorem dX8_layChain_266 : decode cX8_layChain 266 = .ok (.if_icmp .gt 128, 3) := by decide +kernel
theorem dX8_layChain_269 : decode cX8_layChain 269 = .ok (.iload 5, 2) := by decide +kernel
theorem dX8_layChain_271 : decode cX8_layChain 271 = .ok (.i2l, 1) := by decide +kernel
theorem dX8_layChain_272 : decode cX8_layChain 272 = .ok (.iload 6, 2) := by decide +kernel
theorem dX8_layChain_274 : decode cX8_layChain 274 = .ok (.i2l, 1) := by decide +kernel
theorem dX8_layChain_275 : decode cX8_layChain 275 = .ok (.ldc2_w 162, 3) := by decide +kernel
theorem dX8_layChain_278 : decode cX8_layChain 278 = .ok (.aload_n 0, 1) := by decide +kernel
theorem dX8_layChain_279 : decode cX8_layChain 279 = .ok (.getfield 29, 3) := by decide +kernel
theorem dX8_layChain_282 : decode cX8_layChain 282 = .ok (.iload 12, 2) := by decide +kernel
theorem dX8_layChain_284 : decode cX8_layChain 284 = .ok (.iaload, 1) := by decide +kernel
theorem dX8_layChain_285 : decode cX8_layChain 285 = .ok (.i2l, 1) := by decide +kernel
theorem dX8_layChain_286 : decode cX8_layChain 286 = .ok (.lmul, 1) := by decide +kernel
theorem dX8_layChain_287 : decode cX8_layChain 287 = .ok (.ldc2_w 162, 3) := by decide +kernel
theorem dX8_layChain_290 : decode cX8_layChain 290 = .ok (.iload_n 3, 1) := by decide +kernel
theorem dX8_layChain_291 : decode cX8_layChain 291 = .ok (.i2l, 1) := by decide +kernel
theorem dX8_layChain_292 : decode cX8_layChain 292 = .ok (.lmul, 1) := by decide +kernel
theorem dX8_layChain_293 : decode cX8_layChain 293 = .ok (.lsub, 1) := by decide +kernel
theorem dX8_layChain_294 : decode cX8_layChain 294 = .ok (.ldc2_w 162, 3) := by decide +kernel
theorem dX8_layChain_297 : decode cX8_layChain 297 = .ok (.aload_n 0, 1) := by decide +kernel
theorem dX8_layChain_298 : decode cX8_layChain 298 = .ok (.getfield 32, 3) := by decide +kernel
theorem dX8_layChain_301 : decode cX8_layChain 301 = .ok (.iload 12, 2) := by decide +kernel
theorem dX8_layChain_303 : decode cX8_layChain 303 = .ok (.iaload, 1) := by decide +kernel
theorem dX8_layChain_304 : decode cX8_layChain 304 = .ok (.i2l, 1) := by decide +kernel
theorem dX8_layChain_305 : decode cX8_layChain 305 = .ok (.lmul, 1) := by decide +kernel
theorem dX8_layChain_306 : decode cX8_layChain 306 = .ok (.ldc2_w 162, 3) := by decide +kernel
theorem dX8_layChain_309 : decode cX8_layChain 309 = .ok (.iload 4, 2) := by decide +kernel
theorem dX8_layChain_311 : decode cX8_layChain 311 = .ok (.i2l, 1) := by decide +kernel
theorem dX8_layChain_312 : decode cX8_layChain 312 = .ok (.lmul, 1) := by decide +kernel
theorem dX8_layChain_313 : decode cX8_layChain 313 = .ok (.lsub, 1) := by decide +kernel
theorem dX8_layChain_314 : decode cX8_layChain 314 = .ok (.invokestatic 198, 3) := by decide +kernel
theorem dX8_layChain_317 : decode cX8_layChain 317 = .ok (.ifCond .ne 6, 3) := by decide +kernel
theorem dX8_layChain_320 : decode cX8_layChain 320 = .ok (.goto 74, 3) := by decide +kernel
theorem dX8_layChain_323 : decode cX8_layChain 323 = .ok (.iload 10, 2) := by decide +kernel
theorem dX8_layChain_325 : decode cX8_layChain 325 = .ok (.ifCond .le 34, 3) := by decide +kernel
theorem dX8_layChain_328 : decode cX8_layChain 328 = .ok (.aload_n 0, 1) := by decide +kernel
theorem dX8_layChain_329 : decode cX8_layChain 329 = .ok (.getfield 29, 3) := by decide +kernel
theorem dX8_layChain_332 : decode cX8_layChain 332 = .ok (.aload_n 0, 1) := by decide +kernel
theorem dX8_layChain_333 : decode cX8_layChain 333 = .ok (.getfield 25, 3) := by decide +kernel
theorem dX8_layChain_336 : decode cX8_layChain 336 = .ok (.iload 10, 2) := by decide +kernel
theorem dX8_layChain_338 : decode cX8_layChain 338 = .ok (.iconst 1, 1) := by decide +kernel
theorem dX8_layChain_339 : decode cX8_layChain 339 = .ok (.isub, 1) := by decide +kernel
theorem dX8_layChain_340 : decode cX8_layChain 340 = .ok (.iaload, 1) := by decide +kernel
theorem dX8_layChain_341 : decode cX8_layChain 341 = .ok (.iaload, 1) := by decide +kernel
theorem dX8_layChain_342 : decode cX8_layChain 342 = .ok (.aload_n 0, 1) := by decide +kernel
theorem dX8_layChain_343 : decode cX8_layChain 343 = .ok (.getfield 29, 3) := by decide +kernel
theorem dX8_layChain_346 : decode cX8_layChain 346 = .ok (.iload 12, 2) := by decide +kernel
theorem dX8_layChain_348 : decode cX8_layChain 348 = .ok (.iaload, 1) := by decide +kernel
theorem dX8_layChain_349 : decode cX8_layChain 349 = .ok (.if_icmp .ne 10, 3) := by decide +kernel
theorem dX8_layChain_352 : decode cX8_layChain 352 = .ok (.iload 11, 2) := by decide +kernel
theorem dX8_layChain_354 : decode cX8_layChain 354 = .ok (.iconst 1, 1) := by decide +kernel
theorem dX8_layChain_355 : decode cX8_layChain 355 = .ok (.iadd, 1) := by decide +kernel
theorem dX8_layChain_356 : decode cX8_layChain 356 = .ok (.goto 4, 3) := by decide +kernel
theorem dX8_layChain_359 : decode cX8_layChain 359 = .ok (.iconst 0, 1) := by decide +kernel
theorem dX8_layChain_360 : decode cX8_layChain 360 = .ok (.istore 11, 2) := by decide +kernel
theorem dX8_layChain_362 : decode cX8_layChain 362 = .ok (.aload_n 0, 1) := by decide +kernel
theorem dX8_layChain_363 : decode cX8_layChain 363 = .ok (.getfield 25, 3) := by decide +kernel
theorem dX8_layChain_366 : decode cX8_layChain 366 = .ok (.iload 10, 2) := by decide +kernel
theorem dX8_layChain_368 : decode cX8_layChain 368 = .ok (.iload 12, 2) := by decide +kernel
theorem dX8_layChain_370 : decode cX8_layChain 370 = .ok (.iastore, 1) := by decide +kernel
theorem dX8_layChain_371 : decode cX8_layChain 371 = .ok (.iinc 10 1, 3) := by decide +kernel
theorem dX8_layChain_374 : decode cX8_layChain 374 = .ok (.iload 6, 2) := by decide +kernel
theorem dX8_layChain_376 : decode cX8_layChain 376 = .ok (.ifCond .ge 18, 3) := by decide +kernel
theorem dX8_layChain_379 : decode cX8_layChain 379 = .ok (.aload_n 0, 1) := by decide +kernel
theorem dX8_layChain_380 : decode cX8_layChain 380 = .ok (.iload 10, 2) := by decide +kernel
theorem dX8_layChain_382 : decode cX8_layChain 382 = .ok (.iconst 1, 1) := by decide +kernel
theorem dX8_layChain_383 : decode cX8_layChain 383 = .ok (.isub, 1) := by decide +kernel
theorem dX8_layChain_384 : decode cX8_layChain 384 = .ok (.iload 11, 2) := by decide +kernel
theorem dX8_layChain_386 : decode cX8_layChain 386 = .ok (.isub, 1) := by decide +kernel
theorem dX8_layChain_387 : decode cX8_layChain 387 = .ok (.iload 10, 2) := by decide +kernel
theorem dX8_layChain_389 : decode cX8_layChain 389 = .ok (.iconst 1, 1) := by decide +kernel
theorem dX8_layChain_390 : decode cX8_layChain 390 = .ok (.isub, 1) := by decide +kernel
theorem dX8_layChain_391 : decode cX8_layChain 391 = .ok (.invokevirtual 202, 3) := by decide +kernel
theorem dX8_layChain_394 : decode cX8_layChain 394 = .ok (.iinc 12 1, 3) := by decide +kernel
theorem dX8_layChain_397 : decode cX8_layChain 397 = .ok (.goto (-173), 3) := by decide +kernel
theorem dX8_layChain_400 : decode cX8_layChain 400 = .ok (.iload 10, 2) := by decide +kernel
theorem dX8_layChain_402 : decode cX8_layChain 402 = .ok (.ireturn, 1) := by decide +kernel
theorem dX8_moveToFront_0 : decode cX8_moveToFront 0 = .ok (.aload_n 0, 1) := by decide +kernel
theorem dX8_moveToFront_1 : decode cX8_moveToFront 1 = .ok (.getfield 25, 3) := by decide +kernel
theorem dX8_moveToFront_4 : decode cX8_moveToFront 4 = .ok (.iload_n 2, 1) := by decide +kernel
theorem dX8_moveToFront_5 : decode cX8_moveToFront 5 = .ok (.iaload, 1) := by decide +kernel
theorem dX8_moveToFront_6 : decode cX8_moveToFront 6 = .ok (.istore_n 3, 1) := by decide +kernel
theorem dX8_moveToFront_7 : decode cX8_moveToFront 7 = .ok (.iload_n 2, 1) := by decide +kernel
theorem dX8_moveToFront_8 : decode cX8_moveToFront 8 = .ok (.istore 4, 2) := by decide +kernel
theorem dX8_moveToFront_10 : decode cX8_moveToFront 10 = .ok (.iload 4, 2) := by decide +kernel
theorem dX8_moveToFront_12 : decode cX8_moveToFront 12 = .ok (.iload_n 1, 1) := by decide +kernel
theorem dX8_moveToFront_13 : decode cX8_moveToFront 13 = .ok (.if_icmp .le 25, 3) := by decide +kernel
theorem dX8_moveToFront_16 : decode cX8_moveToFront 16 = .ok (.aload_n 0, 1) := by decide +kernel
theorem dX8_moveToFront_17 : decode cX8_moveToFront 17 = .ok (.getfield 25, 3) := by decide +kernel
theorem dX8_moveToFront_20 : decode cX8_moveToFront 20 = .ok (.iload 4, 2) := by decide +kernel
theorem dX8_moveToFront_22 : decode cX8_moveToFront 22 = .ok (.aload_n 0, 1) := by decide +kernel
theorem dX8_moveToFront_23 : decode cX8_moveToFront 23 = .ok (.getfield 25, 3) := by decide +kernel
theorem dX8_moveToFront_26 : decode cX8_moveToFront 26 = .ok (.iload 4, 2) := by decide +kernel
theorem dX8_moveToFront_28 : decode cX8_moveToFront 28 = .ok (.iconst 1, 1) := by decide +kernel
theorem dX8_moveToFront_29 : decode cX8_moveToFront 29 = .ok (.isub, 1) := by decide +kernel
theorem dX8_moveToFront_30 : decode cX8_moveToFront 30 = .ok (.iaload, 1) := by decide +kernel
theorem dX8_moveToFront_31 : decode cX8_moveToFront 31 = .ok (.iastore, 1) := by decide +kernel
theorem dX8_moveToFront_32 : decode cX8_moveToFront 32 = .ok (.iinc 4 (-1), 3) := by decide +kernel
theorem dX8_moveToFront_35 : decode cX8_moveToFront 35 = .ok (.goto (-25), 3) := by decide +kernel
theorem dX8_moveToFront_38 : decode cX8_moveToFront 38 = .ok (.aload_n 0, 1) := by decide +kernel
theorem dX8_moveToFront_39 : decode cX8_moveToFront 39 = .ok (.getfield 25, 3) := by decide +kernel
theorem dX8_moveToFront_42 : decode cX8_moveToFront 42 = .ok (.iload_n 1, 1) := by decide +kernel
theorem dX8_moveToFront_43 : decode cX8_moveToFront 43 = .ok (.iload_n 3, 1) := by decide +kernel
theorem dX8_moveToFront_44 : decode cX8_moveToFront 44 = .ok (.iastore, 1) := by decide +kernel
theorem dX8_moveToFront_45 : decode cX8_moveToFront 45 = .ok (.return_, 1) := by decide +kernel
theorem dX8_firstHotFrom_0 : decode cX8_firstHotFrom 0 = .ok (.iconst 0, 1) := by decide +kernel
theorem dX8_firstHotFrom_1 : decode cX8_firstHotFrom 1 = .ok (.istore_n 2, 1) := by decide +kernel
theorem dX8_firstHotFrom_2 : decode cX8_firstHotFrom 2 = .ok (.aload_n 0, 1) := by decide +kernel
theorem dX8_firstHotFrom_3 : decode cX8_firstHotFrom 3 = .ok (.getfield 164, 3) := by decide +kernel
theorem dX8_firstHotFrom_6 : decode cX8_firstHotFrom 6 = .ok (.istore_n 3, 1) := by decide +kernel
theorem dX8_firstHotFrom_7 : decode cX8_firstHotFrom 7 = .ok (.iload_n 2, 1) := by decide +kernel
theorem dX8_firstHotFrom_8 : decode cX8_firstHotFrom 8 = .ok (.iload_n 3, 1) := by decide +kernel
theorem dX8_firstHotFrom_9 : decode cX8_firstHotFrom 9 = .ok (.if_icmp .ge 37, 3) := by decide +kernel
theorem dX8_firstHotFrom_12 : decode cX8_firstHotFrom 12 = .ok (.iload_n 2, 1) := by decide +kernel
theorem dX8_firstHotFrom_13 : decode cX8_firstHotFrom 13 = .ok (.iload_n 3, 1) := by decide +kernel
theorem dX8_firstHotFrom_14 : decode cX8_firstHotFrom 14 = .ok (.iload_n 2, 1) := by decide +kernel
theorem dX8_firstHotFrom_15 : decode cX8_firstHotFrom 15 = .ok (.isub, 1) := by decide +kernel
theorem dX8_firstHotFrom_16 : decode cX8_firstHotFrom 16 = .ok (.iconst 2, 1) := by decide +kernel
theorem dX8_firstHotFrom_17 : decode cX8_firstHotFrom 17 = .ok (.idiv, 1) := by decide +kernel
theorem dX8_firstHotFrom_18 : decode cX8_firstHotFrom 18 = .ok (.iadd, 1) := by decide +kernel
theorem dX8_firstHotFrom_19 : decode cX8_firstHotFrom 19 = .ok (.istore 4, 2) := by decide +kernel
theorem dX8_firstHotFrom_21 : decode cX8_firstHotFrom 21 = .ok (.aload_n 0, 1) := by decide +kernel
theorem dX8_firstHotFrom_22 : decode cX8_firstHotFrom 22 = .ok (.getfield 29, 3) := by decide +kernel
theorem dX8_firstHotFrom_25 : decode cX8_firstHotFrom 25 = .ok (.iload 4, 2) := by decide +kernel
theorem dX8_firstHotFrom_27 : decode cX8_firstHotFrom 27 = .ok (.iaload, 1) := by decide +kernel
theorem dX8_firstHotFrom_28 : decode cX8_firstHotFrom 28 = .ok (.iload_n 1, 1) := by decide +kernel
theorem dX8_firstHotFrom_29 : decode cX8_firstHotFrom 29 = .ok (.if_icmp .ge 11, 3) := by decide +kernel
theorem dX8_firstHotFrom_32 : decode cX8_firstHotFrom 32 = .ok (.iload 4, 2) := by decide +kernel
theorem dX8_firstHotFrom_34 : decode cX8_firstHotFrom 34 = .ok (.iconst 1, 1) := by decide +kernel
theorem dX8_firstHotFrom_35 : decode cX8_firstHotFrom 35 = .ok (.iadd, 1) := by decide +kernel
theorem dX8_firstHotFrom_36 : decode cX8_firstHotFrom 36 = .ok (.istore_n 2, 1) := by decide +kernel
theorem dX8_firstHotFrom_37 : decode cX8_firstHotFrom 37 = .ok (.goto 6, 3) := by decide +kernel
theorem dX8_firstHotFrom_40 : decode cX8_firstHotFrom 40 = .ok (.iload 4, 2) := by decide +kernel
theorem dX8_firstHotFrom_42 : decode cX8_firstHotFrom 42 = .ok (.istore_n 3, 1) := by decide +kernel
theorem dX8_firstHotFrom_43 : decode cX8_firstHotFrom 43 = .ok (.goto (-36), 3) := by decide +kernel
theorem dX8_firstHotFrom_46 : decode cX8_firstHotFrom 46 = .ok (.iload_n 2, 1) := by decide +kernel
theorem dX8_firstHotFrom_47 : decode cX8_firstHotFrom 47 = .ok (.ireturn, 1) := by decide +kernel
