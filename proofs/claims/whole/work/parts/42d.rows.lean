theorem dX4_takeRing_0 : decode cX4_takeRing 0 = .ok (.iload_n 1, 1) := by decide +kernel
theorem dX4_takeRing_1 : decode cX4_takeRing 1 = .ok (.istore_n 3, 1) := by decide +kernel
theorem dX4_takeRing_2 : decode cX4_takeRing 2 = .ok (.iload_n 1, 1) := by decide +kernel
theorem dX4_takeRing_3 : decode cX4_takeRing 3 = .ok (.istore 4, 2) := by decide +kernel
theorem dX4_takeRing_5 : decode cX4_takeRing 5 = .ok (.iload 4, 2) := by decide +kernel
theorem dX4_takeRing_7 : decode cX4_takeRing 7 = .ok (.iload_n 2, 1) := by decide +kernel
theorem dX4_takeRing_8 : decode cX4_takeRing 8 = .ok (.if_icmp .ge 32, 3) := by decide +kernel
theorem dX4_takeRing_11 : decode cX4_takeRing 11 = .ok (.aload_n 0, 1) := by decide +kernel
theorem dX4_takeRing_12 : decode cX4_takeRing 12 = .ok (.getfield 36, 3) := by decide +kernel
theorem dX4_takeRing_15 : decode cX4_takeRing 15 = .ok (.iload 4, 2) := by decide +kernel
theorem dX4_takeRing_17 : decode cX4_takeRing 17 = .ok (.iaload, 1) := by decide +kernel
theorem dX4_takeRing_18 : decode cX4_takeRing 18 = .ok (.aload_n 0, 1) := by decide +kernel
theorem dX4_takeRing_19 : decode cX4_takeRing 19 = .ok (.getfield 36, 3) := by decide +kernel
theorem dX4_takeRing_22 : decode cX4_takeRing 22 = .ok (.iload_n 3, 1) := by decide +kernel
theorem dX4_takeRing_23 : decode cX4_takeRing 23 = .ok (.iaload, 1) := by decide +kernel
theorem dX4_takeRing_24 : decode cX4_takeRing 24 = .ok (.if_icmp .ge 8, 3) := by decide +kernel
theorem dX4_takeRing_27 : decode cX4_takeRing 27 = .ok (.iload 4, 2) := by decide +kernel
theorem dX4_takeRing_29 : decode cX4_takeRing 29 = .ok (.goto 4, 3) := by decide +kernel
theorem dX4_takeRing_32 : decode cX4_takeRing 32 = .ok (.iload_n 3, 1) := by decide +kernel
theorem dX4_takeRing_33 : decode cX4_takeRing 33 = .ok (.istore_n 3, 1) := by decide +kernel
theorem dX4_takeRing_34 : decode cX4_takeRing 34 = .ok (.iinc 4 1, 3) := by decide +kernel
theorem dX4_takeRing_37 : decode cX4_takeRing 37 = .ok (.goto (-32), 3) := by decide +kernel
theorem dX4_takeRing_40 : decode cX4_takeRing 40 = .ok (.aload_n 0, 1) := by decide +kernel
theorem dX4_takeRing_41 : decode cX4_takeRing 41 = .ok (.getfield 147, 3) := by decide +kernel
theorem dX4_takeRing_44 : decode cX4_takeRing 44 = .ok (.sipush 512, 3) := by decide +kernel
theorem dX4_takeRing_47 : decode cX4_takeRing 47 = .ok (.if_icmp .lt 5, 3) := by decide +kernel
theorem dX4_takeRing_50 : decode cX4_takeRing 50 = .ok (.iconst 0, 1) := by decide +kernel
theorem dX4_takeRing_51 : decode cX4_takeRing 51 = .ok (.ireturn, 1) := by decide +kernel
theorem dX4_takeRing_52 : decode cX4_takeRing 52 = .ok (.aload_n 0, 1) := by decide +kernel
theorem dX4_takeRing_53 : decode cX4_takeRing 53 = .ok (.getfield 45, 3) := by decide +kernel
theorem dX4_takeRing_56 : decode cX4_takeRing 56 = .ok (.aload_n 0, 1) := by decide +kernel
theorem dX4_takeRing_57 : decode cX4_takeRing 57 = .ok (.getfield 147, 3) := by decide +kernel
theorem dX4_takeRing_60 : decode cX4_takeRing 60 = .ok (.aload_n 0, 1) := by decide +kernel
theorem dX4_takeRing_61 : decode cX4_takeRing 61 = .ok (.getfield 150, 3) := by decide +kernel
theorem dX4_takeRing_64 : decode cX4_takeRing 64 = .ok (.iastore, 1) := by decide +kernel
theorem dX4_takeRing_65 : decode cX4_takeRing 65 = .ok (.iload_n 2, 1) := by decide +kernel
theorem dX4_takeRing_66 : decode cX4_takeRing 66 = .ok (.iload_n 1, 1) := by decide +kernel
theorem dX4_takeRing_67 : decode cX4_takeRing 67 = .ok (.isub, 1) := by decide +kernel
theorem dX4_takeRing_68 : decode cX4_takeRing 68 = .ok (.istore 4, 2) := by decide +kernel
theorem dX4_takeRing_70 : decode cX4_takeRing 70 = .ok (.iconst 0, 1) := by decide +kernel
theorem dX4_takeRing_71 : decode cX4_takeRing 71 = .ok (.istore 5, 2) := by decide +kernel
theorem dX4_takeRing_73 : decode cX4_takeRing 73 = .ok (.iload 5, 2) := by decide +kernel
theorem dX4_takeRing_75 : decode cX4_takeRing 75 = .ok (.iload 4, 2) := by decide +kernel
theorem dX4_takeRing_77 : decode cX4_takeRing 77 = .ok (.if_icmp .ge 145, 3) := by decide +kernel
theorem dX4_takeRing_80 : decode cX4_takeRing 80 = .ok (.iload_n 3, 1) := by decide +kernel
theorem dX4_takeRing_81 : decode cX4_takeRing 81 = .ok (.iload 5, 2) := by decide +kernel
theorem dX4_takeRing_83 : decode cX4_takeRing 83 = .ok (.iadd, 1) := by decide +kernel
theorem dX4_takeRing_84 : decode cX4_takeRing 84 = .ok (.iload_n 2, 1) := by decide +kernel
theorem dX4_takeRing_85 : decode cX4_takeRing 85 = .ok (.if_icmp .ge 10, 3) := by decide +kernel
theorem dX4_takeRing_88 : decode cX4_takeRing 88 = .ok (.iload_n 3, 1) := by decide +kernel
theorem dX4_takeRing_89 : decode cX4_takeRing 89 = .ok (.iload 5, 2) := by decide +kernel
theorem dX4_takeRing_91 : decode cX4_takeRing 91 = .ok (.iadd, 1) := by decide +kernel
theorem dX4_takeRing_92 : decode cX4_takeRing 92 = .ok (.goto 10, 3) := by decide +kernel
theorem dX4_takeRing_95 : decode cX4_takeRing 95 = .ok (.iload_n 3, 1) := by decide +kernel
theorem dX4_takeRing_96 : decode cX4_takeRing 96 = .ok (.iload 5, 2) := by decide +kernel
theorem dX4_takeRing_98 : decode cX4_takeRing 98 = .ok (.iadd, 1) := by decide +kernel
theorem dX4_takeRing_99 : decode cX4_takeRing 99 = .ok (.iload 4, 2) := by decide +kernel
theorem dX4_takeRing_101 : decode cX4_takeRing 101 = .ok (.isub, 1) := by decide +kernel
theorem dX4_takeRing_102 : decode cX4_takeRing 102 = .ok (.istore 6, 2) := by decide +kernel
theorem dX4_takeRing_104 : decode cX4_takeRing 104 = .ok (.iload 6, 2) := by decide +kernel
theorem dX4_takeRing_106 : decode cX4_takeRing 106 = .ok (.iload_n 1, 1) := by decide +kernel
theorem dX4_takeRing_107 : decode cX4_takeRing 107 = .ok (.if_icmp .le 15, 3) := by decide +kernel
theorem dX4_takeRing_110 : decode cX4_takeRing 110 = .ok (.aload_n 0, 1) := by decide +kernel
theorem dX4_takeRing_111 : decode cX4_takeRing 111 = .ok (.getfield 36, 3) := by decide +kernel
theorem dX4_takeRing_114 : decode cX4_takeRing 114 = .ok (.iload 6, 2) := by decide +kernel
theorem dX4_takeRing_116 : decode cX4_takeRing 116 = .ok (.iconst 1, 1) := by decide +kernel
theorem dX4_takeRing_117 : decode cX4_takeRing 117 = .ok (.isub, 1) := by decide +kernel
theorem dX4_takeRing_118 : decode cX4_takeRing 118 = .ok (.iaload, 1) := by decide +kernel
theorem dX4_takeRing_119 : decode cX4_takeRing 119 = .ok (.goto 11, 3) := by decide +kernel
theorem dX4_takeRing_122 : decode cX4_takeRing 122 = .ok (.aload_n 0, 1) := by decide +kernel
theorem dX4_takeRing_123 : decode cX4_takeRing 123 = .ok (.getfield 36, 3) := by decide +kernel
theorem dX4_takeRing_126 : decode cX4_takeRing 126 = .ok (.iload_n 2, 1) := by decide +kernel
theorem dX4_takeRing_127 : decode cX4_takeRing 127 = .ok (.iconst 1, 1) := by decide +kernel
theorem dX4_takeRing_128 : decode cX4_takeRing 128 = .ok (.isub, 1) := by decide +kernel
theorem dX4_takeRing_129 : decode cX4_takeRing 129 = .ok (.iaload, 1) := by decide +kernel
theorem dX4_takeRing_130 : decode cX4_takeRing 130 = .ok (.istore 7, 2) := by decide +kernel
theorem dX4_takeRing_132 : decode cX4_takeRing 132 = .ok (.iload 6, 2) := by decide +kernel
theorem dX4_takeRing_134 : decode cX4_takeRing 134 = .ok (.iconst 1, 1) := by decide +kernel
theorem dX4_takeRing_135 : decode cX4_takeRing 135 = .ok (.iadd, 1) := by decide +kernel
theorem dX4_takeRing_136 : decode cX4_takeRing 136 = .ok (.iload_n 2, 1) := by decide +kernel
theorem dX4_takeRing_137 : decode cX4_takeRing 137 = .ok (.if_icmp .ge 15, 3) := by decide +kernel
theorem dX4_takeRing_140 : decode cX4_takeRing 140 = .ok (.aload_n 0, 1) := by decide +kernel
theorem dX4_takeRing_141 : decode cX4_takeRing 141 = .ok (.getfield 36, 3) := by decide +kernel
theorem dX4_takeRing_144 : decode cX4_takeRing 144 = .ok (.iload 6, 2) := by decide +kernel
theorem dX4_takeRing_146 : decode cX4_takeRing 146 = .ok (.iconst 1, 1) := by decide +kernel
theorem dX4_takeRing_147 : decode cX4_takeRing 147 = .ok (.iadd, 1) := by decide +kernel
theorem dX4_takeRing_148 : decode cX4_takeRing 148 = .ok (.iaload, 1) := by decide +kernel
theorem dX4_takeRing_149 : decode cX4_takeRing 149 = .ok (.goto 9, 3) := by decide +kernel
theorem dX4_takeRing_152 : decode cX4_takeRing 152 = .ok (.aload_n 0, 1) := by decide +kernel
theorem dX4_takeRing_153 : decode cX4_takeRing 153 = .ok (.getfield 36, 3) := by decide +kernel
theorem dX4_takeRing_156 : decode cX4_takeRing 156 = .ok (.iload_n 1, 1) := by decide +kernel
theorem dX4_takeRing_157 : decode cX4_takeRing 157 = .ok (.iaload, 1) := by decide +kernel
theorem dX4_takeRing_158 : decode cX4_takeRing 158 = .ok (.istore 8, 2) := by decide +kernel
theorem dX4_takeRing_160 : decode cX4_takeRing 160 = .ok (.aload_n 0, 1) := by decide +kernel
theorem dX4_takeRing_161 : decode cX4_takeRing 161 = .ok (.iload 7, 2) := by decide +kernel
theorem dX4_takeRing_163 : decode cX4_takeRing 163 = .ok (.aload_n 0, 1) := by decide +kernel
theorem dX4_takeRing_164 : decode cX4_takeRing 164 = .ok (.getfield 36, 3) := by decide +kernel
theorem dX4_takeRing_167 : decode cX4_takeRing 167 = .ok (.iload 6, 2) := by decide +kernel
theorem dX4_takeRing_169 : decode cX4_takeRing 169 = .ok (.iaload, 1) := by decide +kernel
theorem dX4_takeRing_170 : decode cX4_takeRing 170 = .ok (.iload 8, 2) := by decide +kernel
theorem dX4_takeRing_172 : decode cX4_takeRing 172 = .ok (.invokevirtual 110, 3) := by decide +kernel
theorem dX4_takeRing_175 : decode cX4_takeRing 175 = .ok (.ifCond .eq 41, 3) := by decide +kernel
theorem dX4_takeRing_178 : decode cX4_takeRing 178 = .ok (.aload_n 0, 1) := by decide +kernel
theorem dX4_takeRing_179 : decode cX4_takeRing 179 = .ok (.getfield 150, 3) := by decide +kernel
theorem dX4_takeRing_182 : decode cX4_takeRing 182 = .ok (.sipush 2048, 3) := by decide +kernel
theorem dX4_takeRing_185 : decode cX4_takeRing 185 = .ok (.if_icmp .lt 5, 3) := by decide +kernel
theorem dX4_takeRing_188 : decode cX4_takeRing 188 = .ok (.iconst 0, 1) := by decide +kernel
theorem dX4_takeRing_189 : decode cX4_takeRing 189 = .ok (.ireturn, 1) := by decide +kernel
theorem dX4_takeRing_190 : decode cX4_takeRing 190 = .ok (.aload_n 0, 1) := by decide +kernel
theorem dX4_takeRing_191 : decode cX4_takeRing 191 = .ok (.getfield 42, 3) := by decide +kernel
theorem dX4_takeRing_194 : decode cX4_takeRing 194 = .ok (.aload_n 0, 1) := by decide +kernel
theorem dX4_takeRing_195 : decode cX4_takeRing 195 = .ok (.getfield 150, 3) := by decide +kernel
theorem dX4_takeRing_198 : decode cX4_takeRing 198 = .ok (.aload_n 0, 1) := by decide +kernel
theorem dX4_takeRing_199 : decode cX4_takeRing 199 = .ok (.getfield 36, 3) := by decide +kernel
theorem dX4_takeRing_202 : decode cX4_takeRing 202 = .ok (.iload 6, 2) := by decide +kernel
theorem dX4_takeRing_204 : decode cX4_takeRing 204 = .ok (.iaload, 1) := by decide +kernel
theorem dX4_takeRing_205 : decode cX4_takeRing 205 = .ok (.iastore, 1) := by decide +kernel
theorem dX4_takeRing_206 : decode cX4_takeRing 206 = .ok (.aload_n 0, 1) := by decide +kernel
theorem dX4_takeRing_207 : decode cX4_takeRing 207 = .ok (.dup, 1) := by decide +kernel
theorem dX4_takeRing_208 : decode cX4_takeRing 208 = .ok (.getfield 150, 3) := by decide +kernel
theorem dX4_takeRing_211 : decode cX4_takeRing 211 = .ok (.iconst 1, 1) := by decide +kernel
theorem dX4_takeRing_212 : decode cX4_takeRing 212 = .ok (.iadd, 1) := by decide +kernel
theorem dX4_takeRing_213 : decode cX4_takeRing 213 = .ok (.putfield 150, 3) := by decide +kernel
theorem dX4_takeRing_216 : decode cX4_takeRing 216 = .ok (.iinc 5 1, 3) := by decide +kernel
theorem dX4_takeRing_219 : decode cX4_takeRing 219 = .ok (.goto (-146), 3) := by decide +kernel
theorem dX4_takeRing_222 : decode cX4_takeRing 222 = .ok (.aload_n 0, 1) := by decide +kernel
theorem dX4_takeRing_223 : decode cX4_takeRing 223 = .ok (.getfield 48, 3) := by decide +kernel
theorem dX4_takeRing_226 : decode cX4_takeRing 226 = .ok (.aload_n 0, 1) := by decide +kernel
theorem dX4_takeRing_227 : decode cX4_takeRing 227 = .ok (.getfield 147, 3) := by decide +kernel
theorem dX4_takeRing_230 : decode cX4_takeRing 230 = .ok (.aload_n 0, 1) := by decide +kernel
theorem dX4_takeRing_231 : decode cX4_takeRing 231 = .ok (.aload_n 0, 1) := by decide +kernel
theorem dX4_takeRing_232 : decode cX4_takeRing 232 = .ok (.getfield 45, 3) := by decide +kernel
theorem dX4_takeRing_235 : decode cX4_takeRing 235 = .ok (.aload_n 0, 1) := by decide +kernel
theorem dX4_takeRing_236 : decode cX4_takeRing 236 = .ok (.getfield 147, 3) := by decide +kernel
theorem dX4_takeRing_239 : decode cX4_takeRing 239 = .ok (.iaload, 1) := by decide +kernel
theorem dX4_takeRing_240 : decode cX4_takeRing 240 = .ok (.aload_n 0, 1) := by decide +kernel
theorem dX4_takeRing_241 : decode cX4_takeRing 241 = .ok (.getfield 150, 3) := by decide +kernel
theorem dX4_takeRing_244 : decode cX4_takeRing 244 = .ok (.invokevirtual 177, 3) := by decide +kernel
theorem dX4_takeRing_247 : decode cX4_takeRing 247 = .ok (.lastore, 1) := by decide +kernel
theorem dX4_takeRing_248 : decode cX4_takeRing 248 = .ok (.aload_n 0, 1) := by decide +kernel
theorem dX4_takeRing_249 : decode cX4_takeRing 249 = .ok (.dup, 1) := by decide +kernel
theorem dX4_takeRing_250 : decode cX4_takeRing 250 = .ok (.getfield 147, 3) := by decide +kernel
theorem dX4_takeRing_253 : decode cX4_takeRing 253 = .ok (.iconst 1, 1) := by decide +kernel
theorem dX4_takeRing_254 : decode cX4_takeRing 254 = .ok (.iadd, 1) := by decide +kernel
theorem dX4_takeRing_255 : decode cX4_takeRing 255 = .ok (.putfield 147, 3) := by decide +kernel
theorem dX4_takeRing_258 : decode cX4_takeRing 258 = .ok (.aload_n 0, 1) := by decide +kernel
theorem dX4_takeRing_259 : decode cX4_takeRing 259 = .ok (.getfield 45, 3) := by decide +kernel
theorem dX4_takeRing_262 : decode cX4_takeRing 262 = .ok (.aload_n 0, 1) := by decide +kernel
theorem dX4_takeRing_263 : decode cX4_takeRing 263 = .ok (.getfield 147, 3) := by decide +kernel
theorem dX4_takeRing_266 : decode cX4_takeRing 266 = .ok (.aload_n 0, 1) := by decide +kernel
theorem dX4_takeRing_267 : decode cX4_takeRing 267 = .ok (.getfield 150, 3) := by decide +kernel
theorem dX4_takeRing_270 : decode cX4_takeRing 270 = .ok (.iastore, 1) := by decide +kernel
theorem dX4_takeRing_271 : decode cX4_takeRing 271 = .ok (.aload_n 0, 1) := by decide +kernel
theorem dX4_takeRing_272 : decode cX4_takeRing 272 = .ok (.getfield 150, 3) := by decide +kernel
theorem dX4_takeRing_275 : decode cX4_takeRing 275 = .ok (.aload_n 0, 1) := by decide +kernel
theorem dX4_takeRing_276 : decode cX4_takeRing 276 = .ok (.getfield 147, 3) := by decide +kernel
theorem dX4_takeRing_279 : decode cX4_takeRing 279 = .ok (.iadd, 1) := by decide +kernel
theorem dX4_takeRing_280 : decode cX4_takeRing 280 = .ok (.sipush 2048, 3) := by decide +kernel
theorem dX4_takeRing_283 : decode cX4_takeRing 283 = .ok (.if_icmp .gt 7, 3) := by decide +kernel
theorem dX4_takeRing_286 : decode cX4_takeRing 286 = .ok (.iconst 1, 1) := by decide +kernel
theorem dX4_takeRing_287 : decode cX4_takeRing 287 = .ok (.goto 4, 3) := by decide +kernel
theorem dX4_takeRing_290 : decode cX4_takeRing 290 = .ok (.iconst 0, 1) := by decide +kernel
theorem dX4_takeRing_291 : decode cX4_takeRing 291 = .ok (.ireturn, 1) := by decide +kernel
abbrev M_X4_takeRing : MRec := (yX4_takeRing, cX4_takeRing, 9, (some Jvm.ClassFile.FieldType.boolean), [])
theorem m_X4_takeRing : en_M M_X4_takeRing 2 := ⟨t_1800, t_10, ⟨by decide +kernel, by decide +kernel⟩, by decide +kernel, by decide +kernel, by decide +kernel⟩
theorem dX4_trace_0 : decode cX4_trace 0 = .ok (.iconst 1, 1) := by decide +kernel
theorem dX4_trace_1 : decode cX4_trace 1 = .ok (.istore_n 2, 1) := by decide +kernel
theorem dX4_trace_2 : decode cX4_trace 2 = .ok (.aload_n 0, 1) := by decide +kernel
theorem dX4_trace_3 : decode cX4_trace 3 = .ok (.getfield 36, 3) := by decide +kernel
theorem dX4_trace_6 : decode cX4_trace 6 = .ok (.iconst 0, 1) := by decide +kernel
theorem dX4_trace_7 : decode cX4_trace 7 = .ok (.aload_n 0, 1) := by decide +kernel
theorem dX4_trace_8 : decode cX4_trace 8 = .ok (.iload_n 1, 1) := by decide +kernel
theorem dX4_trace_9 : decode cX4_trace 9 = .ok (.invokevirtual 157, 3) := by decide +kernel
theorem dX4_trace_12 : decode cX4_trace 12 = .ok (.iastore, 1) := by decide +kernel
theorem dX4_trace_13 : decode cX4_trace 13 = .ok (.aload_n 0, 1) := by decide +kernel
theorem dX4_trace_14 : decode cX4_trace 14 = .ok (.getfield 39, 3) := by decide +kernel
theorem dX4_trace_17 : decode cX4_trace 17 = .ok (.aload_n 0, 1) := by decide +kernel
theorem dX4_trace_18 : decode cX4_trace 18 = .ok (.getfield 36, 3) := by decide +kernel
theorem dX4_trace_21 : decode cX4_trace 21 = .ok (.iconst 0, 1) := by decide +kernel
theorem dX4_trace_22 : decode cX4_trace 22 = .ok (.iaload, 1) := by decide +kernel
theorem dX4_trace_23 : decode cX4_trace 23 = .ok (.iconst 1, 1) := by decide +kernel
theorem dX4_trace_24 : decode cX4_trace 24 = .ok (.iastore, 1) := by decide +kernel
theorem dX4_trace_25 : decode cX4_trace 25 = .ok (.iload_n 1, 1) := by decide +kernel
theorem dX4_trace_26 : decode cX4_trace 26 = .ok (.istore_n 3, 1) := by decide +kernel
theorem dX4_trace_27 : decode cX4_trace 27 = .ok (.iconst 0, 1) := by decide +kernel
theorem dX4_trace_28 : decode cX4_trace 28 = .ok (.istore 4, 2) := by decide +kernel
theorem dX4_trace_30 : decode cX4_trace 30 = .ok (.iload 4, 2) := by decide +kernel
theorem dX4_trace_32 : decode cX4_trace 32 = .ok (.aload_n 0, 1) := by decide +kernel
theorem dX4_trace_33 : decode cX4_trace 33 = .ok (.getfield 58, 3) := by decide +kernel
theorem dX4_trace_36 : decode cX4_trace 36 = .ok (.getfield 100, 3) := by decide +kernel
theorem dX4_trace_39 : decode cX4_trace 39 = .ok (.if_icmp .ge 145, 3) := by decide +kernel
theorem dX4_trace_42 : decode cX4_trace 42 = .ok (.iload_n 3, 1) := by decide +kernel
theorem dX4_trace_43 : decode cX4_trace 43 = .ok (.iconst (-1), 1) := by decide +kernel
theorem dX4_trace_44 : decode cX4_trace 44 = .ok (.if_icmp .eq 140, 3) := by decide +kernel
theorem dX4_trace_47 : decode cX4_trace 47 = .ok (.aload_n 0, 1) := by decide +kernel
theorem dX4_trace_48 : decode cX4_trace 48 = .ok (.getfield 22, 3) := by decide +kernel
theorem dX4_trace_51 : decode cX4_trace 51 = .ok (.iload_n 3, 1) := by decide +kernel
theorem dX4_trace_52 : decode cX4_trace 52 = .ok (.baload, 1) := by decide +kernel
theorem dX4_trace_53 : decode cX4_trace 53 = .ok (.ifCond .eq 131, 3) := by decide +kernel
theorem dX4_trace_56 : decode cX4_trace 56 = .ok (.aload_n 0, 1) := by decide +kernel
theorem dX4_trace_57 : decode cX4_trace 57 = .ok (.getfield 22, 3) := by decide +kernel
theorem dX4_trace_60 : decode cX4_trace 60 = .ok (.iload_n 3, 1) := by decide +kernel
theorem dX4_trace_61 : decode cX4_trace 61 = .ok (.iconst 0, 1) := by decide +kernel
theorem dX4_trace_62 : decode cX4_trace 62 = .ok (.bastore, 1) := by decide +kernel
theorem dX4_trace_63 : decode cX4_trace 63 = .ok (.aload_n 0, 1) := by decide +kernel
theorem dX4_trace_64 : decode cX4_trace 64 = .ok (.iload_n 3, 1) := by decide +kernel
theorem dX4_trace_65 : decode cX4_trace 65 = .ok (.invokevirtual 160, 3) := by decide +kernel
theorem dX4_trace_68 : decode cX4_trace 68 = .ok (.istore 5, 2) := by decide +kernel
theorem dX4_trace_70 : decode cX4_trace 70 = .ok (.aload_n 0, 1) := by decide +kernel
theorem dX4_trace_71 : decode cX4_trace 71 = .ok (.getfield 39, 3) := by decide +kernel
theorem dX4_trace_74 : decode cX4_trace 74 = .ok (.iload 5, 2) := by decide +kernel
theorem dX4_trace_76 : decode cX4_trace 76 = .ok (.iaload, 1) := by decide +kernel
theorem dX4_trace_77 : decode cX4_trace 77 = .ok (.ifCond .le 65, 3) := by decide +kernel
theorem dX4_trace_80 : decode cX4_trace 80 = .ok (.aload_n 0, 1) := by decide +kernel
theorem dX4_trace_81 : decode cX4_trace 81 = .ok (.getfield 39, 3) := by decide +kernel
theorem dX4_trace_84 : decode cX4_trace 84 = .ok (.iload 5, 2) := by decide +kernel
theorem dX4_trace_86 : decode cX4_trace 86 = .ok (.iaload, 1) := by decide +kernel
theorem dX4_trace_87 : decode cX4_trace 87 = .ok (.iconst 1, 1) := by decide +kernel
theorem dX4_trace_88 : decode cX4_trace 88 = .ok (.isub, 1) := by decide +kernel
theorem dX4_trace_89 : decode cX4_trace 89 = .ok (.istore 6, 2) := by decide +kernel
theorem dX4_trace_91 : decode cX4_trace 91 = .ok (.aload_n 0, 1) := by decide +kernel
theorem dX4_trace_92 : decode cX4_trace 92 = .ok (.iload 6, 2) := by decide +kernel
theorem dX4_trace_94 : decode cX4_trace 94 = .ok (.iload_n 2, 1) := by decide +kernel
theorem dX4_trace_95 : decode cX4_trace 95 = .ok (.invokevirtual 163, 3) := by decide +kernel
theorem dX4_trace_98 : decode cX4_trace 98 = .ok (.ifCond .ne 5, 3) := by decide +kernel
theorem dX4_trace_101 : decode cX4_trace 101 = .ok (.iconst 0, 1) := by decide +kernel
theorem dX4_trace_102 : decode cX4_trace 102 = .ok (.ireturn, 1) := by decide +kernel
theorem dX4_trace_103 : decode cX4_trace 103 = .ok (.iload 6, 2) := by decide +kernel
theorem dX4_trace_105 : decode cX4_trace 105 = .ok (.iconst 1, 1) := by decide +kernel
theorem dX4_trace_106 : decode cX4_trace 106 = .ok (.iadd, 1) := by decide +kernel
theorem dX4_trace_107 : decode cX4_trace 107 = .ok (.istore 7, 2) := by decide +kernel
theorem dX4_trace_109 : decode cX4_trace 109 = .ok (.iload 7, 2) := by decide +kernel
theorem dX4_trace_111 : decode cX4_trace 111 = .ok (.iload_n 2, 1) := by decide +kernel
theorem dX4_trace_112 : decode cX4_trace 112 = .ok (.if_icmp .ge 22, 3) := by decide +kernel
theorem dX4_trace_115 : decode cX4_trace 115 = .ok (.aload_n 0, 1) := by decide +kernel
theorem dX4_trace_116 : decode cX4_trace 116 = .ok (.getfield 39, 3) := by decide +kernel
theorem dX4_trace_119 : decode cX4_trace 119 = .ok (.aload_n 0, 1) := by decide +kernel
theorem dX4_trace_120 : decode cX4_trace 120 = .ok (.getfield 36, 3) := by decide +kernel
theorem dX4_trace_123 : decode cX4_trace 123 = .ok (.iload 7, 2) := by decide +kernel
theorem dX4_trace_125 : decode cX4_trace 125 = .ok (.iaload, 1) := by decide +kernel
theorem dX4_trace_126 : decode cX4_trace 126 = .ok (.iconst 0, 1) := by decide +kernel
theorem dX4_trace_127 : decode cX4_trace 127 = .ok (.iastore, 1) := by decide +kernel
theorem dX4_trace_128 : decode cX4_trace 128 = .ok (.iinc 7 1, 3) := by decide +kernel
theorem dX4_trace_131 : decode cX4_trace 131 = .ok (.goto (-22), 3) := by decide +kernel
theorem dX4_trace_134 : decode cX4_trace 134 = .ok (.iload 6, 2) := by decide +kernel
theorem dX4_trace_136 : decode cX4_trace 136 = .ok (.iconst 1, 1) := by decide +kernel
theorem dX4_trace_137 : decode cX4_trace 137 = .ok (.iadd, 1) := by decide +kernel
theorem dX4_trace_138 : decode cX4_trace 138 = .ok (.istore_n 2, 1) := by decide +kernel
theorem dX4_trace_139 : decode cX4_trace 139 = .ok (.goto 31, 3) := by decide +kernel
theorem dX4_trace_142 : decode cX4_trace 142 = .ok (.iload_n 2, 1) := by decide +kernel
theorem dX4_trace_143 : decode cX4_trace 143 = .ok (.aload_n 0, 1) := by decide +kernel
theorem dX4_trace_144 : decode cX4_trace 144 = .ok (.getfield 36, 3) := by decide +kernel
theorem dX4_trace_147 : decode cX4_trace 147 = .ok (.arraylength, 1) := by decide +kernel
theorem dX4_trace_148 : decode cX4_trace 148 = .ok (.if_icmp .ge 22, 3) := by decide +kernel
theorem dX4_trace_151 : decode cX4_trace 151 = .ok (.aload_n 0, 1) := by decide +kernel
theorem dX4_trace_152 : decode cX4_trace 152 = .ok (.getfield 36, 3) := by decide +kernel
theorem dX4_trace_155 : decode cX4_trace 155 = .ok (.iload_n 2, 1) := by decide +kernel
theorem dX4_trace_156 : decode cX4_trace 156 = .ok (.iload 5, 2) := by decide +kernel
theorem dX4_trace_158 : decode cX4_trace 158 = .ok (.iastore, 1) := by decide +kernel
theorem dX4_trace_159 : decode cX4_trace 159 = .ok (.iinc 2 1, 3) := by decide +kernel
theorem dX4_trace_162 : decode cX4_trace 162 = .ok (.aload_n 0, 1) := by decide +kernel
theorem dX4_trace_163 : decode cX4_trace 163 = .ok (.getfield 39, 3) := by decide +kernel
theorem dX4_trace_166 : decode cX4_trace 166 = .ok (.iload 5, 2) := by decide +kernel
theorem dX4_trace_168 : decode cX4_trace 168 = .ok (.iload_n 2, 1) := by decide +kernel
theorem dX4_trace_169 : decode cX4_trace 169 = .ok (.iastore, 1) := by decide +kernel
theorem dX4_trace_170 : decode cX4_trace 170 = .ok (.aload_n 0, 1) := by decide +kernel
theorem dX4_trace_171 : decode cX4_trace 171 = .ok (.iload_n 3, 1) := by decide +kernel
theorem dX4_trace_172 : decode cX4_trace 172 = .ok (.iload 5, 2) := by decide +kernel
theorem dX4_trace_174 : decode cX4_trace 174 = .ok (.invokevirtual 166, 3) := by decide +kernel
theorem dX4_trace_177 : decode cX4_trace 177 = .ok (.istore_n 3, 1) := by decide +kernel
theorem dX4_trace_178 : decode cX4_trace 178 = .ok (.iinc 4 1, 3) := by decide +kernel
theorem dX4_trace_181 : decode cX4_trace 181 = .ok (.goto (-151), 3) := by decide +kernel
theorem dX4_trace_184 : decode cX4_trace 184 = .ok (.iconst 0, 1) := by decide +kernel
theorem dX4_trace_185 : decode cX4_trace 185 = .ok (.istore 4, 2) := by decide +kernel
theorem dX4_trace_187 : decode cX4_trace 187 = .ok (.iload 4, 2) := by decide +kernel
theorem dX4_trace_189 : decode cX4_trace 189 = .ok (.iload_n 2, 1) := by decide +kernel
theorem dX4_trace_190 : decode cX4_trace 190 = .ok (.if_icmp .ge 22, 3) := by decide +kernel
theorem dX4_trace_193 : decode cX4_trace 193 = .ok (.aload_n 0, 1) := by decide +kernel
theorem dX4_trace_194 : decode cX4_trace 194 = .ok (.getfield 39, 3) := by decide +kernel
theorem dX4_trace_197 : decode cX4_trace 197 = .ok (.aload_n 0, 1) := by decide +kernel
theorem dX4_trace_198 : decode cX4_trace 198 = .ok (.getfield 36, 3) := by decide +kernel
theorem dX4_trace_201 : decode cX4_trace 201 = .ok (.iload 4, 2) := by decide +kernel
theorem dX4_trace_203 : decode cX4_trace 203 = .ok (.iaload, 1) := by decide +kernel
theorem dX4_trace_204 : decode cX4_trace 204 = .ok (.iconst 0, 1) := by decide +kernel
theorem dX4_trace_205 : decode cX4_trace 205 = .ok (.iastore, 1) := by decide +kernel
theorem dX4_trace_206 : decode cX4_trace 206 = .ok (.iinc 4 1, 3) := by decide +kernel
theorem dX4_trace_209 : decode cX4_trace 209 = .ok (.goto (-22), 3) := by decide +kernel
theorem dX4_trace_212 : decode cX4_trace 212 = .ok (.iconst 1, 1) := by decide +kernel
theorem dX4_trace_213 : decode cX4_trace 213 = .ok (.ireturn, 1) := by decide +kernel
abbrev M_X4_trace : MRec := (yX4_trace, cX4_trace, 8, (some Jvm.ClassFile.FieldType.boolean), [])
theorem m_X4_trace : en_M M_X4_trace 1 := ⟨t_1788, t_10, ⟨by decide +kernel, by decide +kernel⟩, by decide +kernel, by decide +kernel, by decide +kernel⟩
theorem dX4_traceRings_0 : decode cX4_traceRings 0 = .ok (.aload_n 0, 1) := by decide +kernel
theorem dX4_traceRings_1 : decode cX4_traceRings 1 = .ok (.iconst 0, 1) := by decide +kernel
theorem dX4_traceRings_2 : decode cX4_traceRings 2 = .ok (.putfield 147, 3) := by decide +kernel
theorem dX4_traceRings_5 : decode cX4_traceRings 5 = .ok (.aload_n 0, 1) := by decide +kernel
theorem dX4_traceRings_6 : decode cX4_traceRings 6 = .ok (.iconst 0, 1) := by decide +kernel
theorem dX4_traceRings_7 : decode cX4_traceRings 7 = .ok (.putfield 150, 3) := by decide +kernel
theorem dX4_traceRings_10 : decode cX4_traceRings 10 = .ok (.aload_n 0, 1) := by decide +kernel
theorem dX4_traceRings_11 : decode cX4_traceRings 11 = .ok (.getfield 39, 3) := by decide +kernel
theorem dX4_traceRings_14 : decode cX4_traceRings 14 = .ok (.iconst 0, 1) := by decide +kernel
theorem dX4_traceRings_15 : decode cX4_traceRings 15 = .ok (.aload_n 0, 1) := by decide +kernel
theorem dX4_traceRings_16 : decode cX4_traceRings 16 = .ok (.getfield 58, 3) := by decide +kernel
theorem dX4_traceRings_19 : decode cX4_traceRings 19 = .ok (.getfield 90, 3) := by decide +kernel
theorem dX4_traceRings_22 : decode cX4_traceRings 22 = .ok (.iconst 0, 1) := by decide +kernel
theorem dX4_traceRings_23 : decode cX4_traceRings 23 = .ok (.invokestatic 137, 3) := by decide +kernel
theorem dX4_traceRings_26 : decode cX4_traceRings 26 = .ok (.iconst 0, 1) := by decide +kernel
theorem dX4_traceRings_27 : decode cX4_traceRings 27 = .ok (.istore_n 1, 1) := by decide +kernel
theorem dX4_traceRings_28 : decode cX4_traceRings 28 = .ok (.iload_n 1, 1) := by decide +kernel
theorem dX4_traceRings_29 : decode cX4_traceRings 29 = .ok (.aload_n 0, 1) := by decide +kernel
theorem dX4_traceRings_30 : decode cX4_traceRings 30 = .ok (.getfield 58, 3) := by decide +kernel
theorem dX4_traceRings_33 : decode cX4_traceRings 33 = .ok (.getfield 100, 3) := by decide +kernel
theorem dX4_traceRings_36 : decode cX4_traceRings 36 = .ok (.if_icmp .ge 28, 3) := by decide +kernel
theorem dX4_traceRings_39 : decode cX4_traceRings 39 = .ok (.aload_n 0, 1) := by decide +kernel
theorem dX4_traceRings_40 : decode cX4_traceRings 40 = .ok (.getfield 22, 3) := by decide +kernel
theorem dX4_traceRings_43 : decode cX4_traceRings 43 = .ok (.iload_n 1, 1) := by decide +kernel
theorem dX4_traceRings_44 : decode cX4_traceRings 44 = .ok (.baload, 1) := by decide +kernel
theorem dX4_traceRings_45 : decode cX4_traceRings 45 = .ok (.ifCond .eq 13, 3) := by decide +kernel
theorem dX4_traceRings_48 : decode cX4_traceRings 48 = .ok (.aload_n 0, 1) := by decide +kernel
theorem dX4_traceRings_49 : decode cX4_traceRings 49 = .ok (.iload_n 1, 1) := by decide +kernel
theorem dX4_traceRings_50 : decode cX4_traceRings 50 = .ok (.invokevirtual 153, 3) := by decide +kernel
theorem dX4_traceRings_53 : decode cX4_traceRings 53 = .ok (.ifCond .ne 5, 3) := by decide +kernel
theorem dX4_traceRings_56 : decode cX4_traceRings 56 = .ok (.iconst 0, 1) := by decide +kernel
theorem dX4_traceRings_57 : decode cX4_traceRings 57 = .ok (.ireturn, 1) := by decide +kernel
theorem dX4_traceRings_58 : decode cX4_traceRings 58 = .ok (.iinc 1 1, 3) := by decide +kernel
theorem dX4_traceRings_61 : decode cX4_traceRings 61 = .ok (.goto (-33), 3) := by decide +kernel
theorem dX4_traceRings_64 : decode cX4_traceRings 64 = .ok (.iconst 1, 1) := by decide +kernel
theorem dX4_traceRings_65 : decode cX4_traceRings 65 = .ok (.ireturn, 1) := by decide +kernel
abbrev M_X4_traceRings : MRec := (yX4_traceRings, cX4_traceRings, 2, (some Jvm.ClassFile.FieldType.boolean), [])
theorem m_X4_traceRings : en_M M_X4_traceRings 0 := ⟨t_1784, t_10, ⟨by decide +kernel, by decide +kernel⟩, by decide +kernel, by decide +kernel, by decide +kernel⟩
theorem dX4_make_0 : decode cX4_make 0 = .ok (.aload_n 0, 1) := by decide +kernel
theorem dX4_make_1 : decode cX4_make 1 = .ok (.invokevirtual 62, 3) := by decide +kernel
theorem dX4_make_4 : decode cX4_make 4 = .ok (.aload_n 0, 1) := by decide +kernel
theorem dX4_make_5 : decode cX4_make 5 = .ok (.iload_n 1, 1) := by decide +kernel
theorem dX4_make_6 : decode cX4_make 6 = .ok (.invokevirtual 65, 3) := by decide +kernel
theorem dX4_make_9 : decode cX4_make 9 = .ok (.aload_n 0, 1) := by decide +kernel
theorem dX4_make_10 : decode cX4_make 10 = .ok (.invokevirtual 69, 3) := by decide +kernel
theorem dX4_make_13 : decode cX4_make 13 = .ok (.aload_n 0, 1) := by decide +kernel
theorem dX4_make_14 : decode cX4_make 14 = .ok (.invokevirtual 72, 3) := by decide +kernel
theorem dX4_make_17 : decode cX4_make 17 = .ok (.ifCond .ne 5, 3) := by decide +kernel
theorem dX4_make_20 : decode cX4_make 20 = .ok (.iconst 0, 1) := by decide +kernel
theorem dX4_make_21 : decode cX4_make 21 = .ok (.ireturn, 1) := by decide +kernel
theorem dX4_make_22 : decode cX4_make 22 = .ok (.aload_n 0, 1) := by decide +kernel
theorem dX4_make_23 : decode cX4_make 23 = .ok (.invokevirtual 76, 3) := by decide +kernel
theorem dX4_make_26 : decode cX4_make 26 = .ok (.aload_n 0, 1) := by decide +kernel
theorem dX4_make_27 : decode cX4_make 27 = .ok (.invokevirtual 79, 3) := by decide +kernel
theorem dX4_make_30 : decode cX4_make 30 = .ok (.aload_n 0, 1) := by decide +kernel
theorem dX4_make_31 : decode cX4_make 31 = .ok (.aload_n 2, 1) := by decide +kernel
theorem dX4_make_32 : decode cX4_make 32 = .ok (.invokevirtual 82, 3) := by decide +kernel
theorem dX4_make_35 : decode cX4_make 35 = .ok (.ireturn, 1) := by decide +kernel
abbrev M_X4_make : MRec := (yX4_make, cX4_make, 3, (some Jvm.ClassFile.FieldType.boolean), [])
theorem m_X4_make : en_M M_X4_make 2 := ⟨t_1491, t_10, ⟨by decide +kernel, by decide +kernel⟩, by decide +kernel, by decide +kernel, by decide +kernel⟩
theorem dX11_leaveEachOnce_0 : decode cX11_leaveEachOnce 0 = .ok (.iconst 0, 1) := by decide +kernel
theorem dX11_leaveEachOnce_1 : decode cX11_leaveEachOnce 1 = .ok (.istore_n 2, 1) := by decide +kernel
theorem dX11_leaveEachOnce_2 : decode cX11_leaveEachOnce 2 = .ok (.iconst 0, 1) := by decide +kernel
theorem dX11_leaveEachOnce_3 : decode cX11_leaveEachOnce 3 = .ok (.istore_n 3, 1) := by decide +kernel
theorem dX11_leaveEachOnce_4 : decode cX11_leaveEachOnce 4 = .ok (.iload_n 3, 1) := by decide +kernel
theorem dX11_leaveEachOnce_5 : decode cX11_leaveEachOnce 5 = .ok (.iload_n 1, 1) := by decide +kernel
theorem dX11_leaveEachOnce_6 : decode cX11_leaveEachOnce 6 = .ok (.if_icmp .ge 34, 3) := by decide +kernel
theorem dX11_leaveEachOnce_9 : decode cX11_leaveEachOnce 9 = .ok (.iload_n 2, 1) := by decide +kernel
theorem dX11_leaveEachOnce_10 : decode cX11_leaveEachOnce 10 = .ok (.ifCond .eq 15, 3) := by decide +kernel
theorem dX11_leaveEachOnce_13 : decode cX11_leaveEachOnce 13 = .ok (.aload_n 0, 1) := by decide +kernel
theorem dX11_leaveEachOnce_14 : decode cX11_leaveEachOnce 14 = .ok (.iload_n 2, 1) := by decide +kernel
theorem dX11_leaveEachOnce_15 : decode cX11_leaveEachOnce 15 = .ok (.iconst 1, 1) := by decide +kernel
theorem dX11_leaveEachOnce_16 : decode cX11_leaveEachOnce 16 = .ok (.isub, 1) := by decide +kernel
theorem dX11_leaveEachOnce_17 : decode cX11_leaveEachOnce 17 = .ok (.laload, 1) := by decide +kernel
theorem dX11_leaveEachOnce_18 : decode cX11_leaveEachOnce 18 = .ok (.aload_n 0, 1) := by decide +kernel
theorem dX11_leaveEachOnce_19 : decode cX11_leaveEachOnce 19 = .ok (.iload_n 3, 1) := by decide +kernel
theorem dX11_leaveEachOnce_20 : decode cX11_leaveEachOnce 20 = .ok (.laload, 1) := by decide +kernel
theorem dX11_leaveEachOnce_21 : decode cX11_leaveEachOnce 21 = .ok (.lcmp, 1) := by decide +kernel
theorem dX11_leaveEachOnce_22 : decode cX11_leaveEachOnce 22 = .ok (.ifCond .eq 12, 3) := by decide +kernel
theorem dX11_leaveEachOnce_25 : decode cX11_leaveEachOnce 25 = .ok (.aload_n 0, 1) := by decide +kernel
theorem dX11_leaveEachOnce_26 : decode cX11_leaveEachOnce 26 = .ok (.iload_n 2, 1) := by decide +kernel
theorem dX11_leaveEachOnce_27 : decode cX11_leaveEachOnce 27 = .ok (.aload_n 0, 1) := by decide +kernel
theorem dX11_leaveEachOnce_28 : decode cX11_leaveEachOnce 28 = .ok (.iload_n 3, 1) := by decide +kernel
theorem dX11_leaveEachOnce_29 : decode cX11_leaveEachOnce 29 = .ok (.laload, 1) := by decide +kernel
theorem dX11_leaveEachOnce_30 : decode cX11_leaveEachOnce 30 = .ok (.lastore, 1) := by decide +kernel
theorem dX11_leaveEachOnce_31 : decode cX11_leaveEachOnce 31 = .ok (.iinc 2 1, 3) := by decide +kernel
theorem dX11_leaveEachOnce_34 : decode cX11_leaveEachOnce 34 = .ok (.iinc 3 1, 3) := by decide +kernel
theorem dX11_leaveEachOnce_37 : decode cX11_leaveEachOnce 37 = .ok (.goto (-33), 3) := by decide +kernel
theorem dX11_leaveEachOnce_40 : decode cX11_leaveEachOnce 40 = .ok (.iload_n 2, 1) := by decide +kernel
theorem dX11_leaveEachOnce_41 : decode cX11_leaveEachOnce 41 = .ok (.ireturn, 1) := by decide +kernel
abbrev M_X11_leaveEachOnce : MRec := (yX11_leaveEachOnce, cX11_leaveEachOnce, 4, (some Jvm.ClassFile.FieldType.int), [])
theorem m_X11_leaveEachOnce : en_M M_X11_leaveEachOnce 2 := ⟨t_1424, t_1, ⟨by decide +kernel, by decide +kernel⟩, by decide +kernel, by decide +kernel, by decide +kernel⟩
theorem dX8_sortOutKeys_0 : decode cX8_sortOutKeys 0 = .ok (.aload_n 0, 1) := by decide +kernel
theorem dX8_sortOutKeys_1 : decode cX8_sortOutKeys 1 = .ok (.getfield 18, 3) := by decide +kernel
theorem dX8_sortOutKeys_4 : decode cX8_sortOutKeys 4 = .ok (.aload_n 0, 1) := by decide +kernel
theorem dX8_sortOutKeys_5 : decode cX8_sortOutKeys 5 = .ok (.getfield 51, 3) := by decide +kernel
theorem dX8_sortOutKeys_8 : decode cX8_sortOutKeys 8 = .ok (.invokestatic 114, 3) := by decide +kernel
theorem dX8_sortOutKeys_11 : decode cX8_sortOutKeys 11 = .ok (.aload_n 0, 1) := by decide +kernel
theorem dX8_sortOutKeys_12 : decode cX8_sortOutKeys 12 = .ok (.aload_n 0, 1) := by decide +kernel
theorem dX8_sortOutKeys_13 : decode cX8_sortOutKeys 13 = .ok (.getfield 18, 3) := by decide +kernel
theorem dX8_sortOutKeys_16 : decode cX8_sortOutKeys 16 = .ok (.aload_n 0, 1) := by decide +kernel
theorem dX8_sortOutKeys_17 : decode cX8_sortOutKeys 17 = .ok (.getfield 51, 3) := by decide +kernel
theorem dX8_sortOutKeys_20 : decode cX8_sortOutKeys 20 = .ok (.invokestatic 118, 3) := by decide +kernel
theorem dX8_sortOutKeys_23 : decode cX8_sortOutKeys 23 = .ok (.putfield 51, 3) := by decide +kernel
theorem dX8_sortOutKeys_26 : decode cX8_sortOutKeys 26 = .ok (.aload_n 0, 1) := by decide +kernel
theorem dX8_sortOutKeys_27 : decode cX8_sortOutKeys 27 = .ok (.getfield 51, 3) := by decide +kernel
theorem dX8_sortOutKeys_30 : decode cX8_sortOutKeys 30 = .ok (.sipush 8192, 3) := by decide +kernel
theorem dX8_sortOutKeys_33 : decode cX8_sortOutKeys 33 = .ok (.if_icmp .gt 7, 3) := by decide +kernel
theorem dX8_sortOutKeys_36 : decode cX8_sortOutKeys 36 = .ok (.iconst 1, 1) := by decide +kernel
theorem dX8_sortOutKeys_37 : decode cX8_sortOutKeys 37 = .ok (.goto 4, 3) := by decide +kernel
theorem dX8_sortOutKeys_40 : decode cX8_sortOutKeys 40 = .ok (.iconst 0, 1) := by decide +kernel
theorem dX8_sortOutKeys_41 : decode cX8_sortOutKeys 41 = .ok (.ireturn, 1) := by decide +kernel
abbrev M_X8_sortOutKeys : MRec := (yX8_sortOutKeys, cX8_sortOutKeys, 1, (some Jvm.ClassFile.FieldType.boolean), [])
theorem m_X8_sortOutKeys : en_M M_X8_sortOutKeys 0 := ⟨t_1415, t_9, ⟨by decide +kernel, by decide +kernel⟩, by decide +kernel, by decide +kernel, by decide +kernel⟩
theorem dX11_keyOf_0 : decode cX11_keyOf 0 = .ok (.iload_n 0, 1) := by decide +kernel
theorem dX11_keyOf_1 : decode cX11_keyOf 1 = .ok (.i2l, 1) := by decide +kernel
theorem dX11_keyOf_2 : decode cX11_keyOf 2 = .ok (.bipush 32, 2) := by decide +kernel
theorem dX11_keyOf_4 : decode cX11_keyOf 4 = .ok (.lshl, 1) := by decide +kernel
theorem dX11_keyOf_5 : decode cX11_keyOf 5 = .ok (.iload_n 1, 1) := by decide +kernel
theorem dX11_keyOf_6 : decode cX11_keyOf 6 = .ok (.ldc_w 370, 3) := by decide +kernel
theorem dX11_keyOf_9 : decode cX11_keyOf 9 = .ok (.ixor, 1) := by decide +kernel
theorem dX11_keyOf_10 : decode cX11_keyOf 10 = .ok (.i2l, 1) := by decide +kernel
theorem dX11_keyOf_11 : decode cX11_keyOf 11 = .ok (.ldc2_w 366, 3) := by decide +kernel
theorem dX11_keyOf_14 : decode cX11_keyOf 14 = .ok (.land, 1) := by decide +kernel
theorem dX11_keyOf_15 : decode cX11_keyOf 15 = .ok (.lor, 1) := by decide +kernel
theorem dX11_keyOf_16 : decode cX11_keyOf 16 = .ok (.lreturn, 1) := by decide +kernel
abbrev M_X11_keyOf : MRec := (yX11_keyOf, cX11_keyOf, 2, (some Jvm.ClassFile.FieldType.long), [])
theorem m_X11_keyOf : en_M M_X11_keyOf 2 := ⟨t_1427, t_1, ⟨by decide +kernel, by decide +kernel⟩, by decide +kernel, by decide +kernel, by decide +kernel⟩
theorem dX8_addHot_0 : decode cX8_addHot 0 = .ok (.aload_n 0, 1) := by decide +kernel
theorem dX8_addHot_1 : decode cX8_addHot 1 = .ok (.getfield 51, 3) := by decide +kernel
theorem dX8_addHot_4 : decode cX8_addHot 4 = .ok (.aload_n 0, 1) := by decide +kernel
theorem dX8_addHot_5 : decode cX8_addHot 5 = .ok (.getfield 18, 3) := by decide +kernel
theorem dX8_addHot_8 : decode cX8_addHot 8 = .ok (.arraylength, 1) := by decide +kernel
theorem dX8_addHot_9 : decode cX8_addHot 9 = .ok (.if_icmp .lt 12, 3) := by decide +kernel
theorem dX8_addHot_12 : decode cX8_addHot 12 = .ok (.aload_n 0, 1) := by decide +kernel
theorem dX8_addHot_13 : decode cX8_addHot 13 = .ok (.invokevirtual 105, 3) := by decide +kernel
theorem dX8_addHot_16 : decode cX8_addHot 16 = .ok (.ifCond .ne 5, 3) := by decide +kernel
theorem dX8_addHot_19 : decode cX8_addHot 19 = .ok (.iconst 0, 1) := by decide +kernel
theorem dX8_addHot_20 : decode cX8_addHot 20 = .ok (.ireturn, 1) := by decide +kernel
theorem dX8_addHot_21 : decode cX8_addHot 21 = .ok (.aload_n 0, 1) := by decide +kernel
theorem dX8_addHot_22 : decode cX8_addHot 22 = .ok (.getfield 18, 3) := by decide +kernel
theorem dX8_addHot_25 : decode cX8_addHot 25 = .ok (.aload_n 0, 1) := by decide +kernel
theorem dX8_addHot_26 : decode cX8_addHot 26 = .ok (.getfield 51, 3) := by decide +kernel
theorem dX8_addHot_29 : decode cX8_addHot 29 = .ok (.iload_n 1, 1) := by decide +kernel
theorem dX8_addHot_30 : decode cX8_addHot 30 = .ok (.iload_n 2, 1) := by decide +kernel
theorem dX8_addHot_31 : decode cX8_addHot 31 = .ok (.invokestatic 108, 3) := by decide +kernel
theorem dX8_addHot_34 : decode cX8_addHot 34 = .ok (.lastore, 1) := by decide +kernel
theorem dX8_addHot_35 : decode cX8_addHot 35 = .ok (.aload_n 0, 1) := by decide +kernel
theorem dX8_addHot_36 : decode cX8_addHot 36 = .ok (.dup, 1) := by decide +kernel
theorem dX8_addHot_37 : decode cX8_addHot 37 = .ok (.getfield 51, 3) := by decide +kernel
theorem dX8_addHot_40 : decode cX8_addHot 40 = .ok (.iconst 1, 1) := by decide +kernel
theorem dX8_addHot_41 : decode cX8_addHot 41 = .ok (.iadd, 1) := by decide +kernel
theorem dX8_addHot_42 : decode cX8_addHot 42 = .ok (.putfield 51, 3) := by decide +kernel
theorem dX8_addHot_45 : decode cX8_addHot 45 = .ok (.iconst 1, 1) := by decide +kernel
theorem dX8_addHot_46 : decode cX8_addHot 46 = .ok (.ireturn, 1) := by decide +kernel
abbrev M_X8_addHot : MRec := (yX8_addHot, cX8_addHot, 3, (some Jvm.ClassFile.FieldType.boolean), [])
theorem m_X8_addHot : en_M M_X8_addHot 2 := ⟨t_1411, t_9, ⟨by decide +kernel, by decide +kernel⟩, by decide +kernel, by decide +kernel, by decide +kernel⟩
theorem dX8_pixelAt_0 : decode cX8_pixelAt 0 = .ok (.lload 4, 2) := by decide +kernel
theorem dX8_pixelAt_2 : decode cX8_pixelAt 2 = .ok (.lconst 0, 1) := by decide +kernel
theorem dX8_pixelAt_3 : decode cX8_pixelAt 3 = .ok (.lcmp, 1) := by decide +kernel
theorem dX8_pixelAt_4 : decode cX8_pixelAt 4 = .ok (.ifCond .gt 5, 3) := by decide +kernel
theorem dX8_pixelAt_7 : decode cX8_pixelAt 7 = .ok (.iload_n 0, 1) := by decide +kernel
theorem dX8_pixelAt_8 : decode cX8_pixelAt 8 = .ok (.ireturn, 1) := by decide +kernel
theorem dX8_pixelAt_9 : decode cX8_pixelAt 9 = .ok (.iload_n 1, 1) := by decide +kernel
theorem dX8_pixelAt_10 : decode cX8_pixelAt 10 = .ok (.invokestatic 156, 3) := by decide +kernel
theorem dX8_pixelAt_13 : decode cX8_pixelAt 13 = .ok (.i2l, 1) := by decide +kernel
theorem dX8_pixelAt_14 : decode cX8_pixelAt 14 = .ok (.lstore 6, 2) := by decide +kernel
theorem dX8_pixelAt_16 : decode cX8_pixelAt 16 = .ok (.lconst 0, 1) := by decide +kernel
theorem dX8_pixelAt_17 : decode cX8_pixelAt 17 = .ok (.lstore 8, 2) := by decide +kernel
theorem dX8_pixelAt_19 : decode cX8_pixelAt 19 = .ok (.lconst 0, 1) := by decide +kernel
theorem dX8_pixelAt_20 : decode cX8_pixelAt 20 = .ok (.lstore 10, 2) := by decide +kernel
theorem dX8_pixelAt_22 : decode cX8_pixelAt 22 = .ok (.lload_n 2, 1) := by decide +kernel
theorem dX8_pixelAt_23 : decode cX8_pixelAt 23 = .ok (.ldc2_w 160, 3) := by decide +kernel
theorem dX8_pixelAt_26 : decode cX8_pixelAt 26 = .ok (.lcmp, 1) := by decide +kernel
theorem dX8_pixelAt_27 : decode cX8_pixelAt 27 = .ok (.ifCond .gt 24, 3) := by decide +kernel
theorem dX8_pixelAt_30 : decode cX8_pixelAt 30 = .ok (.lload 6, 2) := by decide +kernel
theorem dX8_pixelAt_32 : decode cX8_pixelAt 32 = .ok (.lload_n 2, 1) := by decide +kernel
theorem dX8_pixelAt_33 : decode cX8_pixelAt 33 = .ok (.lmul, 1) := by decide +kernel
theorem dX8_pixelAt_34 : decode cX8_pixelAt 34 = .ok (.lload 4, 2) := by decide +kernel
theorem dX8_pixelAt_36 : decode cX8_pixelAt 36 = .ok (.ldiv, 1) := by decide +kernel
theorem dX8_pixelAt_37 : decode cX8_pixelAt 37 = .ok (.lstore 8, 2) := by decide +kernel
theorem dX8_pixelAt_39 : decode cX8_pixelAt 39 = .ok (.lload 6, 2) := by decide +kernel
theorem dX8_pixelAt_41 : decode cX8_pixelAt 41 = .ok (.lload_n 2, 1) := by decide +kernel
theorem dX8_pixelAt_42 : decode cX8_pixelAt 42 = .ok (.lmul, 1) := by decide +kernel
theorem dX8_pixelAt_43 : decode cX8_pixelAt 43 = .ok (.lload 4, 2) := by decide +kernel
theorem dX8_pixelAt_45 : decode cX8_pixelAt 45 = .ok (.lrem, 1) := by decide +kernel
theorem dX8_pixelAt_46 : decode cX8_pixelAt 46 = .ok (.lstore 10, 2) := by decide +kernel
theorem dX8_pixelAt_48 : decode cX8_pixelAt 48 = .ok (.goto 72, 3) := by decide +kernel
theorem dX8_pixelAt_51 : decode cX8_pixelAt 51 = .ok (.bipush 30, 2) := by decide +kernel
theorem dX8_pixelAt_53 : decode cX8_pixelAt 53 = .ok (.istore 12, 2) := by decide +kernel
theorem dX8_pixelAt_55 : decode cX8_pixelAt 55 = .ok (.iload 12, 2) := by decide +kernel
theorem dX8_pixelAt_57 : decode cX8_pixelAt 57 = .ok (.ifCond .lt 63, 3) := by decide +kernel
theorem dX8_pixelAt_60 : decode cX8_pixelAt 60 = .ok (.ldc2_w 162, 3) := by decide +kernel
theorem dX8_pixelAt_63 : decode cX8_pixelAt 63 = .ok (.lload 10, 2) := by decide +kernel
theorem dX8_pixelAt_65 : decode cX8_pixelAt 65 = .ok (.lmul, 1) := by decide +kernel
theorem dX8_pixelAt_66 : decode cX8_pixelAt 66 = .ok (.lload 6, 2) := by decide +kernel
theorem dX8_pixelAt_68 : decode cX8_pixelAt 68 = .ok (.iload 12, 2) := by decide +kernel
theorem dX8_pixelAt_70 : decode cX8_pixelAt 70 = .ok (.lshr, 1) := by decide +kernel
theorem dX8_pixelAt_71 : decode cX8_pixelAt 71 = .ok (.lconst 1, 1) := by decide +kernel
theorem dX8_pixelAt_72 : decode cX8_pixelAt 72 = .ok (.land, 1) := by decide +kernel
theorem dX8_pixelAt_73 : decode cX8_pixelAt 73 = .ok (.lconst 1, 1) := by decide +kernel
theorem dX8_pixelAt_74 : decode cX8_pixelAt 74 = .ok (.lcmp, 1) := by decide +kernel
theorem dX8_pixelAt_75 : decode cX8_pixelAt 75 = .ok (.ifCond .ne 7, 3) := by decide +kernel
theorem dX8_pixelAt_78 : decode cX8_pixelAt 78 = .ok (.lload_n 2, 1) := by decide +kernel
theorem dX8_pixelAt_79 : decode cX8_pixelAt 79 = .ok (.goto 4, 3) := by decide +kernel
theorem dX8_pixelAt_82 : decode cX8_pixelAt 82 = .ok (.lconst 0, 1) := by decide +kernel
theorem dX8_pixelAt_83 : decode cX8_pixelAt 83 = .ok (.ladd, 1) := by decide +kernel
theorem dX8_pixelAt_84 : decode cX8_pixelAt 84 = .ok (.lstore 10, 2) := by decide +kernel
theorem dX8_pixelAt_86 : decode cX8_pixelAt 86 = .ok (.lload 10, 2) := by decide +kernel
theorem dX8_pixelAt_88 : decode cX8_pixelAt 88 = .ok (.lload 4, 2) := by decide +kernel
theorem dX8_pixelAt_90 : decode cX8_pixelAt 90 = .ok (.ldiv, 1) := by decide +kernel
theorem dX8_pixelAt_91 : decode cX8_pixelAt 91 = .ok (.lstore 13, 2) := by decide +kernel
theorem dX8_pixelAt_93 : decode cX8_pixelAt 93 = .ok (.lload 10, 2) := by decide +kernel
theorem dX8_pixelAt_95 : decode cX8_pixelAt 95 = .ok (.lload 13, 2) := by decide +kernel
theorem dX8_pixelAt_97 : decode cX8_pixelAt 97 = .ok (.lload 4, 2) := by decide +kernel
theorem dX8_pixelAt_99 : decode cX8_pixelAt 99 = .ok (.lmul, 1) := by decide +kernel
theorem dX8_pixelAt_100 : decode cX8_pixelAt 100 = .ok (.lsub, 1) := by decide +kernel
theorem dX8_pixelAt_101 : decode cX8_pixelAt 101 = .ok (.lstore 10, 2) := by decide +kernel
theorem dX8_pixelAt_103 : decode cX8_pixelAt 103 = .ok (.ldc2_w 162, 3) := by decide +kernel
theorem dX8_pixelAt_106 : decode cX8_pixelAt 106 = .ok (.lload 8, 2) := by decide +kernel
theorem dX8_pixelAt_108 : decode cX8_pixelAt 108 = .ok (.lmul, 1) := by decide +kernel
theorem dX8_pixelAt_109 : decode cX8_pixelAt 109 = .ok (.lload 13, 2) := by decide +kernel
theorem dX8_pixelAt_111 : decode cX8_pixelAt 111 = .ok (.ladd, 1) := by decide +kernel
theorem dX8_pixelAt_112 : decode cX8_pixelAt 112 = .ok (.lstore 8, 2) := by decide +kernel
theorem dX8_pixelAt_114 : decode cX8_pixelAt 114 = .ok (.iinc 12 (-1), 3) := by decide +kernel
theorem dX8_pixelAt_117 : decode cX8_pixelAt 117 = .ok (.goto (-62), 3) := by decide +kernel
theorem dX8_pixelAt_120 : decode cX8_pixelAt 120 = .ok (.iload_n 1, 1) := by decide +kernel
theorem dX8_pixelAt_121 : decode cX8_pixelAt 121 = .ok (.ifCond .lt 23, 3) := by decide +kernel
theorem dX8_pixelAt_124 : decode cX8_pixelAt 124 = .ok (.ldc2_w 162, 3) := by decide +kernel
theorem dX8_pixelAt_127 : decode cX8_pixelAt 127 = .ok (.lload 10, 2) := by decide +kernel
theorem dX8_pixelAt_129 : decode cX8_pixelAt 129 = .ok (.lmul, 1) := by decide +kernel
theorem dX8_pixelAt_130 : decode cX8_pixelAt 130 = .ok (.lload 4, 2) := by decide +kernel
theorem dX8_pixelAt_132 : decode cX8_pixelAt 132 = .ok (.lcmp, 1) := by decide +kernel
theorem dX8_pixelAt_133 : decode cX8_pixelAt 133 = .ok (.ifCond .lt 7, 3) := by decide +kernel
theorem dX8_pixelAt_136 : decode cX8_pixelAt 136 = .ok (.iconst 1, 1) := by decide +kernel
theorem dX8_pixelAt_137 : decode cX8_pixelAt 137 = .ok (.goto 24, 3) := by decide +kernel
theorem dX8_pixelAt_140 : decode cX8_pixelAt 140 = .ok (.iconst 0, 1) := by decide +kernel
theorem dX8_pixelAt_141 : decode cX8_pixelAt 141 = .ok (.goto 20, 3) := by decide +kernel
theorem dX8_pixelAt_144 : decode cX8_pixelAt 144 = .ok (.ldc2_w 162, 3) := by decide +kernel
theorem dX8_pixelAt_147 : decode cX8_pixelAt 147 = .ok (.lload 10, 2) := by decide +kernel
theorem dX8_pixelAt_149 : decode cX8_pixelAt 149 = .ok (.lmul, 1) := by decide +kernel
theorem dX8_pixelAt_150 : decode cX8_pixelAt 150 = .ok (.lload 4, 2) := by decide +kernel
theorem dX8_pixelAt_152 : decode cX8_pixelAt 152 = .ok (.lcmp, 1) := by decide +kernel
theorem dX8_pixelAt_153 : decode cX8_pixelAt 153 = .ok (.ifCond .le 7, 3) := by decide +kernel
theorem dX8_pixelAt_156 : decode cX8_pixelAt 156 = .ok (.iconst 1, 1) := by decide +kernel
theorem dX8_pixelAt_157 : decode cX8_pixelAt 157 = .ok (.goto 4, 3) := by decide +kernel
theorem dX8_pixelAt_160 : decode cX8_pixelAt 160 = .ok (.iconst 0, 1) := by decide +kernel
theorem dX8_pixelAt_161 : decode cX8_pixelAt 161 = .ok (.istore 12, 2) := by decide +kernel
theorem dX8_pixelAt_163 : decode cX8_pixelAt 163 = .ok (.iload 12, 2) := by decide +kernel
theorem dX8_pixelAt_165 : decode cX8_pixelAt 165 = .ok (.ifCond .eq 10, 3) := by decide +kernel
theorem dX8_pixelAt_168 : decode cX8_pixelAt 168 = .ok (.lload 8, 2) := by decide +kernel
theorem dX8_pixelAt_170 : decode cX8_pixelAt 170 = .ok (.lconst 1, 1) := by decide +kernel
theorem dX8_pixelAt_171 : decode cX8_pixelAt 171 = .ok (.ladd, 1) := by decide +kernel
theorem dX8_pixelAt_172 : decode cX8_pixelAt 172 = .ok (.goto 5, 3) := by decide +kernel
theorem dX8_pixelAt_175 : decode cX8_pixelAt 175 = .ok (.lload 8, 2) := by decide +kernel
theorem dX8_pixelAt_177 : decode cX8_pixelAt 177 = .ok (.lstore 13, 2) := by decide +kernel
theorem dX8_pixelAt_179 : decode cX8_pixelAt 179 = .ok (.iload_n 1, 1) := by decide +kernel
theorem dX8_pixelAt_180 : decode cX8_pixelAt 180 = .ok (.ifCond .lt 11, 3) := by decide +kernel
theorem dX8_pixelAt_183 : decode cX8_pixelAt 183 = .ok (.iload_n 0, 1) := by decide +kernel
theorem dX8_pixelAt_184 : decode cX8_pixelAt 184 = .ok (.i2l, 1) := by decide +kernel
theorem dX8_pixelAt_185 : decode cX8_pixelAt 185 = .ok (.lload 13, 2) := by decide +kernel
theorem dX8_pixelAt_187 : decode cX8_pixelAt 187 = .ok (.ladd, 1) := by decide +kernel
theorem dX8_pixelAt_188 : decode cX8_pixelAt 188 = .ok (.goto 8, 3) := by decide +kernel
theorem dX8_pixelAt_191 : decode cX8_pixelAt 191 = .ok (.iload_n 0, 1) := by decide +kernel
theorem dX8_pixelAt_192 : decode cX8_pixelAt 192 = .ok (.i2l, 1) := by decide +kernel
theorem dX8_pixelAt_193 : decode cX8_pixelAt 193 = .ok (.lload 13, 2) := by decide +kernel
theorem dX8_pixelAt_195 : decode cX8_pixelAt 195 = .ok (.lsub, 1) := by decide +kernel
theorem dX8_pixelAt_196 : decode cX8_pixelAt 196 = .ok (.l2i, 1) := by decide +kernel
theorem dX8_pixelAt_197 : decode cX8_pixelAt 197 = .ok (.ireturn, 1) := by decide +kernel
abbrev M_X8_pixelAt : MRec := (yX8_pixelAt, cX8_pixelAt, 15, (some Jvm.ClassFile.FieldType.int), [])
theorem m_X8_pixelAt : en_M M_X8_pixelAt 4 := ⟨t_1445, t_9, ⟨by decide +kernel, by decide +kernel⟩, by decide +kernel, by decide +kernel, by decide +kernel⟩
theorem dX8_addCrossing_0 : decode cX8_addCrossing 0 = .ok (.aload_n 0, 1) := by decide +kernel
theorem dX8_addCrossing_1 : decode cX8_addCrossing 1 = .ok (.getfield 14, 3) := by decide +kernel
theorem dX8_addCrossing_4 : decode cX8_addCrossing 4 = .ok (.getfield 134, 3) := by decide +kernel
theorem dX8_addCrossing_7 : decode cX8_addCrossing 7 = .ok (.iload_n 1, 1) := by decide +kernel
theorem dX8_addCrossing_8 : decode cX8_addCrossing 8 = .ok (.iaload, 1) := by decide +kernel
theorem dX8_addCrossing_9 : decode cX8_addCrossing 9 = .ok (.aload_n 0, 1) := by decide +kernel
theorem dX8_addCrossing_10 : decode cX8_addCrossing 10 = .ok (.getfield 14, 3) := by decide +kernel
theorem dX8_addCrossing_13 : decode cX8_addCrossing 13 = .ok (.getfield 137, 3) := by decide +kernel
theorem dX8_addCrossing_16 : decode cX8_addCrossing 16 = .ok (.iload_n 1, 1) := by decide +kernel
theorem dX8_addCrossing_17 : decode cX8_addCrossing 17 = .ok (.iaload, 1) := by decide +kernel
theorem dX8_addCrossing_18 : decode cX8_addCrossing 18 = .ok (.isub, 1) := by decide +kernel
theorem dX8_addCrossing_19 : decode cX8_addCrossing 19 = .ok (.istore_n 3, 1) := by decide +kernel
theorem dX8_addCrossing_20 : decode cX8_addCrossing 20 = .ok (.aload_n 0, 1) := by decide +kernel
theorem dX8_addCrossing_21 : decode cX8_addCrossing 21 = .ok (.getfield 14, 3) := by decide +kernel
theorem dX8_addCrossing_24 : decode cX8_addCrossing 24 = .ok (.getfield 140, 3) := by decide +kernel
theorem dX8_addCrossing_27 : decode cX8_addCrossing 27 = .ok (.iload_n 1, 1) := by decide +kernel
theorem dX8_addCrossing_28 : decode cX8_addCrossing 28 = .ok (.iaload, 1) := by decide +kernel
theorem dX8_addCrossing_29 : decode cX8_addCrossing 29 = .ok (.aload_n 0, 1) := by decide +kernel
theorem dX8_addCrossing_30 : decode cX8_addCrossing 30 = .ok (.getfield 14, 3) := by decide +kernel
theorem dX8_addCrossing_33 : decode cX8_addCrossing 33 = .ok (.getfield 143, 3) := by decide +kernel
theorem dX8_addCrossing_36 : decode cX8_addCrossing 36 = .ok (.iload_n 1, 1) := by decide +kernel
theorem dX8_addCrossing_37 : decode cX8_addCrossing 37 = .ok (.iaload, 1) := by decide +kernel
theorem dX8_addCrossing_38 : decode cX8_addCrossing 38 = .ok (.isub, 1) := by decide +kernel
theorem dX8_addCrossing_39 : decode cX8_addCrossing 39 = .ok (.istore 4, 2) := by decide +kernel
theorem dX8_addCrossing_41 : decode cX8_addCrossing 41 = .ok (.aload_n 0, 1) := by decide +kernel
theorem dX8_addCrossing_42 : decode cX8_addCrossing 42 = .ok (.getfield 14, 3) := by decide +kernel
theorem dX8_addCrossing_45 : decode cX8_addCrossing 45 = .ok (.getfield 134, 3) := by decide +kernel
theorem dX8_addCrossing_48 : decode cX8_addCrossing 48 = .ok (.iload_n 2, 1) := by decide +kernel
theorem dX8_addCrossing_49 : decode cX8_addCrossing 49 = .ok (.iaload, 1) := by decide +kernel
theorem dX8_addCrossing_50 : decode cX8_addCrossing 50 = .ok (.i2l, 1) := by decide +kernel
theorem dX8_addCrossing_51 : decode cX8_addCrossing 51 = .ok (.aload_n 0, 1) := by decide +kernel
theorem dX8_addCrossing_52 : decode cX8_addCrossing 52 = .ok (.getfield 14, 3) := by decide +kernel
theorem dX8_addCrossing_55 : decode cX8_addCrossing 55 = .ok (.getfield 137, 3) := by decide +kernel
theorem dX8_addCrossing_58 : decode cX8_addCrossing 58 = .ok (.iload_n 2, 1) := by decide +kernel
theorem dX8_addCrossing_59 : decode cX8_addCrossing 59 = .ok (.iaload, 1) := by decide +kernel
theorem dX8_addCrossing_60 : decode cX8_addCrossing 60 = .ok (.i2l, 1) := by decide +kernel
theorem dX8_addCrossing_61 : decode cX8_addCrossing 61 = .ok (.lsub, 1) := by decide +kernel
theorem dX8_addCrossing_62 : decode cX8_addCrossing 62 = .ok (.lstore 5, 2) := by decide +kernel
theorem dX8_addCrossing_64 : decode cX8_addCrossing 64 = .ok (.aload_n 0, 1) := by decide +kernel
theorem dX8_addCrossing_65 : decode cX8_addCrossing 65 = .ok (.getfield 14, 3) := by decide +kernel
theorem dX8_addCrossing_68 : decode cX8_addCrossing 68 = .ok (.getfield 140, 3) := by decide +kernel
theorem dX8_addCrossing_71 : decode cX8_addCrossing 71 = .ok (.iload_n 2, 1) := by decide +kernel
theorem dX8_addCrossing_72 : decode cX8_addCrossing 72 = .ok (.iaload, 1) := by decide +kernel
theorem dX8_addCrossing_73 : decode cX8_addCrossing 73 = .ok (.i2l, 1) := by decide +kernel
theorem dX8_addCrossing_74 : decode cX8_addCrossing 74 = .ok (.aload_n 0, 1) := by decide +kernel
theorem dX8_addCrossing_75 : decode cX8_addCrossing 75 = .ok (.getfield 14, 3) := by decide +kernel
theorem dX8_addCrossing_78 : decode cX8_addCrossing 78 = .ok (.getfield 143, 3) := by decide +kernel
theorem dX8_addCrossing_81 : decode cX8_addCrossing 81 = .ok (.iload_n 2, 1) := by decide +kernel
theorem dX8_addCrossing_82 : decode cX8_addCrossing 82 = .ok (.iaload, 1) := by decide +kernel
theorem dX8_addCrossing_83 : decode cX8_addCrossing 83 = .ok (.i2l, 1) := by decide +kernel
theorem dX8_addCrossing_84 : decode cX8_addCrossing 84 = .ok (.lsub, 1) := by decide +kernel
theorem dX8_addCrossing_85 : decode cX8_addCrossing 85 = .ok (.lstore 7, 2) := by decide +kernel
theorem dX8_addCrossing_87 : decode cX8_addCrossing 87 = .ok (.aload_n 0, 1) := by decide +kernel
theorem dX8_addCrossing_88 : decode cX8_addCrossing 88 = .ok (.getfield 14, 3) := by decide +kernel
theorem dX8_addCrossing_91 : decode cX8_addCrossing 91 = .ok (.getfield 137, 3) := by decide +kernel
theorem dX8_addCrossing_94 : decode cX8_addCrossing 94 = .ok (.iload_n 2, 1) := by decide +kernel
theorem dX8_addCrossing_95 : decode cX8_addCrossing 95 = .ok (.iaload, 1) := by decide +kernel
theorem dX8_addCrossing_96 : decode cX8_addCrossing 96 = .ok (.i2l, 1) := by decide +kernel
theorem dX8_addCrossing_97 : decode cX8_addCrossing 97 = .ok (.aload_n 0, 1) := by decide +kernel
theorem dX8_addCrossing_98 : decode cX8_addCrossing 98 = .ok (.getfield 14, 3) := by decide +kernel
theorem dX8_addCrossing_101 : decode cX8_addCrossing 101 = .ok (.getfield 137, 3) := by decide +kernel
theorem dX8_addCrossing_104 : decode cX8_addCrossing 104 = .ok (.iload_n 1, 1) := by decide +kernel
theorem dX8_addCrossing_105 : decode cX8_addCrossing 105 = .ok (.iaload, 1) := by decide +kernel
theorem dX8_addCrossing_106 : decode cX8_addCrossing 106 = .ok (.i2l, 1) := by decide +kernel
theorem dX8_addCrossing_107 : decode cX8_addCrossing 107 = .ok (.lsub, 1) := by decide +kernel
theorem dX8_addCrossing_108 : decode cX8_addCrossing 108 = .ok (.lstore 9, 2) := by decide +kernel
theorem dX8_addCrossing_110 : decode cX8_addCrossing 110 = .ok (.aload_n 0, 1) := by decide +kernel
theorem dX8_addCrossing_111 : decode cX8_addCrossing 111 = .ok (.getfield 14, 3) := by decide +kernel
theorem dX8_addCrossing_114 : decode cX8_addCrossing 114 = .ok (.getfield 143, 3) := by decide +kernel
theorem dX8_addCrossing_117 : decode cX8_addCrossing 117 = .ok (.iload_n 2, 1) := by decide +kernel
theorem dX8_addCrossing_118 : decode cX8_addCrossing 118 = .ok (.iaload, 1) := by decide +kernel
theorem dX8_addCrossing_119 : decode cX8_addCrossing 119 = .ok (.i2l, 1) := by decide +kernel
theorem dX8_addCrossing_120 : decode cX8_addCrossing 120 = .ok (.aload_n 0, 1) := by decide +kernel
theorem dX8_addCrossing_121 : decode cX8_addCrossing 121 = .ok (.getfield 14, 3) := by decide +kernel
theorem dX8_addCrossing_124 : decode cX8_addCrossing 124 = .ok (.getfield 143, 3) := by decide +kernel
theorem dX8_addCrossing_127 : decode cX8_addCrossing 127 = .ok (.iload_n 1, 1) := by decide +kernel
theorem dX8_addCrossing_128 : decode cX8_addCrossing 128 = .ok (.iaload, 1) := by decide +kernel
theorem dX8_addCrossing_129 : decode cX8_addCrossing 129 = .ok (.i2l, 1) := by decide +kernel
theorem dX8_addCrossing_130 : decode cX8_addCrossing 130 = .ok (.lsub, 1) := by decide +kernel
theorem dX8_addCrossing_131 : decode cX8_addCrossing 131 = .ok (.lstore 11, 2) := by decide +kernel
theorem dX8_addCrossing_133 : decode cX8_addCrossing 133 = .ok (.iload_n 3, 1) := by decide +kernel
theorem dX8_addCrossing_134 : decode cX8_addCrossing 134 = .ok (.i2l, 1) := by decide +kernel
theorem dX8_addCrossing_135 : decode cX8_addCrossing 135 = .ok (.lload 7, 2) := by decide +kernel
theorem dX8_addCrossing_137 : decode cX8_addCrossing 137 = .ok (.lmul, 1) := by decide +kernel
theorem dX8_addCrossing_138 : decode cX8_addCrossing 138 = .ok (.iload 4, 2) := by decide +kernel
theorem dX8_addCrossing_140 : decode cX8_addCrossing 140 = .ok (.i2l, 1) := by decide +kernel
theorem dX8_addCrossing_141 : decode cX8_addCrossing 141 = .ok (.lload 5, 2) := by decide +kernel
theorem dX8_addCrossing_143 : decode cX8_addCrossing 143 = .ok (.lmul, 1) := by decide +kernel
theorem dX8_addCrossing_144 : decode cX8_addCrossing 144 = .ok (.lsub, 1) := by decide +kernel
theorem dX8_addCrossing_145 : decode cX8_addCrossing 145 = .ok (.invokestatic 146, 3) := by decide +kernel
theorem dX8_addCrossing_148 : decode cX8_addCrossing 148 = .ok (.lstore 13, 2) := by decide +kernel
theorem dX8_addCrossing_150 : decode cX8_addCrossing 150 = .ok (.lload 9, 2) := by decide +kernel
theorem dX8_addCrossing_152 : decode cX8_addCrossing 152 = .ok (.lload 7, 2) := by decide +kernel
theorem dX8_addCrossing_154 : decode cX8_addCrossing 154 = .ok (.lmul, 1) := by decide +kernel
theorem dX8_addCrossing_155 : decode cX8_addCrossing 155 = .ok (.lload 11, 2) := by decide +kernel
theorem dX8_addCrossing_157 : decode cX8_addCrossing 157 = .ok (.lload 5, 2) := by decide +kernel
theorem dX8_addCrossing_159 : decode cX8_addCrossing 159 = .ok (.lmul, 1) := by decide +kernel
theorem dX8_addCrossing_160 : decode cX8_addCrossing 160 = .ok (.lsub, 1) := by decide +kernel
theorem dX8_addCrossing_161 : decode cX8_addCrossing 161 = .ok (.invokestatic 146, 3) := by decide +kernel
theorem dX8_addCrossing_164 : decode cX8_addCrossing 164 = .ok (.lstore 15, 2) := by decide +kernel
theorem dX8_addCrossing_166 : decode cX8_addCrossing 166 = .ok (.aload_n 0, 1) := by decide +kernel
theorem dX8_addCrossing_167 : decode cX8_addCrossing 167 = .ok (.aload_n 0, 1) := by decide +kernel
theorem dX8_addCrossing_168 : decode cX8_addCrossing 168 = .ok (.getfield 14, 3) := by decide +kernel
theorem dX8_addCrossing_171 : decode cX8_addCrossing 171 = .ok (.getfield 137, 3) := by decide +kernel
theorem dX8_addCrossing_174 : decode cX8_addCrossing 174 = .ok (.iload_n 1, 1) := by decide +kernel
theorem dX8_addCrossing_175 : decode cX8_addCrossing 175 = .ok (.iaload, 1) := by decide +kernel
theorem dX8_addCrossing_176 : decode cX8_addCrossing 176 = .ok (.iload_n 3, 1) := by decide +kernel
theorem dX8_addCrossing_177 : decode cX8_addCrossing 177 = .ok (.lload 15, 2) := by decide +kernel
theorem dX8_addCrossing_179 : decode cX8_addCrossing 179 = .ok (.lload 13, 2) := by decide +kernel
theorem dX8_addCrossing_181 : decode cX8_addCrossing 181 = .ok (.invokestatic 152, 3) := by decide +kernel
theorem dX8_addCrossing_184 : decode cX8_addCrossing 184 = .ok (.aload_n 0, 1) := by decide +kernel
theorem dX8_addCrossing_185 : decode cX8_addCrossing 185 = .ok (.getfield 14, 3) := by decide +kernel
theorem dX8_addCrossing_188 : decode cX8_addCrossing 188 = .ok (.getfield 143, 3) := by decide +kernel
theorem dX8_addCrossing_191 : decode cX8_addCrossing 191 = .ok (.iload_n 1, 1) := by decide +kernel
theorem dX8_addCrossing_192 : decode cX8_addCrossing 192 = .ok (.iaload, 1) := by decide +kernel
theorem dX8_addCrossing_193 : decode cX8_addCrossing 193 = .ok (.iload 4, 2) := by decide +kernel
theorem dX8_addCrossing_195 : decode cX8_addCrossing 195 = .ok (.lload 15, 2) := by decide +kernel
theorem dX8_addCrossing_197 : decode cX8_addCrossing 197 = .ok (.lload 13, 2) := by decide +kernel
theorem dX8_addCrossing_199 : decode cX8_addCrossing 199 = .ok (.invokestatic 152, 3) := by decide +kernel
theorem dX8_addCrossing_202 : decode cX8_addCrossing 202 = .ok (.invokevirtual 102, 3) := by decide +kernel
theorem dX8_addCrossing_205 : decode cX8_addCrossing 205 = .ok (.ireturn, 1) := by decide +kernel
abbrev M_X8_addCrossing : MRec := (yX8_addCrossing, cX8_addCrossing, 17, (some Jvm.ClassFile.FieldType.boolean), [])
theorem m_X8_addCrossing : en_M M_X8_addCrossing 2 := ⟨t_1441, t_9, ⟨by decide +kernel, by decide +kernel⟩, by decide +kernel, by decide +kernel, by decide +kernel⟩
theorem dX8_addCrossings_0 : decode cX8_addCrossings 0 = .ok (.iconst 0, 1) := by decide +kernel
theorem dX8_addCrossings_1 : decode cX8_addCrossings 1 = .ok (.istore_n 1, 1) := by decide +kernel
theorem dX8_addCrossings_2 : decode cX8_addCrossings 2 = .ok (.iload_n 1, 1) := by decide +kernel
theorem dX8_addCrossings_3 : decode cX8_addCrossings 3 = .ok (.aload_n 0, 1) := by decide +kernel
theorem dX8_addCrossings_4 : decode cX8_addCrossings 4 = .ok (.getfield 14, 3) := by decide +kernel
theorem dX8_addCrossings_7 : decode cX8_addCrossings 7 = .ok (.getfield 44, 3) := by decide +kernel
theorem dX8_addCrossings_10 : decode cX8_addCrossings 10 = .ok (.if_icmp .ge 30, 3) := by decide +kernel
theorem dX8_addCrossings_13 : decode cX8_addCrossings 13 = .ok (.aload_n 0, 1) := by decide +kernel
theorem dX8_addCrossings_14 : decode cX8_addCrossings 14 = .ok (.getfield 22, 3) := by decide +kernel
theorem dX8_addCrossings_17 : decode cX8_addCrossings 17 = .ok (.iload_n 1, 1) := by decide +kernel
theorem dX8_addCrossings_18 : decode cX8_addCrossings 18 = .ok (.aload_n 0, 1) := by decide +kernel
theorem dX8_addCrossings_19 : decode cX8_addCrossings 19 = .ok (.getfield 14, 3) := by decide +kernel
theorem dX8_addCrossings_22 : decode cX8_addCrossings 22 = .ok (.iload_n 1, 1) := by decide +kernel
theorem dX8_addCrossings_23 : decode cX8_addCrossings 23 = .ok (.invokevirtual 122, 3) := by decide +kernel
theorem dX8_addCrossings_26 : decode cX8_addCrossings 26 = .ok (.i2l, 1) := by decide +kernel
theorem dX8_addCrossings_27 : decode cX8_addCrossings 27 = .ok (.bipush 32, 2) := by decide +kernel
theorem dX8_addCrossings_29 : decode cX8_addCrossings 29 = .ok (.lshl, 1) := by decide +kernel
theorem dX8_addCrossings_30 : decode cX8_addCrossings 30 = .ok (.iload_n 1, 1) := by decide +kernel
theorem dX8_addCrossings_31 : decode cX8_addCrossings 31 = .ok (.i2l, 1) := by decide +kernel
theorem dX8_addCrossings_32 : decode cX8_addCrossings 32 = .ok (.lor, 1) := by decide +kernel
theorem dX8_addCrossings_33 : decode cX8_addCrossings 33 = .ok (.lastore, 1) := by decide +kernel
theorem dX8_addCrossings_34 : decode cX8_addCrossings 34 = .ok (.iinc 1 1, 3) := by decide +kernel
theorem dX8_addCrossings_37 : decode cX8_addCrossings 37 = .ok (.goto (-35), 3) := by decide +kernel
theorem dX8_addCrossings_40 : decode cX8_addCrossings 40 = .ok (.aload_n 0, 1) := by decide +kernel
theorem dX8_addCrossings_41 : decode cX8_addCrossings 41 = .ok (.getfield 22, 3) := by decide +kernel
theorem dX8_addCrossings_44 : decode cX8_addCrossings 44 = .ok (.aload_n 0, 1) := by decide +kernel
theorem dX8_addCrossings_45 : decode cX8_addCrossings 45 = .ok (.getfield 14, 3) := by decide +kernel
theorem dX8_addCrossings_48 : decode cX8_addCrossings 48 = .ok (.getfield 44, 3) := by decide +kernel
theorem dX8_addCrossings_51 : decode cX8_addCrossings 51 = .ok (.invokestatic 114, 3) := by decide +kernel
theorem dX8_addCrossings_54 : decode cX8_addCrossings 54 = .ok (.iconst 0, 1) := by decide +kernel
theorem dX8_addCrossings_55 : decode cX8_addCrossings 55 = .ok (.istore_n 1, 1) := by decide +kernel
theorem dX8_addCrossings_56 : decode cX8_addCrossings 56 = .ok (.iload_n 1, 1) := by decide +kernel
theorem dX8_addCrossings_57 : decode cX8_addCrossings 57 = .ok (.aload_n 0, 1) := by decide +kernel
theorem dX8_addCrossings_58 : decode cX8_addCrossings 58 = .ok (.getfield 14, 3) := by decide +kernel
theorem dX8_addCrossings_61 : decode cX8_addCrossings 61 = .ok (.getfield 44, 3) := by decide +kernel
theorem dX8_addCrossings_64 : decode cX8_addCrossings 64 = .ok (.if_icmp .ge 101, 3) := by decide +kernel
theorem dX8_addCrossings_67 : decode cX8_addCrossings 67 = .ok (.aload_n 0, 1) := by decide +kernel
theorem dX8_addCrossings_68 : decode cX8_addCrossings 68 = .ok (.getfield 22, 3) := by decide +kernel
theorem dX8_addCrossings_71 : decode cX8_addCrossings 71 = .ok (.iload_n 1, 1) := by decide +kernel
theorem dX8_addCrossings_72 : decode cX8_addCrossings 72 = .ok (.laload, 1) := by decide +kernel
theorem dX8_addCrossings_73 : decode cX8_addCrossings 73 = .ok (.l2i, 1) := by decide +kernel
theorem dX8_addCrossings_74 : decode cX8_addCrossings 74 = .ok (.istore_n 2, 1) := by decide +kernel
theorem dX8_addCrossings_75 : decode cX8_addCrossings 75 = .ok (.aload_n 0, 1) := by decide +kernel
theorem dX8_addCrossings_76 : decode cX8_addCrossings 76 = .ok (.getfield 14, 3) := by decide +kernel
theorem dX8_addCrossings_79 : decode cX8_addCrossings 79 = .ok (.iload_n 2, 1) := by decide +kernel
theorem dX8_addCrossings_80 : decode cX8_addCrossings 80 = .ok (.invokevirtual 125, 3) := by decide +kernel
theorem dX8_addCrossings_83 : decode cX8_addCrossings 83 = .ok (.istore_n 3, 1) := by decide +kernel
theorem dX8_addCrossings_84 : decode cX8_addCrossings 84 = .ok (.iload_n 1, 1) := by decide +kernel
theorem dX8_addCrossings_85 : decode cX8_addCrossings 85 = .ok (.iconst 1, 1) := by decide +kernel
theorem dX8_addCrossings_86 : decode cX8_addCrossings 86 = .ok (.iadd, 1) := by decide +kernel
theorem dX8_addCrossings_87 : decode cX8_addCrossings 87 = .ok (.istore 4, 2) := by decide +kernel
theorem dX8_addCrossings_89 : decode cX8_addCrossings 89 = .ok (.iload 4, 2) := by decide +kernel
theorem dX8_addCrossings_91 : decode cX8_addCrossings 91 = .ok (.aload_n 0, 1) := by decide +kernel
theorem dX8_addCrossings_92 : decode cX8_addCrossings 92 = .ok (.getfield 14, 3) := by decide +kernel
theorem dX8_addCrossings_95 : decode cX8_addCrossings 95 = .ok (.getfield 44, 3) := by decide +kernel
theorem dX8_addCrossings_98 : decode cX8_addCrossings 98 = .ok (.if_icmp .ge 61, 3) := by decide +kernel
theorem dX8_addCrossings_101 : decode cX8_addCrossings 101 = .ok (.aload_n 0, 1) := by decide +kernel
theorem dX8_addCrossings_102 : decode cX8_addCrossings 102 = .ok (.getfield 22, 3) := by decide +kernel
theorem dX8_addCrossings_105 : decode cX8_addCrossings 105 = .ok (.iload 4, 2) := by decide +kernel
theorem dX8_addCrossings_107 : decode cX8_addCrossings 107 = .ok (.laload, 1) := by decide +kernel
theorem dX8_addCrossings_108 : decode cX8_addCrossings 108 = .ok (.bipush 32, 2) := by decide +kernel
theorem dX8_addCrossings_110 : decode cX8_addCrossings 110 = .ok (.lshr, 1) := by decide +kernel
theorem dX8_addCrossings_111 : decode cX8_addCrossings 111 = .ok (.iload_n 3, 1) := by decide +kernel
theorem dX8_addCrossings_112 : decode cX8_addCrossings 112 = .ok (.i2l, 1) := by decide +kernel
theorem dX8_addCrossings_113 : decode cX8_addCrossings 113 = .ok (.lcmp, 1) := by decide +kernel
theorem dX8_addCrossings_114 : decode cX8_addCrossings 114 = .ok (.ifCond .gt 45, 3) := by decide +kernel
theorem dX8_addCrossings_117 : decode cX8_addCrossings 117 = .ok (.aload_n 0, 1) := by decide +kernel
theorem dX8_addCrossings_118 : decode cX8_addCrossings 118 = .ok (.getfield 22, 3) := by decide +kernel
theorem dX8_addCrossings_121 : decode cX8_addCrossings 121 = .ok (.iload 4, 2) := by decide +kernel
theorem dX8_addCrossings_123 : decode cX8_addCrossings 123 = .ok (.laload, 1) := by decide +kernel
theorem dX8_addCrossings_124 : decode cX8_addCrossings 124 = .ok (.l2i, 1) := by decide +kernel
theorem dX8_addCrossings_125 : decode cX8_addCrossings 125 = .ok (.istore 5, 2) := by decide +kernel
theorem dX8_addCrossings_127 : decode cX8_addCrossings 127 = .ok (.aload_n 0, 1) := by decide +kernel
theorem dX8_addCrossings_128 : decode cX8_addCrossings 128 = .ok (.getfield 14, 3) := by decide +kernel
theorem dX8_addCrossings_131 : decode cX8_addCrossings 131 = .ok (.iload_n 2, 1) := by decide +kernel
theorem dX8_addCrossings_132 : decode cX8_addCrossings 132 = .ok (.iload 5, 2) := by decide +kernel
theorem dX8_addCrossings_134 : decode cX8_addCrossings 134 = .ok (.invokevirtual 128, 3) := by decide +kernel
theorem dX8_addCrossings_137 : decode cX8_addCrossings 137 = .ok (.iconst 1, 1) := by decide +kernel
theorem dX8_addCrossings_138 : decode cX8_addCrossings 138 = .ok (.if_icmp .ne 15, 3) := by decide +kernel
theorem dX8_addCrossings_141 : decode cX8_addCrossings 141 = .ok (.aload_n 0, 1) := by decide +kernel
theorem dX8_addCrossings_142 : decode cX8_addCrossings 142 = .ok (.iload_n 2, 1) := by decide +kernel
theorem dX8_addCrossings_143 : decode cX8_addCrossings 143 = .ok (.iload 5, 2) := by decide +kernel
theorem dX8_addCrossings_145 : decode cX8_addCrossings 145 = .ok (.invokevirtual 131, 3) := by decide +kernel
theorem dX8_addCrossings_148 : decode cX8_addCrossings 148 = .ok (.ifCond .ne 5, 3) := by decide +kernel
theorem dX8_addCrossings_151 : decode cX8_addCrossings 151 = .ok (.iconst 0, 1) := by decide +kernel
theorem dX8_addCrossings_152 : decode cX8_addCrossings 152 = .ok (.ireturn, 1) := by decide +kernel
theorem dX8_addCrossings_153 : decode cX8_addCrossings 153 = .ok (.iinc 4 1, 3) := by decide +kernel
theorem dX8_addCrossings_156 : decode cX8_addCrossings 156 = .ok (.goto (-67), 3) := by decide +kernel
theorem dX8_addCrossings_159 : decode cX8_addCrossings 159 = .ok (.iinc 1 1, 3) := by decide +kernel
theorem dX8_addCrossings_162 : decode cX8_addCrossings 162 = .ok (.goto (-106), 3) := by decide +kernel
theorem dX8_addCrossings_165 : decode cX8_addCrossings 165 = .ok (.iconst 1, 1) := by decide +kernel
theorem dX8_addCrossings_166 : decode cX8_addCrossings 166 = .ok (.ireturn, 1) := by decide +kernel
abbrev M_X8_addCrossings : MRec := (yX8_addCrossings, cX8_addCrossings, 6, (some Jvm.ClassFile.FieldType.boolean), [])
theorem m_X8_addCrossings : en_M M_X8_addCrossings 0 := ⟨t_1434, t_9, ⟨by decide +kernel, by decide +kernel⟩, by decide +kernel, by decide +kernel, by decide +kernel⟩
theorem dX8_addSegment_0 : decode cX8_addSegment 0 = .ok (.aload_n 0, 1) := by decide +kernel
theorem dX8_addSegment_1 : decode cX8_addSegment 1 = .ok (.getfield 14, 3) := by decide +kernel
theorem dX8_addSegment_4 : decode cX8_addSegment 4 = .ok (.getfield 44, 3) := by decide +kernel
theorem dX8_addSegment_7 : decode cX8_addSegment 7 = .ok (.aload_n 0, 1) := by decide +kernel
theorem dX8_addSegment_8 : decode cX8_addSegment 8 = .ok (.getfield 48, 3) := by decide +kernel
theorem dX8_addSegment_11 : decode cX8_addSegment 11 = .ok (.iadd, 1) := by decide +kernel
theorem dX8_addSegment_12 : decode cX8_addSegment 12 = .ok (.sipush 2048, 3) := by decide +kernel
theorem dX8_addSegment_15 : decode cX8_addSegment 15 = .ok (.if_icmp .lt 5, 3) := by decide +kernel
theorem dX8_addSegment_18 : decode cX8_addSegment 18 = .ok (.iconst 0, 1) := by decide +kernel
theorem dX8_addSegment_19 : decode cX8_addSegment 19 = .ok (.ireturn, 1) := by decide +kernel
theorem dX8_addSegment_20 : decode cX8_addSegment 20 = .ok (.aload_n 1, 1) := by decide +kernel
theorem dX8_addSegment_21 : decode cX8_addSegment 21 = .ok (.iload_n 2, 1) := by decide +kernel
theorem dX8_addSegment_22 : decode cX8_addSegment 22 = .ok (.iload_n 2, 1) := by decide +kernel
theorem dX8_addSegment_23 : decode cX8_addSegment 23 = .ok (.iconst 1, 1) := by decide +kernel
theorem dX8_addSegment_24 : decode cX8_addSegment 24 = .ok (.iadd, 1) := by decide +kernel
theorem dX8_addSegment_25 : decode cX8_addSegment 25 = .ok (.invokevirtual 88, 3) := by decide +kernel
theorem dX8_addSegment_28 : decode cX8_addSegment 28 = .ok (.ifCond .eq 16, 3) := by decide +kernel
theorem dX8_addSegment_31 : decode cX8_addSegment 31 = .ok (.aload_n 0, 1) := by decide +kernel
theorem dX8_addSegment_32 : decode cX8_addSegment 32 = .ok (.dup, 1) := by decide +kernel
theorem dX8_addSegment_33 : decode cX8_addSegment 33 = .ok (.getfield 48, 3) := by decide +kernel
theorem dX8_addSegment_36 : decode cX8_addSegment 36 = .ok (.iconst 1, 1) := by decide +kernel
theorem dX8_addSegment_37 : decode cX8_addSegment 37 = .ok (.iadd, 1) := by decide +kernel
theorem dX8_addSegment_38 : decode cX8_addSegment 38 = .ok (.putfield 48, 3) := by decide +kernel
theorem dX8_addSegment_41 : decode cX8_addSegment 41 = .ok (.goto 17, 3) := by decide +kernel
theorem dX8_addSegment_44 : decode cX8_addSegment 44 = .ok (.aload_n 0, 1) := by decide +kernel
theorem dX8_addSegment_45 : decode cX8_addSegment 45 = .ok (.getfield 14, 3) := by decide +kernel
theorem dX8_addSegment_48 : decode cX8_addSegment 48 = .ok (.aload_n 1, 1) := by decide +kernel
theorem dX8_addSegment_49 : decode cX8_addSegment 49 = .ok (.iload_n 2, 1) := by decide +kernel
theorem dX8_addSegment_50 : decode cX8_addSegment 50 = .ok (.iload_n 2, 1) := by decide +kernel
theorem dX8_addSegment_51 : decode cX8_addSegment 51 = .ok (.iconst 1, 1) := by decide +kernel
theorem dX8_addSegment_52 : decode cX8_addSegment 52 = .ok (.iadd, 1) := by decide +kernel
theorem dX8_addSegment_53 : decode cX8_addSegment 53 = .ok (.iload_n 3, 1) := by decide +kernel
theorem dX8_addSegment_54 : decode cX8_addSegment 54 = .ok (.invokevirtual 92, 3) := by decide +kernel
theorem dX8_addSegment_57 : decode cX8_addSegment 57 = .ok (.pop, 1) := by decide +kernel
theorem dX8_addSegment_58 : decode cX8_addSegment 58 = .ok (.aload_n 0, 1) := by decide +kernel
theorem dX8_addSegment_59 : decode cX8_addSegment 59 = .ok (.aload_n 1, 1) := by decide +kernel
theorem dX8_addSegment_60 : decode cX8_addSegment 60 = .ok (.getfield 96, 3) := by decide +kernel
theorem dX8_addSegment_63 : decode cX8_addSegment 63 = .ok (.iload_n 2, 1) := by decide +kernel
theorem dX8_addSegment_64 : decode cX8_addSegment 64 = .ok (.iaload, 1) := by decide +kernel
theorem dX8_addSegment_65 : decode cX8_addSegment 65 = .ok (.aload_n 1, 1) := by decide +kernel
theorem dX8_addSegment_66 : decode cX8_addSegment 66 = .ok (.getfield 99, 3) := by decide +kernel
theorem dX8_addSegment_69 : decode cX8_addSegment 69 = .ok (.iload_n 2, 1) := by decide +kernel
theorem dX8_addSegment_70 : decode cX8_addSegment 70 = .ok (.iaload, 1) := by decide +kernel
theorem dX8_addSegment_71 : decode cX8_addSegment 71 = .ok (.invokevirtual 102, 3) := by decide +kernel
theorem dX8_addSegment_74 : decode cX8_addSegment 74 = .ok (.ifCond .eq 30, 3) := by decide +kernel
theorem dX8_addSegment_77 : decode cX8_addSegment 77 = .ok (.aload_n 0, 1) := by decide +kernel
theorem dX8_addSegment_78 : decode cX8_addSegment 78 = .ok (.aload_n 1, 1) := by decide +kernel
theorem dX8_addSegment_79 : decode cX8_addSegment 79 = .ok (.getfield 96, 3) := by decide +kernel
theorem dX8_addSegment_82 : decode cX8_addSegment 82 = .ok (.iload_n 2, 1) := by decide +kernel
theorem dX8_addSegment_83 : decode cX8_addSegment 83 = .ok (.iconst 1, 1) := by decide +kernel
theorem dX8_addSegment_84 : decode cX8_addSegment 84 = .ok (.iadd, 1) := by decide +kernel
theorem dX8_addSegment_85 : decode cX8_addSegment 85 = .ok (.iaload, 1) := by decide +kernel
theorem dX8_addSegment_86 : decode cX8_addSegment 86 = .ok (.aload_n 1, 1) := by decide +kernel
theorem dX8_addSegment_87 : decode cX8_addSegment 87 = .ok (.getfield 99, 3) := by decide +kernel
theorem dX8_addSegment_90 : decode cX8_addSegment 90 = .ok (.iload_n 2, 1) := by decide +kernel
theorem dX8_addSegment_91 : decode cX8_addSegment 91 = .ok (.iconst 1, 1) := by decide +kernel
theorem dX8_addSegment_92 : decode cX8_addSegment 92 = .ok (.iadd, 1) := by decide +kernel
theorem dX8_addSegment_93 : decode cX8_addSegment 93 = .ok (.iaload, 1) := by decide +kernel
theorem dX8_addSegment_94 : decode cX8_addSegment 94 = .ok (.invokevirtual 102, 3) := by decide +kernel
theorem dX8_addSegment_97 : decode cX8_addSegment 97 = .ok (.ifCond .eq 7, 3) := by decide +kernel
theorem dX8_addSegment_100 : decode cX8_addSegment 100 = .ok (.iconst 1, 1) := by decide +kernel
theorem dX8_addSegment_101 : decode cX8_addSegment 101 = .ok (.goto 4, 3) := by decide +kernel
theorem dX8_addSegment_104 : decode cX8_addSegment 104 = .ok (.iconst 0, 1) := by decide +kernel
theorem dX8_addSegment_105 : decode cX8_addSegment 105 = .ok (.ireturn, 1) := by decide +kernel
abbrev M_X8_addSegment : MRec := (yX8_addSegment, cX8_addSegment, 4, (some Jvm.ClassFile.FieldType.boolean), [])
theorem m_X8_addSegment : en_M M_X8_addSegment 3 := ⟨t_1405, t_9, ⟨by decide +kernel, by decide +kernel⟩, by decide +kernel, by decide +kernel, by decide +kernel⟩
theorem dX8_collect_0 : decode cX8_collect 0 = .ok (.iconst 0, 1) := by decide +kernel
theorem dX8_collect_1 : decode cX8_collect 1 = .ok (.istore_n 3, 1) := by decide +kernel
theorem dX8_collect_2 : decode cX8_collect 2 = .ok (.iconst 0, 1) := by decide +kernel
theorem dX8_collect_3 : decode cX8_collect 3 = .ok (.istore 4, 2) := by decide +kernel
theorem dX8_collect_5 : decode cX8_collect 5 = .ok (.iload 4, 2) := by decide +kernel
theorem dX8_collect_7 : decode cX8_collect 7 = .ok (.iconst 1, 1) := by decide +kernel
theorem dX8_collect_8 : decode cX8_collect 8 = .ok (.iadd, 1) := by decide +kernel
theorem dX8_collect_9 : decode cX8_collect 9 = .ok (.aload_n 1, 1) := by decide +kernel
theorem dX8_collect_10 : decode cX8_collect 10 = .ok (.getfield 68, 3) := by decide +kernel
theorem dX8_collect_13 : decode cX8_collect 13 = .ok (.if_icmp .ge 82, 3) := by decide +kernel
theorem dX8_collect_16 : decode cX8_collect 16 = .ok (.iconst 0, 1) := by decide +kernel
theorem dX8_collect_17 : decode cX8_collect 17 = .ok (.istore 5, 2) := by decide +kernel
theorem dX8_collect_19 : decode cX8_collect 19 = .ok (.iload 5, 2) := by decide +kernel
theorem dX8_collect_21 : decode cX8_collect 21 = .ok (.aload_n 1, 1) := by decide +kernel
theorem dX8_collect_22 : decode cX8_collect 22 = .ok (.iload 4, 2) := by decide +kernel
theorem dX8_collect_24 : decode cX8_collect 24 = .ok (.invokevirtual 73, 3) := by decide +kernel
theorem dX8_collect_27 : decode cX8_collect 27 = .ok (.if_icmp .ge 57, 3) := by decide +kernel
theorem dX8_collect_30 : decode cX8_collect 30 = .ok (.aload_n 1, 1) := by decide +kernel
theorem dX8_collect_31 : decode cX8_collect 31 = .ok (.iload 4, 2) := by decide +kernel
theorem dX8_collect_33 : decode cX8_collect 33 = .ok (.iload 5, 2) := by decide +kernel
theorem dX8_collect_35 : decode cX8_collect 35 = .ok (.invokevirtual 77, 3) := by decide +kernel
theorem dX8_collect_38 : decode cX8_collect 38 = .ok (.istore 6, 2) := by decide +kernel
theorem dX8_collect_40 : decode cX8_collect 40 = .ok (.iload_n 3, 1) := by decide +kernel
theorem dX8_collect_41 : decode cX8_collect 41 = .ok (.istore 7, 2) := by decide +kernel
theorem dX8_collect_43 : decode cX8_collect 43 = .ok (.iload 7, 2) := by decide +kernel
theorem dX8_collect_45 : decode cX8_collect 45 = .ok (.iconst 1, 1) := by decide +kernel
theorem dX8_collect_46 : decode cX8_collect 46 = .ok (.iadd, 1) := by decide +kernel
theorem dX8_collect_47 : decode cX8_collect 47 = .ok (.iload_n 3, 1) := by decide +kernel
theorem dX8_collect_48 : decode cX8_collect 48 = .ok (.iload 6, 2) := by decide +kernel
theorem dX8_collect_50 : decode cX8_collect 50 = .ok (.iadd, 1) := by decide +kernel
theorem dX8_collect_51 : decode cX8_collect 51 = .ok (.if_icmp .ge 22, 3) := by decide +kernel
theorem dX8_collect_54 : decode cX8_collect 54 = .ok (.aload_n 0, 1) := by decide +kernel
theorem dX8_collect_55 : decode cX8_collect 55 = .ok (.aload_n 1, 1) := by decide +kernel
theorem dX8_collect_56 : decode cX8_collect 56 = .ok (.iload 7, 2) := by decide +kernel
theorem dX8_collect_58 : decode cX8_collect 58 = .ok (.iload_n 2, 1) := by decide +kernel
theorem dX8_collect_59 : decode cX8_collect 59 = .ok (.invokevirtual 81, 3) := by decide +kernel
theorem dX8_collect_62 : decode cX8_collect 62 = .ok (.ifCond .ne 5, 3) := by decide +kernel
theorem dX8_collect_65 : decode cX8_collect 65 = .ok (.iconst 0, 1) := by decide +kernel
theorem dX8_collect_66 : decode cX8_collect 66 = .ok (.ireturn, 1) := by decide +kernel
theorem dX8_collect_67 : decode cX8_collect 67 = .ok (.iinc 7 1, 3) := by decide +kernel
theorem dX8_collect_70 : decode cX8_collect 70 = .ok (.goto (-27), 3) := by decide +kernel
theorem dX8_collect_73 : decode cX8_collect 73 = .ok (.iload_n 3, 1) := by decide +kernel
theorem dX8_collect_74 : decode cX8_collect 74 = .ok (.iload 6, 2) := by decide +kernel
theorem dX8_collect_76 : decode cX8_collect 76 = .ok (.iadd, 1) := by decide +kernel
theorem dX8_collect_77 : decode cX8_collect 77 = .ok (.istore_n 3, 1) := by decide +kernel
theorem dX8_collect_78 : decode cX8_collect 78 = .ok (.iinc 5 1, 3) := by decide +kernel
theorem dX8_collect_81 : decode cX8_collect 81 = .ok (.goto (-62), 3) := by decide +kernel
theorem dX8_collect_84 : decode cX8_collect 84 = .ok (.aload_n 1, 1) := by decide +kernel
theorem dX8_collect_85 : decode cX8_collect 85 = .ok (.iload 4, 2) := by decide +kernel
theorem dX8_collect_87 : decode cX8_collect 87 = .ok (.invokevirtual 85, 3) := by decide +kernel
theorem dX8_collect_90 : decode cX8_collect 90 = .ok (.istore 4, 2) := by decide +kernel
theorem dX8_collect_92 : decode cX8_collect 92 = .ok (.goto (-87), 3) := by decide +kernel
theorem dX8_collect_95 : decode cX8_collect 95 = .ok (.iconst 1, 1) := by decide +kernel
theorem dX8_collect_96 : decode cX8_collect 96 = .ok (.ireturn, 1) := by decide +kernel
abbrev M_X8_collect : MRec := (yX8_collect, cX8_collect, 8, (some Jvm.ClassFile.FieldType.boolean), [])
theorem m_X8_collect : en_M M_X8_collect 2 := ⟨t_1399, t_9, ⟨by decide +kernel, by decide +kernel⟩, by decide +kernel, by decide +kernel, by decide +kernel⟩
theorem dX8_firstHotFrom_0 : decode cX8_firstHotFrom 0 = .ok (.iconst 0, 1) := by decide +kernel
theorem dX8_firstHotFrom_1 : decode cX8_firstHotFrom 1 = .ok (.istore_n 2, 1) := by decide +kernel
theorem dX8_firstHotFrom_2 : decode cX8_firstHotFrom 2 = .ok (.aload_n 0, 1) := by decide +kernel
theorem dX8_firstHotFrom_3 : decode cX8_firstHotFrom 3 = .ok (.getfield 164, 3) := by decide +kernel
theorem dX8_firstHotFrom_6 : decode cX8_firstHotFrom 6 = .ok (.istore_n 3, 1) := by decide +kernel
theorem dX8_firstHotFrom_7 : decode cX8_firstHotFrom 7 = .ok (.iload_n 2, 1) := by decide +kernel
theorem dX8_firstHotFrom_8 : decode cX8_firstHotFrom 8 = .ok (.iload_n 3, 1) := by decide +kernel
theorem dX8_firstHotFrom_9 : decode cX8_firstHotFrom 9 = .ok (.if_icmp .ge 37, 3) := by decide +kernel
theorem dX8_firstHotFrom_12 : decode cX8_firstHotFrom 12 = .ok (.iload_n 2, 1) := by decide +kernel
theorem dX8_firstHotFrom_13 : decode cX8_firstHotFrom 13 = .ok (.iload_n 3, 1) := by decide +kernel
theorem dX8_firstHotFrom_14 : decode cX8_firstHotFrom 14 = .ok (.iload_n 2, 1) := by decide +kernel
theorem dX8_firstHotFrom_15 : decode cX8_firstHotFrom 15 = .ok (.isub, 1) := by decide +kernel
theorem dX8_firstHotFrom_16 : decode cX8_firstHotFrom 16 = .ok (.iconst 2, 1) := by decide +kernel
theorem dX8_firstHotFrom_17 : decode cX8_firstHotFrom 17 = .ok (.idiv, 1) := by decide +kernel
theorem dX8_firstHotFrom_18 : decode cX8_firstHotFrom 18 = .ok (.iadd, 1) := by decide +kernel
theorem dX8_firstHotFrom_19 : decode cX8_firstHotFrom 19 = .ok (.istore 4, 2) := by decide +kernel
theorem dX8_firstHotFrom_21 : decode cX8_firstHotFrom 21 = .ok (.aload_n 0, 1) := by decide +kernel
theorem dX8_firstHotFrom_22 : decode cX8_firstHotFrom 22 = .ok (.getfield 29, 3) := by decide +kernel
theorem dX8_firstHotFrom_25 : decode cX8_firstHotFrom 25 = .ok (.iload 4, 2) := by decide +kernel
theorem dX8_firstHotFrom_27 : decode cX8_firstHotFrom 27 = .ok (.iaload, 1) := by decide +kernel
theorem dX8_firstHotFrom_28 : decode cX8_firstHotFrom 28 = .ok (.iload_n 1, 1) := by decide +kernel
theorem dX8_firstHotFrom_29 : decode cX8_firstHotFrom 29 = .ok (.if_icmp .ge 11, 3) := by decide +kernel
theorem dX8_firstHotFrom_32 : decode cX8_firstHotFrom 32 = .ok (.iload 4, 2) := by decide +kernel
theorem dX8_firstHotFrom_34 : decode cX8_firstHotFrom 34 = .ok (.iconst 1, 1) := by decide +kernel
theorem dX8_firstHotFrom_35 : decode cX8_firstHotFrom 35 = .ok (.iadd, 1) := by decide +kernel
theorem dX8_firstHotFrom_36 : decode cX8_firstHotFrom 36 = .ok (.istore_n 2, 1) := by decide +kernel
theorem dX8_firstHotFrom_37 : decode cX8_firstHotFrom 37 = .ok (.goto 6, 3) := by decide +kernel
theorem dX8_firstHotFrom_40 : decode cX8_firstHotFrom 40 = .ok (.iload 4, 2) := by decide +kernel
theorem dX8_firstHotFrom_42 : decode cX8_firstHotFrom 42 = .ok (.istore_n 3, 1) := by decide +kernel
theorem dX8_firstHotFrom_43 : decode cX8_firstHotFrom 43 = .ok (.goto (-36), 3) := by decide +kernel
theorem dX8_firstHotFrom_46 : decode cX8_firstHotFrom 46 = .ok (.iload_n 2, 1) := by decide +kernel
theorem dX8_firstHotFrom_47 : decode cX8_firstHotFrom 47 = .ok (.ireturn, 1) := by decide +kernel
abbrev M_X8_firstHotFrom : MRec := (yX8_firstHotFrom, cX8_firstHotFrom, 5, (some Jvm.ClassFile.FieldType.int), [])
theorem m_X8_firstHotFrom : en_M M_X8_firstHotFrom 1 := ⟨t_1472, t_9, ⟨by decide +kernel, by decide +kernel⟩, by decide +kernel, by decide +kernel, by decide +kernel⟩
theorem dX8_meetsPixel_0 : decode cX8_meetsPixel 0 = .ok (.lload_n 0, 1) := by decide +kernel
theorem dX8_meetsPixel_1 : decode cX8_meetsPixel 1 = .ok (.lconst 0, 1) := by decide +kernel
theorem dX8_meetsPixel_2 : decode cX8_meetsPixel 2 = .ok (.lcmp, 1) := by decide +kernel
theorem dX8_meetsPixel_3 : decode cX8_meetsPixel 3 = .ok (.ifCond .eq 9, 3) := by decide +kernel
theorem dX8_meetsPixel_6 : decode cX8_meetsPixel 6 = .ok (.lload_n 2, 1) := by decide +kernel
theorem dX8_meetsPixel_7 : decode cX8_meetsPixel 7 = .ok (.lconst 0, 1) := by decide +kernel
theorem dX8_meetsPixel_8 : decode cX8_meetsPixel 8 = .ok (.lcmp, 1) := by decide +kernel
theorem dX8_meetsPixel_9 : decode cX8_meetsPixel 9 = .ok (.ifCond .ne 5, 3) := by decide +kernel
theorem dX8_meetsPixel_12 : decode cX8_meetsPixel 12 = .ok (.iconst 1, 1) := by decide +kernel
theorem dX8_meetsPixel_13 : decode cX8_meetsPixel 13 = .ok (.ireturn, 1) := by decide +kernel
theorem dX8_meetsPixel_14 : decode cX8_meetsPixel 14 = .ok (.lload_n 2, 1) := by decide +kernel
theorem dX8_meetsPixel_15 : decode cX8_meetsPixel 15 = .ok (.lconst 0, 1) := by decide +kernel
theorem dX8_meetsPixel_16 : decode cX8_meetsPixel 16 = .ok (.lcmp, 1) := by decide +kernel
theorem dX8_meetsPixel_17 : decode cX8_meetsPixel 17 = .ok (.ifCond .le 41, 3) := by decide +kernel
theorem dX8_meetsPixel_20 : decode cX8_meetsPixel 20 = .ok (.lload 4, 2) := by decide +kernel
theorem dX8_meetsPixel_22 : decode cX8_meetsPixel 22 = .ok (.lconst 1, 1) := by decide +kernel
theorem dX8_meetsPixel_23 : decode cX8_meetsPixel 23 = .ok (.lsub, 1) := by decide +kernel
theorem dX8_meetsPixel_24 : decode cX8_meetsPixel 24 = .ok (.lload_n 2, 1) := by decide +kernel
theorem dX8_meetsPixel_25 : decode cX8_meetsPixel 25 = .ok (.lmul, 1) := by decide +kernel
theorem dX8_meetsPixel_26 : decode cX8_meetsPixel 26 = .ok (.lload 6, 2) := by decide +kernel
theorem dX8_meetsPixel_28 : decode cX8_meetsPixel 28 = .ok (.lconst 1, 1) := by decide +kernel
theorem dX8_meetsPixel_29 : decode cX8_meetsPixel 29 = .ok (.ladd, 1) := by decide +kernel
theorem dX8_meetsPixel_30 : decode cX8_meetsPixel 30 = .ok (.lload_n 0, 1) := by decide +kernel
theorem dX8_meetsPixel_31 : decode cX8_meetsPixel 31 = .ok (.lmul, 1) := by decide +kernel
theorem dX8_meetsPixel_32 : decode cX8_meetsPixel 32 = .ok (.lcmp, 1) := by decide +kernel
theorem dX8_meetsPixel_33 : decode cX8_meetsPixel 33 = .ok (.ifCond .ge 23, 3) := by decide +kernel
theorem dX8_meetsPixel_36 : decode cX8_meetsPixel 36 = .ok (.lload 6, 2) := by decide +kernel
theorem dX8_meetsPixel_38 : decode cX8_meetsPixel 38 = .ok (.lconst 1, 1) := by decide +kernel
theorem dX8_meetsPixel_39 : decode cX8_meetsPixel 39 = .ok (.lsub, 1) := by decide +kernel
theorem dX8_meetsPixel_40 : decode cX8_meetsPixel 40 = .ok (.lload_n 0, 1) := by decide +kernel
theorem dX8_meetsPixel_41 : decode cX8_meetsPixel 41 = .ok (.lmul, 1) := by decide +kernel
theorem dX8_meetsPixel_42 : decode cX8_meetsPixel 42 = .ok (.lload 4, 2) := by decide +kernel
theorem dX8_meetsPixel_44 : decode cX8_meetsPixel 44 = .ok (.lconst 1, 1) := by decide +kernel
theorem dX8_meetsPixel_45 : decode cX8_meetsPixel 45 = .ok (.ladd, 1) := by decide +kernel
theorem dX8_meetsPixel_46 : decode cX8_meetsPixel 46 = .ok (.lload_n 2, 1) := by decide +kernel
theorem dX8_meetsPixel_47 : decode cX8_meetsPixel 47 = .ok (.lmul, 1) := by decide +kernel
theorem dX8_meetsPixel_48 : decode cX8_meetsPixel 48 = .ok (.lcmp, 1) := by decide +kernel
theorem dX8_meetsPixel_49 : decode cX8_meetsPixel 49 = .ok (.ifCond .ge 7, 3) := by decide +kernel
theorem dX8_meetsPixel_52 : decode cX8_meetsPixel 52 = .ok (.iconst 1, 1) := by decide +kernel
theorem dX8_meetsPixel_53 : decode cX8_meetsPixel 53 = .ok (.goto 4, 3) := by decide +kernel
theorem dX8_meetsPixel_56 : decode cX8_meetsPixel 56 = .ok (.iconst 0, 1) := by decide +kernel
theorem dX8_meetsPixel_57 : decode cX8_meetsPixel 57 = .ok (.ireturn, 1) := by decide +kernel
theorem dX8_meetsPixel_58 : decode cX8_meetsPixel 58 = .ok (.lload 4, 2) := by decide +kernel
theorem dX8_meetsPixel_60 : decode cX8_meetsPixel 60 = .ok (.lconst 1, 1) := by decide +kernel
theorem dX8_meetsPixel_61 : decode cX8_meetsPixel 61 = .ok (.lsub, 1) := by decide +kernel
theorem dX8_meetsPixel_62 : decode cX8_meetsPixel 62 = .ok (.lload_n 2, 1) := by decide +kernel
theorem dX8_meetsPixel_63 : decode cX8_meetsPixel 63 = .ok (.lmul, 1) := by decide +kernel
theorem dX8_meetsPixel_64 : decode cX8_meetsPixel 64 = .ok (.lload 6, 2) := by decide +kernel
theorem dX8_meetsPixel_66 : decode cX8_meetsPixel 66 = .ok (.lconst 1, 1) := by decide +kernel
theorem dX8_meetsPixel_67 : decode cX8_meetsPixel 67 = .ok (.lsub, 1) := by decide +kernel
theorem dX8_meetsPixel_68 : decode cX8_meetsPixel 68 = .ok (.lload_n 0, 1) := by decide +kernel
theorem dX8_meetsPixel_69 : decode cX8_meetsPixel 69 = .ok (.lmul, 1) := by decide +kernel
theorem dX8_meetsPixel_70 : decode cX8_meetsPixel 70 = .ok (.lcmp, 1) := by decide +kernel
theorem dX8_meetsPixel_71 : decode cX8_meetsPixel 71 = .ok (.ifCond .lt 23, 3) := by decide +kernel
theorem dX8_meetsPixel_74 : decode cX8_meetsPixel 74 = .ok (.lload 6, 2) := by decide +kernel
theorem dX8_meetsPixel_76 : decode cX8_meetsPixel 76 = .ok (.lconst 1, 1) := by decide +kernel
theorem dX8_meetsPixel_77 : decode cX8_meetsPixel 77 = .ok (.ladd, 1) := by decide +kernel
theorem dX8_meetsPixel_78 : decode cX8_meetsPixel 78 = .ok (.lload_n 0, 1) := by decide +kernel
theorem dX8_meetsPixel_79 : decode cX8_meetsPixel 79 = .ok (.lmul, 1) := by decide +kernel
theorem dX8_meetsPixel_80 : decode cX8_meetsPixel 80 = .ok (.lload 4, 2) := by decide +kernel
theorem dX8_meetsPixel_82 : decode cX8_meetsPixel 82 = .ok (.lconst 1, 1) := by decide +kernel
theorem dX8_meetsPixel_83 : decode cX8_meetsPixel 83 = .ok (.ladd, 1) := by decide +kernel
theorem dX8_meetsPixel_84 : decode cX8_meetsPixel 84 = .ok (.lload_n 2, 1) := by decide +kernel
theorem dX8_meetsPixel_85 : decode cX8_meetsPixel 85 = .ok (.lmul, 1) := by decide +kernel
theorem dX8_meetsPixel_86 : decode cX8_meetsPixel 86 = .ok (.lcmp, 1) := by decide +kernel
theorem dX8_meetsPixel_87 : decode cX8_meetsPixel 87 = .ok (.ifCond .le 7, 3) := by decide +kernel
theorem dX8_meetsPixel_90 : decode cX8_meetsPixel 90 = .ok (.iconst 1, 1) := by decide +kernel
theorem dX8_meetsPixel_91 : decode cX8_meetsPixel 91 = .ok (.goto 4, 3) := by decide +kernel
theorem dX8_meetsPixel_94 : decode cX8_meetsPixel 94 = .ok (.iconst 0, 1) := by decide +kernel
theorem dX8_meetsPixel_95 : decode cX8_meetsPixel 95 = .ok (.ireturn, 1) := by decide +kernel
abbrev M_X8_meetsPixel : MRec := (yX8_meetsPixel, cX8_meetsPixel, 8, (some Jvm.ClassFile.FieldType.boolean), [])
theorem m_X8_meetsPixel : en_M M_X8_meetsPixel 4 := ⟨t_1475, t_9, ⟨by decide +kernel, by decide +kernel⟩, by decide +kernel, by decide +kernel, by decide +kernel⟩
theorem dX8_moveToFront_0 : decode cX8_moveToFront 0 = .ok (.aload_n 0, 1) := by decide +kernel
theorem dX8_moveToFront_1 : decode cX8_moveToFront 1 = .ok (.getfield 25, 3) := by decide +kernel
theorem dX8_moveToFront_4 : decode cX8_moveToFront 4 = .ok (.iload_n 2, 1) := by decide +kernel
theorem dX8_moveToFront_5 : decode cX8_moveToFront 5 = .ok (.iaload, 1) := by decide +kernel
theorem dX8_moveToFront_6 : decode cX8_moveToFront 6 = .ok (.istore_n 3, 1) := by decide +kernel
theorem dX8_moveToFront_7 : decode cX8_moveToFront 7 = .ok (.iload_n 2, 1) := by decide +kernel
theorem dX8_moveToFront_8 : decode cX8_moveToFront 8 = .ok (.istore 4, 2) := by decide +kernel
theorem dX8_moveToFront_10 : decode cX8_moveToFront 10 = .ok (.iload 4, 2) := by decide +kernel
theorem dX8_moveToFront_12 : decode cX8_moveToFront 12 = .ok (.iload_n 1, 1) := by decide +kernel
theorem dX8_moveToFront_13 : decode cX8_moveToFront 13 = .ok (.if_icmp .le 25, 3) := by decide +kernel
theorem dX8_moveToFront_16 : decode cX8_moveToFront 16 = .ok (.aload_n 0, 1) := by decide +kernel
theorem dX8_moveToFront_17 : decode cX8_moveToFront 17 = .ok (.getfield 25, 3) := by decide +kernel
theorem dX8_moveToFront_20 : decode cX8_moveToFront 20 = .ok (.iload 4, 2) := by decide +kernel
theorem dX8_moveToFront_22 : decode cX8_moveToFront 22 = .ok (.aload_n 0, 1) := by decide +kernel
theorem dX8_moveToFront_23 : decode cX8_moveToFront 23 = .ok (.getfield 25, 3) := by decide +kernel
theorem dX8_moveToFront_26 : decode cX8_moveToFront 26 = .ok (.iload 4, 2) := by decide +kernel
theorem dX8_moveToFront_28 : decode cX8_moveToFront 28 = .ok (.iconst 1, 1) := by decide +kernel
theorem dX8_moveToFront_29 : decode cX8_moveToFront 29 = .ok (.isub, 1) := by decide +kernel
theorem dX8_moveToFront_30 : decode cX8_moveToFront 30 = .ok (.iaload, 1) := by decide +kernel
theorem dX8_moveToFront_31 : decode cX8_moveToFront 31 = .ok (.iastore, 1) := by decide +kernel
theorem dX8_moveToFront_32 : decode cX8_moveToFront 32 = .ok (.iinc 4 (-1), 3) := by decide +kernel
theorem dX8_moveToFront_35 : decode cX8_moveToFront 35 = .ok (.goto (-25), 3) := by decide +kernel
theorem dX8_moveToFront_38 : decode cX8_moveToFront 38 = .ok (.aload_n 0, 1) := by decide +kernel
theorem dX8_moveToFront_39 : decode cX8_moveToFront 39 = .ok (.getfield 25, 3) := by decide +kernel
theorem dX8_moveToFront_42 : decode cX8_moveToFront 42 = .ok (.iload_n 1, 1) := by decide +kernel
theorem dX8_moveToFront_43 : decode cX8_moveToFront 43 = .ok (.iload_n 3, 1) := by decide +kernel
theorem dX8_moveToFront_44 : decode cX8_moveToFront 44 = .ok (.iastore, 1) := by decide +kernel
theorem dX8_moveToFront_45 : decode cX8_moveToFront 45 = .ok (.return_, 1) := by decide +kernel
abbrev M_X8_moveToFront : MRec := (yX8_moveToFront, cX8_moveToFront, 5, none, [])
theorem m_X8_moveToFront : en_M M_X8_moveToFront 2 := ⟨t_1479, t_9, ⟨by decide +kernel, by decide +kernel⟩, by decide +kernel, by decide +kernel, by decide +kernel⟩
theorem dX8_layChain_0 : decode cX8_layChain 0 = .ok (.aload_n 0, 1) := by decide +kernel
theorem dX8_layChain_1 : decode cX8_layChain 1 = .ok (.getfield 14, 3) := by decide +kernel
theorem dX8_layChain_4 : decode cX8_layChain 4 = .ok (.getfield 137, 3) := by decide +kernel
theorem dX8_layChain_7 : decode cX8_layChain 7 = .ok (.iload_n 1, 1) := by decide +kernel
theorem dX8_layChain_8 : decode cX8_layChain 8 = .ok (.iaload, 1) := by decide +kernel
theorem dX8_layChain_9 : decode cX8_layChain 9 = .ok (.aload_n 0, 1) := by decide +kernel
theorem dX8_layChain_10 : decode cX8_layChain 10 = .ok (.getfield 14, 3) := by decide +kernel
theorem dX8_layChain_13 : decode cX8_layChain 13 = .ok (.getfield 134, 3) := by decide +kernel
theorem dX8_layChain_16 : decode cX8_layChain 16 = .ok (.iload_n 1, 1) := by decide +kernel
theorem dX8_layChain_17 : decode cX8_layChain 17 = .ok (.iaload, 1) := by decide +kernel
theorem dX8_layChain_18 : decode cX8_layChain 18 = .ok (.if_icmp .gt 45, 3) := by decide +kernel
theorem dX8_layChain_21 : decode cX8_layChain 21 = .ok (.aload_n 0, 1) := by decide +kernel
theorem dX8_layChain_22 : decode cX8_layChain 22 = .ok (.getfield 14, 3) := by decide +kernel
theorem dX8_layChain_25 : decode cX8_layChain 25 = .ok (.getfield 137, 3) := by decide +kernel
theorem dX8_layChain_28 : decode cX8_layChain 28 = .ok (.iload_n 1, 1) := by decide +kernel
theorem dX8_layChain_29 : decode cX8_layChain 29 = .ok (.iaload, 1) := by decide +kernel
theorem dX8_layChain_30 : decode cX8_layChain 30 = .ok (.aload_n 0, 1) := by decide +kernel
theorem dX8_layChain_31 : decode cX8_layChain 31 = .ok (.getfield 14, 3) := by decide +kernel
theorem dX8_layChain_34 : decode cX8_layChain 34 = .ok (.getfield 134, 3) := by decide +kernel
theorem dX8_layChain_37 : decode cX8_layChain 37 = .ok (.iload_n 1, 1) := by decide +kernel
theorem dX8_layChain_38 : decode cX8_layChain 38 = .ok (.iaload, 1) := by decide +kernel
theorem dX8_layChain_39 : decode cX8_layChain 39 = .ok (.if_icmp .ne 28, 3) := by decide +kernel
theorem dX8_layChain_42 : decode cX8_layChain 42 = .ok (.aload_n 0, 1) := by decide +kernel
theorem dX8_layChain_43 : decode cX8_layChain 43 = .ok (.getfield 14, 3) := by decide +kernel
theorem dX8_layChain_46 : decode cX8_layChain 46 = .ok (.getfield 143, 3) := by decide +kernel
theorem dX8_layChain_49 : decode cX8_layChain 49 = .ok (.iload_n 1, 1) := by decide +kernel
theorem dX8_layChain_50 : decode cX8_layChain 50 = .ok (.iaload, 1) := by decide +kernel
theorem dX8_layChain_51 : decode cX8_layChain 51 = .ok (.aload_n 0, 1) := by decide +kernel
theorem dX8_layChain_52 : decode cX8_layChain 52 = .ok (.getfield 14, 3) := by decide +kernel
theorem dX8_layChain_55 : decode cX8_layChain 55 = .ok (.getfield 140, 3) := by decide +kernel
theorem dX8_layChain_58 : decode cX8_layChain 58 = .ok (.iload_n 1, 1) := by decide +kernel
theorem dX8_layChain_59 : decode cX8_layChain 59 = .ok (.iaload, 1) := by decide +kernel
theorem dX8_layChain_60 : decode cX8_layChain 60 = .ok (.if_icmp .le 7, 3) := by decide +kernel
theorem dX8_layChain_63 : decode cX8_layChain 63 = .ok (.iconst 1, 1) := by decide +kernel
theorem dX8_layChain_64 : decode cX8_layChain 64 = .ok (.goto 4, 3) := by decide +kernel
theorem dX8_layChain_67 : decode cX8_layChain 67 = .ok (.iconst 0, 1) := by decide +kernel
theorem dX8_layChain_68 : decode cX8_layChain 68 = .ok (.istore_n 2, 1) := by decide +kernel
theorem dX8_layChain_69 : decode cX8_layChain 69 = .ok (.iload_n 2, 1) := by decide +kernel
theorem dX8_layChain_70 : decode cX8_layChain 70 = .ok (.ifCond .eq 15, 3) := by decide +kernel
theorem dX8_layChain_73 : decode cX8_layChain 73 = .ok (.aload_n 0, 1) := by decide +kernel
theorem dX8_layChain_74 : decode cX8_layChain 74 = .ok (.getfield 14, 3) := by decide +kernel
theorem dX8_layChain_77 : decode cX8_layChain 77 = .ok (.getfield 134, 3) := by decide +kernel
theorem dX8_layChain_80 : decode cX8_layChain 80 = .ok (.iload_n 1, 1) := by decide +kernel
theorem dX8_layChain_81 : decode cX8_layChain 81 = .ok (.iaload, 1) := by decide +kernel
theorem dX8_layChain_82 : decode cX8_layChain 82 = .ok (.goto 12, 3) := by decide +kernel
theorem dX8_layChain_85 : decode cX8_layChain 85 = .ok (.aload_n 0, 1) := by decide +kernel
theorem dX8_layChain_86 : decode cX8_layChain 86 = .ok (.getfield 14, 3) := by decide +kernel
theorem dX8_layChain_89 : decode cX8_layChain 89 = .ok (.getfield 137, 3) := by decide +kernel
theorem dX8_layChain_92 : decode cX8_layChain 92 = .ok (.iload_n 1, 1) := by decide +kernel
theorem dX8_layChain_93 : decode cX8_layChain 93 = .ok (.iaload, 1) := by decide +kernel
theorem dX8_layChain_94 : decode cX8_layChain 94 = .ok (.istore_n 3, 1) := by decide +kernel
theorem dX8_layChain_95 : decode cX8_layChain 95 = .ok (.iload_n 2, 1) := by decide +kernel
theorem dX8_layChain_96 : decode cX8_layChain 96 = .ok (.ifCond .eq 15, 3) := by decide +kernel
theorem dX8_layChain_99 : decode cX8_layChain 99 = .ok (.aload_n 0, 1) := by decide +kernel
theorem dX8_layChain_100 : decode cX8_layChain 100 = .ok (.getfield 14, 3) := by decide +kernel
theorem dX8_layChain_103 : decode cX8_layChain 103 = .ok (.getfield 140, 3) := by decide +kernel
theorem dX8_layChain_106 : decode cX8_layChain 106 = .ok (.iload_n 1, 1) := by decide +kernel
theorem dX8_layChain_107 : decode cX8_layChain 107 = .ok (.iaload, 1) := by decide +kernel
theorem dX8_layChain_108 : decode cX8_layChain 108 = .ok (.goto 12, 3) := by decide +kernel
theorem dX8_layChain_111 : decode cX8_layChain 111 = .ok (.aload_n 0, 1) := by decide +kernel
theorem dX8_layChain_112 : decode cX8_layChain 112 = .ok (.getfield 14, 3) := by decide +kernel
theorem dX8_layChain_115 : decode cX8_layChain 115 = .ok (.getfield 143, 3) := by decide +kernel
theorem dX8_layChain_118 : decode cX8_layChain 118 = .ok (.iload_n 1, 1) := by decide +kernel
theorem dX8_layChain_119 : decode cX8_layChain 119 = .ok (.iaload, 1) := by decide +kernel
theorem dX8_layChain_120 : decode cX8_layChain 120 = .ok (.istore 4, 2) := by decide +kernel
theorem dX8_layChain_122 : decode cX8_layChain 122 = .ok (.iload_n 2, 1) := by decide +kernel
theorem dX8_layChain_123 : decode cX8_layChain 123 = .ok (.ifCond .eq 15, 3) := by decide +kernel
theorem dX8_layChain_126 : decode cX8_layChain 126 = .ok (.aload_n 0, 1) := by decide +kernel
theorem dX8_layChain_127 : decode cX8_layChain 127 = .ok (.getfield 14, 3) := by decide +kernel
theorem dX8_layChain_130 : decode cX8_layChain 130 = .ok (.getfield 137, 3) := by decide +kernel
theorem dX8_layChain_133 : decode cX8_layChain 133 = .ok (.iload_n 1, 1) := by decide +kernel
theorem dX8_layChain_134 : decode cX8_layChain 134 = .ok (.iaload, 1) := by decide +kernel
theorem dX8_layChain_135 : decode cX8_layChain 135 = .ok (.goto 12, 3) := by decide +kernel
theorem dX8_layChain_138 : decode cX8_layChain 138 = .ok (.aload_n 0, 1) := by decide +kernel
theorem dX8_layChain_139 : decode cX8_layChain 139 = .ok (.getfield 14, 3) := by decide +kernel
theorem dX8_layChain_142 : decode cX8_layChain 142 = .ok (.getfield 134, 3) := by decide +kernel
theorem dX8_layChain_145 : decode cX8_layChain 145 = .ok (.iload_n 1, 1) := by decide +kernel
theorem dX8_layChain_146 : decode cX8_layChain 146 = .ok (.iaload, 1) := by decide +kernel
theorem dX8_layChain_147 : decode cX8_layChain 147 = .ok (.iload_n 3, 1) := by decide +kernel
theorem dX8_layChain_148 : decode cX8_layChain 148 = .ok (.isub, 1) := by decide +kernel
theorem dX8_layChain_149 : decode cX8_layChain 149 = .ok (.istore 5, 2) := by decide +kernel
theorem dX8_layChain_151 : decode cX8_layChain 151 = .ok (.iload_n 2, 1) := by decide +kernel
theorem dX8_layChain_152 : decode cX8_layChain 152 = .ok (.ifCond .eq 15, 3) := by decide +kernel
theorem dX8_layChain_155 : decode cX8_layChain 155 = .ok (.aload_n 0, 1) := by decide +kernel
theorem dX8_layChain_156 : decode cX8_layChain 156 = .ok (.getfield 14, 3) := by decide +kernel
theorem dX8_layChain_159 : decode cX8_layChain 159 = .ok (.getfield 143, 3) := by decide +kernel
theorem dX8_layChain_162 : decode cX8_layChain 162 = .ok (.iload_n 1, 1) := by decide +kernel
theorem dX8_layChain_163 : decode cX8_layChain 163 = .ok (.iaload, 1) := by decide +kernel
theorem dX8_layChain_164 : decode cX8_layChain 164 = .ok (.goto 12, 3) := by decide +kernel
theorem dX8_layChain_167 : decode cX8_layChain 167 = .ok (.aload_n 0, 1) := by decide +kernel
theorem dX8_layChain_168 : decode cX8_layChain 168 = .ok (.getfield 14, 3) := by decide +kernel
theorem dX8_layChain_171 : decode cX8_layChain 171 = .ok (.getfield 140, 3) := by decide +kernel
theorem dX8_layChain_174 : decode cX8_layChain 174 = .ok (.iload_n 1, 1) := by decide +kernel
theorem dX8_layChain_175 : decode cX8_layChain 175 = .ok (.iaload, 1) := by decide +kernel
theorem dX8_layChain_176 : decode cX8_layChain 176 = .ok (.iload 4, 2) := by decide +kernel
theorem dX8_layChain_178 : decode cX8_layChain 178 = .ok (.isub, 1) := by decide +kernel
theorem dX8_layChain_179 : decode cX8_layChain 179 = .ok (.istore 6, 2) := by decide +kernel
theorem dX8_layChain_181 : decode cX8_layChain 181 = .ok (.aload_n 0, 1) := by decide +kernel
theorem dX8_layChain_182 : decode cX8_layChain 182 = .ok (.getfield 14, 3) := by decide +kernel
theorem dX8_layChain_185 : decode cX8_layChain 185 = .ok (.iload_n 1, 1) := by decide +kernel
theorem dX8_layChain_186 : decode cX8_layChain 186 = .ok (.invokevirtual 189, 3) := by decide +kernel
theorem dX8_layChain_189 : decode cX8_layChain 189 = .ok (.istore 7, 2) := by decide +kernel
theorem dX8_layChain_191 : decode cX8_layChain 191 = .ok (.aload_n 0, 1) := by decide +kernel
theorem dX8_layChain_192 : decode cX8_layChain 192 = .ok (.getfield 14, 3) := by decide +kernel
theorem dX8_layChain_195 : decode cX8_layChain 195 = .ok (.iload_n 1, 1) := by decide +kernel
theorem dX8_layChain_196 : decode cX8_layChain 196 = .ok (.invokevirtual 192, 3) := by decide +kernel
theorem dX8_layChain_199 : decode cX8_layChain 199 = .ok (.istore 8, 2) := by decide +kernel
theorem dX8_layChain_201 : decode cX8_layChain 201 = .ok (.aload_n 0, 1) := by decide +kernel
theorem dX8_layChain_202 : decode cX8_layChain 202 = .ok (.getfield 14, 3) := by decide +kernel
theorem dX8_layChain_205 : decode cX8_layChain 205 = .ok (.iload_n 1, 1) := by decide +kernel
theorem dX8_layChain_206 : decode cX8_layChain 206 = .ok (.invokevirtual 125, 3) := by decide +kernel
theorem dX8_layChain_209 : decode cX8_layChain 209 = .ok (.istore 9, 2) := by decide +kernel
theorem dX8_layChain_211 : decode cX8_layChain 211 = .ok (.iconst 0, 1) := by decide +kernel
theorem dX8_layChain_212 : decode cX8_layChain 212 = .ok (.istore 10, 2) := by decide +kernel
theorem dX8_layChain_214 : decode cX8_layChain 214 = .ok (.iconst 0, 1) := by decide +kernel
theorem dX8_layChain_215 : decode cX8_layChain 215 = .ok (.istore 11, 2) := by decide +kernel
theorem dX8_layChain_217 : decode cX8_layChain 217 = .ok (.aload_n 0, 1) := by decide +kernel
theorem dX8_layChain_218 : decode cX8_layChain 218 = .ok (.iload_n 3, 1) := by decide +kernel
theorem dX8_layChain_219 : decode cX8_layChain 219 = .ok (.invokevirtual 195, 3) := by decide +kernel
theorem dX8_layChain_222 : decode cX8_layChain 222 = .ok (.istore 12, 2) := by decide +kernel
theorem dX8_layChain_224 : decode cX8_layChain 224 = .ok (.iload 12, 2) := by decide +kernel
theorem dX8_layChain_226 : decode cX8_layChain 226 = .ok (.aload_n 0, 1) := by decide +kernel
theorem dX8_layChain_227 : decode cX8_layChain 227 = .ok (.getfield 164, 3) := by decide +kernel
theorem dX8_layChain_230 : decode cX8_layChain 230 = .ok (.if_icmp .ge 170, 3) := by decide +kernel
theorem dX8_layChain_233 : decode cX8_layChain 233 = .ok (.aload_n 0, 1) := by decide +kernel
theorem dX8_layChain_234 : decode cX8_layChain 234 = .ok (.getfield 29, 3) := by decide +kernel
theorem dX8_layChain_237 : decode cX8_layChain 237 = .ok (.iload 12, 2) := by decide +kernel
theorem dX8_layChain_239 : decode cX8_layChain 239 = .ok (.iaload, 1) := by decide +kernel
theorem dX8_layChain_240 : decode cX8_layChain 240 = .ok (.iload 9, 2) := by decide +kernel
theorem dX8_layChain_242 : decode cX8_layChain 242 = .ok (.if_icmp .gt 158, 3) := by decide +kernel
theorem dX8_layChain_245 : decode cX8_layChain 245 = .ok (.aload_n 0, 1) := by decide +kernel
theorem dX8_layChain_246 : decode cX8_layChain 246 = .ok (.getfield 32, 3) := by decide +kernel
theorem dX8_layChain_249 : decode cX8_layChain 249 = .ok (.iload 12, 2) := by decide +kernel
theorem dX8_layChain_251 : decode cX8_layChain 251 = .ok (.iaload, 1) := by decide +kernel
theorem dX8_layChain_252 : decode cX8_layChain 252 = .ok (.iload 7, 2) := by decide +kernel
theorem dX8_layChain_254 : decode cX8_layChain 254 = .ok (.if_icmp .lt 140, 3) := by decide +kernel
theorem dX8_layChain_257 : decode cX8_layChain 257 = .ok (.aload_n 0, 1) := by decide +kernel
theorem dX8_layChain_258 : decode cX8_layChain 258 = .ok (.getfield 32, 3) := by decide +kernel
theorem dX8_layChain_261 : decode cX8_layChain 261 = .ok (.iload 12, 2) := by decide +kernel
theorem dX8_layChain_263 : decode cX8_layChain 263 = .ok (.iaload, 1) := by decide +kernel
theorem dX8_layChain_264 : decode cX8_layChain 264 = .ok (.iload 8, 2) := by decide +kernel
theorem dX8_layChain_266 : decode cX8_layChain 266 = .ok (.if_icmp .gt 128, 3) := by decide +kernel
theorem dX8_layChain_269 : decode cX8_layChain 269 = .ok (.iload 5, 2) := by decide +kernel
theorem dX8_layChain_271 : decode cX8_layChain 271 = .ok (.i2l, 1) := by decide +kernel
theorem dX8_layChain_272 : decode cX8_layChain 272 = .ok (.iload 6, 2) := by decide +kernel
theorem dX8_layChain_274 : decode cX8_layChain 274 = .ok (.i2l, 1) := by decide +kernel
theorem dX8_layChain_275 : decode cX8_layChain 275 = .ok (.ldc2_w 162, 3) := by decide +kernel
theorem dX8_layChain_278 : decode cX8_layChain 278 = .ok (.aload_n 0, 1) := by decide +kernel
theorem dX8_layChain_279 : decode cX8_layChain 279 = .ok (.getfield 29, 3) := by decide +kernel
theorem dX8_layChain_282 : decode cX8_layChain 282 = .ok (.iload 12, 2) := by decide +kernel
theorem dX8_layChain_284 : decode cX8_layChain 284 = .ok (.iaload, 1) := by decide +kernel
theorem dX8_layChain_285 : decode cX8_layChain 285 = .ok (.i2l, 1) := by decide +kernel
theorem dX8_layChain_286 : decode cX8_layChain 286 = .ok (.lmul, 1) := by decide +kernel
theorem dX8_layChain_287 : decode cX8_layChain 287 = .ok (.ldc2_w 162, 3) := by decide +kernel
theorem dX8_layChain_290 : decode cX8_layChain 290 = .ok (.iload_n 3, 1) := by decide +kernel
theorem dX8_layChain_291 : decode cX8_layChain 291 = .ok (.i2l, 1) := by decide +kernel
theorem dX8_layChain_292 : decode cX8_layChain 292 = .ok (.lmul, 1) := by decide +kernel
theorem dX8_layChain_293 : decode cX8_layChain 293 = .ok (.lsub, 1) := by decide +kernel
theorem dX8_layChain_294 : decode cX8_layChain 294 = .ok (.ldc2_w 162, 3) := by decide +kernel
theorem dX8_layChain_297 : decode cX8_layChain 297 = .ok (.aload_n 0, 1) := by decide +kernel
theorem dX8_layChain_298 : decode cX8_layChain 298 = .ok (.getfield 32, 3) := by decide +kernel
theorem dX8_layChain_301 : decode cX8_layChain 301 = .ok (.iload 12, 2) := by decide +kernel
theorem dX8_layChain_303 : decode cX8_layChain 303 = .ok (.iaload, 1) := by decide +kernel
theorem dX8_layChain_304 : decode cX8_layChain 304 = .ok (.i2l, 1) := by decide +kernel
theorem dX8_layChain_305 : decode cX8_layChain 305 = .ok (.lmul, 1) := by decide +kernel
theorem dX8_layChain_306 : decode cX8_layChain 306 = .ok (.ldc2_w 162, 3) := by decide +kernel
theorem dX8_layChain_309 : decode cX8_layChain 309 = .ok (.iload 4, 2) := by decide +kernel
theorem dX8_layChain_311 : decode cX8_layChain 311 = .ok (.i2l, 1) := by decide +kernel
theorem dX8_layChain_312 : decode cX8_layChain 312 = .ok (.lmul, 1) := by decide +kernel
theorem dX8_layChain_313 : decode cX8_layChain 313 = .ok (.lsub, 1) := by decide +kernel
theorem dX8_layChain_314 : decode cX8_layChain 314 = .ok (.invokestatic 198, 3) := by decide +kernel
theorem dX8_layChain_317 : decode cX8_layChain 317 = .ok (.ifCond .ne 6, 3) := by decide +kernel
theorem dX8_layChain_320 : decode cX8_layChain 320 = .ok (.goto 74, 3) := by decide +kernel
theorem dX8_layChain_323 : decode cX8_layChain 323 = .ok (.iload 10, 2) := by decide +kernel
theorem dX8_layChain_325 : decode cX8_layChain 325 = .ok (.ifCond .le 34, 3) := by decide +kernel
theorem dX8_layChain_328 : decode cX8_layChain 328 = .ok (.aload_n 0, 1) := by decide +kernel
theorem dX8_layChain_329 : decode cX8_layChain 329 = .ok (.getfield 29, 3) := by decide +kernel
theorem dX8_layChain_332 : decode cX8_layChain 332 = .ok (.aload_n 0, 1) := by decide +kernel
theorem dX8_layChain_333 : decode cX8_layChain 333 = .ok (.getfield 25, 3) := by decide +kernel
theorem dX8_layChain_336 : decode cX8_layChain 336 = .ok (.iload 10, 2) := by decide +kernel
theorem dX8_layChain_338 : decode cX8_layChain 338 = .ok (.iconst 1, 1) := by decide +kernel
theorem dX8_layChain_339 : decode cX8_layChain 339 = .ok (.isub, 1) := by decide +kernel
theorem dX8_layChain_340 : decode cX8_layChain 340 = .ok (.iaload, 1) := by decide +kernel
theorem dX8_layChain_341 : decode cX8_layChain 341 = .ok (.iaload, 1) := by decide +kernel
theorem dX8_layChain_342 : decode cX8_layChain 342 = .ok (.aload_n 0, 1) := by decide +kernel
theorem dX8_layChain_343 : decode cX8_layChain 343 = .ok (.getfield 29, 3) := by decide +kernel
theorem dX8_layChain_346 : decode cX8_layChain 346 = .ok (.iload 12, 2) := by decide +kernel
theorem dX8_layChain_348 : decode cX8_layChain 348 = .ok (.iaload, 1) := by decide +kernel
theorem dX8_layChain_349 : decode cX8_layChain 349 = .ok (.if_icmp .ne 10, 3) := by decide +kernel
theorem dX8_layChain_352 : decode cX8_layChain 352 = .ok (.iload 11, 2) := by decide +kernel
theorem dX8_layChain_354 : decode cX8_layChain 354 = .ok (.iconst 1, 1) := by decide +kernel
theorem dX8_layChain_355 : decode cX8_layChain 355 = .ok (.iadd, 1) := by decide +kernel
theorem dX8_layChain_356 : decode cX8_layChain 356 = .ok (.goto 4, 3) := by decide +kernel
theorem dX8_layChain_359 : decode cX8_layChain 359 = .ok (.iconst 0, 1) := by decide +kernel
theorem dX8_layChain_360 : decode cX8_layChain 360 = .ok (.istore 11, 2) := by decide +kernel
theorem dX8_layChain_362 : decode cX8_layChain 362 = .ok (.aload_n 0, 1) := by decide +kernel
theorem dX8_layChain_363 : decode cX8_layChain 363 = .ok (.getfield 25, 3) := by decide +kernel
theorem dX8_layChain_366 : decode cX8_layChain 366 = .ok (.iload 10, 2) := by decide +kernel
theorem dX8_layChain_368 : decode cX8_layChain 368 = .ok (.iload 12, 2) := by decide +kernel
theorem dX8_layChain_370 : decode cX8_layChain 370 = .ok (.iastore, 1) := by decide +kernel
theorem dX8_layChain_371 : decode cX8_layChain 371 = .ok (.iinc 10 1, 3) := by decide +kernel
theorem dX8_layChain_374 : decode cX8_layChain 374 = .ok (.iload 6, 2) := by decide +kernel
theorem dX8_layChain_376 : decode cX8_layChain 376 = .ok (.ifCond .ge 18, 3) := by decide +kernel
theorem dX8_layChain_379 : decode cX8_layChain 379 = .ok (.aload_n 0, 1) := by decide +kernel
theorem dX8_layChain_380 : decode cX8_layChain 380 = .ok (.iload 10, 2) := by decide +kernel
theorem dX8_layChain_382 : decode cX8_layChain 382 = .ok (.iconst 1, 1) := by decide +kernel
theorem dX8_layChain_383 : decode cX8_layChain 383 = .ok (.isub, 1) := by decide +kernel
theorem dX8_layChain_384 : decode cX8_layChain 384 = .ok (.iload 11, 2) := by decide +kernel
theorem dX8_layChain_386 : decode cX8_layChain 386 = .ok (.isub, 1) := by decide +kernel
theorem dX8_layChain_387 : decode cX8_layChain 387 = .ok (.iload 10, 2) := by decide +kernel
theorem dX8_layChain_389 : decode cX8_layChain 389 = .ok (.iconst 1, 1) := by decide +kernel
theorem dX8_layChain_390 : decode cX8_layChain 390 = .ok (.isub, 1) := by decide +kernel
theorem dX8_layChain_391 : decode cX8_layChain 391 = .ok (.invokevirtual 202, 3) := by decide +kernel
theorem dX8_layChain_394 : decode cX8_layChain 394 = .ok (.iinc 12 1, 3) := by decide +kernel
theorem dX8_layChain_397 : decode cX8_layChain 397 = .ok (.goto (-173), 3) := by decide +kernel
theorem dX8_layChain_400 : decode cX8_layChain 400 = .ok (.iload 10, 2) := by decide +kernel
theorem dX8_layChain_402 : decode cX8_layChain 402 = .ok (.ireturn, 1) := by decide +kernel
abbrev M_X8_layChain : MRec := (yX8_layChain, cX8_layChain, 13, (some Jvm.ClassFile.FieldType.int), [])
theorem m_X8_layChain : en_M M_X8_layChain 1 := ⟨t_1466, t_9, ⟨by decide +kernel, by decide +kernel⟩, by decide +kernel, by decide +kernel, by decide +kernel⟩
theorem dX8_leavePieces_0 : decode cX8_leavePieces 0 = .ok (.aload_n 0, 1) := by decide +kernel
theorem dX8_leavePieces_1 : decode cX8_leavePieces 1 = .ok (.iconst 0, 1) := by decide +kernel
theorem dX8_leavePieces_2 : decode cX8_leavePieces 2 = .ok (.putfield 206, 3) := by decide +kernel
theorem dX8_leavePieces_5 : decode cX8_leavePieces 5 = .ok (.iconst 0, 1) := by decide +kernel
theorem dX8_leavePieces_6 : decode cX8_leavePieces 6 = .ok (.istore_n 2, 1) := by decide +kernel
theorem dX8_leavePieces_7 : decode cX8_leavePieces 7 = .ok (.iconst 0, 1) := by decide +kernel
theorem dX8_leavePieces_8 : decode cX8_leavePieces 8 = .ok (.istore_n 3, 1) := by decide +kernel
theorem dX8_leavePieces_9 : decode cX8_leavePieces 9 = .ok (.iload_n 3, 1) := by decide +kernel
theorem dX8_leavePieces_10 : decode cX8_leavePieces 10 = .ok (.iload_n 1, 1) := by decide +kernel
theorem dX8_leavePieces_11 : decode cX8_leavePieces 11 = .ok (.if_icmp .ge 116, 3) := by decide +kernel
theorem dX8_leavePieces_14 : decode cX8_leavePieces 14 = .ok (.aload_n 0, 1) := by decide +kernel
theorem dX8_leavePieces_15 : decode cX8_leavePieces 15 = .ok (.getfield 22, 3) := by decide +kernel
theorem dX8_leavePieces_18 : decode cX8_leavePieces 18 = .ok (.iload_n 3, 1) := by decide +kernel
theorem dX8_leavePieces_19 : decode cX8_leavePieces 19 = .ok (.laload, 1) := by decide +kernel
theorem dX8_leavePieces_20 : decode cX8_leavePieces 20 = .ok (.iconst 2, 1) := by decide +kernel
theorem dX8_leavePieces_21 : decode cX8_leavePieces 21 = .ok (.lshr, 1) := by decide +kernel
theorem dX8_leavePieces_22 : decode cX8_leavePieces 22 = .ok (.lstore 4, 2) := by decide +kernel
theorem dX8_leavePieces_24 : decode cX8_leavePieces 24 = .ok (.iload_n 2, 1) := by decide +kernel
theorem dX8_leavePieces_25 : decode cX8_leavePieces 25 = .ok (.aload_n 0, 1) := by decide +kernel
theorem dX8_leavePieces_26 : decode cX8_leavePieces 26 = .ok (.getfield 22, 3) := by decide +kernel
theorem dX8_leavePieces_29 : decode cX8_leavePieces 29 = .ok (.iload_n 3, 1) := by decide +kernel
theorem dX8_leavePieces_30 : decode cX8_leavePieces 30 = .ok (.laload, 1) := by decide +kernel
theorem dX8_leavePieces_31 : decode cX8_leavePieces 31 = .ok (.ldc2_w 209, 3) := by decide +kernel
theorem dX8_leavePieces_34 : decode cX8_leavePieces 34 = .ok (.land, 1) := by decide +kernel
theorem dX8_leavePieces_35 : decode cX8_leavePieces 35 = .ok (.l2i, 1) := by decide +kernel
theorem dX8_leavePieces_36 : decode cX8_leavePieces 36 = .ok (.ixor, 1) := by decide +kernel
theorem dX8_leavePieces_37 : decode cX8_leavePieces 37 = .ok (.istore_n 2, 1) := by decide +kernel
theorem dX8_leavePieces_38 : decode cX8_leavePieces 38 = .ok (.iload_n 3, 1) := by decide +kernel
theorem dX8_leavePieces_39 : decode cX8_leavePieces 39 = .ok (.iconst 1, 1) := by decide +kernel
theorem dX8_leavePieces_40 : decode cX8_leavePieces 40 = .ok (.iadd, 1) := by decide +kernel
theorem dX8_leavePieces_41 : decode cX8_leavePieces 41 = .ok (.iload_n 1, 1) := by decide +kernel
theorem dX8_leavePieces_42 : decode cX8_leavePieces 42 = .ok (.if_icmp .ge 22, 3) := by decide +kernel
theorem dX8_leavePieces_45 : decode cX8_leavePieces 45 = .ok (.aload_n 0, 1) := by decide +kernel
theorem dX8_leavePieces_46 : decode cX8_leavePieces 46 = .ok (.getfield 22, 3) := by decide +kernel
theorem dX8_leavePieces_49 : decode cX8_leavePieces 49 = .ok (.iload_n 3, 1) := by decide +kernel
theorem dX8_leavePieces_50 : decode cX8_leavePieces 50 = .ok (.iconst 1, 1) := by decide +kernel
theorem dX8_leavePieces_51 : decode cX8_leavePieces 51 = .ok (.iadd, 1) := by decide +kernel
theorem dX8_leavePieces_52 : decode cX8_leavePieces 52 = .ok (.laload, 1) := by decide +kernel
theorem dX8_leavePieces_53 : decode cX8_leavePieces 53 = .ok (.iconst 2, 1) := by decide +kernel
theorem dX8_leavePieces_54 : decode cX8_leavePieces 54 = .ok (.lshr, 1) := by decide +kernel
theorem dX8_leavePieces_55 : decode cX8_leavePieces 55 = .ok (.lload 4, 2) := by decide +kernel
theorem dX8_leavePieces_57 : decode cX8_leavePieces 57 = .ok (.lcmp, 1) := by decide +kernel
theorem dX8_leavePieces_58 : decode cX8_leavePieces 58 = .ok (.ifCond .ne 6, 3) := by decide +kernel
theorem dX8_leavePieces_61 : decode cX8_leavePieces 61 = .ok (.goto 60, 3) := by decide +kernel
theorem dX8_leavePieces_64 : decode cX8_leavePieces 64 = .ok (.iload_n 2, 1) := by decide +kernel
theorem dX8_leavePieces_65 : decode cX8_leavePieces 65 = .ok (.ifCond .eq 54, 3) := by decide +kernel
theorem dX8_leavePieces_68 : decode cX8_leavePieces 68 = .ok (.aload_n 0, 1) := by decide +kernel
theorem dX8_leavePieces_69 : decode cX8_leavePieces 69 = .ok (.getfield 35, 3) := by decide +kernel
theorem dX8_leavePieces_72 : decode cX8_leavePieces 72 = .ok (.aload_n 0, 1) := by decide +kernel
theorem dX8_leavePieces_73 : decode cX8_leavePieces 73 = .ok (.getfield 206, 3) := by decide +kernel
theorem dX8_leavePieces_76 : decode cX8_leavePieces 76 = .ok (.lload 4, 2) := by decide +kernel
theorem dX8_leavePieces_78 : decode cX8_leavePieces 78 = .ok (.bipush 13, 2) := by decide +kernel
theorem dX8_leavePieces_80 : decode cX8_leavePieces 80 = .ok (.lshr, 1) := by decide +kernel
theorem dX8_leavePieces_81 : decode cX8_leavePieces 81 = .ok (.l2i, 1) := by decide +kernel
theorem dX8_leavePieces_82 : decode cX8_leavePieces 82 = .ok (.iastore, 1) := by decide +kernel
theorem dX8_leavePieces_83 : decode cX8_leavePieces 83 = .ok (.aload_n 0, 1) := by decide +kernel
theorem dX8_leavePieces_84 : decode cX8_leavePieces 84 = .ok (.getfield 38, 3) := by decide +kernel
theorem dX8_leavePieces_87 : decode cX8_leavePieces 87 = .ok (.aload_n 0, 1) := by decide +kernel
theorem dX8_leavePieces_88 : decode cX8_leavePieces 88 = .ok (.getfield 206, 3) := by decide +kernel
theorem dX8_leavePieces_91 : decode cX8_leavePieces 91 = .ok (.lload 4, 2) := by decide +kernel
theorem dX8_leavePieces_93 : decode cX8_leavePieces 93 = .ok (.ldc2_w 211, 3) := by decide +kernel
theorem dX8_leavePieces_96 : decode cX8_leavePieces 96 = .ok (.land, 1) := by decide +kernel
theorem dX8_leavePieces_97 : decode cX8_leavePieces 97 = .ok (.l2i, 1) := by decide +kernel
theorem dX8_leavePieces_98 : decode cX8_leavePieces 98 = .ok (.iastore, 1) := by decide +kernel
theorem dX8_leavePieces_99 : decode cX8_leavePieces 99 = .ok (.aload_n 0, 1) := by decide +kernel
theorem dX8_leavePieces_100 : decode cX8_leavePieces 100 = .ok (.getfield 41, 3) := by decide +kernel
theorem dX8_leavePieces_103 : decode cX8_leavePieces 103 = .ok (.aload_n 0, 1) := by decide +kernel
theorem dX8_leavePieces_104 : decode cX8_leavePieces 104 = .ok (.getfield 206, 3) := by decide +kernel
theorem dX8_leavePieces_107 : decode cX8_leavePieces 107 = .ok (.iload_n 2, 1) := by decide +kernel
theorem dX8_leavePieces_108 : decode cX8_leavePieces 108 = .ok (.iastore, 1) := by decide +kernel
theorem dX8_leavePieces_109 : decode cX8_leavePieces 109 = .ok (.aload_n 0, 1) := by decide +kernel
theorem dX8_leavePieces_110 : decode cX8_leavePieces 110 = .ok (.dup, 1) := by decide +kernel
theorem dX8_leavePieces_111 : decode cX8_leavePieces 111 = .ok (.getfield 206, 3) := by decide +kernel
theorem dX8_leavePieces_114 : decode cX8_leavePieces 114 = .ok (.iconst 1, 1) := by decide +kernel
theorem dX8_leavePieces_115 : decode cX8_leavePieces 115 = .ok (.iadd, 1) := by decide +kernel
theorem dX8_leavePieces_116 : decode cX8_leavePieces 116 = .ok (.putfield 206, 3) := by decide +kernel
theorem dX8_leavePieces_119 : decode cX8_leavePieces 119 = .ok (.iconst 0, 1) := by decide +kernel
theorem dX8_leavePieces_120 : decode cX8_leavePieces 120 = .ok (.istore_n 2, 1) := by decide +kernel
theorem dX8_leavePieces_121 : decode cX8_leavePieces 121 = .ok (.iinc 3 1, 3) := by decide +kernel
theorem dX8_leavePieces_124 : decode cX8_leavePieces 124 = .ok (.goto (-115), 3) := by decide +kernel
theorem dX8_leavePieces_127 : decode cX8_leavePieces 127 = .ok (.return_, 1) := by decide +kernel
abbrev M_X8_leavePieces : MRec := (yX8_leavePieces, cX8_leavePieces, 6, none, [])
theorem m_X8_leavePieces : en_M M_X8_leavePieces 1 := ⟨t_1485, t_9, ⟨by decide +kernel, by decide +kernel⟩, by decide +kernel, by decide +kernel, by decide +kernel⟩
theorem dX8_layChains_0 : decode cX8_layChains 0 = .ok (.aload_n 0, 1) := by decide +kernel
theorem dX8_layChains_1 : decode cX8_layChains 1 = .ok (.getfield 48, 3) := by decide +kernel
theorem dX8_layChains_4 : decode cX8_layChains 4 = .ok (.istore_n 1, 1) := by decide +kernel
theorem dX8_layChains_5 : decode cX8_layChains 5 = .ok (.iconst 0, 1) := by decide +kernel
theorem dX8_layChains_6 : decode cX8_layChains 6 = .ok (.istore_n 2, 1) := by decide +kernel
theorem dX8_layChains_7 : decode cX8_layChains 7 = .ok (.iconst 0, 1) := by decide +kernel
theorem dX8_layChains_8 : decode cX8_layChains 8 = .ok (.istore_n 3, 1) := by decide +kernel
theorem dX8_layChains_9 : decode cX8_layChains 9 = .ok (.iload_n 3, 1) := by decide +kernel
theorem dX8_layChains_10 : decode cX8_layChains 10 = .ok (.aload_n 0, 1) := by decide +kernel
theorem dX8_layChains_11 : decode cX8_layChains 11 = .ok (.getfield 14, 3) := by decide +kernel
theorem dX8_layChains_14 : decode cX8_layChains 14 = .ok (.getfield 44, 3) := by decide +kernel
theorem dX8_layChains_17 : decode cX8_layChains 17 = .ok (.if_icmp .ge 122, 3) := by decide +kernel
theorem dX8_layChains_20 : decode cX8_layChains 20 = .ok (.aload_n 0, 1) := by decide +kernel
theorem dX8_layChains_21 : decode cX8_layChains 21 = .ok (.iload_n 3, 1) := by decide +kernel
theorem dX8_layChains_22 : decode cX8_layChains 22 = .ok (.invokevirtual 174, 3) := by decide +kernel
theorem dX8_layChains_25 : decode cX8_layChains 25 = .ok (.istore 4, 2) := by decide +kernel
theorem dX8_layChains_27 : decode cX8_layChains 27 = .ok (.iload_n 1, 1) := by decide +kernel
theorem dX8_layChains_28 : decode cX8_layChains 28 = .ok (.iload 4, 2) := by decide +kernel
theorem dX8_layChains_30 : decode cX8_layChains 30 = .ok (.iadd, 1) := by decide +kernel
theorem dX8_layChains_31 : decode cX8_layChains 31 = .ok (.istore_n 1, 1) := by decide +kernel
theorem dX8_layChains_32 : decode cX8_layChains 32 = .ok (.iload_n 1, 1) := by decide +kernel
theorem dX8_layChains_33 : decode cX8_layChains 33 = .ok (.sipush 16384, 3) := by decide +kernel
theorem dX8_layChains_36 : decode cX8_layChains 36 = .ok (.if_icmp .le 5, 3) := by decide +kernel
theorem dX8_layChains_39 : decode cX8_layChains 39 = .ok (.iconst 0, 1) := by decide +kernel
theorem dX8_layChains_40 : decode cX8_layChains 40 = .ok (.ireturn, 1) := by decide +kernel
theorem dX8_layChains_41 : decode cX8_layChains 41 = .ok (.iconst 0, 1) := by decide +kernel
theorem dX8_layChains_42 : decode cX8_layChains 42 = .ok (.istore 5, 2) := by decide +kernel
theorem dX8_layChains_44 : decode cX8_layChains 44 = .ok (.iload 5, 2) := by decide +kernel
theorem dX8_layChains_46 : decode cX8_layChains 46 = .ok (.iconst 1, 1) := by decide +kernel
theorem dX8_layChains_47 : decode cX8_layChains 47 = .ok (.iadd, 1) := by decide +kernel
theorem dX8_layChains_48 : decode cX8_layChains 48 = .ok (.iload 4, 2) := by decide +kernel
theorem dX8_layChains_50 : decode cX8_layChains 50 = .ok (.if_icmp .ge 83, 3) := by decide +kernel
theorem dX8_layChains_53 : decode cX8_layChains 53 = .ok (.aload_n 0, 1) := by decide +kernel
theorem dX8_layChains_54 : decode cX8_layChains 54 = .ok (.getfield 25, 3) := by decide +kernel
theorem dX8_layChains_57 : decode cX8_layChains 57 = .ok (.iload 5, 2) := by decide +kernel
theorem dX8_layChains_59 : decode cX8_layChains 59 = .ok (.iaload, 1) := by decide +kernel
theorem dX8_layChains_60 : decode cX8_layChains 60 = .ok (.aload_n 0, 1) := by decide +kernel
theorem dX8_layChains_61 : decode cX8_layChains 61 = .ok (.getfield 25, 3) := by decide +kernel
theorem dX8_layChains_64 : decode cX8_layChains 64 = .ok (.iload 5, 2) := by decide +kernel
theorem dX8_layChains_66 : decode cX8_layChains 66 = .ok (.iconst 1, 1) := by decide +kernel
theorem dX8_layChains_67 : decode cX8_layChains 67 = .ok (.iadd, 1) := by decide +kernel
theorem dX8_layChains_68 : decode cX8_layChains 68 = .ok (.iaload, 1) := by decide +kernel
theorem dX8_layChains_69 : decode cX8_layChains 69 = .ok (.invokestatic 177, 3) := by decide +kernel
theorem dX8_layChains_72 : decode cX8_layChains 72 = .ok (.i2l, 1) := by decide +kernel
theorem dX8_layChains_73 : decode cX8_layChains 73 = .ok (.lstore 6, 2) := by decide +kernel
theorem dX8_layChains_75 : decode cX8_layChains 75 = .ok (.aload_n 0, 1) := by decide +kernel
theorem dX8_layChains_76 : decode cX8_layChains 76 = .ok (.getfield 25, 3) := by decide +kernel
theorem dX8_layChains_79 : decode cX8_layChains 79 = .ok (.iload 5, 2) := by decide +kernel
theorem dX8_layChains_81 : decode cX8_layChains 81 = .ok (.iaload, 1) := by decide +kernel
theorem dX8_layChains_82 : decode cX8_layChains 82 = .ok (.aload_n 0, 1) := by decide +kernel
theorem dX8_layChains_83 : decode cX8_layChains 83 = .ok (.getfield 25, 3) := by decide +kernel
theorem dX8_layChains_86 : decode cX8_layChains 86 = .ok (.iload 5, 2) := by decide +kernel
theorem dX8_layChains_88 : decode cX8_layChains 88 = .ok (.iconst 1, 1) := by decide +kernel
theorem dX8_layChains_89 : decode cX8_layChains 89 = .ok (.iadd, 1) := by decide +kernel
theorem dX8_layChains_90 : decode cX8_layChains 90 = .ok (.iaload, 1) := by decide +kernel
theorem dX8_layChains_91 : decode cX8_layChains 91 = .ok (.invokestatic 180, 3) := by decide +kernel
theorem dX8_layChains_94 : decode cX8_layChains 94 = .ok (.i2l, 1) := by decide +kernel
theorem dX8_layChains_95 : decode cX8_layChains 95 = .ok (.lstore 8, 2) := by decide +kernel
theorem dX8_layChains_97 : decode cX8_layChains 97 = .ok (.aload_n 0, 1) := by decide +kernel
theorem dX8_layChains_98 : decode cX8_layChains 98 = .ok (.getfield 22, 3) := by decide +kernel
theorem dX8_layChains_101 : decode cX8_layChains 101 = .ok (.iload_n 2, 1) := by decide +kernel
theorem dX8_layChains_102 : decode cX8_layChains 102 = .ok (.lload 6, 2) := by decide +kernel
theorem dX8_layChains_104 : decode cX8_layChains 104 = .ok (.bipush 13, 2) := by decide +kernel
theorem dX8_layChains_106 : decode cX8_layChains 106 = .ok (.lshl, 1) := by decide +kernel
theorem dX8_layChains_107 : decode cX8_layChains 107 = .ok (.lload 8, 2) := by decide +kernel
theorem dX8_layChains_109 : decode cX8_layChains 109 = .ok (.lor, 1) := by decide +kernel
theorem dX8_layChains_110 : decode cX8_layChains 110 = .ok (.iconst 2, 1) := by decide +kernel
theorem dX8_layChains_111 : decode cX8_layChains 111 = .ok (.lshl, 1) := by decide +kernel
theorem dX8_layChains_112 : decode cX8_layChains 112 = .ok (.aload_n 0, 1) := by decide +kernel
theorem dX8_layChains_113 : decode cX8_layChains 113 = .ok (.getfield 14, 3) := by decide +kernel
theorem dX8_layChains_116 : decode cX8_layChains 116 = .ok (.getfield 183, 3) := by decide +kernel
theorem dX8_layChains_119 : decode cX8_layChains 119 = .ok (.iload_n 3, 1) := by decide +kernel
theorem dX8_layChains_120 : decode cX8_layChains 120 = .ok (.iaload, 1) := by decide +kernel
theorem dX8_layChains_121 : decode cX8_layChains 121 = .ok (.i2l, 1) := by decide +kernel
theorem dX8_layChains_122 : decode cX8_layChains 122 = .ok (.lor, 1) := by decide +kernel
theorem dX8_layChains_123 : decode cX8_layChains 123 = .ok (.lastore, 1) := by decide +kernel
theorem dX8_layChains_124 : decode cX8_layChains 124 = .ok (.iinc 2 1, 3) := by decide +kernel
theorem dX8_layChains_127 : decode cX8_layChains 127 = .ok (.iinc 5 1, 3) := by decide +kernel
theorem dX8_layChains_130 : decode cX8_layChains 130 = .ok (.goto (-86), 3) := by decide +kernel
theorem dX8_layChains_133 : decode cX8_layChains 133 = .ok (.iinc 3 1, 3) := by decide +kernel
theorem dX8_layChains_136 : decode cX8_layChains 136 = .ok (.goto (-127), 3) := by decide +kernel
theorem dX8_layChains_139 : decode cX8_layChains 139 = .ok (.aload_n 0, 1) := by decide +kernel
theorem dX8_layChains_140 : decode cX8_layChains 140 = .ok (.getfield 22, 3) := by decide +kernel
theorem dX8_layChains_143 : decode cX8_layChains 143 = .ok (.iload_n 2, 1) := by decide +kernel
theorem dX8_layChains_144 : decode cX8_layChains 144 = .ok (.invokestatic 114, 3) := by decide +kernel
theorem dX8_layChains_147 : decode cX8_layChains 147 = .ok (.aload_n 0, 1) := by decide +kernel
theorem dX8_layChains_148 : decode cX8_layChains 148 = .ok (.iload_n 2, 1) := by decide +kernel
theorem dX8_layChains_149 : decode cX8_layChains 149 = .ok (.invokevirtual 186, 3) := by decide +kernel
theorem dX8_layChains_152 : decode cX8_layChains 152 = .ok (.iconst 1, 1) := by decide +kernel
theorem dX8_layChains_153 : decode cX8_layChains 153 = .ok (.ireturn, 1) := by decide +kernel
abbrev M_X8_layChains : MRec := (yX8_layChains, cX8_layChains, 10, (some Jvm.ClassFile.FieldType.boolean), [])
theorem m_X8_layChains : en_M M_X8_layChains 0 := ⟨t_1462, t_9, ⟨by decide +kernel, by decide +kernel⟩, by decide +kernel, by decide +kernel, by decide +kernel⟩
theorem dX11_keyX_0 : decode cX11_keyX 0 = .ok (.lload_n 0, 1) := by decide +kernel
theorem dX11_keyX_1 : decode cX11_keyX 1 = .ok (.bipush 32, 2) := by decide +kernel
theorem dX11_keyX_3 : decode cX11_keyX 3 = .ok (.lshr, 1) := by decide +kernel
theorem dX11_keyX_4 : decode cX11_keyX 4 = .ok (.l2i, 1) := by decide +kernel
theorem dX11_keyX_5 : decode cX11_keyX 5 = .ok (.ireturn, 1) := by decide +kernel
abbrev M_X11_keyX : MRec := (yX11_keyX, cX11_keyX, 2, (some Jvm.ClassFile.FieldType.int), [])
theorem m_X11_keyX : en_M M_X11_keyX 1 := ⟨t_1455, t_1, ⟨by decide +kernel, by decide +kernel⟩, by decide +kernel, by decide +kernel, by decide +kernel⟩
theorem dX11_keyY_0 : decode cX11_keyY 0 = .ok (.lload_n 0, 1) := by decide +kernel
theorem dX11_keyY_1 : decode cX11_keyY 1 = .ok (.l2i, 1) := by decide +kernel
theorem dX11_keyY_2 : decode cX11_keyY 2 = .ok (.ldc_w 370, 3) := by decide +kernel
theorem dX11_keyY_5 : decode cX11_keyY 5 = .ok (.ixor, 1) := by decide +kernel
theorem dX11_keyY_6 : decode cX11_keyY 6 = .ok (.ireturn, 1) := by decide +kernel
abbrev M_X11_keyY : MRec := (yX11_keyY, cX11_keyY, 2, (some Jvm.ClassFile.FieldType.int), [])
theorem m_X11_keyY : en_M M_X11_keyY 1 := ⟨t_1458, t_1, ⟨by decide +kernel, by decide +kernel⟩, by decide +kernel, by decide +kernel, by decide +kernel⟩
theorem dX8_sortHot_0 : decode cX8_sortHot 0 = .ok (.aload_n 0, 1) := by decide +kernel
theorem dX8_sortHot_1 : decode cX8_sortHot 1 = .ok (.invokevirtual 105, 3) := by decide +kernel
theorem dX8_sortHot_4 : decode cX8_sortHot 4 = .ok (.ifCond .ne 5, 3) := by decide +kernel
theorem dX8_sortHot_7 : decode cX8_sortHot 7 = .ok (.iconst 0, 1) := by decide +kernel
theorem dX8_sortHot_8 : decode cX8_sortHot 8 = .ok (.ireturn, 1) := by decide +kernel
theorem dX8_sortHot_9 : decode cX8_sortHot 9 = .ok (.aload_n 0, 1) := by decide +kernel
theorem dX8_sortHot_10 : decode cX8_sortHot 10 = .ok (.aload_n 0, 1) := by decide +kernel
theorem dX8_sortHot_11 : decode cX8_sortHot 11 = .ok (.getfield 51, 3) := by decide +kernel
theorem dX8_sortHot_14 : decode cX8_sortHot 14 = .ok (.putfield 164, 3) := by decide +kernel
theorem dX8_sortHot_17 : decode cX8_sortHot 17 = .ok (.iconst 0, 1) := by decide +kernel
theorem dX8_sortHot_18 : decode cX8_sortHot 18 = .ok (.istore_n 1, 1) := by decide +kernel
theorem dX8_sortHot_19 : decode cX8_sortHot 19 = .ok (.iload_n 1, 1) := by decide +kernel
theorem dX8_sortHot_20 : decode cX8_sortHot 20 = .ok (.aload_n 0, 1) := by decide +kernel
theorem dX8_sortHot_21 : decode cX8_sortHot 21 = .ok (.getfield 164, 3) := by decide +kernel
theorem dX8_sortHot_24 : decode cX8_sortHot 24 = .ok (.if_icmp .ge 39, 3) := by decide +kernel
theorem dX8_sortHot_27 : decode cX8_sortHot 27 = .ok (.aload_n 0, 1) := by decide +kernel
theorem dX8_sortHot_28 : decode cX8_sortHot 28 = .ok (.getfield 29, 3) := by decide +kernel
theorem dX8_sortHot_31 : decode cX8_sortHot 31 = .ok (.iload_n 1, 1) := by decide +kernel
theorem dX8_sortHot_32 : decode cX8_sortHot 32 = .ok (.aload_n 0, 1) := by decide +kernel
theorem dX8_sortHot_33 : decode cX8_sortHot 33 = .ok (.getfield 18, 3) := by decide +kernel
theorem dX8_sortHot_36 : decode cX8_sortHot 36 = .ok (.iload_n 1, 1) := by decide +kernel
theorem dX8_sortHot_37 : decode cX8_sortHot 37 = .ok (.laload, 1) := by decide +kernel
theorem dX8_sortHot_38 : decode cX8_sortHot 38 = .ok (.invokestatic 167, 3) := by decide +kernel
theorem dX8_sortHot_41 : decode cX8_sortHot 41 = .ok (.iastore, 1) := by decide +kernel
theorem dX8_sortHot_42 : decode cX8_sortHot 42 = .ok (.aload_n 0, 1) := by decide +kernel
theorem dX8_sortHot_43 : decode cX8_sortHot 43 = .ok (.getfield 32, 3) := by decide +kernel
theorem dX8_sortHot_46 : decode cX8_sortHot 46 = .ok (.iload_n 1, 1) := by decide +kernel
theorem dX8_sortHot_47 : decode cX8_sortHot 47 = .ok (.aload_n 0, 1) := by decide +kernel
theorem dX8_sortHot_48 : decode cX8_sortHot 48 = .ok (.getfield 18, 3) := by decide +kernel
theorem dX8_sortHot_51 : decode cX8_sortHot 51 = .ok (.iload_n 1, 1) := by decide +kernel
theorem dX8_sortHot_52 : decode cX8_sortHot 52 = .ok (.laload, 1) := by decide +kernel
theorem dX8_sortHot_53 : decode cX8_sortHot 53 = .ok (.invokestatic 171, 3) := by decide +kernel
theorem dX8_sortHot_56 : decode cX8_sortHot 56 = .ok (.iastore, 1) := by decide +kernel
theorem dX8_sortHot_57 : decode cX8_sortHot 57 = .ok (.iinc 1 1, 3) := by decide +kernel
theorem dX8_sortHot_60 : decode cX8_sortHot 60 = .ok (.goto (-41), 3) := by decide +kernel
theorem dX8_sortHot_63 : decode cX8_sortHot 63 = .ok (.iconst 1, 1) := by decide +kernel
theorem dX8_sortHot_64 : decode cX8_sortHot 64 = .ok (.ireturn, 1) := by decide +kernel
abbrev M_X8_sortHot : MRec := (yX8_sortHot, cX8_sortHot, 2, (some Jvm.ClassFile.FieldType.boolean), [])
theorem m_X8_sortHot : en_M M_X8_sortHot 0 := ⟨t_1452, t_9, ⟨by decide +kernel, by decide +kernel⟩, by decide +kernel, by decide +kernel, by decide +kernel⟩
