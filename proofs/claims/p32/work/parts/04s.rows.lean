theorem dX12_gatherTriangles_0 : decode cX12_gatherTriangles 0 = .ok (.aload_n 0, 1) := by decide +kernel
theorem dX12_gatherTriangles_1 : decode cX12_gatherTriangles 1 = .ok (.iconst 0, 1) := by decide +kernel
theorem dX12_gatherTriangles_2 : decode cX12_gatherTriangles 2 = .ok (.putfield 1073, 3) := by decide +kernel
theorem dX12_gatherTriangles_5 : decode cX12_gatherTriangles 5 = .ok (.aload_n 0, 1) := by decide +kernel
theorem dX12_gatherTriangles_6 : decode cX12_gatherTriangles 6 = .ok (.iconst 0, 1) := by decide +kernel
theorem dX12_gatherTriangles_7 : decode cX12_gatherTriangles 7 = .ok (.putfield 1080, 3) := by decide +kernel
theorem dX12_gatherTriangles_10 : decode cX12_gatherTriangles 10 = .ok (.aload_n 0, 1) := by decide +kernel
theorem dX12_gatherTriangles_11 : decode cX12_gatherTriangles 11 = .ok (.getfield 1040, 3) := by decide +kernel
theorem dX12_gatherTriangles_14 : decode cX12_gatherTriangles 14 = .ok (.iconst 3, 1) := by decide +kernel
theorem dX12_gatherTriangles_15 : decode cX12_gatherTriangles 15 = .ok (.if_icmp .ge 4, 3) := by decide +kernel
theorem dX12_gatherTriangles_18 : decode cX12_gatherTriangles 18 = .ok (.return_, 1) := by decide +kernel
theorem dX12_gatherTriangles_19 : decode cX12_gatherTriangles 19 = .ok (.iconst 0, 1) := by decide +kernel
theorem dX12_gatherTriangles_20 : decode cX12_gatherTriangles 20 = .ok (.istore_n 1, 1) := by decide +kernel
theorem dX12_gatherTriangles_21 : decode cX12_gatherTriangles 21 = .ok (.iload_n 1, 1) := by decide +kernel
theorem dX12_gatherTriangles_22 : decode cX12_gatherTriangles 22 = .ok (.sipush 1024, 3) := by decide +kernel
theorem dX12_gatherTriangles_25 : decode cX12_gatherTriangles 25 = .ok (.aload_n 0, 1) := by decide +kernel
theorem dX12_gatherTriangles_26 : decode cX12_gatherTriangles 26 = .ok (.getfield 1040, 3) := by decide +kernel
theorem dX12_gatherTriangles_29 : decode cX12_gatherTriangles 29 = .ok (.imul, 1) := by decide +kernel
theorem dX12_gatherTriangles_30 : decode cX12_gatherTriangles 30 = .ok (.if_icmp .ge 16, 3) := by decide +kernel
theorem dX12_gatherTriangles_33 : decode cX12_gatherTriangles 33 = .ok (.aload_n 0, 1) := by decide +kernel
theorem dX12_gatherTriangles_34 : decode cX12_gatherTriangles 34 = .ok (.getfield 231, 3) := by decide +kernel
theorem dX12_gatherTriangles_37 : decode cX12_gatherTriangles 37 = .ok (.iload_n 1, 1) := by decide +kernel
theorem dX12_gatherTriangles_38 : decode cX12_gatherTriangles 38 = .ok (.iconst 0, 1) := by decide +kernel
theorem dX12_gatherTriangles_39 : decode cX12_gatherTriangles 39 = .ok (.bastore, 1) := by decide +kernel
theorem dX12_gatherTriangles_40 : decode cX12_gatherTriangles 40 = .ok (.iinc 1 1, 3) := by decide +kernel
theorem dX12_gatherTriangles_43 : decode cX12_gatherTriangles 43 = .ok (.goto (-22), 3) := by decide +kernel
theorem dX12_gatherTriangles_46 : decode cX12_gatherTriangles 46 = .ok (.aload_n 0, 1) := by decide +kernel
theorem dX12_gatherTriangles_47 : decode cX12_gatherTriangles 47 = .ok (.invokevirtual 1055, 3) := by decide +kernel
theorem dX12_gatherTriangles_50 : decode cX12_gatherTriangles 50 = .ok (.istore_n 1, 1) := by decide +kernel
theorem dX12_gatherTriangles_51 : decode cX12_gatherTriangles 51 = .ok (.aload_n 0, 1) := by decide +kernel
theorem dX12_gatherTriangles_52 : decode cX12_gatherTriangles 52 = .ok (.iload_n 1, 1) := by decide +kernel
theorem dX12_gatherTriangles_53 : decode cX12_gatherTriangles 53 = .ok (.aload_n 0, 1) := by decide +kernel
theorem dX12_gatherTriangles_54 : decode cX12_gatherTriangles 54 = .ok (.iload_n 1, 1) := by decide +kernel
theorem dX12_gatherTriangles_55 : decode cX12_gatherTriangles 55 = .ok (.iconst 1, 1) := by decide +kernel
theorem dX12_gatherTriangles_56 : decode cX12_gatherTriangles 56 = .ok (.invokevirtual 1058, 3) := by decide +kernel
theorem dX12_gatherTriangles_59 : decode cX12_gatherTriangles 59 = .ok (.invokevirtual 1083, 3) := by decide +kernel
theorem dX12_gatherTriangles_62 : decode cX12_gatherTriangles 62 = .ok (.aload_n 0, 1) := by decide +kernel
theorem dX12_gatherTriangles_63 : decode cX12_gatherTriangles 63 = .ok (.getfield 1080, 3) := by decide +kernel
theorem dX12_gatherTriangles_66 : decode cX12_gatherTriangles 66 = .ok (.ifCond .le 208, 3) := by decide +kernel
theorem dX12_gatherTriangles_69 : decode cX12_gatherTriangles 69 = .ok (.aload_n 0, 1) := by decide +kernel
theorem dX12_gatherTriangles_70 : decode cX12_gatherTriangles 70 = .ok (.dup, 1) := by decide +kernel
theorem dX12_gatherTriangles_71 : decode cX12_gatherTriangles 71 = .ok (.getfield 1080, 3) := by decide +kernel
theorem dX12_gatherTriangles_74 : decode cX12_gatherTriangles 74 = .ok (.iconst 1, 1) := by decide +kernel
theorem dX12_gatherTriangles_75 : decode cX12_gatherTriangles 75 = .ok (.isub, 1) := by decide +kernel
theorem dX12_gatherTriangles_76 : decode cX12_gatherTriangles 76 = .ok (.putfield 1080, 3) := by decide +kernel
theorem dX12_gatherTriangles_79 : decode cX12_gatherTriangles 79 = .ok (.aload_n 0, 1) := by decide +kernel
theorem dX12_gatherTriangles_80 : decode cX12_gatherTriangles 80 = .ok (.getfield 234, 3) := by decide +kernel
theorem dX12_gatherTriangles_83 : decode cX12_gatherTriangles 83 = .ok (.aload_n 0, 1) := by decide +kernel
theorem dX12_gatherTriangles_84 : decode cX12_gatherTriangles 84 = .ok (.getfield 1080, 3) := by decide +kernel
theorem dX12_gatherTriangles_87 : decode cX12_gatherTriangles 87 = .ok (.iaload, 1) := by decide +kernel
theorem dX12_gatherTriangles_88 : decode cX12_gatherTriangles 88 = .ok (.istore_n 2, 1) := by decide +kernel
theorem dX12_gatherTriangles_89 : decode cX12_gatherTriangles 89 = .ok (.aload_n 0, 1) := by decide +kernel
theorem dX12_gatherTriangles_90 : decode cX12_gatherTriangles 90 = .ok (.getfield 237, 3) := by decide +kernel
theorem dX12_gatherTriangles_93 : decode cX12_gatherTriangles 93 = .ok (.aload_n 0, 1) := by decide +kernel
theorem dX12_gatherTriangles_94 : decode cX12_gatherTriangles 94 = .ok (.getfield 1080, 3) := by decide +kernel
theorem dX12_gatherTriangles_97 : decode cX12_gatherTriangles 97 = .ok (.iaload, 1) := by decide +kernel
theorem dX12_gatherTriangles_98 : decode cX12_gatherTriangles 98 = .ok (.istore_n 3, 1) := by decide +kernel
theorem dX12_gatherTriangles_99 : decode cX12_gatherTriangles 99 = .ok (.aload_n 0, 1) := by decide +kernel
theorem dX12_gatherTriangles_100 : decode cX12_gatherTriangles 100 = .ok (.getfield 231, 3) := by decide +kernel
theorem dX12_gatherTriangles_103 : decode cX12_gatherTriangles 103 = .ok (.sipush 1024, 3) := by decide +kernel
theorem dX12_gatherTriangles_106 : decode cX12_gatherTriangles 106 = .ok (.iload_n 2, 1) := by decide +kernel
theorem dX12_gatherTriangles_107 : decode cX12_gatherTriangles 107 = .ok (.imul, 1) := by decide +kernel
theorem dX12_gatherTriangles_108 : decode cX12_gatherTriangles 108 = .ok (.iload_n 3, 1) := by decide +kernel
theorem dX12_gatherTriangles_109 : decode cX12_gatherTriangles 109 = .ok (.iadd, 1) := by decide +kernel
theorem dX12_gatherTriangles_110 : decode cX12_gatherTriangles 110 = .ok (.baload, 1) := by decide +kernel
theorem dX12_gatherTriangles_111 : decode cX12_gatherTriangles 111 = .ok (.ifCond .eq 6, 3) := by decide +kernel
theorem dX12_gatherTriangles_114 : decode cX12_gatherTriangles 114 = .ok (.goto (-52), 3) := by decide +kernel
theorem dX12_gatherTriangles_117 : decode cX12_gatherTriangles 117 = .ok (.aload_n 0, 1) := by decide +kernel
theorem dX12_gatherTriangles_118 : decode cX12_gatherTriangles 118 = .ok (.iload_n 2, 1) := by decide +kernel
theorem dX12_gatherTriangles_119 : decode cX12_gatherTriangles 119 = .ok (.iload_n 3, 1) := by decide +kernel
theorem dX12_gatherTriangles_120 : decode cX12_gatherTriangles 120 = .ok (.invokevirtual 1086, 3) := by decide +kernel
theorem dX12_gatherTriangles_123 : decode cX12_gatherTriangles 123 = .ok (.istore 4, 2) := by decide +kernel
theorem dX12_gatherTriangles_125 : decode cX12_gatherTriangles 125 = .ok (.iload 4, 2) := by decide +kernel
theorem dX12_gatherTriangles_127 : decode cX12_gatherTriangles 127 = .ok (.iconst (-1), 1) := by decide +kernel
theorem dX12_gatherTriangles_128 : decode cX12_gatherTriangles 128 = .ok (.if_icmp .ne 6, 3) := by decide +kernel
theorem dX12_gatherTriangles_131 : decode cX12_gatherTriangles 131 = .ok (.goto (-69), 3) := by decide +kernel
theorem dX12_gatherTriangles_134 : decode cX12_gatherTriangles 134 = .ok (.aload_n 0, 1) := by decide +kernel
theorem dX12_gatherTriangles_135 : decode cX12_gatherTriangles 135 = .ok (.iload_n 2, 1) := by decide +kernel
theorem dX12_gatherTriangles_136 : decode cX12_gatherTriangles 136 = .ok (.iload_n 3, 1) := by decide +kernel
theorem dX12_gatherTriangles_137 : decode cX12_gatherTriangles 137 = .ok (.iload 4, 2) := by decide +kernel
theorem dX12_gatherTriangles_139 : decode cX12_gatherTriangles 139 = .ok (.invokevirtual 1089, 3) := by decide +kernel
theorem dX12_gatherTriangles_142 : decode cX12_gatherTriangles 142 = .ok (.iconst 0, 1) := by decide +kernel
theorem dX12_gatherTriangles_143 : decode cX12_gatherTriangles 143 = .ok (.istore 5, 2) := by decide +kernel
theorem dX12_gatherTriangles_145 : decode cX12_gatherTriangles 145 = .ok (.iload 5, 2) := by decide +kernel
theorem dX12_gatherTriangles_147 : decode cX12_gatherTriangles 147 = .ok (.aload_n 0, 1) := by decide +kernel
theorem dX12_gatherTriangles_148 : decode cX12_gatherTriangles 148 = .ok (.getfield 1070, 3) := by decide +kernel
theorem dX12_gatherTriangles_151 : decode cX12_gatherTriangles 151 = .ok (.if_icmp .ge 74, 3) := by decide +kernel
theorem dX12_gatherTriangles_154 : decode cX12_gatherTriangles 154 = .ok (.aload_n 0, 1) := by decide +kernel
theorem dX12_gatherTriangles_155 : decode cX12_gatherTriangles 155 = .ok (.getfield 240, 3) := by decide +kernel
theorem dX12_gatherTriangles_158 : decode cX12_gatherTriangles 158 = .ok (.iload 5, 2) := by decide +kernel
theorem dX12_gatherTriangles_160 : decode cX12_gatherTriangles 160 = .ok (.iaload, 1) := by decide +kernel
theorem dX12_gatherTriangles_161 : decode cX12_gatherTriangles 161 = .ok (.istore 6, 2) := by decide +kernel
theorem dX12_gatherTriangles_163 : decode cX12_gatherTriangles 163 = .ok (.aload_n 0, 1) := by decide +kernel
theorem dX12_gatherTriangles_164 : decode cX12_gatherTriangles 164 = .ok (.getfield 240, 3) := by decide +kernel
theorem dX12_gatherTriangles_167 : decode cX12_gatherTriangles 167 = .ok (.iload 5, 2) := by decide +kernel
theorem dX12_gatherTriangles_169 : decode cX12_gatherTriangles 169 = .ok (.iconst 1, 1) := by decide +kernel
theorem dX12_gatherTriangles_170 : decode cX12_gatherTriangles 170 = .ok (.iadd, 1) := by decide +kernel
theorem dX12_gatherTriangles_171 : decode cX12_gatherTriangles 171 = .ok (.aload_n 0, 1) := by decide +kernel
theorem dX12_gatherTriangles_172 : decode cX12_gatherTriangles 172 = .ok (.getfield 1070, 3) := by decide +kernel
theorem dX12_gatherTriangles_175 : decode cX12_gatherTriangles 175 = .ok (.irem, 1) := by decide +kernel
theorem dX12_gatherTriangles_176 : decode cX12_gatherTriangles 176 = .ok (.iaload, 1) := by decide +kernel
theorem dX12_gatherTriangles_177 : decode cX12_gatherTriangles 177 = .ok (.istore 7, 2) := by decide +kernel
theorem dX12_gatherTriangles_179 : decode cX12_gatherTriangles 179 = .ok (.aload_n 0, 1) := by decide +kernel
theorem dX12_gatherTriangles_180 : decode cX12_gatherTriangles 180 = .ok (.getfield 231, 3) := by decide +kernel
theorem dX12_gatherTriangles_183 : decode cX12_gatherTriangles 183 = .ok (.sipush 1024, 3) := by decide +kernel
theorem dX12_gatherTriangles_186 : decode cX12_gatherTriangles 186 = .ok (.iload 6, 2) := by decide +kernel
theorem dX12_gatherTriangles_188 : decode cX12_gatherTriangles 188 = .ok (.imul, 1) := by decide +kernel
theorem dX12_gatherTriangles_189 : decode cX12_gatherTriangles 189 = .ok (.iload 7, 2) := by decide +kernel
theorem dX12_gatherTriangles_191 : decode cX12_gatherTriangles 191 = .ok (.iadd, 1) := by decide +kernel
theorem dX12_gatherTriangles_192 : decode cX12_gatherTriangles 192 = .ok (.iconst 1, 1) := by decide +kernel
theorem dX12_gatherTriangles_193 : decode cX12_gatherTriangles 193 = .ok (.bastore, 1) := by decide +kernel
theorem dX12_gatherTriangles_194 : decode cX12_gatherTriangles 194 = .ok (.aload_n 0, 1) := by decide +kernel
theorem dX12_gatherTriangles_195 : decode cX12_gatherTriangles 195 = .ok (.getfield 231, 3) := by decide +kernel
theorem dX12_gatherTriangles_198 : decode cX12_gatherTriangles 198 = .ok (.sipush 1024, 3) := by decide +kernel
theorem dX12_gatherTriangles_201 : decode cX12_gatherTriangles 201 = .ok (.iload 7, 2) := by decide +kernel
theorem dX12_gatherTriangles_203 : decode cX12_gatherTriangles 203 = .ok (.imul, 1) := by decide +kernel
theorem dX12_gatherTriangles_204 : decode cX12_gatherTriangles 204 = .ok (.iload 6, 2) := by decide +kernel
theorem dX12_gatherTriangles_206 : decode cX12_gatherTriangles 206 = .ok (.iadd, 1) := by decide +kernel
theorem dX12_gatherTriangles_207 : decode cX12_gatherTriangles 207 = .ok (.baload, 1) := by decide +kernel
theorem dX12_gatherTriangles_208 : decode cX12_gatherTriangles 208 = .ok (.ifCond .ne 11, 3) := by decide +kernel
theorem dX12_gatherTriangles_211 : decode cX12_gatherTriangles 211 = .ok (.aload_n 0, 1) := by decide +kernel
theorem dX12_gatherTriangles_212 : decode cX12_gatherTriangles 212 = .ok (.iload 7, 2) := by decide +kernel
theorem dX12_gatherTriangles_214 : decode cX12_gatherTriangles 214 = .ok (.iload 6, 2) := by decide +kernel
theorem dX12_gatherTriangles_216 : decode cX12_gatherTriangles 216 = .ok (.invokevirtual 1083, 3) := by decide +kernel
theorem dX12_gatherTriangles_219 : decode cX12_gatherTriangles 219 = .ok (.iinc 5 1, 3) := by decide +kernel
theorem dX12_gatherTriangles_222 : decode cX12_gatherTriangles 222 = .ok (.goto (-77), 3) := by decide +kernel
theorem dX12_gatherTriangles_225 : decode cX12_gatherTriangles 225 = .ok (.iconst 1, 1) := by decide +kernel
theorem dX12_gatherTriangles_226 : decode cX12_gatherTriangles 226 = .ok (.istore 5, 2) := by decide +kernel
theorem dX12_gatherTriangles_228 : decode cX12_gatherTriangles 228 = .ok (.iload 5, 2) := by decide +kernel
theorem dX12_gatherTriangles_230 : decode cX12_gatherTriangles 230 = .ok (.iconst 1, 1) := by decide +kernel
theorem dX12_gatherTriangles_231 : decode cX12_gatherTriangles 231 = .ok (.iadd, 1) := by decide +kernel
theorem dX12_gatherTriangles_232 : decode cX12_gatherTriangles 232 = .ok (.aload_n 0, 1) := by decide +kernel
theorem dX12_gatherTriangles_233 : decode cX12_gatherTriangles 233 = .ok (.getfield 1070, 3) := by decide +kernel
theorem dX12_gatherTriangles_236 : decode cX12_gatherTriangles 236 = .ok (.if_icmp .ge 35, 3) := by decide +kernel
theorem dX12_gatherTriangles_239 : decode cX12_gatherTriangles 239 = .ok (.aload_n 0, 1) := by decide +kernel
theorem dX12_gatherTriangles_240 : decode cX12_gatherTriangles 240 = .ok (.aload_n 0, 1) := by decide +kernel
theorem dX12_gatherTriangles_241 : decode cX12_gatherTriangles 241 = .ok (.getfield 240, 3) := by decide +kernel
theorem dX12_gatherTriangles_244 : decode cX12_gatherTriangles 244 = .ok (.iconst 0, 1) := by decide +kernel
theorem dX12_gatherTriangles_245 : decode cX12_gatherTriangles 245 = .ok (.iaload, 1) := by decide +kernel
theorem dX12_gatherTriangles_246 : decode cX12_gatherTriangles 246 = .ok (.aload_n 0, 1) := by decide +kernel
theorem dX12_gatherTriangles_247 : decode cX12_gatherTriangles 247 = .ok (.getfield 240, 3) := by decide +kernel
theorem dX12_gatherTriangles_250 : decode cX12_gatherTriangles 250 = .ok (.iload 5, 2) := by decide +kernel
theorem dX12_gatherTriangles_252 : decode cX12_gatherTriangles 252 = .ok (.iaload, 1) := by decide +kernel
theorem dX12_gatherTriangles_253 : decode cX12_gatherTriangles 253 = .ok (.aload_n 0, 1) := by decide +kernel
theorem dX12_gatherTriangles_254 : decode cX12_gatherTriangles 254 = .ok (.getfield 240, 3) := by decide +kernel
theorem dX12_gatherTriangles_257 : decode cX12_gatherTriangles 257 = .ok (.iload 5, 2) := by decide +kernel
theorem dX12_gatherTriangles_259 : decode cX12_gatherTriangles 259 = .ok (.iconst 1, 1) := by decide +kernel
theorem dX12_gatherTriangles_260 : decode cX12_gatherTriangles 260 = .ok (.iadd, 1) := by decide +kernel
theorem dX12_gatherTriangles_261 : decode cX12_gatherTriangles 261 = .ok (.iaload, 1) := by decide +kernel
theorem dX12_gatherTriangles_262 : decode cX12_gatherTriangles 262 = .ok (.invokevirtual 1092, 3) := by decide +kernel
theorem dX12_gatherTriangles_265 : decode cX12_gatherTriangles 265 = .ok (.iinc 5 1, 3) := by decide +kernel
theorem dX12_gatherTriangles_268 : decode cX12_gatherTriangles 268 = .ok (.goto (-40), 3) := by decide +kernel
theorem dX12_gatherTriangles_271 : decode cX12_gatherTriangles 271 = .ok (.goto (-209), 3) := by decide +kernel
theorem dX12_gatherTriangles_274 : decode cX12_gatherTriangles 274 = .ok (.return_, 1) := by decide +kernel
theorem dX12_dotSpot_0 : decode cX12_dotSpot 0 = .ok (.aload_n 0, 1) := by decide +kernel
theorem dX12_dotSpot_1 : decode cX12_dotSpot 1 = .ok (.aload_n 0, 1) := by decide +kernel
theorem dX12_dotSpot_2 : decode cX12_dotSpot 2 = .ok (.getfield 221, 3) := by decide +kernel
theorem dX12_dotSpot_5 : decode cX12_dotSpot 5 = .ok (.iload_n 1, 1) := by decide +kernel
theorem dX12_dotSpot_6 : decode cX12_dotSpot 6 = .ok (.laload, 1) := by decide +kernel
theorem dX12_dotSpot_7 : decode cX12_dotSpot 7 = .ok (.aload_n 0, 1) := by decide +kernel
theorem dX12_dotSpot_8 : decode cX12_dotSpot 8 = .ok (.getfield 224, 3) := by decide +kernel
theorem dX12_dotSpot_11 : decode cX12_dotSpot 11 = .ok (.iload_n 1, 1) := by decide +kernel
theorem dX12_dotSpot_12 : decode cX12_dotSpot 12 = .ok (.laload, 1) := by decide +kernel
theorem dX12_dotSpot_13 : decode cX12_dotSpot 13 = .ok (.invokevirtual 412, 3) := by decide +kernel
theorem dX12_dotSpot_16 : decode cX12_dotSpot 16 = .ok (.return_, 1) := by decide +kernel
theorem dX12_triangles_0 : decode cX12_triangles 0 = .ok (.aload_n 0, 1) := by decide +kernel
theorem dX12_triangles_1 : decode cX12_triangles 1 = .ok (.iconst 0, 1) := by decide +kernel
theorem dX12_triangles_2 : decode cX12_triangles 2 = .ok (.putfield 271, 3) := by decide +kernel
theorem dX12_triangles_5 : decode cX12_triangles 5 = .ok (.aload_n 0, 1) := by decide +kernel
theorem dX12_triangles_6 : decode cX12_triangles 6 = .ok (.iload_n 1, 1) := by decide +kernel
theorem dX12_triangles_7 : decode cX12_triangles 7 = .ok (.invokestatic 440, 3) := by decide +kernel
theorem dX12_triangles_10 : decode cX12_triangles 10 = .ok (.ifCond .eq 10, 3) := by decide +kernel
theorem dX12_triangles_13 : decode cX12_triangles 13 = .ok (.iload_n 2, 1) := by decide +kernel
theorem dX12_triangles_14 : decode cX12_triangles 14 = .ok (.invokestatic 440, 3) := by decide +kernel
theorem dX12_triangles_17 : decode cX12_triangles 17 = .ok (.ifCond .ne 7, 3) := by decide +kernel
theorem dX12_triangles_20 : decode cX12_triangles 20 = .ok (.iconst 1, 1) := by decide +kernel
theorem dX12_triangles_21 : decode cX12_triangles 21 = .ok (.goto 4, 3) := by decide +kernel
theorem dX12_triangles_24 : decode cX12_triangles 24 = .ok (.iconst 0, 1) := by decide +kernel
theorem dX12_triangles_25 : decode cX12_triangles 25 = .ok (.iconst 1, 1) := by decide +kernel
theorem dX12_triangles_26 : decode cX12_triangles 26 = .ok (.invokevirtual 277, 3) := by decide +kernel
theorem dX12_triangles_29 : decode cX12_triangles 29 = .ok (.ifCond .ne 45, 3) := by decide +kernel
theorem dX12_triangles_32 : decode cX12_triangles 32 = .ok (.aload_n 0, 1) := by decide +kernel
theorem dX12_triangles_33 : decode cX12_triangles 33 = .ok (.aload_n 0, 1) := by decide +kernel
theorem dX12_triangles_34 : decode cX12_triangles 34 = .ok (.iload_n 1, 1) := by decide +kernel
theorem dX12_triangles_35 : decode cX12_triangles 35 = .ok (.invokevirtual 545, 3) := by decide +kernel
theorem dX12_triangles_38 : decode cX12_triangles 38 = .ok (.ifCond .ne 7, 3) := by decide +kernel
theorem dX12_triangles_41 : decode cX12_triangles 41 = .ok (.iconst 1, 1) := by decide +kernel
theorem dX12_triangles_42 : decode cX12_triangles 42 = .ok (.goto 4, 3) := by decide +kernel
theorem dX12_triangles_45 : decode cX12_triangles 45 = .ok (.iconst 0, 1) := by decide +kernel
theorem dX12_triangles_46 : decode cX12_triangles 46 = .ok (.iconst 2, 1) := by decide +kernel
theorem dX12_triangles_47 : decode cX12_triangles 47 = .ok (.invokevirtual 277, 3) := by decide +kernel
theorem dX12_triangles_50 : decode cX12_triangles 50 = .ok (.ifCond .ne 24, 3) := by decide +kernel
theorem dX12_triangles_53 : decode cX12_triangles 53 = .ok (.aload_n 0, 1) := by decide +kernel
theorem dX12_triangles_54 : decode cX12_triangles 54 = .ok (.aload_n 0, 1) := by decide +kernel
theorem dX12_triangles_55 : decode cX12_triangles 55 = .ok (.iload_n 1, 1) := by decide +kernel
theorem dX12_triangles_56 : decode cX12_triangles 56 = .ok (.invokevirtual 1061, 3) := by decide +kernel
theorem dX12_triangles_59 : decode cX12_triangles 59 = .ok (.ifCond .ne 7, 3) := by decide +kernel
theorem dX12_triangles_62 : decode cX12_triangles 62 = .ok (.iconst 1, 1) := by decide +kernel
theorem dX12_triangles_63 : decode cX12_triangles 63 = .ok (.goto 4, 3) := by decide +kernel
theorem dX12_triangles_66 : decode cX12_triangles 66 = .ok (.iconst 0, 1) := by decide +kernel
theorem dX12_triangles_67 : decode cX12_triangles 67 = .ok (.iconst 3, 1) := by decide +kernel
theorem dX12_triangles_68 : decode cX12_triangles 68 = .ok (.invokevirtual 277, 3) := by decide +kernel
theorem dX12_triangles_71 : decode cX12_triangles 71 = .ok (.ifCond .eq 5, 3) := by decide +kernel
theorem dX12_triangles_74 : decode cX12_triangles 74 = .ok (.iconst 0, 1) := by decide +kernel
theorem dX12_triangles_75 : decode cX12_triangles 75 = .ok (.ireturn, 1) := by decide +kernel
theorem dX12_triangles_76 : decode cX12_triangles 76 = .ok (.aload_n 0, 1) := by decide +kernel
theorem dX12_triangles_77 : decode cX12_triangles 77 = .ok (.invokevirtual 1095, 3) := by decide +kernel
theorem dX12_triangles_80 : decode cX12_triangles 80 = .ok (.aload_n 0, 1) := by decide +kernel
theorem dX12_triangles_81 : decode cX12_triangles 81 = .ok (.aload_n 0, 1) := by decide +kernel
theorem dX12_triangles_82 : decode cX12_triangles 82 = .ok (.getfield 1073, 3) := by decide +kernel
theorem dX12_triangles_85 : decode cX12_triangles 85 = .ok (.sipush 512, 3) := by decide +kernel
theorem dX12_triangles_88 : decode cX12_triangles 88 = .ok (.if_icmp .le 7, 3) := by decide +kernel
theorem dX12_triangles_91 : decode cX12_triangles 91 = .ok (.iconst 1, 1) := by decide +kernel
theorem dX12_triangles_92 : decode cX12_triangles 92 = .ok (.goto 4, 3) := by decide +kernel
theorem dX12_triangles_95 : decode cX12_triangles 95 = .ok (.iconst 0, 1) := by decide +kernel
theorem dX12_triangles_96 : decode cX12_triangles 96 = .ok (.iconst 3, 1) := by decide +kernel
theorem dX12_triangles_97 : decode cX12_triangles 97 = .ok (.invokevirtual 277, 3) := by decide +kernel
theorem dX12_triangles_100 : decode cX12_triangles 100 = .ok (.ifCond .eq 5, 3) := by decide +kernel
theorem dX12_triangles_103 : decode cX12_triangles 103 = .ok (.iconst 0, 1) := by decide +kernel
theorem dX12_triangles_104 : decode cX12_triangles 104 = .ok (.ireturn, 1) := by decide +kernel
theorem dX12_triangles_105 : decode cX12_triangles 105 = .ok (.aload_n 0, 1) := by decide +kernel
theorem dX12_triangles_106 : decode cX12_triangles 106 = .ok (.bipush 32, 2) := by decide +kernel
theorem dX12_triangles_108 : decode cX12_triangles 108 = .ok (.invokevirtual 358, 3) := by decide +kernel
theorem dX12_triangles_111 : decode cX12_triangles 111 = .ok (.aload_n 0, 1) := by decide +kernel
theorem dX12_triangles_112 : decode cX12_triangles 112 = .ok (.bipush 6, 2) := by decide +kernel
theorem dX12_triangles_114 : decode cX12_triangles 114 = .ok (.invokevirtual 352, 3) := by decide +kernel
theorem dX12_triangles_117 : decode cX12_triangles 117 = .ok (.aload_n 0, 1) := by decide +kernel
theorem dX12_triangles_118 : decode cX12_triangles 118 = .ok (.aload_n 0, 1) := by decide +kernel
theorem dX12_triangles_119 : decode cX12_triangles 119 = .ok (.getfield 1073, 3) := by decide +kernel
theorem dX12_triangles_122 : decode cX12_triangles 122 = .ok (.invokevirtual 352, 3) := by decide +kernel
theorem dX12_triangles_125 : decode cX12_triangles 125 = .ok (.iconst 0, 1) := by decide +kernel
theorem dX12_triangles_126 : decode cX12_triangles 126 = .ok (.istore_n 3, 1) := by decide +kernel
theorem dX12_triangles_127 : decode cX12_triangles 127 = .ok (.iload_n 3, 1) := by decide +kernel
theorem dX12_triangles_128 : decode cX12_triangles 128 = .ok (.aload_n 0, 1) := by decide +kernel
theorem dX12_triangles_129 : decode cX12_triangles 129 = .ok (.getfield 1073, 3) := by decide +kernel
theorem dX12_triangles_132 : decode cX12_triangles 132 = .ok (.if_icmp .ge 64, 3) := by decide +kernel
theorem dX12_triangles_135 : decode cX12_triangles 135 = .ok (.aload_n 0, 1) := by decide +kernel
theorem dX12_triangles_136 : decode cX12_triangles 136 = .ok (.iconst 3, 1) := by decide +kernel
theorem dX12_triangles_137 : decode cX12_triangles 137 = .ok (.invokevirtual 352, 3) := by decide +kernel
theorem dX12_triangles_140 : decode cX12_triangles 140 = .ok (.aload_n 0, 1) := by decide +kernel
theorem dX12_triangles_141 : decode cX12_triangles 141 = .ok (.iconst 1, 1) := by decide +kernel
theorem dX12_triangles_142 : decode cX12_triangles 142 = .ok (.invokevirtual 352, 3) := by decide +kernel
theorem dX12_triangles_145 : decode cX12_triangles 145 = .ok (.aload_n 0, 1) := by decide +kernel
theorem dX12_triangles_146 : decode cX12_triangles 146 = .ok (.iconst 4, 1) := by decide +kernel
theorem dX12_triangles_147 : decode cX12_triangles 147 = .ok (.invokevirtual 352, 3) := by decide +kernel
theorem dX12_triangles_150 : decode cX12_triangles 150 = .ok (.aload_n 0, 1) := by decide +kernel
theorem dX12_triangles_151 : decode cX12_triangles 151 = .ok (.aload_n 0, 1) := by decide +kernel
theorem dX12_triangles_152 : decode cX12_triangles 152 = .ok (.getfield 243, 3) := by decide +kernel
theorem dX12_triangles_155 : decode cX12_triangles 155 = .ok (.iload_n 3, 1) := by decide +kernel
theorem dX12_triangles_156 : decode cX12_triangles 156 = .ok (.iaload, 1) := by decide +kernel
theorem dX12_triangles_157 : decode cX12_triangles 157 = .ok (.invokevirtual 1098, 3) := by decide +kernel
theorem dX12_triangles_160 : decode cX12_triangles 160 = .ok (.aload_n 0, 1) := by decide +kernel
theorem dX12_triangles_161 : decode cX12_triangles 161 = .ok (.aload_n 0, 1) := by decide +kernel
theorem dX12_triangles_162 : decode cX12_triangles 162 = .ok (.getfield 246, 3) := by decide +kernel
theorem dX12_triangles_165 : decode cX12_triangles 165 = .ok (.iload_n 3, 1) := by decide +kernel
theorem dX12_triangles_166 : decode cX12_triangles 166 = .ok (.iaload, 1) := by decide +kernel
theorem dX12_triangles_167 : decode cX12_triangles 167 = .ok (.invokevirtual 1098, 3) := by decide +kernel
theorem dX12_triangles_170 : decode cX12_triangles 170 = .ok (.aload_n 0, 1) := by decide +kernel
theorem dX12_triangles_171 : decode cX12_triangles 171 = .ok (.aload_n 0, 1) := by decide +kernel
theorem dX12_triangles_172 : decode cX12_triangles 172 = .ok (.getfield 249, 3) := by decide +kernel
theorem dX12_triangles_175 : decode cX12_triangles 175 = .ok (.iload_n 3, 1) := by decide +kernel
theorem dX12_triangles_176 : decode cX12_triangles 176 = .ok (.iaload, 1) := by decide +kernel
theorem dX12_triangles_177 : decode cX12_triangles 177 = .ok (.invokevirtual 1098, 3) := by decide +kernel
theorem dX12_triangles_180 : decode cX12_triangles 180 = .ok (.aload_n 0, 1) := by decide +kernel
theorem dX12_triangles_181 : decode cX12_triangles 181 = .ok (.aload_n 0, 1) := by decide +kernel
theorem dX12_triangles_182 : decode cX12_triangles 182 = .ok (.getfield 243, 3) := by decide +kernel
theorem dX12_triangles_185 : decode cX12_triangles 185 = .ok (.iload_n 3, 1) := by decide +kernel
theorem dX12_triangles_186 : decode cX12_triangles 186 = .ok (.iaload, 1) := by decide +kernel
theorem dX12_triangles_187 : decode cX12_triangles 187 = .ok (.invokevirtual 1098, 3) := by decide +kernel
theorem dX12_triangles_190 : decode cX12_triangles 190 = .ok (.iinc 3 1, 3) := by decide +kernel
theorem dX12_triangles_193 : decode cX12_triangles 193 = .ok (.goto (-66), 3) := by decide +kernel
theorem dX12_triangles_196 : decode cX12_triangles 196 = .ok (.aload_n 0, 1) := by decide +kernel
theorem dX12_triangles_197 : decode cX12_triangles 197 = .ok (.bipush 32, 2) := by decide +kernel
theorem dX12_triangles_199 : decode cX12_triangles 199 = .ok (.iload_n 2, 1) := by decide +kernel
theorem dX12_triangles_200 : decode cX12_triangles 200 = .ok (.invokevirtual 449, 3) := by decide +kernel
theorem dX12_triangles_203 : decode cX12_triangles 203 = .ok (.aload_n 0, 1) := by decide +kernel
theorem dX12_triangles_204 : decode cX12_triangles 204 = .ok (.getfield 1073, 3) := by decide +kernel
theorem dX12_triangles_207 : decode cX12_triangles 207 = .ok (.ireturn, 1) := by decide +kernel
theorem dX12_distance_0 : decode cX12_distance 0 = .ok (.aload_n 0, 1) := by decide +kernel
theorem dX12_distance_1 : decode cX12_distance 1 = .ok (.getfield 29, 3) := by decide +kernel
theorem dX12_distance_4 : decode cX12_distance 4 = .ok (.iload 4, 2) := by decide +kernel
theorem dX12_distance_6 : decode cX12_distance 6 = .ok (.iaload, 1) := by decide +kernel
theorem dX12_distance_7 : decode cX12_distance 7 = .ok (.i2l, 1) := by decide +kernel
theorem dX12_distance_8 : decode cX12_distance 8 = .ok (.aload_n 0, 1) := by decide +kernel
theorem dX12_distance_9 : decode cX12_distance 9 = .ok (.getfield 29, 3) := by decide +kernel
theorem dX12_distance_12 : decode cX12_distance 12 = .ok (.iload_n 3, 1) := by decide +kernel
theorem dX12_distance_13 : decode cX12_distance 13 = .ok (.iaload, 1) := by decide +kernel
theorem dX12_distance_14 : decode cX12_distance 14 = .ok (.i2l, 1) := by decide +kernel
theorem dX12_distance_15 : decode cX12_distance 15 = .ok (.lsub, 1) := by decide +kernel
theorem dX12_distance_16 : decode cX12_distance 16 = .ok (.lstore 5, 2) := by decide +kernel
theorem dX12_distance_18 : decode cX12_distance 18 = .ok (.aload_n 0, 1) := by decide +kernel
theorem dX12_distance_19 : decode cX12_distance 19 = .ok (.getfield 32, 3) := by decide +kernel
theorem dX12_distance_22 : decode cX12_distance 22 = .ok (.iload 4, 2) := by decide +kernel
theorem dX12_distance_24 : decode cX12_distance 24 = .ok (.iaload, 1) := by decide +kernel
theorem dX12_distance_25 : decode cX12_distance 25 = .ok (.i2l, 1) := by decide +kernel
theorem dX12_distance_26 : decode cX12_distance 26 = .ok (.aload_n 0, 1) := by decide +kernel
theorem dX12_distance_27 : decode cX12_distance 27 = .ok (.getfield 32, 3) := by decide +kernel
theorem dX12_distance_30 : decode cX12_distance 30 = .ok (.iload_n 3, 1) := by decide +kernel
theorem dX12_distance_31 : decode cX12_distance 31 = .ok (.iaload, 1) := by decide +kernel
theorem dX12_distance_32 : decode cX12_distance 32 = .ok (.i2l, 1) := by decide +kernel
theorem dX12_distance_33 : decode cX12_distance 33 = .ok (.lsub, 1) := by decide +kernel
theorem dX12_distance_34 : decode cX12_distance 34 = .ok (.lstore 7, 2) := by decide +kernel
theorem dX12_distance_36 : decode cX12_distance 36 = .ok (.aload_n 0, 1) := by decide +kernel
theorem dX12_distance_37 : decode cX12_distance 37 = .ok (.getfield 29, 3) := by decide +kernel
theorem dX12_distance_40 : decode cX12_distance 40 = .ok (.iload_n 2, 1) := by decide +kernel
theorem dX12_distance_41 : decode cX12_distance 41 = .ok (.iaload, 1) := by decide +kernel
theorem dX12_distance_42 : decode cX12_distance 42 = .ok (.i2l, 1) := by decide +kernel
theorem dX12_distance_43 : decode cX12_distance 43 = .ok (.aload_n 0, 1) := by decide +kernel
theorem dX12_distance_44 : decode cX12_distance 44 = .ok (.getfield 29, 3) := by decide +kernel
theorem dX12_distance_47 : decode cX12_distance 47 = .ok (.iload_n 3, 1) := by decide +kernel
theorem dX12_distance_48 : decode cX12_distance 48 = .ok (.iaload, 1) := by decide +kernel
theorem dX12_distance_49 : decode cX12_distance 49 = .ok (.i2l, 1) := by decide +kernel
theorem dX12_distance_50 : decode cX12_distance 50 = .ok (.lsub, 1) := by decide +kernel
theorem dX12_distance_51 : decode cX12_distance 51 = .ok (.lstore 9, 2) := by decide +kernel
theorem dX12_distance_53 : decode cX12_distance 53 = .ok (.aload_n 0, 1) := by decide +kernel
theorem dX12_distance_54 : decode cX12_distance 54 = .ok (.getfield 32, 3) := by decide +kernel
theorem dX12_distance_57 : decode cX12_distance 57 = .ok (.iload_n 2, 1) := by decide +kernel
theorem dX12_distance_58 : decode cX12_distance 58 = .ok (.iaload, 1) := by decide +kernel
theorem dX12_distance_59 : decode cX12_distance 59 = .ok (.i2l, 1) := by decide +kernel
theorem dX12_distance_60 : decode cX12_distance 60 = .ok (.aload_n 0, 1) := by decide +kernel
theorem dX12_distance_61 : decode cX12_distance 61 = .ok (.getfield 32, 3) := by decide +kernel
theorem dX12_distance_64 : decode cX12_distance 64 = .ok (.iload_n 3, 1) := by decide +kernel
theorem dX12_distance_65 : decode cX12_distance 65 = .ok (.iaload, 1) := by decide +kernel
theorem dX12_distance_66 : decode cX12_distance 66 = .ok (.i2l, 1) := by decide +kernel
theorem dX12_distance_67 : decode cX12_distance 67 = .ok (.lsub, 1) := by decide +kernel
theorem dX12_distance_68 : decode cX12_distance 68 = .ok (.lstore 11, 2) := by decide +kernel
theorem dX12_distance_70 : decode cX12_distance 70 = .ok (.lload 5, 2) := by decide +kernel
theorem dX12_distance_72 : decode cX12_distance 72 = .ok (.lload 5, 2) := by decide +kernel
theorem dX12_distance_74 : decode cX12_distance 74 = .ok (.lmul, 1) := by decide +kernel
theorem dX12_distance_75 : decode cX12_distance 75 = .ok (.lload 7, 2) := by decide +kernel
theorem dX12_distance_77 : decode cX12_distance 77 = .ok (.lload 7, 2) := by decide +kernel
theorem dX12_distance_79 : decode cX12_distance 79 = .ok (.lmul, 1) := by decide +kernel
theorem dX12_distance_80 : decode cX12_distance 80 = .ok (.ladd, 1) := by decide +kernel
theorem dX12_distance_81 : decode cX12_distance 81 = .ok (.lstore 13, 2) := by decide +kernel
theorem dX12_distance_83 : decode cX12_distance 83 = .ok (.lload 9, 2) := by decide +kernel
theorem dX12_distance_85 : decode cX12_distance 85 = .ok (.lload 5, 2) := by decide +kernel
theorem dX12_distance_87 : decode cX12_distance 87 = .ok (.lmul, 1) := by decide +kernel
theorem dX12_distance_88 : decode cX12_distance 88 = .ok (.lload 11, 2) := by decide +kernel
theorem dX12_distance_90 : decode cX12_distance 90 = .ok (.lload 7, 2) := by decide +kernel
theorem dX12_distance_92 : decode cX12_distance 92 = .ok (.lmul, 1) := by decide +kernel
theorem dX12_distance_93 : decode cX12_distance 93 = .ok (.ladd, 1) := by decide +kernel
theorem dX12_distance_94 : decode cX12_distance 94 = .ok (.lstore 15, 2) := by decide +kernel
theorem dX12_distance_96 : decode cX12_distance 96 = .ok (.lload 13, 2) := by decide +kernel
theorem dX12_distance_98 : decode cX12_distance 98 = .ok (.lconst 0, 1) := by decide +kernel
theorem dX12_distance_99 : decode cX12_distance 99 = .ok (.lcmp, 1) := by decide +kernel
theorem dX12_distance_100 : decode cX12_distance 100 = .ok (.ifCond .le 42, 3) := by decide +kernel
theorem dX12_distance_103 : decode cX12_distance 103 = .ok (.lload 15, 2) := by decide +kernel
theorem dX12_distance_105 : decode cX12_distance 105 = .ok (.lconst 0, 1) := by decide +kernel
theorem dX12_distance_106 : decode cX12_distance 106 = .ok (.lcmp, 1) := by decide +kernel
theorem dX12_distance_107 : decode cX12_distance 107 = .ok (.ifCond .le 35, 3) := by decide +kernel
theorem dX12_distance_110 : decode cX12_distance 110 = .ok (.lload 15, 2) := by decide +kernel
theorem dX12_distance_112 : decode cX12_distance 112 = .ok (.lload 13, 2) := by decide +kernel
theorem dX12_distance_114 : decode cX12_distance 114 = .ok (.lcmp, 1) := by decide +kernel
theorem dX12_distance_115 : decode cX12_distance 115 = .ok (.ifCond .ge 27, 3) := by decide +kernel
theorem dX12_distance_118 : decode cX12_distance 118 = .ok (.aload_n 0, 1) := by decide +kernel
theorem dX12_distance_119 : decode cX12_distance 119 = .ok (.iconst 2, 1) := by decide +kernel
theorem dX12_distance_120 : decode cX12_distance 120 = .ok (.lload 5, 2) := by decide +kernel
theorem dX12_distance_122 : decode cX12_distance 122 = .ok (.lload 7, 2) := by decide +kernel
theorem dX12_distance_124 : decode cX12_distance 124 = .ok (.lload 9, 2) := by decide +kernel
theorem dX12_distance_126 : decode cX12_distance 126 = .ok (.lload 11, 2) := by decide +kernel
theorem dX12_distance_128 : decode cX12_distance 128 = .ok (.invokestatic 644, 3) := by decide +kernel
theorem dX12_distance_131 : decode cX12_distance 131 = .ok (.invokevirtual 635, 3) := by decide +kernel
theorem dX12_distance_134 : decode cX12_distance 134 = .ok (.aload_n 0, 1) := by decide +kernel
theorem dX12_distance_135 : decode cX12_distance 135 = .ok (.iload_n 1, 1) := by decide +kernel
theorem dX12_distance_136 : decode cX12_distance 136 = .ok (.iconst 2, 1) := by decide +kernel
theorem dX12_distance_137 : decode cX12_distance 137 = .ok (.iconst 2, 1) := by decide +kernel
theorem dX12_distance_138 : decode cX12_distance 138 = .ok (.invokevirtual 632, 3) := by decide +kernel
theorem dX12_distance_141 : decode cX12_distance 141 = .ok (.return_, 1) := by decide +kernel
theorem dX12_distance_142 : decode cX12_distance 142 = .ok (.lload 15, 2) := by decide +kernel
theorem dX12_distance_144 : decode cX12_distance 144 = .ok (.lconst 0, 1) := by decide +kernel
theorem dX12_distance_145 : decode cX12_distance 145 = .ok (.lcmp, 1) := by decide +kernel
theorem dX12_distance_146 : decode cX12_distance 146 = .ok (.ifCond .gt 7, 3) := by decide +kernel
theorem dX12_distance_149 : decode cX12_distance 149 = .ok (.iconst 1, 1) := by decide +kernel
theorem dX12_distance_150 : decode cX12_distance 150 = .ok (.goto 4, 3) := by decide +kernel
theorem dX12_distance_153 : decode cX12_distance 153 = .ok (.iconst 0, 1) := by decide +kernel
theorem dX12_distance_154 : decode cX12_distance 154 = .ok (.istore 17, 2) := by decide +kernel
theorem dX12_distance_156 : decode cX12_distance 156 = .ok (.iload 17, 2) := by decide +kernel
theorem dX12_distance_158 : decode cX12_distance 158 = .ok (.ifCond .eq 8, 3) := by decide +kernel
theorem dX12_distance_161 : decode cX12_distance 161 = .ok (.lload 9, 2) := by decide +kernel
theorem dX12_distance_163 : decode cX12_distance 163 = .ok (.goto 19, 3) := by decide +kernel
theorem dX12_distance_166 : decode cX12_distance 166 = .ok (.aload_n 0, 1) := by decide +kernel
theorem dX12_distance_167 : decode cX12_distance 167 = .ok (.getfield 29, 3) := by decide +kernel
theorem dX12_distance_170 : decode cX12_distance 170 = .ok (.iload_n 2, 1) := by decide +kernel
theorem dX12_distance_171 : decode cX12_distance 171 = .ok (.iaload, 1) := by decide +kernel
theorem dX12_distance_172 : decode cX12_distance 172 = .ok (.i2l, 1) := by decide +kernel
theorem dX12_distance_173 : decode cX12_distance 173 = .ok (.aload_n 0, 1) := by decide +kernel
theorem dX12_distance_174 : decode cX12_distance 174 = .ok (.getfield 29, 3) := by decide +kernel
theorem dX12_distance_177 : decode cX12_distance 177 = .ok (.iload 4, 2) := by decide +kernel
theorem dX12_distance_179 : decode cX12_distance 179 = .ok (.iaload, 1) := by decide +kernel
theorem dX12_distance_180 : decode cX12_distance 180 = .ok (.i2l, 1) := by decide +kernel
theorem dX12_distance_181 : decode cX12_distance 181 = .ok (.lsub, 1) := by decide +kernel
theorem dX12_distance_182 : decode cX12_distance 182 = .ok (.lstore 18, 2) := by decide +kernel
theorem dX12_distance_184 : decode cX12_distance 184 = .ok (.iload 17, 2) := by decide +kernel
theorem dX12_distance_186 : decode cX12_distance 186 = .ok (.ifCond .eq 8, 3) := by decide +kernel
theorem dX12_distance_189 : decode cX12_distance 189 = .ok (.lload 11, 2) := by decide +kernel
theorem dX12_distance_191 : decode cX12_distance 191 = .ok (.goto 19, 3) := by decide +kernel
theorem dX12_distance_194 : decode cX12_distance 194 = .ok (.aload_n 0, 1) := by decide +kernel
theorem dX12_distance_195 : decode cX12_distance 195 = .ok (.getfield 32, 3) := by decide +kernel
theorem dX12_distance_198 : decode cX12_distance 198 = .ok (.iload_n 2, 1) := by decide +kernel
theorem dX12_distance_199 : decode cX12_distance 199 = .ok (.iaload, 1) := by decide +kernel
theorem dX12_distance_200 : decode cX12_distance 200 = .ok (.i2l, 1) := by decide +kernel
theorem dX12_distance_201 : decode cX12_distance 201 = .ok (.aload_n 0, 1) := by decide +kernel
theorem dX12_distance_202 : decode cX12_distance 202 = .ok (.getfield 32, 3) := by decide +kernel
theorem dX12_distance_205 : decode cX12_distance 205 = .ok (.iload 4, 2) := by decide +kernel
theorem dX12_distance_207 : decode cX12_distance 207 = .ok (.iaload, 1) := by decide +kernel
theorem dX12_distance_208 : decode cX12_distance 208 = .ok (.i2l, 1) := by decide +kernel
theorem dX12_distance_209 : decode cX12_distance 209 = .ok (.lsub, 1) := by decide +kernel
theorem dX12_distance_210 : decode cX12_distance 210 = .ok (.lstore 20, 2) := by decide +kernel
theorem dX12_distance_212 : decode cX12_distance 212 = .ok (.aload_n 0, 1) := by decide +kernel
theorem dX12_distance_213 : decode cX12_distance 213 = .ok (.iconst 2, 1) := by decide +kernel
theorem dX12_distance_214 : decode cX12_distance 214 = .ok (.lload 18, 2) := by decide +kernel
theorem dX12_distance_216 : decode cX12_distance 216 = .ok (.lload 18, 2) := by decide +kernel
theorem dX12_distance_218 : decode cX12_distance 218 = .ok (.lmul, 1) := by decide +kernel
theorem dX12_distance_219 : decode cX12_distance 219 = .ok (.lload 20, 2) := by decide +kernel
theorem dX12_distance_221 : decode cX12_distance 221 = .ok (.lload 20, 2) := by decide +kernel
theorem dX12_distance_223 : decode cX12_distance 223 = .ok (.lmul, 1) := by decide +kernel
theorem dX12_distance_224 : decode cX12_distance 224 = .ok (.ladd, 1) := by decide +kernel
theorem dX12_distance_225 : decode cX12_distance 225 = .ok (.invokevirtual 635, 3) := by decide +kernel
theorem dX12_distance_228 : decode cX12_distance 228 = .ok (.aload_n 0, 1) := by decide +kernel
theorem dX12_distance_229 : decode cX12_distance 229 = .ok (.iconst 3, 1) := by decide +kernel
theorem dX12_distance_230 : decode cX12_distance 230 = .ok (.lload 13, 2) := by decide +kernel
theorem dX12_distance_232 : decode cX12_distance 232 = .ok (.lconst 0, 1) := by decide +kernel
theorem dX12_distance_233 : decode cX12_distance 233 = .ok (.lcmp, 1) := by decide +kernel
theorem dX12_distance_234 : decode cX12_distance 234 = .ok (.ifCond .le 8, 3) := by decide +kernel
theorem dX12_distance_237 : decode cX12_distance 237 = .ok (.lload 13, 2) := by decide +kernel
theorem dX12_distance_239 : decode cX12_distance 239 = .ok (.goto 4, 3) := by decide +kernel
theorem dX12_distance_242 : decode cX12_distance 242 = .ok (.lconst 1, 1) := by decide +kernel
theorem dX12_distance_243 : decode cX12_distance 243 = .ok (.invokevirtual 635, 3) := by decide +kernel
theorem dX12_distance_246 : decode cX12_distance 246 = .ok (.aload_n 0, 1) := by decide +kernel
theorem dX12_distance_247 : decode cX12_distance 247 = .ok (.iload_n 1, 1) := by decide +kernel
theorem dX12_distance_248 : decode cX12_distance 248 = .ok (.iconst 2, 1) := by decide +kernel
theorem dX12_distance_249 : decode cX12_distance 249 = .ok (.iconst 3, 1) := by decide +kernel
theorem dX12_distance_250 : decode cX12_distance 250 = .ok (.invokevirtual 632, 3) := by decide +kernel
theorem dX12_distance_253 : decode cX12_distance 253 = .ok (.return_, 1) := by decide +kernel
theorem dX12_farthest_0 : decode cX12_farthest 0 = .ok (.aload_n 0, 1) := by decide +kernel
theorem dX12_farthest_1 : decode cX12_farthest 1 = .ok (.getfield 29, 3) := by decide +kernel
theorem dX12_farthest_4 : decode cX12_farthest 4 = .ok (.iload_n 2, 1) := by decide +kernel
theorem dX12_farthest_5 : decode cX12_farthest 5 = .ok (.iaload, 1) := by decide +kernel
theorem dX12_farthest_6 : decode cX12_farthest 6 = .ok (.i2l, 1) := by decide +kernel
theorem dX12_farthest_7 : decode cX12_farthest 7 = .ok (.aload_n 0, 1) := by decide +kernel
theorem dX12_farthest_8 : decode cX12_farthest 8 = .ok (.getfield 29, 3) := by decide +kernel
theorem dX12_farthest_11 : decode cX12_farthest 11 = .ok (.iload_n 1, 1) := by decide +kernel
theorem dX12_farthest_12 : decode cX12_farthest 12 = .ok (.iaload, 1) := by decide +kernel
theorem dX12_farthest_13 : decode cX12_farthest 13 = .ok (.i2l, 1) := by decide +kernel
theorem dX12_farthest_14 : decode cX12_farthest 14 = .ok (.lsub, 1) := by decide +kernel
theorem dX12_farthest_15 : decode cX12_farthest 15 = .ok (.lstore 5, 2) := by decide +kernel
theorem dX12_farthest_17 : decode cX12_farthest 17 = .ok (.aload_n 0, 1) := by decide +kernel
theorem dX12_farthest_18 : decode cX12_farthest 18 = .ok (.getfield 32, 3) := by decide +kernel
theorem dX12_farthest_21 : decode cX12_farthest 21 = .ok (.iload_n 2, 1) := by decide +kernel
theorem dX12_farthest_22 : decode cX12_farthest 22 = .ok (.iaload, 1) := by decide +kernel
theorem dX12_farthest_23 : decode cX12_farthest 23 = .ok (.i2l, 1) := by decide +kernel
theorem dX12_farthest_24 : decode cX12_farthest 24 = .ok (.aload_n 0, 1) := by decide +kernel
theorem dX12_farthest_25 : decode cX12_farthest 25 = .ok (.getfield 32, 3) := by decide +kernel
theorem dX12_farthest_28 : decode cX12_farthest 28 = .ok (.iload_n 1, 1) := by decide +kernel
theorem dX12_farthest_29 : decode cX12_farthest 29 = .ok (.iaload, 1) := by decide +kernel
theorem dX12_farthest_30 : decode cX12_farthest 30 = .ok (.i2l, 1) := by decide +kernel
theorem dX12_farthest_31 : decode cX12_farthest 31 = .ok (.lsub, 1) := by decide +kernel
theorem dX12_farthest_32 : decode cX12_farthest 32 = .ok (.lstore 7, 2) := by decide +kernel
theorem dX12_farthest_34 : decode cX12_farthest 34 = .ok (.lload 5, 2) := by decide +kernel
theorem dX12_farthest_36 : decode cX12_farthest 36 = .ok (.lload 5, 2) := by decide +kernel
theorem dX12_farthest_38 : decode cX12_farthest 38 = .ok (.lmul, 1) := by decide +kernel
theorem dX12_farthest_39 : decode cX12_farthest 39 = .ok (.lload 7, 2) := by decide +kernel
theorem dX12_farthest_41 : decode cX12_farthest 41 = .ok (.lload 7, 2) := by decide +kernel
theorem dX12_farthest_43 : decode cX12_farthest 43 = .ok (.lmul, 1) := by decide +kernel
theorem dX12_farthest_44 : decode cX12_farthest 44 = .ok (.ladd, 1) := by decide +kernel
theorem dX12_farthest_45 : decode cX12_farthest 45 = .ok (.lstore 9, 2) := by decide +kernel
theorem dX12_farthest_47 : decode cX12_farthest 47 = .ok (.aload_n 0, 1) := by decide +kernel
theorem dX12_farthest_48 : decode cX12_farthest 48 = .ok (.iconst 4, 1) := by decide +kernel
theorem dX12_farthest_49 : decode cX12_farthest 49 = .ok (.lload_n 3, 1) := by decide +kernel
theorem dX12_farthest_50 : decode cX12_farthest 50 = .ok (.lload_n 3, 1) := by decide +kernel
theorem dX12_farthest_51 : decode cX12_farthest 51 = .ok (.lmul, 1) := by decide +kernel
theorem dX12_farthest_52 : decode cX12_farthest 52 = .ok (.invokevirtual 635, 3) := by decide +kernel
theorem dX12_farthest_55 : decode cX12_farthest 55 = .ok (.aload_n 0, 1) := by decide +kernel
theorem dX12_farthest_56 : decode cX12_farthest 56 = .ok (.iconst 5, 1) := by decide +kernel
theorem dX12_farthest_57 : decode cX12_farthest 57 = .ok (.lload 9, 2) := by decide +kernel
theorem dX12_farthest_59 : decode cX12_farthest 59 = .ok (.lconst 0, 1) := by decide +kernel
theorem dX12_farthest_60 : decode cX12_farthest 60 = .ok (.lcmp, 1) := by decide +kernel
theorem dX12_farthest_61 : decode cX12_farthest 61 = .ok (.ifCond .le 8, 3) := by decide +kernel
theorem dX12_farthest_64 : decode cX12_farthest 64 = .ok (.lload 9, 2) := by decide +kernel
theorem dX12_farthest_66 : decode cX12_farthest 66 = .ok (.goto 4, 3) := by decide +kernel
theorem dX12_farthest_69 : decode cX12_farthest 69 = .ok (.lconst 1, 1) := by decide +kernel
theorem dX12_farthest_70 : decode cX12_farthest 70 = .ok (.invokevirtual 635, 3) := by decide +kernel
theorem dX12_farthest_73 : decode cX12_farthest 73 = .ok (.aload_n 0, 1) := by decide +kernel
theorem dX12_farthest_74 : decode cX12_farthest 74 = .ok (.bipush 10, 2) := by decide +kernel
theorem dX12_farthest_76 : decode cX12_farthest 76 = .ok (.iconst 4, 1) := by decide +kernel
theorem dX12_farthest_77 : decode cX12_farthest 77 = .ok (.iconst 5, 1) := by decide +kernel
theorem dX12_farthest_78 : decode cX12_farthest 78 = .ok (.invokevirtual 632, 3) := by decide +kernel
theorem dX12_farthest_81 : decode cX12_farthest 81 = .ok (.iconst (-1), 1) := by decide +kernel
theorem dX12_farthest_82 : decode cX12_farthest 82 = .ok (.istore 11, 2) := by decide +kernel
theorem dX12_farthest_84 : decode cX12_farthest 84 = .ok (.iload_n 1, 1) := by decide +kernel
theorem dX12_farthest_85 : decode cX12_farthest 85 = .ok (.iconst 1, 1) := by decide +kernel
theorem dX12_farthest_86 : decode cX12_farthest 86 = .ok (.iadd, 1) := by decide +kernel
theorem dX12_farthest_87 : decode cX12_farthest 87 = .ok (.istore 12, 2) := by decide +kernel
theorem dX12_farthest_89 : decode cX12_farthest 89 = .ok (.iload 12, 2) := by decide +kernel
theorem dX12_farthest_91 : decode cX12_farthest 91 = .ok (.iload_n 2, 1) := by decide +kernel
theorem dX12_farthest_92 : decode cX12_farthest 92 = .ok (.if_icmp .ge 58, 3) := by decide +kernel
theorem dX12_farthest_95 : decode cX12_farthest 95 = .ok (.aload_n 0, 1) := by decide +kernel
theorem dX12_farthest_96 : decode cX12_farthest 96 = .ok (.bipush 11, 2) := by decide +kernel
theorem dX12_farthest_98 : decode cX12_farthest 98 = .ok (.iload 12, 2) := by decide +kernel
theorem dX12_farthest_100 : decode cX12_farthest 100 = .ok (.iload_n 1, 1) := by decide +kernel
theorem dX12_farthest_101 : decode cX12_farthest 101 = .ok (.iload_n 2, 1) := by decide +kernel
theorem dX12_farthest_102 : decode cX12_farthest 102 = .ok (.invokevirtual 1101, 3) := by decide +kernel
theorem dX12_farthest_105 : decode cX12_farthest 105 = .ok (.aload_n 0, 1) := by decide +kernel
theorem dX12_farthest_106 : decode cX12_farthest 106 = .ok (.bipush 12, 2) := by decide +kernel
theorem dX12_farthest_108 : decode cX12_farthest 108 = .ok (.bipush 11, 2) := by decide +kernel
theorem dX12_farthest_110 : decode cX12_farthest 110 = .ok (.bipush 10, 2) := by decide +kernel
theorem dX12_farthest_112 : decode cX12_farthest 112 = .ok (.iconst 1, 1) := by decide +kernel
theorem dX12_farthest_113 : decode cX12_farthest 113 = .ok (.invokevirtual 621, 3) := by decide +kernel
theorem dX12_farthest_116 : decode cX12_farthest 116 = .ok (.aload_n 0, 1) := by decide +kernel
theorem dX12_farthest_117 : decode cX12_farthest 117 = .ok (.getfield 69, 3) := by decide +kernel
theorem dX12_farthest_120 : decode cX12_farthest 120 = .ok (.bipush 12, 2) := by decide +kernel
theorem dX12_farthest_122 : decode cX12_farthest 122 = .ok (.iaload, 1) := by decide +kernel
theorem dX12_farthest_123 : decode cX12_farthest 123 = .ok (.ifCond .gt 6, 3) := by decide +kernel
theorem dX12_farthest_126 : decode cX12_farthest 126 = .ok (.goto 18, 3) := by decide +kernel
theorem dX12_farthest_129 : decode cX12_farthest 129 = .ok (.iload 12, 2) := by decide +kernel
theorem dX12_farthest_131 : decode cX12_farthest 131 = .ok (.istore 11, 2) := by decide +kernel
theorem dX12_farthest_133 : decode cX12_farthest 133 = .ok (.aload_n 0, 1) := by decide +kernel
theorem dX12_farthest_134 : decode cX12_farthest 134 = .ok (.bipush 10, 2) := by decide +kernel
theorem dX12_farthest_136 : decode cX12_farthest 136 = .ok (.bipush 11, 2) := by decide +kernel
theorem dX12_farthest_138 : decode cX12_farthest 138 = .ok (.bipush 6, 2) := by decide +kernel
theorem dX12_farthest_140 : decode cX12_farthest 140 = .ok (.iconst 0, 1) := by decide +kernel
theorem dX12_farthest_141 : decode cX12_farthest 141 = .ok (.invokevirtual 621, 3) := by decide +kernel
theorem dX12_farthest_144 : decode cX12_farthest 144 = .ok (.iinc 12 1, 3) := by decide +kernel
theorem dX12_farthest_147 : decode cX12_farthest 147 = .ok (.goto (-58), 3) := by decide +kernel
theorem dX12_farthest_150 : decode cX12_farthest 150 = .ok (.iload 11, 2) := by decide +kernel
theorem dX12_farthest_152 : decode cX12_farthest 152 = .ok (.ireturn, 1) := by decide +kernel
theorem dX12_thins_0 : decode cX12_thins 0 = .ok (.iload_n 1, 1) := by decide +kernel
theorem dX12_thins_1 : decode cX12_thins 1 = .ok (.iload_n 1, 1) := by decide +kernel
theorem dX12_thins_2 : decode cX12_thins 2 = .ok (.sipush 2048, 3) := by decide +kernel
theorem dX12_thins_5 : decode cX12_thins 5 = .ok (.idiv, 1) := by decide +kernel
theorem dX12_thins_6 : decode cX12_thins 6 = .ok (.sipush 2048, 3) := by decide +kernel
theorem dX12_thins_9 : decode cX12_thins 9 = .ok (.imul, 1) := by decide +kernel
theorem dX12_thins_10 : decode cX12_thins 10 = .ok (.isub, 1) := by decide +kernel
theorem dX12_thins_11 : decode cX12_thins 11 = .ok (.istore 5, 2) := by decide +kernel
theorem dX12_thins_13 : decode cX12_thins 13 = .ok (.iconst 0, 1) := by decide +kernel
theorem dX12_thins_14 : decode cX12_thins 14 = .ok (.istore 6, 2) := by decide +kernel
theorem dX12_thins_16 : decode cX12_thins 16 = .ok (.iload 6, 2) := by decide +kernel
theorem dX12_thins_18 : decode cX12_thins 18 = .ok (.iload_n 2, 1) := by decide +kernel
theorem dX12_thins_19 : decode cX12_thins 19 = .ok (.if_icmp .ge 37, 3) := by decide +kernel
theorem dX12_thins_22 : decode cX12_thins 22 = .ok (.aload_n 0, 1) := by decide +kernel
theorem dX12_thins_23 : decode cX12_thins 23 = .ok (.getfield 252, 3) := by decide +kernel
theorem dX12_thins_26 : decode cX12_thins 26 = .ok (.iload 5, 2) := by decide +kernel
theorem dX12_thins_28 : decode cX12_thins 28 = .ok (.iload 6, 2) := by decide +kernel
theorem dX12_thins_30 : decode cX12_thins 30 = .ok (.iadd, 1) := by decide +kernel
theorem dX12_thins_31 : decode cX12_thins 31 = .ok (.iload 6, 2) := by decide +kernel
theorem dX12_thins_33 : decode cX12_thins 33 = .ok (.ifCond .eq 11, 3) := by decide +kernel
theorem dX12_thins_36 : decode cX12_thins 36 = .ok (.iload 6, 2) := by decide +kernel
theorem dX12_thins_38 : decode cX12_thins 38 = .ok (.iload_n 2, 1) := by decide +kernel
theorem dX12_thins_39 : decode cX12_thins 39 = .ok (.iconst 1, 1) := by decide +kernel
theorem dX12_thins_40 : decode cX12_thins 40 = .ok (.isub, 1) := by decide +kernel
theorem dX12_thins_41 : decode cX12_thins 41 = .ok (.if_icmp .ne 7, 3) := by decide +kernel
theorem dX12_thins_44 : decode cX12_thins 44 = .ok (.iconst 1, 1) := by decide +kernel
theorem dX12_thins_45 : decode cX12_thins 45 = .ok (.goto 4, 3) := by decide +kernel
theorem dX12_thins_48 : decode cX12_thins 48 = .ok (.iconst 0, 1) := by decide +kernel
theorem dX12_thins_49 : decode cX12_thins 49 = .ok (.bastore, 1) := by decide +kernel
theorem dX12_thins_50 : decode cX12_thins 50 = .ok (.iinc 6 1, 3) := by decide +kernel
theorem dX12_thins_53 : decode cX12_thins 53 = .ok (.goto (-37), 3) := by decide +kernel
theorem dX12_thins_56 : decode cX12_thins 56 = .ok (.aload_n 0, 1) := by decide +kernel
theorem dX12_thins_57 : decode cX12_thins 57 = .ok (.bipush 6, 2) := by decide +kernel
theorem dX12_thins_59 : decode cX12_thins 59 = .ok (.lconst 0, 1) := by decide +kernel
theorem dX12_thins_60 : decode cX12_thins 60 = .ok (.invokevirtual 635, 3) := by decide +kernel
theorem dX12_thins_63 : decode cX12_thins 63 = .ok (.iconst 0, 1) := by decide +kernel
theorem dX12_thins_64 : decode cX12_thins 64 = .ok (.istore 6, 2) := by decide +kernel
theorem dX12_thins_66 : decode cX12_thins 66 = .ok (.iload_n 2, 1) := by decide +kernel
theorem dX12_thins_67 : decode cX12_thins 67 = .ok (.iconst 2, 1) := by decide +kernel
theorem dX12_thins_68 : decode cX12_thins 68 = .ok (.if_icmp .le 24, 3) := by decide +kernel
theorem dX12_thins_71 : decode cX12_thins 71 = .ok (.aload_n 0, 1) := by decide +kernel
theorem dX12_thins_72 : decode cX12_thins 72 = .ok (.getfield 255, 3) := by decide +kernel
theorem dX12_thins_75 : decode cX12_thins 75 = .ok (.iconst 0, 1) := by decide +kernel
theorem dX12_thins_76 : decode cX12_thins 76 = .ok (.iload_n 1, 1) := by decide +kernel
theorem dX12_thins_77 : decode cX12_thins 77 = .ok (.iastore, 1) := by decide +kernel
theorem dX12_thins_78 : decode cX12_thins 78 = .ok (.aload_n 0, 1) := by decide +kernel
theorem dX12_thins_79 : decode cX12_thins 79 = .ok (.getfield 258, 3) := by decide +kernel
theorem dX12_thins_82 : decode cX12_thins 82 = .ok (.iconst 0, 1) := by decide +kernel
theorem dX12_thins_83 : decode cX12_thins 83 = .ok (.iload_n 1, 1) := by decide +kernel
theorem dX12_thins_84 : decode cX12_thins 84 = .ok (.iload_n 2, 1) := by decide +kernel
theorem dX12_thins_85 : decode cX12_thins 85 = .ok (.iadd, 1) := by decide +kernel
theorem dX12_thins_86 : decode cX12_thins 86 = .ok (.iconst 1, 1) := by decide +kernel
theorem dX12_thins_87 : decode cX12_thins 87 = .ok (.isub, 1) := by decide +kernel
theorem dX12_thins_88 : decode cX12_thins 88 = .ok (.iastore, 1) := by decide +kernel
theorem dX12_thins_89 : decode cX12_thins 89 = .ok (.iconst 1, 1) := by decide +kernel
theorem dX12_thins_90 : decode cX12_thins 90 = .ok (.istore 6, 2) := by decide +kernel
theorem dX12_thins_92 : decode cX12_thins 92 = .ok (.iload 6, 2) := by decide +kernel
theorem dX12_thins_94 : decode cX12_thins 94 = .ok (.ifCond .le 103, 3) := by decide +kernel
theorem dX12_thins_97 : decode cX12_thins 97 = .ok (.iinc 6 (-1), 3) := by decide +kernel
theorem dX12_thins_100 : decode cX12_thins 100 = .ok (.aload_n 0, 1) := by decide +kernel
theorem dX12_thins_101 : decode cX12_thins 101 = .ok (.getfield 255, 3) := by decide +kernel
theorem dX12_thins_104 : decode cX12_thins 104 = .ok (.iload 6, 2) := by decide +kernel
theorem dX12_thins_106 : decode cX12_thins 106 = .ok (.iaload, 1) := by decide +kernel
theorem dX12_thins_107 : decode cX12_thins 107 = .ok (.istore 7, 2) := by decide +kernel
theorem dX12_thins_109 : decode cX12_thins 109 = .ok (.aload_n 0, 1) := by decide +kernel
theorem dX12_thins_110 : decode cX12_thins 110 = .ok (.getfield 258, 3) := by decide +kernel
theorem dX12_thins_113 : decode cX12_thins 113 = .ok (.iload 6, 2) := by decide +kernel
theorem dX12_thins_115 : decode cX12_thins 115 = .ok (.iaload, 1) := by decide +kernel
theorem dX12_thins_116 : decode cX12_thins 116 = .ok (.istore 8, 2) := by decide +kernel
theorem dX12_thins_118 : decode cX12_thins 118 = .ok (.aload_n 0, 1) := by decide +kernel
theorem dX12_thins_119 : decode cX12_thins 119 = .ok (.iload 7, 2) := by decide +kernel
theorem dX12_thins_121 : decode cX12_thins 121 = .ok (.iload 8, 2) := by decide +kernel
theorem dX12_thins_123 : decode cX12_thins 123 = .ok (.lload_n 3, 1) := by decide +kernel
theorem dX12_thins_124 : decode cX12_thins 124 = .ok (.invokevirtual 1105, 3) := by decide +kernel
theorem dX12_thins_127 : decode cX12_thins 127 = .ok (.istore 9, 2) := by decide +kernel
theorem dX12_thins_129 : decode cX12_thins 129 = .ok (.iload 9, 2) := by decide +kernel
theorem dX12_thins_131 : decode cX12_thins 131 = .ok (.iconst (-1), 1) := by decide +kernel
theorem dX12_thins_132 : decode cX12_thins 132 = .ok (.if_icmp .ne 6, 3) := by decide +kernel
theorem dX12_thins_135 : decode cX12_thins 135 = .ok (.goto (-43), 3) := by decide +kernel
theorem dX12_thins_138 : decode cX12_thins 138 = .ok (.aload_n 0, 1) := by decide +kernel
theorem dX12_thins_139 : decode cX12_thins 139 = .ok (.getfield 252, 3) := by decide +kernel
theorem dX12_thins_142 : decode cX12_thins 142 = .ok (.iload 5, 2) := by decide +kernel
theorem dX12_thins_144 : decode cX12_thins 144 = .ok (.iload 9, 2) := by decide +kernel
theorem dX12_thins_146 : decode cX12_thins 146 = .ok (.iadd, 1) := by decide +kernel
theorem dX12_thins_147 : decode cX12_thins 147 = .ok (.iload_n 1, 1) := by decide +kernel
theorem dX12_thins_148 : decode cX12_thins 148 = .ok (.isub, 1) := by decide +kernel
theorem dX12_thins_149 : decode cX12_thins 149 = .ok (.iconst 1, 1) := by decide +kernel
theorem dX12_thins_150 : decode cX12_thins 150 = .ok (.bastore, 1) := by decide +kernel
theorem dX12_thins_151 : decode cX12_thins 151 = .ok (.aload_n 0, 1) := by decide +kernel
theorem dX12_thins_152 : decode cX12_thins 152 = .ok (.getfield 255, 3) := by decide +kernel
theorem dX12_thins_155 : decode cX12_thins 155 = .ok (.iload 6, 2) := by decide +kernel
theorem dX12_thins_157 : decode cX12_thins 157 = .ok (.iload 7, 2) := by decide +kernel
theorem dX12_thins_159 : decode cX12_thins 159 = .ok (.iastore, 1) := by decide +kernel
theorem dX12_thins_160 : decode cX12_thins 160 = .ok (.aload_n 0, 1) := by decide +kernel
theorem dX12_thins_161 : decode cX12_thins 161 = .ok (.getfield 258, 3) := by decide +kernel
theorem dX12_thins_164 : decode cX12_thins 164 = .ok (.iload 6, 2) := by decide +kernel
theorem dX12_thins_166 : decode cX12_thins 166 = .ok (.iload 9, 2) := by decide +kernel
theorem dX12_thins_168 : decode cX12_thins 168 = .ok (.iastore, 1) := by decide +kernel
theorem dX12_thins_169 : decode cX12_thins 169 = .ok (.aload_n 0, 1) := by decide +kernel
theorem dX12_thins_170 : decode cX12_thins 170 = .ok (.getfield 255, 3) := by decide +kernel
theorem dX12_thins_173 : decode cX12_thins 173 = .ok (.iload 6, 2) := by decide +kernel
theorem dX12_thins_175 : decode cX12_thins 175 = .ok (.iconst 1, 1) := by decide +kernel
theorem dX12_thins_176 : decode cX12_thins 176 = .ok (.iadd, 1) := by decide +kernel
theorem dX12_thins_177 : decode cX12_thins 177 = .ok (.iload 9, 2) := by decide +kernel
theorem dX12_thins_179 : decode cX12_thins 179 = .ok (.iastore, 1) := by decide +kernel
theorem dX12_thins_180 : decode cX12_thins 180 = .ok (.aload_n 0, 1) := by decide +kernel
theorem dX12_thins_181 : decode cX12_thins 181 = .ok (.getfield 258, 3) := by decide +kernel
theorem dX12_thins_184 : decode cX12_thins 184 = .ok (.iload 6, 2) := by decide +kernel
theorem dX12_thins_186 : decode cX12_thins 186 = .ok (.iconst 1, 1) := by decide +kernel
theorem dX12_thins_187 : decode cX12_thins 187 = .ok (.iadd, 1) := by decide +kernel
theorem dX12_thins_188 : decode cX12_thins 188 = .ok (.iload 8, 2) := by decide +kernel
theorem dX12_thins_190 : decode cX12_thins 190 = .ok (.iastore, 1) := by decide +kernel
theorem dX12_thins_191 : decode cX12_thins 191 = .ok (.iinc 6 2, 3) := by decide +kernel
theorem dX12_thins_194 : decode cX12_thins 194 = .ok (.goto (-102), 3) := by decide +kernel
theorem dX12_thins_197 : decode cX12_thins 197 = .ok (.return_, 1) := by decide +kernel
theorem dX12_keeps_0 : decode cX12_keeps 0 = .ok (.aload_n 0, 1) := by decide +kernel
theorem dX12_keeps_1 : decode cX12_keeps 1 = .ok (.iload_n 1, 1) := by decide +kernel
theorem dX12_keeps_2 : decode cX12_keeps 2 = .ok (.iload_n 2, 1) := by decide +kernel
theorem dX12_keeps_3 : decode cX12_keeps 3 = .ok (.lload_n 3, 1) := by decide +kernel
theorem dX12_keeps_4 : decode cX12_keeps 4 = .ok (.invokevirtual 1109, 3) := by decide +kernel
theorem dX12_keeps_7 : decode cX12_keeps 7 = .ok (.iload_n 1, 1) := by decide +kernel
theorem dX12_keeps_8 : decode cX12_keeps 8 = .ok (.iload_n 1, 1) := by decide +kernel
theorem dX12_keeps_9 : decode cX12_keeps 9 = .ok (.sipush 2048, 3) := by decide +kernel
theorem dX12_keeps_12 : decode cX12_keeps 12 = .ok (.idiv, 1) := by decide +kernel
theorem dX12_keeps_13 : decode cX12_keeps 13 = .ok (.sipush 2048, 3) := by decide +kernel
theorem dX12_keeps_16 : decode cX12_keeps 16 = .ok (.imul, 1) := by decide +kernel
theorem dX12_keeps_17 : decode cX12_keeps 17 = .ok (.isub, 1) := by decide +kernel
theorem dX12_keeps_18 : decode cX12_keeps 18 = .ok (.istore 5, 2) := by decide +kernel
theorem dX12_keeps_20 : decode cX12_keeps 20 = .ok (.iconst 0, 1) := by decide +kernel
theorem dX12_keeps_21 : decode cX12_keeps 21 = .ok (.istore 6, 2) := by decide +kernel
theorem dX12_keeps_23 : decode cX12_keeps 23 = .ok (.iconst 0, 1) := by decide +kernel
theorem dX12_keeps_24 : decode cX12_keeps 24 = .ok (.istore 7, 2) := by decide +kernel
theorem dX12_keeps_26 : decode cX12_keeps 26 = .ok (.iload 7, 2) := by decide +kernel
theorem dX12_keeps_28 : decode cX12_keeps 28 = .ok (.iload_n 2, 1) := by decide +kernel
theorem dX12_keeps_29 : decode cX12_keeps 29 = .ok (.if_icmp .ge 52, 3) := by decide +kernel
theorem dX12_keeps_32 : decode cX12_keeps 32 = .ok (.aload_n 0, 1) := by decide +kernel
theorem dX12_keeps_33 : decode cX12_keeps 33 = .ok (.getfield 252, 3) := by decide +kernel
theorem dX12_keeps_36 : decode cX12_keeps 36 = .ok (.iload 5, 2) := by decide +kernel
theorem dX12_keeps_38 : decode cX12_keeps 38 = .ok (.iload 7, 2) := by decide +kernel
theorem dX12_keeps_40 : decode cX12_keeps 40 = .ok (.iadd, 1) := by decide +kernel
theorem dX12_keeps_41 : decode cX12_keeps 41 = .ok (.baload, 1) := by decide +kernel
theorem dX12_keeps_42 : decode cX12_keeps 42 = .ok (.ifCond .ne 6, 3) := by decide +kernel
theorem dX12_keeps_45 : decode cX12_keeps 45 = .ok (.goto 30, 3) := by decide +kernel
theorem dX12_keeps_48 : decode cX12_keeps 48 = .ok (.aload_n 0, 1) := by decide +kernel
theorem dX12_keeps_49 : decode cX12_keeps 49 = .ok (.aload_n 0, 1) := by decide +kernel
theorem dX12_keeps_50 : decode cX12_keeps 50 = .ok (.getfield 29, 3) := by decide +kernel
theorem dX12_keeps_53 : decode cX12_keeps 53 = .ok (.iload_n 1, 1) := by decide +kernel
theorem dX12_keeps_54 : decode cX12_keeps 54 = .ok (.iload 7, 2) := by decide +kernel
theorem dX12_keeps_56 : decode cX12_keeps 56 = .ok (.iadd, 1) := by decide +kernel
theorem dX12_keeps_57 : decode cX12_keeps 57 = .ok (.iaload, 1) := by decide +kernel
theorem dX12_keeps_58 : decode cX12_keeps 58 = .ok (.i2l, 1) := by decide +kernel
theorem dX12_keeps_59 : decode cX12_keeps 59 = .ok (.aload_n 0, 1) := by decide +kernel
theorem dX12_keeps_60 : decode cX12_keeps 60 = .ok (.getfield 32, 3) := by decide +kernel
theorem dX12_keeps_63 : decode cX12_keeps 63 = .ok (.iload_n 1, 1) := by decide +kernel
theorem dX12_keeps_64 : decode cX12_keeps 64 = .ok (.iload 7, 2) := by decide +kernel
theorem dX12_keeps_66 : decode cX12_keeps 66 = .ok (.iadd, 1) := by decide +kernel
theorem dX12_keeps_67 : decode cX12_keeps 67 = .ok (.iaload, 1) := by decide +kernel
theorem dX12_keeps_68 : decode cX12_keeps 68 = .ok (.i2l, 1) := by decide +kernel
theorem dX12_keeps_69 : decode cX12_keeps 69 = .ok (.invokevirtual 412, 3) := by decide +kernel
theorem dX12_keeps_72 : decode cX12_keeps 72 = .ok (.iinc 6 1, 3) := by decide +kernel
theorem dX12_keeps_75 : decode cX12_keeps 75 = .ok (.iinc 7 1, 3) := by decide +kernel
theorem dX12_keeps_78 : decode cX12_keeps 78 = .ok (.goto (-52), 3) := by decide +kernel
theorem dX12_keeps_81 : decode cX12_keeps 81 = .ok (.iload 6, 2) := by decide +kernel
theorem dX12_keeps_83 : decode cX12_keeps 83 = .ok (.ireturn, 1) := by decide +kernel
theorem dX12_simplify_0 : decode cX12_simplify 0 = .ok (.aload_n 0, 1) := by decide +kernel
theorem dX12_simplify_1 : decode cX12_simplify 1 = .ok (.iconst 0, 1) := by decide +kernel
theorem dX12_simplify_2 : decode cX12_simplify 2 = .ok (.putfield 271, 3) := by decide +kernel
theorem dX12_simplify_5 : decode cX12_simplify 5 = .ok (.aload_n 0, 1) := by decide +kernel
theorem dX12_simplify_6 : decode cX12_simplify 6 = .ok (.iload_n 1, 1) := by decide +kernel
theorem dX12_simplify_7 : decode cX12_simplify 7 = .ok (.invokestatic 440, 3) := by decide +kernel
theorem dX12_simplify_10 : decode cX12_simplify 10 = .ok (.ifCond .eq 10, 3) := by decide +kernel
theorem dX12_simplify_13 : decode cX12_simplify 13 = .ok (.iload_n 2, 1) := by decide +kernel
theorem dX12_simplify_14 : decode cX12_simplify 14 = .ok (.invokestatic 440, 3) := by decide +kernel
theorem dX12_simplify_17 : decode cX12_simplify 17 = .ok (.ifCond .ne 7, 3) := by decide +kernel
theorem dX12_simplify_20 : decode cX12_simplify 20 = .ok (.iconst 1, 1) := by decide +kernel
theorem dX12_simplify_21 : decode cX12_simplify 21 = .ok (.goto 4, 3) := by decide +kernel
theorem dX12_simplify_24 : decode cX12_simplify 24 = .ok (.iconst 0, 1) := by decide +kernel
theorem dX12_simplify_25 : decode cX12_simplify 25 = .ok (.iconst 1, 1) := by decide +kernel
theorem dX12_simplify_26 : decode cX12_simplify 26 = .ok (.invokevirtual 277, 3) := by decide +kernel
theorem dX12_simplify_29 : decode cX12_simplify 29 = .ok (.ifCond .ne 49, 3) := by decide +kernel
theorem dX12_simplify_32 : decode cX12_simplify 32 = .ok (.aload_n 0, 1) := by decide +kernel
theorem dX12_simplify_33 : decode cX12_simplify 33 = .ok (.aload_n 0, 1) := by decide +kernel
theorem dX12_simplify_34 : decode cX12_simplify 34 = .ok (.iload_n 1, 1) := by decide +kernel
theorem dX12_simplify_35 : decode cX12_simplify 35 = .ok (.invokevirtual 545, 3) := by decide +kernel
theorem dX12_simplify_38 : decode cX12_simplify 38 = .ok (.ifCond .ne 7, 3) := by decide +kernel
theorem dX12_simplify_41 : decode cX12_simplify 41 = .ok (.iconst 1, 1) := by decide +kernel
theorem dX12_simplify_42 : decode cX12_simplify 42 = .ok (.goto 4, 3) := by decide +kernel
theorem dX12_simplify_45 : decode cX12_simplify 45 = .ok (.iconst 0, 1) := by decide +kernel
theorem dX12_simplify_46 : decode cX12_simplify 46 = .ok (.iconst 2, 1) := by decide +kernel
theorem dX12_simplify_47 : decode cX12_simplify 47 = .ok (.invokevirtual 277, 3) := by decide +kernel
theorem dX12_simplify_50 : decode cX12_simplify 50 = .ok (.ifCond .ne 28, 3) := by decide +kernel
theorem dX12_simplify_53 : decode cX12_simplify 53 = .ok (.aload_n 0, 1) := by decide +kernel
theorem dX12_simplify_54 : decode cX12_simplify 54 = .ok (.iload_n 3, 1) := by decide +kernel
theorem dX12_simplify_55 : decode cX12_simplify 55 = .ok (.i2l, 1) := by decide +kernel
theorem dX12_simplify_56 : decode cX12_simplify 56 = .ok (.lconst 0, 1) := by decide +kernel
theorem dX12_simplify_57 : decode cX12_simplify 57 = .ok (.ldc2_w 436, 3) := by decide +kernel
theorem dX12_simplify_60 : decode cX12_simplify 60 = .ok (.invokestatic 287, 3) := by decide +kernel
theorem dX12_simplify_63 : decode cX12_simplify 63 = .ok (.ifCond .ne 7, 3) := by decide +kernel
theorem dX12_simplify_66 : decode cX12_simplify 66 = .ok (.iconst 1, 1) := by decide +kernel
theorem dX12_simplify_67 : decode cX12_simplify 67 = .ok (.goto 4, 3) := by decide +kernel
theorem dX12_simplify_70 : decode cX12_simplify 70 = .ok (.iconst 0, 1) := by decide +kernel
theorem dX12_simplify_71 : decode cX12_simplify 71 = .ok (.iconst 3, 1) := by decide +kernel
theorem dX12_simplify_72 : decode cX12_simplify 72 = .ok (.invokevirtual 277, 3) := by decide +kernel
theorem dX12_simplify_75 : decode cX12_simplify 75 = .ok (.ifCond .eq 5, 3) := by decide +kernel
theorem dX12_simplify_78 : decode cX12_simplify 78 = .ok (.iconst 0, 1) := by decide +kernel
theorem dX12_simplify_79 : decode cX12_simplify 79 = .ok (.ireturn, 1) := by decide +kernel
theorem dX12_simplify_80 : decode cX12_simplify 80 = .ok (.aload_n 0, 1) := by decide +kernel
theorem dX12_simplify_81 : decode cX12_simplify 81 = .ok (.bipush 32, 2) := by decide +kernel
theorem dX12_simplify_83 : decode cX12_simplify 83 = .ok (.invokevirtual 358, 3) := by decide +kernel
theorem dX12_simplify_86 : decode cX12_simplify 86 = .ok (.aload_n 0, 1) := by decide +kernel
theorem dX12_simplify_87 : decode cX12_simplify 87 = .ok (.getfield 26, 3) := by decide +kernel
theorem dX12_simplify_90 : decode cX12_simplify 90 = .ok (.iload_n 1, 1) := by decide +kernel
theorem dX12_simplify_91 : decode cX12_simplify 91 = .ok (.iaload, 1) := by decide +kernel
theorem dX12_simplify_92 : decode cX12_simplify 92 = .ok (.istore 4, 2) := by decide +kernel
theorem dX12_simplify_94 : decode cX12_simplify 94 = .ok (.sipush 2048, 3) := by decide +kernel
theorem dX12_simplify_97 : decode cX12_simplify 97 = .ok (.iload_n 1, 1) := by decide +kernel
theorem dX12_simplify_98 : decode cX12_simplify 98 = .ok (.imul, 1) := by decide +kernel
theorem dX12_simplify_99 : decode cX12_simplify 99 = .ok (.istore 5, 2) := by decide +kernel
theorem dX12_simplify_101 : decode cX12_simplify 101 = .ok (.iload 5, 2) := by decide +kernel
theorem dX12_simplify_103 : decode cX12_simplify 103 = .ok (.aload_n 0, 1) := by decide +kernel
theorem dX12_simplify_104 : decode cX12_simplify 104 = .ok (.getfield 18, 3) := by decide +kernel
theorem dX12_simplify_107 : decode cX12_simplify 107 = .ok (.iload_n 1, 1) := by decide +kernel
theorem dX12_simplify_108 : decode cX12_simplify 108 = .ok (.iaload, 1) := by decide +kernel
theorem dX12_simplify_109 : decode cX12_simplify 109 = .ok (.iadd, 1) := by decide +kernel
theorem dX12_simplify_110 : decode cX12_simplify 110 = .ok (.istore 6, 2) := by decide +kernel
theorem dX12_simplify_112 : decode cX12_simplify 112 = .ok (.sipush 2048, 3) := by decide +kernel
theorem dX12_simplify_115 : decode cX12_simplify 115 = .ok (.iload_n 1, 1) := by decide +kernel
theorem dX12_simplify_116 : decode cX12_simplify 116 = .ok (.imul, 1) := by decide +kernel
theorem dX12_simplify_117 : decode cX12_simplify 117 = .ok (.istore 7, 2) := by decide +kernel
theorem dX12_simplify_119 : decode cX12_simplify 119 = .ok (.iload 5, 2) := by decide +kernel
theorem dX12_simplify_121 : decode cX12_simplify 121 = .ok (.iload 6, 2) := by decide +kernel
theorem dX12_simplify_123 : decode cX12_simplify 123 = .ok (.if_icmp .ge 176, 3) := by decide +kernel
theorem dX12_simplify_126 : decode cX12_simplify 126 = .ok (.aload_n 0, 1) := by decide +kernel
theorem dX12_simplify_127 : decode cX12_simplify 127 = .ok (.getfield 23, 3) := by decide +kernel
theorem dX12_simplify_130 : decode cX12_simplify 130 = .ok (.iload 5, 2) := by decide +kernel
theorem dX12_simplify_132 : decode cX12_simplify 132 = .ok (.iaload, 1) := by decide +kernel
theorem dX12_simplify_133 : decode cX12_simplify 133 = .ok (.istore 8, 2) := by decide +kernel
theorem dX12_simplify_135 : decode cX12_simplify 135 = .ok (.aload_n 0, 1) := by decide +kernel
theorem dX12_simplify_136 : decode cX12_simplify 136 = .ok (.getfield 23, 3) := by decide +kernel
theorem dX12_simplify_139 : decode cX12_simplify 139 = .ok (.iload 5, 2) := by decide +kernel
theorem dX12_simplify_141 : decode cX12_simplify 141 = .ok (.iconst 1, 1) := by decide +kernel
theorem dX12_simplify_142 : decode cX12_simplify 142 = .ok (.iadd, 1) := by decide +kernel
theorem dX12_simplify_143 : decode cX12_simplify 143 = .ok (.iaload, 1) := by decide +kernel
theorem dX12_simplify_144 : decode cX12_simplify 144 = .ok (.istore 9, 2) := by decide +kernel
theorem dX12_simplify_146 : decode cX12_simplify 146 = .ok (.iinc 5 2, 3) := by decide +kernel
theorem dX12_simplify_149 : decode cX12_simplify 149 = .ok (.aload_n 0, 1) := by decide +kernel
theorem dX12_simplify_150 : decode cX12_simplify 150 = .ok (.iload 8, 2) := by decide +kernel
theorem dX12_simplify_152 : decode cX12_simplify 152 = .ok (.invokevirtual 352, 3) := by decide +kernel
theorem dX12_simplify_155 : decode cX12_simplify 155 = .ok (.iload 8, 2) := by decide +kernel
theorem dX12_simplify_157 : decode cX12_simplify 157 = .ok (.iconst 2, 1) := by decide +kernel
theorem dX12_simplify_158 : decode cX12_simplify 158 = .ok (.if_icmp .ne 27, 3) := by decide +kernel
theorem dX12_simplify_161 : decode cX12_simplify 161 = .ok (.aload_n 0, 1) := by decide +kernel
theorem dX12_simplify_162 : decode cX12_simplify 162 = .ok (.aload_n 0, 1) := by decide +kernel
theorem dX12_simplify_163 : decode cX12_simplify 163 = .ok (.iload 7, 2) := by decide +kernel
theorem dX12_simplify_165 : decode cX12_simplify 165 = .ok (.iload 9, 2) := by decide +kernel
theorem dX12_simplify_167 : decode cX12_simplify 167 = .ok (.iload_n 3, 1) := by decide +kernel
theorem dX12_simplify_168 : decode cX12_simplify 168 = .ok (.i2l, 1) := by decide +kernel
theorem dX12_simplify_169 : decode cX12_simplify 169 = .ok (.invokevirtual 1113, 3) := by decide +kernel
theorem dX12_simplify_172 : decode cX12_simplify 172 = .ok (.invokevirtual 352, 3) := by decide +kernel
theorem dX12_simplify_175 : decode cX12_simplify 175 = .ok (.iload 7, 2) := by decide +kernel
theorem dX12_simplify_177 : decode cX12_simplify 177 = .ok (.iload 9, 2) := by decide +kernel
theorem dX12_simplify_179 : decode cX12_simplify 179 = .ok (.iadd, 1) := by decide +kernel
theorem dX12_simplify_180 : decode cX12_simplify 180 = .ok (.istore 7, 2) := by decide +kernel
theorem dX12_simplify_182 : decode cX12_simplify 182 = .ok (.goto (-63), 3) := by decide +kernel
theorem dX12_simplify_185 : decode cX12_simplify 185 = .ok (.aload_n 0, 1) := by decide +kernel
theorem dX12_simplify_186 : decode cX12_simplify 186 = .ok (.iload 9, 2) := by decide +kernel
theorem dX12_simplify_188 : decode cX12_simplify 188 = .ok (.invokevirtual 352, 3) := by decide +kernel
theorem dX12_simplify_191 : decode cX12_simplify 191 = .ok (.iload 8, 2) := by decide +kernel
theorem dX12_simplify_193 : decode cX12_simplify 193 = .ok (.iconst 1, 1) := by decide +kernel
theorem dX12_simplify_194 : decode cX12_simplify 194 = .ok (.if_icmp .ne 29, 3) := by decide +kernel
theorem dX12_simplify_197 : decode cX12_simplify 197 = .ok (.iload 9, 2) := by decide +kernel
theorem dX12_simplify_199 : decode cX12_simplify 199 = .ok (.iconst 1, 1) := by decide +kernel
theorem dX12_simplify_200 : decode cX12_simplify 200 = .ok (.if_icmp .ne 23, 3) := by decide +kernel
theorem dX12_simplify_203 : decode cX12_simplify 203 = .ok (.aload_n 0, 1) := by decide +kernel
theorem dX12_simplify_204 : decode cX12_simplify 204 = .ok (.aload_n 0, 1) := by decide +kernel
theorem dX12_simplify_205 : decode cX12_simplify 205 = .ok (.getfield 29, 3) := by decide +kernel
theorem dX12_simplify_208 : decode cX12_simplify 208 = .ok (.iload 7, 2) := by decide +kernel
theorem dX12_simplify_210 : decode cX12_simplify 210 = .ok (.iaload, 1) := by decide +kernel
theorem dX12_simplify_211 : decode cX12_simplify 211 = .ok (.i2l, 1) := by decide +kernel
theorem dX12_simplify_212 : decode cX12_simplify 212 = .ok (.aload_n 0, 1) := by decide +kernel
theorem dX12_simplify_213 : decode cX12_simplify 213 = .ok (.getfield 32, 3) := by decide +kernel
theorem dX12_simplify_216 : decode cX12_simplify 216 = .ok (.iload 7, 2) := by decide +kernel
theorem dX12_simplify_218 : decode cX12_simplify 218 = .ok (.iaload, 1) := by decide +kernel
theorem dX12_simplify_219 : decode cX12_simplify 219 = .ok (.i2l, 1) := by decide +kernel
theorem dX12_simplify_220 : decode cX12_simplify 220 = .ok (.invokevirtual 412, 3) := by decide +kernel
theorem dX12_simplify_223 : decode cX12_simplify 223 = .ok (.iload 7, 2) := by decide +kernel
theorem dX12_simplify_225 : decode cX12_simplify 225 = .ok (.iload 8, 2) := by decide +kernel
theorem dX12_simplify_227 : decode cX12_simplify 227 = .ok (.iconst 1, 1) := by decide +kernel
theorem dX12_simplify_228 : decode cX12_simplify 228 = .ok (.if_icmp .ne 8, 3) := by decide +kernel
theorem dX12_simplify_231 : decode cX12_simplify 231 = .ok (.iload 9, 2) := by decide +kernel
theorem dX12_simplify_233 : decode cX12_simplify 233 = .ok (.goto 4, 3) := by decide +kernel
theorem dX12_simplify_236 : decode cX12_simplify 236 = .ok (.iconst 0, 1) := by decide +kernel
theorem dX12_simplify_237 : decode cX12_simplify 237 = .ok (.iadd, 1) := by decide +kernel
theorem dX12_simplify_238 : decode cX12_simplify 238 = .ok (.istore 7, 2) := by decide +kernel
theorem dX12_simplify_240 : decode cX12_simplify 240 = .ok (.iconst 0, 1) := by decide +kernel
theorem dX12_simplify_241 : decode cX12_simplify 241 = .ok (.istore 10, 2) := by decide +kernel
theorem dX12_simplify_243 : decode cX12_simplify 243 = .ok (.iload 8, 2) := by decide +kernel
theorem dX12_simplify_245 : decode cX12_simplify 245 = .ok (.iconst 3, 1) := by decide +kernel
theorem dX12_simplify_246 : decode cX12_simplify 246 = .ok (.if_icmp .ne 50, 3) := by decide +kernel
theorem dX12_simplify_249 : decode cX12_simplify 249 = .ok (.iload 10, 2) := by decide +kernel
theorem dX12_simplify_251 : decode cX12_simplify 251 = .ok (.iload 9, 2) := by decide +kernel
theorem dX12_simplify_253 : decode cX12_simplify 253 = .ok (.if_icmp .ge 43, 3) := by decide +kernel
theorem dX12_simplify_256 : decode cX12_simplify 256 = .ok (.aload_n 0, 1) := by decide +kernel
theorem dX12_simplify_257 : decode cX12_simplify 257 = .ok (.aload_n 0, 1) := by decide +kernel
theorem dX12_simplify_258 : decode cX12_simplify 258 = .ok (.iload 7, 2) := by decide +kernel
theorem dX12_simplify_260 : decode cX12_simplify 260 = .ok (.aload_n 0, 1) := by decide +kernel
theorem dX12_simplify_261 : decode cX12_simplify 261 = .ok (.getfield 23, 3) := by decide +kernel
theorem dX12_simplify_264 : decode cX12_simplify 264 = .ok (.iload 5, 2) := by decide +kernel
theorem dX12_simplify_266 : decode cX12_simplify 266 = .ok (.iaload, 1) := by decide +kernel
theorem dX12_simplify_267 : decode cX12_simplify 267 = .ok (.iload_n 3, 1) := by decide +kernel
theorem dX12_simplify_268 : decode cX12_simplify 268 = .ok (.i2l, 1) := by decide +kernel
theorem dX12_simplify_269 : decode cX12_simplify 269 = .ok (.invokevirtual 1113, 3) := by decide +kernel
theorem dX12_simplify_272 : decode cX12_simplify 272 = .ok (.invokevirtual 352, 3) := by decide +kernel
theorem dX12_simplify_275 : decode cX12_simplify 275 = .ok (.iload 7, 2) := by decide +kernel
theorem dX12_simplify_277 : decode cX12_simplify 277 = .ok (.aload_n 0, 1) := by decide +kernel
theorem dX12_simplify_278 : decode cX12_simplify 278 = .ok (.getfield 23, 3) := by decide +kernel
theorem dX12_simplify_281 : decode cX12_simplify 281 = .ok (.iload 5, 2) := by decide +kernel
theorem dX12_simplify_283 : decode cX12_simplify 283 = .ok (.iaload, 1) := by decide +kernel
theorem dX12_simplify_284 : decode cX12_simplify 284 = .ok (.iadd, 1) := by decide +kernel
theorem dX12_simplify_285 : decode cX12_simplify 285 = .ok (.istore 7, 2) := by decide +kernel
theorem dX12_simplify_287 : decode cX12_simplify 287 = .ok (.iinc 5 1, 3) := by decide +kernel
theorem dX12_simplify_290 : decode cX12_simplify 290 = .ok (.iinc 10 1, 3) := by decide +kernel
theorem dX12_simplify_293 : decode cX12_simplify 293 = .ok (.goto (-50), 3) := by decide +kernel
theorem dX12_simplify_296 : decode cX12_simplify 296 = .ok (.goto (-177), 3) := by decide +kernel
theorem dX12_simplify_299 : decode cX12_simplify 299 = .ok (.aload_n 0, 1) := by decide +kernel
theorem dX12_simplify_300 : decode cX12_simplify 300 = .ok (.bipush 32, 2) := by decide +kernel
theorem dX12_simplify_302 : decode cX12_simplify 302 = .ok (.iload_n 2, 1) := by decide +kernel
theorem dX12_simplify_303 : decode cX12_simplify 303 = .ok (.invokevirtual 449, 3) := by decide +kernel
theorem dX12_simplify_306 : decode cX12_simplify 306 = .ok (.iload 4, 2) := by decide +kernel
theorem dX12_simplify_308 : decode cX12_simplify 308 = .ok (.aload_n 0, 1) := by decide +kernel
theorem dX12_simplify_309 : decode cX12_simplify 309 = .ok (.getfield 26, 3) := by decide +kernel
theorem dX12_simplify_312 : decode cX12_simplify 312 = .ok (.iload_n 2, 1) := by decide +kernel
theorem dX12_simplify_313 : decode cX12_simplify 313 = .ok (.iaload, 1) := by decide +kernel
theorem dX12_simplify_314 : decode cX12_simplify 314 = .ok (.isub, 1) := by decide +kernel
theorem dX12_simplify_315 : decode cX12_simplify 315 = .ok (.ireturn, 1) := by decide +kernel
theorem dJ13_compare_74951_0 : decode cJ13_compare_74951 0 = .ok (.lload_n 0, 1) := by decide +kernel
theorem dJ13_compare_74951_1 : decode cJ13_compare_74951 1 = .ok (.lload_n 2, 1) := by decide +kernel
theorem dJ13_compare_74951_2 : decode cJ13_compare_74951 2 = .ok (.lcmp, 1) := by decide +kernel
theorem dJ13_compare_74951_3 : decode cJ13_compare_74951 3 = .ok (.ifCond .ge 7, 3) := by decide +kernel
theorem dJ13_compare_74951_6 : decode cJ13_compare_74951 6 = .ok (.iconst (-1), 1) := by decide +kernel
theorem dJ13_compare_74951_7 : decode cJ13_compare_74951 7 = .ok (.goto 14, 3) := by decide +kernel
theorem dJ13_compare_74951_10 : decode cJ13_compare_74951 10 = .ok (.lload_n 0, 1) := by decide +kernel
theorem dJ13_compare_74951_11 : decode cJ13_compare_74951 11 = .ok (.lload_n 2, 1) := by decide +kernel
theorem dJ13_compare_74951_12 : decode cJ13_compare_74951 12 = .ok (.lcmp, 1) := by decide +kernel
theorem dJ13_compare_74951_13 : decode cJ13_compare_74951 13 = .ok (.ifCond .ne 7, 3) := by decide +kernel
theorem dJ13_compare_74951_16 : decode cJ13_compare_74951 16 = .ok (.iconst 0, 1) := by decide +kernel
theorem dJ13_compare_74951_17 : decode cJ13_compare_74951 17 = .ok (.goto 4, 3) := by decide +kernel
theorem dJ13_compare_74951_20 : decode cJ13_compare_74951 20 = .ok (.iconst 1, 1) := by decide +kernel
theorem dJ13_compare_74951_21 : decode cJ13_compare_74951 21 = .ok (.ireturn, 1) := by decide +kernel
theorem dJ7_rangeCheck_23922_0 : decode cJ7_rangeCheck_23922 0 = .ok (.iload_n 1, 1) := by decide +kernel
theorem dJ7_rangeCheck_23922_1 : decode cJ7_rangeCheck_23922 1 = .ok (.iload_n 2, 1) := by decide +kernel
theorem dJ7_rangeCheck_23922_2 : decode cJ7_rangeCheck_23922 2 = .ok (.if_icmp .le 44, 3) := by decide +kernel
theorem dJ7_rangeCheck_23922_5 : decode cJ7_rangeCheck_23922 5 = .ok (.new 43, 3) := by decide +kernel
theorem dJ7_rangeCheck_23922_8 : decode cJ7_rangeCheck_23922 8 = .ok (.dup, 1) := by decide +kernel
theorem dJ7_rangeCheck_23922_9 : decode cJ7_rangeCheck_23922 9 = .ok (.new 45, 3) := by decide +kernel
theorem dJ7_rangeCheck_23922_12 : decode cJ7_rangeCheck_23922 12 = .ok (.dup, 1) := by decide +kernel
theorem dJ7_rangeCheck_23922_13 : decode cJ7_rangeCheck_23922 13 = .ok (.invokespecial 47, 3) := by decide +kernel
theorem dJ7_rangeCheck_23922_16 : decode cJ7_rangeCheck_23922 16 = .ok (.ldc 48, 2) := by decide +kernel
theorem dJ7_rangeCheck_23922_18 : decode cJ7_rangeCheck_23922 18 = .ok (.invokevirtual 50, 3) := by decide +kernel
theorem dJ7_rangeCheck_23922_21 : decode cJ7_rangeCheck_23922 21 = .ok (.iload_n 1, 1) := by decide +kernel
theorem dJ7_rangeCheck_23922_22 : decode cJ7_rangeCheck_23922 22 = .ok (.invokevirtual 54, 3) := by decide +kernel
theorem dJ7_rangeCheck_23922_25 : decode cJ7_rangeCheck_23922 25 = .ok (.ldc 57, 2) := by decide +kernel
theorem dJ7_rangeCheck_23922_27 : decode cJ7_rangeCheck_23922 27 = .ok (.invokevirtual 50, 3) := by decide +kernel
theorem dJ7_rangeCheck_23922_30 : decode cJ7_rangeCheck_23922 30 = .ok (.iload_n 2, 1) := by decide +kernel
theorem dJ7_rangeCheck_23922_31 : decode cJ7_rangeCheck_23922 31 = .ok (.invokevirtual 54, 3) := by decide +kernel
theorem dJ7_rangeCheck_23922_34 : decode cJ7_rangeCheck_23922 34 = .ok (.ldc 59, 2) := by decide +kernel
theorem dJ7_rangeCheck_23922_36 : decode cJ7_rangeCheck_23922 36 = .ok (.invokevirtual 50, 3) := by decide +kernel
theorem dJ7_rangeCheck_23922_39 : decode cJ7_rangeCheck_23922 39 = .ok (.invokevirtual 61, 3) := by decide +kernel
theorem dJ7_rangeCheck_23922_42 : decode cJ7_rangeCheck_23922 42 = .ok (.invokespecial 65, 3) := by decide +kernel
theorem dJ7_rangeCheck_23922_45 : decode cJ7_rangeCheck_23922 45 = .ok (.athrow, 1) := by decide +kernel
theorem dJ7_rangeCheck_23922_46 : decode cJ7_rangeCheck_23922 46 = .ok (.iload_n 1, 1) := by decide +kernel
theorem dJ7_rangeCheck_23922_47 : decode cJ7_rangeCheck_23922 47 = .ok (.ifCond .ge 12, 3) := by decide +kernel
theorem dJ7_rangeCheck_23922_50 : decode cJ7_rangeCheck_23922 50 = .ok (.new 68, 3) := by decide +kernel
theorem dJ7_rangeCheck_23922_53 : decode cJ7_rangeCheck_23922 53 = .ok (.dup, 1) := by decide +kernel
theorem dJ7_rangeCheck_23922_54 : decode cJ7_rangeCheck_23922 54 = .ok (.iload_n 1, 1) := by decide +kernel
theorem dJ7_rangeCheck_23922_55 : decode cJ7_rangeCheck_23922 55 = .ok (.invokespecial 70, 3) := by decide +kernel
theorem dJ7_rangeCheck_23922_58 : decode cJ7_rangeCheck_23922 58 = .ok (.athrow, 1) := by decide +kernel
theorem dJ7_rangeCheck_23922_59 : decode cJ7_rangeCheck_23922 59 = .ok (.iload_n 2, 1) := by decide +kernel
theorem dJ7_rangeCheck_23922_60 : decode cJ7_rangeCheck_23922 60 = .ok (.iload_n 0, 1) := by decide +kernel
theorem dJ7_rangeCheck_23922_61 : decode cJ7_rangeCheck_23922 61 = .ok (.if_icmp .le 12, 3) := by decide +kernel
theorem dJ7_rangeCheck_23922_64 : decode cJ7_rangeCheck_23922 64 = .ok (.new 68, 3) := by decide +kernel
theorem dJ7_rangeCheck_23922_67 : decode cJ7_rangeCheck_23922 67 = .ok (.dup, 1) := by decide +kernel
theorem dJ7_rangeCheck_23922_68 : decode cJ7_rangeCheck_23922 68 = .ok (.iload_n 2, 1) := by decide +kernel
theorem dJ7_rangeCheck_23922_69 : decode cJ7_rangeCheck_23922 69 = .ok (.invokespecial 70, 3) := by decide +kernel
theorem dJ7_rangeCheck_23922_72 : decode cJ7_rangeCheck_23922 72 = .ok (.athrow, 1) := by decide +kernel
theorem dJ7_rangeCheck_23922_73 : decode cJ7_rangeCheck_23922 73 = .ok (.return_, 1) := by decide +kernel
theorem dJ7_fill_fda19_0 : decode cJ7_fill_fda19 0 = .ok (.aload_n 0, 1) := by decide +kernel
theorem dJ7_fill_fda19_1 : decode cJ7_fill_fda19 1 = .ok (.arraylength, 1) := by decide +kernel
theorem dJ7_fill_fda19_2 : decode cJ7_fill_fda19 2 = .ok (.iload_n 1, 1) := by decide +kernel
theorem dJ7_fill_fda19_3 : decode cJ7_fill_fda19 3 = .ok (.iload_n 2, 1) := by decide +kernel
theorem dJ7_fill_fda19_4 : decode cJ7_fill_fda19 4 = .ok (.invokestatic 13, 3) := by decide +kernel
theorem dJ7_fill_fda19_7 : decode cJ7_fill_fda19 7 = .ok (.iload_n 1, 1) := by decide +kernel
theorem dJ7_fill_fda19_8 : decode cJ7_fill_fda19 8 = .ok (.istore 4, 2) := by decide +kernel
theorem dJ7_fill_fda19_10 : decode cJ7_fill_fda19 10 = .ok (.iload 4, 2) := by decide +kernel
theorem dJ7_fill_fda19_12 : decode cJ7_fill_fda19 12 = .ok (.iload_n 2, 1) := by decide +kernel
theorem dJ7_fill_fda19_13 : decode cJ7_fill_fda19 13 = .ok (.if_icmp .ge 14, 3) := by decide +kernel
theorem dJ7_fill_fda19_16 : decode cJ7_fill_fda19 16 = .ok (.aload_n 0, 1) := by decide +kernel
theorem dJ7_fill_fda19_17 : decode cJ7_fill_fda19 17 = .ok (.iload 4, 2) := by decide +kernel
theorem dJ7_fill_fda19_19 : decode cJ7_fill_fda19 19 = .ok (.iload_n 3, 1) := by decide +kernel
theorem dJ7_fill_fda19_20 : decode cJ7_fill_fda19 20 = .ok (.iastore, 1) := by decide +kernel
theorem dJ7_fill_fda19_21 : decode cJ7_fill_fda19 21 = .ok (.iinc 4 1, 3) := by decide +kernel
theorem dJ7_fill_fda19_24 : decode cJ7_fill_fda19 24 = .ok (.goto (-14), 3) := by decide +kernel
theorem dJ7_fill_fda19_27 : decode cJ7_fill_fda19 27 = .ok (.return_, 1) := by decide +kernel
theorem dJ7_fill_bad5a_0 : decode cJ7_fill_bad5a 0 = .ok (.aload_n 0, 1) := by decide +kernel
theorem dJ7_fill_bad5a_1 : decode cJ7_fill_bad5a 1 = .ok (.arraylength, 1) := by decide +kernel
theorem dJ7_fill_bad5a_2 : decode cJ7_fill_bad5a 2 = .ok (.iload_n 1, 1) := by decide +kernel
theorem dJ7_fill_bad5a_3 : decode cJ7_fill_bad5a 3 = .ok (.iload_n 2, 1) := by decide +kernel
theorem dJ7_fill_bad5a_4 : decode cJ7_fill_bad5a 4 = .ok (.invokestatic 13, 3) := by decide +kernel
theorem dJ7_fill_bad5a_7 : decode cJ7_fill_bad5a 7 = .ok (.iload_n 1, 1) := by decide +kernel
theorem dJ7_fill_bad5a_8 : decode cJ7_fill_bad5a 8 = .ok (.istore 5, 2) := by decide +kernel
theorem dJ7_fill_bad5a_10 : decode cJ7_fill_bad5a 10 = .ok (.iload 5, 2) := by decide +kernel
theorem dJ7_fill_bad5a_12 : decode cJ7_fill_bad5a 12 = .ok (.iload_n 2, 1) := by decide +kernel
theorem dJ7_fill_bad5a_13 : decode cJ7_fill_bad5a 13 = .ok (.if_icmp .ge 14, 3) := by decide +kernel
theorem dJ7_fill_bad5a_16 : decode cJ7_fill_bad5a 16 = .ok (.aload_n 0, 1) := by decide +kernel
theorem dJ7_fill_bad5a_17 : decode cJ7_fill_bad5a 17 = .ok (.iload 5, 2) := by decide +kernel
theorem dJ7_fill_bad5a_19 : decode cJ7_fill_bad5a 19 = .ok (.lload_n 3, 1) := by decide +kernel
theorem dJ7_fill_bad5a_20 : decode cJ7_fill_bad5a 20 = .ok (.lastore, 1) := by decide +kernel
theorem dJ7_fill_bad5a_21 : decode cJ7_fill_bad5a 21 = .ok (.iinc 5 1, 3) := by decide +kernel
theorem dJ7_fill_bad5a_24 : decode cJ7_fill_bad5a 24 = .ok (.goto (-14), 3) := by decide +kernel
theorem dJ7_fill_bad5a_27 : decode cJ7_fill_bad5a 27 = .ok (.return_, 1) := by decide +kernel
theorem dX12_part_0 : decode cX12_part 0 = .ok (.aload_n 0, 1) := by decide +kernel
theorem dX12_part_1 : decode cX12_part 1 = .ok (.iload_n 1, 1) := by decide +kernel
theorem dX12_part_2 : decode cX12_part 2 = .ok (.invokevirtual 373, 3) := by decide +kernel
theorem dX12_part_5 : decode cX12_part 5 = .ok (.ifCond .ne 5, 3) := by decide +kernel
theorem dX12_part_8 : decode cX12_part 8 = .ok (.iconst 0, 1) := by decide +kernel
theorem dX12_part_9 : decode cX12_part 9 = .ok (.ireturn, 1) := by decide +kernel
theorem dX12_part_10 : decode cX12_part 10 = .ok (.aload_n 0, 1) := by decide +kernel
theorem dX12_part_11 : decode cX12_part 11 = .ok (.getfield 18, 3) := by decide +kernel
theorem dX12_part_14 : decode cX12_part 14 = .ok (.bipush 32, 2) := by decide +kernel
theorem dX12_part_16 : decode cX12_part 16 = .ok (.iaload, 1) := by decide +kernel
theorem dX12_part_17 : decode cX12_part 17 = .ok (.iconst 1, 1) := by decide +kernel
theorem dX12_part_18 : decode cX12_part 18 = .ok (.isub, 1) := by decide +kernel
theorem dX12_part_19 : decode cX12_part 19 = .ok (.istore_n 2, 1) := by decide +kernel
theorem dX12_part_20 : decode cX12_part 20 = .ok (.aload_n 0, 1) := by decide +kernel
theorem dX12_part_21 : decode cX12_part 21 = .ok (.invokevirtual 306, 3) := by decide +kernel
theorem dX12_part_24 : decode cX12_part 24 = .ok (.istore_n 3, 1) := by decide +kernel
theorem dX12_part_25 : decode cX12_part 25 = .ok (.iload_n 3, 1) := by decide +kernel
theorem dX12_part_26 : decode cX12_part 26 = .ok (.iconst (-1), 1) := by decide +kernel
theorem dX12_part_27 : decode cX12_part 27 = .ok (.if_icmp .eq 15, 3) := by decide +kernel
theorem dX12_part_30 : decode cX12_part 30 = .ok (.iload_n 3, 1) := by decide +kernel
theorem dX12_part_31 : decode cX12_part 31 = .ok (.invokestatic 314, 3) := by decide +kernel
theorem dX12_part_34 : decode cX12_part 34 = .ok (.ifCond .eq 8, 3) := by decide +kernel
theorem dX12_part_37 : decode cX12_part 37 = .ok (.aload_n 0, 1) := by decide +kernel
theorem dX12_part_38 : decode cX12_part 38 = .ok (.invokevirtual 379, 3) := by decide +kernel
theorem dX12_part_41 : decode cX12_part 41 = .ok (.ireturn, 1) := by decide +kernel
theorem dX12_part_42 : decode cX12_part 42 = .ok (.iload_n 3, 1) := by decide +kernel
theorem dX12_part_43 : decode cX12_part 43 = .ok (.bipush 40, 2) := by decide +kernel
theorem dX12_part_45 : decode cX12_part 45 = .ok (.if_icmp .ne 20, 3) := by decide +kernel
theorem dX12_part_48 : decode cX12_part 48 = .ok (.aload_n 0, 1) := by decide +kernel
theorem dX12_part_49 : decode cX12_part 49 = .ok (.dup, 1) := by decide +kernel
theorem dX12_part_50 : decode cX12_part 50 = .ok (.getfield 300, 3) := by decide +kernel
theorem dX12_part_53 : decode cX12_part 53 = .ok (.iconst 1, 1) := by decide +kernel
theorem dX12_part_54 : decode cX12_part 54 = .ok (.iadd, 1) := by decide +kernel
theorem dX12_part_55 : decode cX12_part 55 = .ok (.putfield 300, 3) := by decide +kernel
theorem dX12_part_58 : decode cX12_part 58 = .ok (.aload_n 0, 1) := by decide +kernel
theorem dX12_part_59 : decode cX12_part 59 = .ok (.iload_n 1, 1) := by decide +kernel
theorem dX12_part_60 : decode cX12_part 60 = .ok (.iload_n 2, 1) := by decide +kernel
theorem dX12_part_61 : decode cX12_part 61 = .ok (.invokevirtual 382, 3) := by decide +kernel
theorem dX12_part_64 : decode cX12_part 64 = .ok (.ireturn, 1) := by decide +kernel
theorem dX12_part_65 : decode cX12_part 65 = .ok (.iload_n 1, 1) := by decide +kernel
theorem dX12_part_66 : decode cX12_part 66 = .ok (.iconst 1, 1) := by decide +kernel
theorem dX12_part_67 : decode cX12_part 67 = .ok (.if_icmp .gt 23, 3) := by decide +kernel
theorem dX12_part_70 : decode cX12_part 70 = .ok (.iload_n 3, 1) := by decide +kernel
theorem dX12_part_71 : decode cX12_part 71 = .ok (.invokestatic 321, 3) := by decide +kernel
theorem dX12_part_74 : decode cX12_part 74 = .ok (.ifCond .ne 22, 3) := by decide +kernel
theorem dX12_part_77 : decode cX12_part 77 = .ok (.iload_n 3, 1) := by decide +kernel
theorem dX12_part_78 : decode cX12_part 78 = .ok (.invokestatic 324, 3) := by decide +kernel
theorem dX12_part_81 : decode cX12_part 81 = .ok (.ifCond .ne 15, 3) := by decide +kernel
theorem dX12_part_84 : decode cX12_part 84 = .ok (.iload_n 3, 1) := by decide +kernel
theorem dX12_part_85 : decode cX12_part 85 = .ok (.bipush 46, 2) := by decide +kernel
theorem dX12_part_87 : decode cX12_part 87 = .ok (.if_icmp .eq 9, 3) := by decide +kernel
theorem dX12_part_90 : decode cX12_part 90 = .ok (.aload_n 0, 1) := by decide +kernel
theorem dX12_part_91 : decode cX12_part 91 = .ok (.iconst 1, 1) := by decide +kernel
theorem dX12_part_92 : decode cX12_part 92 = .ok (.invokevirtual 369, 3) := by decide +kernel
theorem dX12_part_95 : decode cX12_part 95 = .ok (.ireturn, 1) := by decide +kernel
theorem dX12_part_96 : decode cX12_part 96 = .ok (.aload_n 0, 1) := by decide +kernel
theorem dX12_part_97 : decode cX12_part 97 = .ok (.iload_n 2, 1) := by decide +kernel
theorem dX12_part_98 : decode cX12_part 98 = .ok (.invokevirtual 376, 3) := by decide +kernel
theorem dX12_part_101 : decode cX12_part 101 = .ok (.aload_n 0, 1) := by decide +kernel
theorem dX12_part_102 : decode cX12_part 102 = .ok (.invokevirtual 385, 3) := by decide +kernel
theorem dX12_part_105 : decode cX12_part 105 = .ok (.ireturn, 1) := by decide +kernel
theorem dX12_parts_0 : decode cX12_parts 0 = .ok (.iconst 1, 1) := by decide +kernel
theorem dX12_parts_1 : decode cX12_parts 1 = .ok (.istore_n 3, 1) := by decide +kernel
theorem dX12_parts_2 : decode cX12_parts 2 = .ok (.iload_n 3, 1) := by decide +kernel
theorem dX12_parts_3 : decode cX12_parts 3 = .ok (.iconst 1, 1) := by decide +kernel
theorem dX12_parts_4 : decode cX12_parts 4 = .ok (.if_icmp .ne 28, 3) := by decide +kernel
theorem dX12_parts_7 : decode cX12_parts 7 = .ok (.aload_n 0, 1) := by decide +kernel
theorem dX12_parts_8 : decode cX12_parts 8 = .ok (.iload_n 1, 1) := by decide +kernel
theorem dX12_parts_9 : decode cX12_parts 9 = .ok (.iconst 3, 1) := by decide +kernel
theorem dX12_parts_10 : decode cX12_parts 10 = .ok (.isub, 1) := by decide +kernel
theorem dX12_parts_11 : decode cX12_parts 11 = .ok (.invokevirtual 403, 3) := by decide +kernel
theorem dX12_parts_14 : decode cX12_parts 14 = .ok (.ifCond .ne 5, 3) := by decide +kernel
theorem dX12_parts_17 : decode cX12_parts 17 = .ok (.iconst 0, 1) := by decide +kernel
theorem dX12_parts_18 : decode cX12_parts 18 = .ok (.ireturn, 1) := by decide +kernel
theorem dX12_parts_19 : decode cX12_parts 19 = .ok (.aload_n 0, 1) := by decide +kernel
theorem dX12_parts_20 : decode cX12_parts 20 = .ok (.iload_n 2, 1) := by decide +kernel
theorem dX12_parts_21 : decode cX12_parts 21 = .ok (.invokevirtual 376, 3) := by decide +kernel
theorem dX12_parts_24 : decode cX12_parts 24 = .ok (.aload_n 0, 1) := by decide +kernel
theorem dX12_parts_25 : decode cX12_parts 25 = .ok (.invokevirtual 400, 3) := by decide +kernel
theorem dX12_parts_28 : decode cX12_parts 28 = .ok (.istore_n 3, 1) := by decide +kernel
theorem dX12_parts_29 : decode cX12_parts 29 = .ok (.goto (-27), 3) := by decide +kernel
theorem dX12_parts_32 : decode cX12_parts 32 = .ok (.iload_n 3, 1) := by decide +kernel
theorem dX12_parts_33 : decode cX12_parts 33 = .ok (.ifCond .ne 7, 3) := by decide +kernel
theorem dX12_parts_36 : decode cX12_parts 36 = .ok (.iconst 1, 1) := by decide +kernel
theorem dX12_parts_37 : decode cX12_parts 37 = .ok (.goto 4, 3) := by decide +kernel
theorem dX12_parts_40 : decode cX12_parts 40 = .ok (.iconst 0, 1) := by decide +kernel
theorem dX12_parts_41 : decode cX12_parts 41 = .ok (.ireturn, 1) := by decide +kernel
theorem dJ0_length_8abf5_0 : decode cJ0_length_8abf5 0 = .ok (.aload_n 0, 1) := by decide +kernel
theorem dJ0_length_8abf5_1 : decode cJ0_length_8abf5 1 = .ok (.getfield 9, 3) := by decide +kernel
theorem dJ0_length_8abf5_4 : decode cJ0_length_8abf5 4 = .ok (.arraylength, 1) := by decide +kernel
theorem dJ0_length_8abf5_5 : decode cJ0_length_8abf5 5 = .ok (.aload_n 0, 1) := by decide +kernel
theorem dJ0_length_8abf5_6 : decode cJ0_length_8abf5 6 = .ok (.invokevirtual 335, 3) := by decide +kernel
theorem dJ0_length_8abf5_9 : decode cJ0_length_8abf5 9 = .ok (.ishr, 1) := by decide +kernel
theorem dJ0_length_8abf5_10 : decode cJ0_length_8abf5 10 = .ok (.ireturn, 1) := by decide +kernel
theorem dJ0_charAt_5068e_0 : decode cJ0_charAt_5068e 0 = .ok (.aload_n 0, 1) := by decide +kernel
theorem dJ0_charAt_5068e_1 : decode cJ0_charAt_5068e 1 = .ok (.invokevirtual 492, 3) := by decide +kernel
theorem dJ0_charAt_5068e_4 : decode cJ0_charAt_5068e 4 = .ok (.ifCond .eq 12, 3) := by decide +kernel
theorem dJ0_charAt_5068e_7 : decode cJ0_charAt_5068e 7 = .ok (.aload_n 0, 1) := by decide +kernel
theorem dJ0_charAt_5068e_8 : decode cJ0_charAt_5068e 8 = .ok (.getfield 9, 3) := by decide +kernel
theorem dJ0_charAt_5068e_11 : decode cJ0_charAt_5068e 11 = .ok (.iload_n 1, 1) := by decide +kernel
theorem dJ0_charAt_5068e_12 : decode cJ0_charAt_5068e 12 = .ok (.invokestatic 495, 3) := by decide +kernel
theorem dJ0_charAt_5068e_15 : decode cJ0_charAt_5068e 15 = .ok (.ireturn, 1) := by decide +kernel
theorem dJ0_charAt_5068e_16 : decode cJ0_charAt_5068e 16 = .ok (.aload_n 0, 1) := by decide +kernel
theorem dJ0_charAt_5068e_17 : decode cJ0_charAt_5068e 17 = .ok (.getfield 9, 3) := by decide +kernel
theorem dJ0_charAt_5068e_20 : decode cJ0_charAt_5068e 20 = .ok (.iload_n 1, 1) := by decide +kernel
theorem dJ0_charAt_5068e_21 : decode cJ0_charAt_5068e 21 = .ok (.invokestatic 498, 3) := by decide +kernel
theorem dJ0_charAt_5068e_24 : decode cJ0_charAt_5068e 24 = .ok (.ireturn, 1) := by decide +kernel
theorem dJ0_isLatin1_aae02_0 : decode cJ0_isLatin1_aae02 0 = .ok (.getstatic 38, 3) := by decide +kernel
theorem dJ0_isLatin1_aae02_3 : decode cJ0_isLatin1_aae02 3 = .ok (.ifCond .eq 14, 3) := by decide +kernel
theorem dJ0_isLatin1_aae02_6 : decode cJ0_isLatin1_aae02 6 = .ok (.aload_n 0, 1) := by decide +kernel
theorem dJ0_isLatin1_aae02_7 : decode cJ0_isLatin1_aae02 7 = .ok (.getfield 15, 3) := by decide +kernel
theorem dJ0_isLatin1_aae02_10 : decode cJ0_isLatin1_aae02 10 = .ok (.ifCond .ne 7, 3) := by decide +kernel
theorem dJ0_isLatin1_aae02_13 : decode cJ0_isLatin1_aae02 13 = .ok (.iconst 1, 1) := by decide +kernel
theorem dJ0_isLatin1_aae02_14 : decode cJ0_isLatin1_aae02 14 = .ok (.goto 4, 3) := by decide +kernel
theorem dJ0_isLatin1_aae02_17 : decode cJ0_isLatin1_aae02 17 = .ok (.iconst 0, 1) := by decide +kernel
theorem dJ0_isLatin1_aae02_18 : decode cJ0_isLatin1_aae02 18 = .ok (.ireturn, 1) := by decide +kernel
theorem dJ0_coder_7d493_0 : decode cJ0_coder_7d493 0 = .ok (.getstatic 38, 3) := by decide +kernel
theorem dJ0_coder_7d493_3 : decode cJ0_coder_7d493 3 = .ok (.ifCond .eq 10, 3) := by decide +kernel
theorem dJ0_coder_7d493_6 : decode cJ0_coder_7d493 6 = .ok (.aload_n 0, 1) := by decide +kernel
theorem dJ0_coder_7d493_7 : decode cJ0_coder_7d493 7 = .ok (.getfield 15, 3) := by decide +kernel
theorem dJ0_coder_7d493_10 : decode cJ0_coder_7d493 10 = .ok (.goto 4, 3) := by decide +kernel
theorem dJ0_coder_7d493_13 : decode cJ0_coder_7d493 13 = .ok (.iconst 1, 1) := by decide +kernel
theorem dJ0_coder_7d493_14 : decode cJ0_coder_7d493 14 = .ok (.ireturn, 1) := by decide +kernel
theorem dJ1_charAt_3b067_0 : decode cJ1_charAt_3b067 0 = .ok (.iload_n 1, 1) := by decide +kernel
theorem dJ1_charAt_3b067_1 : decode cJ1_charAt_3b067 1 = .ok (.aload_n 0, 1) := by decide +kernel
theorem dJ1_charAt_3b067_2 : decode cJ1_charAt_3b067 2 = .ok (.arraylength, 1) := by decide +kernel
theorem dJ1_charAt_3b067_3 : decode cJ1_charAt_3b067 3 = .ok (.invokestatic 9, 3) := by decide +kernel
theorem dJ1_charAt_3b067_6 : decode cJ1_charAt_3b067 6 = .ok (.aload_n 0, 1) := by decide +kernel
theorem dJ1_charAt_3b067_7 : decode cJ1_charAt_3b067 7 = .ok (.iload_n 1, 1) := by decide +kernel
theorem dJ1_charAt_3b067_8 : decode cJ1_charAt_3b067 8 = .ok (.baload, 1) := by decide +kernel
theorem dJ1_charAt_3b067_9 : decode cJ1_charAt_3b067 9 = .ok (.sipush 255, 3) := by decide +kernel
theorem dJ1_charAt_3b067_12 : decode cJ1_charAt_3b067 12 = .ok (.iand, 1) := by decide +kernel
theorem dJ1_charAt_3b067_13 : decode cJ1_charAt_3b067 13 = .ok (.i2c, 1) := by decide +kernel
theorem dJ1_charAt_3b067_14 : decode cJ1_charAt_3b067 14 = .ok (.ireturn, 1) := by decide +kernel
theorem dJ0_checkIndex_df160_0 : decode cJ0_checkIndex_df160 0 = .ok (.iload_n 0, 1) := by decide +kernel
theorem dJ0_checkIndex_df160_1 : decode cJ0_checkIndex_df160 1 = .ok (.iload_n 1, 1) := by decide +kernel
theorem dJ0_checkIndex_df160_2 : decode cJ0_checkIndex_df160 2 = .ok (.getstatic 1053, 3) := by decide +kernel
theorem dJ0_checkIndex_df160_5 : decode cJ0_checkIndex_df160 5 = .ok (.invokestatic 1059, 3) := by decide +kernel
theorem dJ0_checkIndex_df160_8 : decode cJ0_checkIndex_df160 8 = .ok (.pop, 1) := by decide +kernel
theorem dJ0_checkIndex_df160_9 : decode cJ0_checkIndex_df160 9 = .ok (.return_, 1) := by decide +kernel
theorem dJ3_checkIndex_8e157_0 : decode cJ3_checkIndex_8e157 0 = .ok (.iload_n 0, 1) := by decide +kernel
theorem dJ3_checkIndex_8e157_1 : decode cJ3_checkIndex_8e157 1 = .ok (.ifCond .lt 8, 3) := by decide +kernel
theorem dJ3_checkIndex_8e157_4 : decode cJ3_checkIndex_8e157 4 = .ok (.iload_n 0, 1) := by decide +kernel
theorem dJ3_checkIndex_8e157_5 : decode cJ3_checkIndex_8e157 5 = .ok (.iload_n 1, 1) := by decide +kernel
theorem dJ3_checkIndex_8e157_6 : decode cJ3_checkIndex_8e157 6 = .ok (.if_icmp .lt 10, 3) := by decide +kernel
theorem dJ3_checkIndex_8e157_9 : decode cJ3_checkIndex_8e157 9 = .ok (.aload_n 2, 1) := by decide +kernel
theorem dJ3_checkIndex_8e157_10 : decode cJ3_checkIndex_8e157 10 = .ok (.iload_n 0, 1) := by decide +kernel
theorem dJ3_checkIndex_8e157_11 : decode cJ3_checkIndex_8e157 11 = .ok (.iload_n 1, 1) := by decide +kernel
theorem dJ3_checkIndex_8e157_12 : decode cJ3_checkIndex_8e157 12 = .ok (.invokestatic 95, 3) := by decide +kernel
theorem dJ3_checkIndex_8e157_15 : decode cJ3_checkIndex_8e157 15 = .ok (.athrow, 1) := by decide +kernel
theorem dJ3_checkIndex_8e157_16 : decode cJ3_checkIndex_8e157 16 = .ok (.iload_n 0, 1) := by decide +kernel
theorem dJ3_checkIndex_8e157_17 : decode cJ3_checkIndex_8e157 17 = .ok (.ireturn, 1) := by decide +kernel
theorem dL_feed_0 : decode cL_feed 0 = .ok (.aload 6, 2) := by decide +kernel
theorem dL_feed_2 : decode cL_feed 2 = .ok (.iconst 0, 1) := by decide +kernel
theorem dL_feed_3 : decode cL_feed 3 = .ok (.aload_n 0, 1) := by decide +kernel
theorem dL_feed_4 : decode cL_feed 4 = .ok (.iload_n 1, 1) := by decide +kernel
theorem dL_feed_5 : decode cL_feed 5 = .ok (.iload_n 2, 1) := by decide +kernel
theorem dL_feed_6 : decode cL_feed 6 = .ok (.iload_n 3, 1) := by decide +kernel
theorem dL_feed_7 : decode cL_feed 7 = .ok (.iload 4, 2) := by decide +kernel
theorem dL_feed_9 : decode cL_feed 9 = .ok (.iload 5, 2) := by decide +kernel
theorem dL_feed_11 : decode cL_feed 11 = .ok (.invokevirtual 7, 3) := by decide +kernel
theorem dL_feed_14 : decode cL_feed 14 = .ok (.i2l, 1) := by decide +kernel
theorem dL_feed_15 : decode cL_feed 15 = .ok (.lastore, 1) := by decide +kernel
theorem dL_feed_16 : decode cL_feed 16 = .ok (.goto 7, 3) := by decide +kernel
theorem dL_feed_19 : decode cL_feed 19 = .ok (.astore 7, 2) := by decide +kernel
theorem dL_feed_21 : decode cL_feed 21 = .ok (.iconst 1, 1) := by decide +kernel
theorem dL_feed_22 : decode cL_feed 22 = .ok (.ireturn, 1) := by decide +kernel
theorem dL_feed_23 : decode cL_feed 23 = .ok (.iconst 0, 1) := by decide +kernel
theorem dL_feed_24 : decode cL_feed 24 = .ok (.ireturn, 1) := by decide +kernel
theorem dL_end_0 : decode cL_end 0 = .ok (.aload_n 2, 1) := by decide +kernel
theorem dL_end_1 : decode cL_end 1 = .ok (.iconst 0, 1) := by decide +kernel
theorem dL_end_2 : decode cL_end 2 = .ok (.aload_n 0, 1) := by decide +kernel
theorem dL_end_3 : decode cL_end 3 = .ok (.iload_n 1, 1) := by decide +kernel
theorem dL_end_4 : decode cL_end 4 = .ok (.invokevirtual 15, 3) := by decide +kernel
theorem dL_end_7 : decode cL_end 7 = .ok (.i2l, 1) := by decide +kernel
theorem dL_end_8 : decode cL_end 8 = .ok (.lastore, 1) := by decide +kernel
theorem dL_end_9 : decode cL_end 9 = .ok (.goto 9, 3) := by decide +kernel
theorem dL_end_12 : decode cL_end 12 = .ok (.astore_n 3, 1) := by decide +kernel
theorem dL_end_13 : decode cL_end 13 = .ok (.iconst 1, 1) := by decide +kernel
theorem dL_end_14 : decode cL_end 14 = .ok (.ireturn, 1) := by decide +kernel
theorem dL_end_15 : decode cL_end 15 = .ok (.astore_n 3, 1) := by decide +kernel
theorem dL_end_16 : decode cL_end 16 = .ok (.iconst 2, 1) := by decide +kernel
theorem dL_end_17 : decode cL_end 17 = .ok (.ireturn, 1) := by decide +kernel
theorem dL_end_18 : decode cL_end 18 = .ok (.iconst 0, 1) := by decide +kernel
theorem dL_end_19 : decode cL_end 19 = .ok (.ireturn, 1) := by decide +kernel
theorem dL_readWords_0 : decode cL_readWords 0 = .ok (.aload_n 2, 1) := by decide +kernel
theorem dL_readWords_1 : decode cL_readWords 1 = .ok (.iconst 0, 1) := by decide +kernel
theorem dL_readWords_2 : decode cL_readWords 2 = .ok (.aload_n 0, 1) := by decide +kernel
theorem dL_readWords_3 : decode cL_readWords 3 = .ok (.iload_n 1, 1) := by decide +kernel
theorem dL_readWords_4 : decode cL_readWords 4 = .ok (.invokevirtual 21, 3) := by decide +kernel
theorem dL_readWords_7 : decode cL_readWords 7 = .ok (.i2l, 1) := by decide +kernel
theorem dL_readWords_8 : decode cL_readWords 8 = .ok (.lastore, 1) := by decide +kernel
theorem dL_readWords_9 : decode cL_readWords 9 = .ok (.goto 9, 3) := by decide +kernel
theorem dL_readWords_12 : decode cL_readWords 12 = .ok (.astore_n 3, 1) := by decide +kernel
theorem dL_readWords_13 : decode cL_readWords 13 = .ok (.iconst 1, 1) := by decide +kernel
theorem dL_readWords_14 : decode cL_readWords 14 = .ok (.ireturn, 1) := by decide +kernel
theorem dL_readWords_15 : decode cL_readWords 15 = .ok (.astore_n 3, 1) := by decide +kernel
theorem dL_readWords_16 : decode cL_readWords 16 = .ok (.iconst 2, 1) := by decide +kernel
theorem dL_readWords_17 : decode cL_readWords 17 = .ok (.ireturn, 1) := by decide +kernel
theorem dL_readWords_18 : decode cL_readWords 18 = .ok (.iconst 0, 1) := by decide +kernel
theorem dL_readWords_19 : decode cL_readWords 19 = .ok (.ireturn, 1) := by decide +kernel
theorem dL_readBytes_0 : decode cL_readBytes 0 = .ok (.aload_n 2, 1) := by decide +kernel
theorem dL_readBytes_1 : decode cL_readBytes 1 = .ok (.iconst 0, 1) := by decide +kernel
theorem dL_readBytes_2 : decode cL_readBytes 2 = .ok (.aload_n 0, 1) := by decide +kernel
theorem dL_readBytes_3 : decode cL_readBytes 3 = .ok (.iload_n 1, 1) := by decide +kernel
theorem dL_readBytes_4 : decode cL_readBytes 4 = .ok (.invokevirtual 26, 3) := by decide +kernel
theorem dL_readBytes_7 : decode cL_readBytes 7 = .ok (.i2l, 1) := by decide +kernel
theorem dL_readBytes_8 : decode cL_readBytes 8 = .ok (.lastore, 1) := by decide +kernel
theorem dL_readBytes_9 : decode cL_readBytes 9 = .ok (.goto 9, 3) := by decide +kernel
theorem dL_readBytes_12 : decode cL_readBytes 12 = .ok (.astore_n 3, 1) := by decide +kernel
theorem dL_readBytes_13 : decode cL_readBytes 13 = .ok (.iconst 1, 1) := by decide +kernel
theorem dL_readBytes_14 : decode cL_readBytes 14 = .ok (.ireturn, 1) := by decide +kernel
theorem dL_readBytes_15 : decode cL_readBytes 15 = .ok (.astore_n 3, 1) := by decide +kernel
theorem dL_readBytes_16 : decode cL_readBytes 16 = .ok (.iconst 2, 1) := by decide +kernel
theorem dL_readBytes_17 : decode cL_readBytes 17 = .ok (.ireturn, 1) := by decide +kernel
theorem dL_readBytes_18 : decode cL_readBytes 18 = .ok (.iconst 0, 1) := by decide +kernel
theorem dL_readBytes_19 : decode cL_readBytes 19 = .ok (.ireturn, 1) := by decide +kernel
theorem dL_fault_0 : decode cL_fault 0 = .ok (.aload_n 2, 1) := by decide +kernel
theorem dL_fault_1 : decode cL_fault 1 = .ok (.iconst 0, 1) := by decide +kernel
theorem dL_fault_2 : decode cL_fault 2 = .ok (.aload_n 0, 1) := by decide +kernel
theorem dL_fault_3 : decode cL_fault 3 = .ok (.iload_n 1, 1) := by decide +kernel
theorem dL_fault_4 : decode cL_fault 4 = .ok (.invokevirtual 29, 3) := by decide +kernel
theorem dL_fault_7 : decode cL_fault 7 = .ok (.i2l, 1) := by decide +kernel
theorem dL_fault_8 : decode cL_fault 8 = .ok (.lastore, 1) := by decide +kernel
theorem dL_fault_9 : decode cL_fault 9 = .ok (.goto 6, 3) := by decide +kernel
theorem dL_fault_12 : decode cL_fault 12 = .ok (.astore_n 3, 1) := by decide +kernel
theorem dL_fault_13 : decode cL_fault 13 = .ok (.iconst 1, 1) := by decide +kernel
theorem dL_fault_14 : decode cL_fault 14 = .ok (.ireturn, 1) := by decide +kernel
theorem dL_fault_15 : decode cL_fault 15 = .ok (.iconst 0, 1) := by decide +kernel
theorem dL_fault_16 : decode cL_fault 16 = .ok (.ireturn, 1) := by decide +kernel
theorem dL_writeWords_0 : decode cL_writeWords 0 = .ok (.aload_n 2, 1) := by decide +kernel
theorem dL_writeWords_1 : decode cL_writeWords 1 = .ok (.iconst 0, 1) := by decide +kernel
theorem dL_writeWords_2 : decode cL_writeWords 2 = .ok (.aload_n 0, 1) := by decide +kernel
theorem dL_writeWords_3 : decode cL_writeWords 3 = .ok (.iload_n 1, 1) := by decide +kernel
theorem dL_writeWords_4 : decode cL_writeWords 4 = .ok (.invokevirtual 32, 3) := by decide +kernel
theorem dL_writeWords_7 : decode cL_writeWords 7 = .ok (.i2l, 1) := by decide +kernel
theorem dL_writeWords_8 : decode cL_writeWords 8 = .ok (.lastore, 1) := by decide +kernel
theorem dL_writeWords_9 : decode cL_writeWords 9 = .ok (.goto 9, 3) := by decide +kernel
theorem dL_writeWords_12 : decode cL_writeWords 12 = .ok (.astore_n 3, 1) := by decide +kernel
theorem dL_writeWords_13 : decode cL_writeWords 13 = .ok (.iconst 1, 1) := by decide +kernel
theorem dL_writeWords_14 : decode cL_writeWords 14 = .ok (.ireturn, 1) := by decide +kernel
theorem dL_writeWords_15 : decode cL_writeWords 15 = .ok (.astore_n 3, 1) := by decide +kernel
theorem dL_writeWords_16 : decode cL_writeWords 16 = .ok (.iconst 2, 1) := by decide +kernel
theorem dL_writeWords_17 : decode cL_writeWords 17 = .ok (.ireturn, 1) := by decide +kernel
theorem dL_writeWords_18 : decode cL_writeWords 18 = .ok (.iconst 0, 1) := by decide +kernel
theorem dL_writeWords_19 : decode cL_writeWords 19 = .ok (.ireturn, 1) := by decide +kernel
theorem dL_writeBytes_0 : decode cL_writeBytes 0 = .ok (.aload_n 3, 1) := by decide +kernel
theorem dL_writeBytes_1 : decode cL_writeBytes 1 = .ok (.iconst 0, 1) := by decide +kernel
theorem dL_writeBytes_2 : decode cL_writeBytes 2 = .ok (.aload_n 0, 1) := by decide +kernel
theorem dL_writeBytes_3 : decode cL_writeBytes 3 = .ok (.iload_n 1, 1) := by decide +kernel
theorem dL_writeBytes_4 : decode cL_writeBytes 4 = .ok (.iload_n 2, 1) := by decide +kernel
theorem dL_writeBytes_5 : decode cL_writeBytes 5 = .ok (.invokevirtual 35, 3) := by decide +kernel
theorem dL_writeBytes_8 : decode cL_writeBytes 8 = .ok (.i2l, 1) := by decide +kernel
theorem dL_writeBytes_9 : decode cL_writeBytes 9 = .ok (.lastore, 1) := by decide +kernel
theorem dL_writeBytes_10 : decode cL_writeBytes 10 = .ok (.goto 15, 3) := by decide +kernel
theorem dL_writeBytes_13 : decode cL_writeBytes 13 = .ok (.astore 4, 2) := by decide +kernel
theorem dL_writeBytes_15 : decode cL_writeBytes 15 = .ok (.iconst 1, 1) := by decide +kernel
theorem dL_writeBytes_16 : decode cL_writeBytes 16 = .ok (.ireturn, 1) := by decide +kernel
theorem dL_writeBytes_17 : decode cL_writeBytes 17 = .ok (.astore 4, 2) := by decide +kernel
theorem dL_writeBytes_19 : decode cL_writeBytes 19 = .ok (.iconst 2, 1) := by decide +kernel
theorem dL_writeBytes_20 : decode cL_writeBytes 20 = .ok (.ireturn, 1) := by decide +kernel
theorem dL_writeBytes_21 : decode cL_writeBytes 21 = .ok (.astore 4, 2) := by decide +kernel
theorem dL_writeBytes_23 : decode cL_writeBytes 23 = .ok (.iconst 3, 1) := by decide +kernel
theorem dL_writeBytes_24 : decode cL_writeBytes 24 = .ok (.ireturn, 1) := by decide +kernel
theorem dL_writeBytes_25 : decode cL_writeBytes 25 = .ok (.iconst 0, 1) := by decide +kernel
theorem dL_writeBytes_26 : decode cL_writeBytes 26 = .ok (.ireturn, 1) := by decide +kernel
theorem dL_byteAt_0 : decode cL_byteAt 0 = .ok (.aload_n 2, 1) := by decide +kernel
theorem dL_byteAt_1 : decode cL_byteAt 1 = .ok (.iconst 0, 1) := by decide +kernel
theorem dL_byteAt_2 : decode cL_byteAt 2 = .ok (.aload_n 0, 1) := by decide +kernel
theorem dL_byteAt_3 : decode cL_byteAt 3 = .ok (.iload_n 1, 1) := by decide +kernel
theorem dL_byteAt_4 : decode cL_byteAt 4 = .ok (.invokevirtual 39, 3) := by decide +kernel
theorem dL_byteAt_7 : decode cL_byteAt 7 = .ok (.i2l, 1) := by decide +kernel
theorem dL_byteAt_8 : decode cL_byteAt 8 = .ok (.lastore, 1) := by decide +kernel
theorem dL_byteAt_9 : decode cL_byteAt 9 = .ok (.goto 6, 3) := by decide +kernel
theorem dL_byteAt_12 : decode cL_byteAt 12 = .ok (.astore_n 3, 1) := by decide +kernel
theorem dL_byteAt_13 : decode cL_byteAt 13 = .ok (.iconst 1, 1) := by decide +kernel
theorem dL_byteAt_14 : decode cL_byteAt 14 = .ok (.ireturn, 1) := by decide +kernel
theorem dL_byteAt_15 : decode cL_byteAt 15 = .ok (.iconst 0, 1) := by decide +kernel
theorem dL_byteAt_16 : decode cL_byteAt 16 = .ok (.ireturn, 1) := by decide +kernel
theorem dL_copy_0 : decode cL_copy 0 = .ok (.aload_n 3, 1) := by decide +kernel
theorem dL_copy_1 : decode cL_copy 1 = .ok (.iconst 0, 1) := by decide +kernel
theorem dL_copy_2 : decode cL_copy 2 = .ok (.aload_n 0, 1) := by decide +kernel
theorem dL_copy_3 : decode cL_copy 3 = .ok (.iload_n 1, 1) := by decide +kernel
theorem dL_copy_4 : decode cL_copy 4 = .ok (.iload_n 2, 1) := by decide +kernel
theorem dL_copy_5 : decode cL_copy 5 = .ok (.invokevirtual 42, 3) := by decide +kernel
theorem dL_copy_8 : decode cL_copy 8 = .ok (.i2l, 1) := by decide +kernel
theorem dL_copy_9 : decode cL_copy 9 = .ok (.lastore, 1) := by decide +kernel
theorem dL_copy_10 : decode cL_copy 10 = .ok (.goto 11, 3) := by decide +kernel
theorem dL_copy_13 : decode cL_copy 13 = .ok (.astore 4, 2) := by decide +kernel
theorem dL_copy_15 : decode cL_copy 15 = .ok (.iconst 1, 1) := by decide +kernel
theorem dL_copy_16 : decode cL_copy 16 = .ok (.ireturn, 1) := by decide +kernel
theorem dL_copy_17 : decode cL_copy 17 = .ok (.astore 4, 2) := by decide +kernel
theorem dL_copy_19 : decode cL_copy 19 = .ok (.iconst 2, 1) := by decide +kernel
theorem dL_copy_20 : decode cL_copy 20 = .ok (.ireturn, 1) := by decide +kernel
theorem dL_copy_21 : decode cL_copy 21 = .ok (.iconst 0, 1) := by decide +kernel
theorem dL_copy_22 : decode cL_copy 22 = .ok (.ireturn, 1) := by decide +kernel
theorem dL_drop_0 : decode cL_drop 0 = .ok (.aload_n 2, 1) := by decide +kernel
theorem dL_drop_1 : decode cL_drop 1 = .ok (.iconst 0, 1) := by decide +kernel
theorem dL_drop_2 : decode cL_drop 2 = .ok (.aload_n 0, 1) := by decide +kernel
theorem dL_drop_3 : decode cL_drop 3 = .ok (.iload_n 1, 1) := by decide +kernel
theorem dL_drop_4 : decode cL_drop 4 = .ok (.invokevirtual 45, 3) := by decide +kernel
theorem dL_drop_7 : decode cL_drop 7 = .ok (.ifCond .eq 7, 3) := by decide +kernel
theorem dL_drop_10 : decode cL_drop 10 = .ok (.lconst 1, 1) := by decide +kernel
theorem dL_drop_11 : decode cL_drop 11 = .ok (.goto 4, 3) := by decide +kernel
theorem dL_drop_14 : decode cL_drop 14 = .ok (.lconst 0, 1) := by decide +kernel
theorem dL_drop_15 : decode cL_drop 15 = .ok (.lastore, 1) := by decide +kernel
theorem dL_drop_16 : decode cL_drop 16 = .ok (.goto 6, 3) := by decide +kernel
theorem dL_drop_19 : decode cL_drop 19 = .ok (.astore_n 3, 1) := by decide +kernel
theorem dL_drop_20 : decode cL_drop 20 = .ok (.iconst 1, 1) := by decide +kernel
theorem dL_drop_21 : decode cL_drop 21 = .ok (.ireturn, 1) := by decide +kernel
theorem dL_drop_22 : decode cL_drop 22 = .ok (.iconst 0, 1) := by decide +kernel
theorem dL_drop_23 : decode cL_drop 23 = .ok (.ireturn, 1) := by decide +kernel
theorem dL_same_0 : decode cL_same 0 = .ok (.aload_n 3, 1) := by decide +kernel
theorem dL_same_1 : decode cL_same 1 = .ok (.iconst 0, 1) := by decide +kernel
theorem dL_same_2 : decode cL_same 2 = .ok (.aload_n 0, 1) := by decide +kernel
theorem dL_same_3 : decode cL_same 3 = .ok (.iload_n 1, 1) := by decide +kernel
theorem dL_same_4 : decode cL_same 4 = .ok (.iload_n 2, 1) := by decide +kernel
theorem dL_same_5 : decode cL_same 5 = .ok (.invokevirtual 49, 3) := by decide +kernel
theorem dL_same_8 : decode cL_same 8 = .ok (.ifCond .eq 7, 3) := by decide +kernel
theorem dL_same_11 : decode cL_same 11 = .ok (.lconst 1, 1) := by decide +kernel
theorem dL_same_12 : decode cL_same 12 = .ok (.goto 4, 3) := by decide +kernel
theorem dL_same_15 : decode cL_same 15 = .ok (.lconst 0, 1) := by decide +kernel
theorem dL_same_16 : decode cL_same 16 = .ok (.lastore, 1) := by decide +kernel
theorem dL_same_17 : decode cL_same 17 = .ok (.goto 7, 3) := by decide +kernel
theorem dL_same_20 : decode cL_same 20 = .ok (.astore 4, 2) := by decide +kernel
theorem dL_same_22 : decode cL_same 22 = .ok (.iconst 1, 1) := by decide +kernel
theorem dL_same_23 : decode cL_same 23 = .ok (.ireturn, 1) := by decide +kernel
theorem dL_same_24 : decode cL_same 24 = .ok (.iconst 0, 1) := by decide +kernel
theorem dL_same_25 : decode cL_same 25 = .ok (.ireturn, 1) := by decide +kernel
theorem dL_judge_0 : decode cL_judge 0 = .ok (.aload_n 2, 1) := by decide +kernel
theorem dL_judge_1 : decode cL_judge 1 = .ok (.iconst 0, 1) := by decide +kernel
theorem dL_judge_2 : decode cL_judge 2 = .ok (.aload_n 0, 1) := by decide +kernel
theorem dL_judge_3 : decode cL_judge 3 = .ok (.iload_n 1, 1) := by decide +kernel
theorem dL_judge_4 : decode cL_judge 4 = .ok (.invokevirtual 53, 3) := by decide +kernel
theorem dL_judge_7 : decode cL_judge 7 = .ok (.i2l, 1) := by decide +kernel
theorem dL_judge_8 : decode cL_judge 8 = .ok (.lastore, 1) := by decide +kernel
theorem dL_judge_9 : decode cL_judge 9 = .ok (.goto 9, 3) := by decide +kernel
theorem dL_judge_12 : decode cL_judge 12 = .ok (.astore_n 3, 1) := by decide +kernel
theorem dL_judge_13 : decode cL_judge 13 = .ok (.iconst 1, 1) := by decide +kernel
theorem dL_judge_14 : decode cL_judge 14 = .ok (.ireturn, 1) := by decide +kernel
theorem dL_judge_15 : decode cL_judge 15 = .ok (.astore_n 3, 1) := by decide +kernel
theorem dL_judge_16 : decode cL_judge 16 = .ok (.iconst 2, 1) := by decide +kernel
theorem dL_judge_17 : decode cL_judge 17 = .ok (.ireturn, 1) := by decide +kernel
theorem dL_judge_18 : decode cL_judge 18 = .ok (.iconst 0, 1) := by decide +kernel
theorem dL_judge_19 : decode cL_judge 19 = .ok (.ireturn, 1) := by decide +kernel
theorem dL_place_0 : decode cL_place 0 = .ok (.aload_n 2, 1) := by decide +kernel
theorem dL_place_1 : decode cL_place 1 = .ok (.iconst 0, 1) := by decide +kernel
theorem dL_place_2 : decode cL_place 2 = .ok (.aload_n 0, 1) := by decide +kernel
theorem dL_place_3 : decode cL_place 3 = .ok (.iload_n 1, 1) := by decide +kernel
theorem dL_place_4 : decode cL_place 4 = .ok (.invokevirtual 56, 3) := by decide +kernel
theorem dL_place_7 : decode cL_place 7 = .ok (.i2l, 1) := by decide +kernel
theorem dL_place_8 : decode cL_place 8 = .ok (.lastore, 1) := by decide +kernel
theorem dL_place_9 : decode cL_place 9 = .ok (.goto 6, 3) := by decide +kernel
theorem dL_place_12 : decode cL_place 12 = .ok (.astore_n 3, 1) := by decide +kernel
theorem dL_place_13 : decode cL_place 13 = .ok (.iconst 1, 1) := by decide +kernel
theorem dL_place_14 : decode cL_place 14 = .ok (.ireturn, 1) := by decide +kernel
theorem dL_place_15 : decode cL_place 15 = .ok (.iconst 0, 1) := by decide +kernel
theorem dL_place_16 : decode cL_place 16 = .ok (.ireturn, 1) := by decide +kernel
theorem dL_overlay_0 : decode cL_overlay 0 = .ok (.aload 5, 2) := by decide +kernel
theorem dL_overlay_2 : decode cL_overlay 2 = .ok (.iconst 0, 1) := by decide +kernel
theorem dL_overlay_3 : decode cL_overlay 3 = .ok (.aload_n 0, 1) := by decide +kernel
theorem dL_overlay_4 : decode cL_overlay 4 = .ok (.iload_n 1, 1) := by decide +kernel
theorem dL_overlay_5 : decode cL_overlay 5 = .ok (.iload_n 2, 1) := by decide +kernel
theorem dL_overlay_6 : decode cL_overlay 6 = .ok (.iload_n 3, 1) := by decide +kernel
theorem dL_overlay_7 : decode cL_overlay 7 = .ok (.iload 4, 2) := by decide +kernel
theorem dL_overlay_9 : decode cL_overlay 9 = .ok (.invokevirtual 59, 3) := by decide +kernel
theorem dL_overlay_12 : decode cL_overlay 12 = .ok (.i2l, 1) := by decide +kernel
theorem dL_overlay_13 : decode cL_overlay 13 = .ok (.lastore, 1) := by decide +kernel
theorem dL_overlay_14 : decode cL_overlay 14 = .ok (.goto 19, 3) := by decide +kernel
theorem dL_overlay_17 : decode cL_overlay 17 = .ok (.astore 6, 2) := by decide +kernel
theorem dL_overlay_19 : decode cL_overlay 19 = .ok (.iconst 1, 1) := by decide +kernel
theorem dL_overlay_20 : decode cL_overlay 20 = .ok (.ireturn, 1) := by decide +kernel
theorem dL_overlay_21 : decode cL_overlay 21 = .ok (.astore 6, 2) := by decide +kernel
theorem dL_overlay_23 : decode cL_overlay 23 = .ok (.iconst 2, 1) := by decide +kernel
theorem dL_overlay_24 : decode cL_overlay 24 = .ok (.ireturn, 1) := by decide +kernel
theorem dL_overlay_25 : decode cL_overlay 25 = .ok (.astore 6, 2) := by decide +kernel
theorem dL_overlay_27 : decode cL_overlay 27 = .ok (.iconst 3, 1) := by decide +kernel
theorem dL_overlay_28 : decode cL_overlay 28 = .ok (.ireturn, 1) := by decide +kernel
theorem dL_overlay_29 : decode cL_overlay 29 = .ok (.astore 6, 2) := by decide +kernel
theorem dL_overlay_31 : decode cL_overlay 31 = .ok (.iconst 4, 1) := by decide +kernel
theorem dL_overlay_32 : decode cL_overlay 32 = .ok (.ireturn, 1) := by decide +kernel
theorem dL_overlay_33 : decode cL_overlay 33 = .ok (.iconst 0, 1) := by decide +kernel
theorem dL_overlay_34 : decode cL_overlay 34 = .ok (.ireturn, 1) := by decide +kernel
theorem dL_relate_0 : decode cL_relate 0 = .ok (.aload_n 3, 1) := by decide +kernel
theorem dL_relate_1 : decode cL_relate 1 = .ok (.iconst 0, 1) := by decide +kernel
theorem dL_relate_2 : decode cL_relate 2 = .ok (.aload_n 0, 1) := by decide +kernel
theorem dL_relate_3 : decode cL_relate 3 = .ok (.iload_n 1, 1) := by decide +kernel
theorem dL_relate_4 : decode cL_relate 4 = .ok (.iload_n 2, 1) := by decide +kernel
theorem dL_relate_5 : decode cL_relate 5 = .ok (.invokevirtual 65, 3) := by decide +kernel
theorem dL_relate_8 : decode cL_relate 8 = .ok (.i2l, 1) := by decide +kernel
theorem dL_relate_9 : decode cL_relate 9 = .ok (.lastore, 1) := by decide +kernel
theorem dL_relate_10 : decode cL_relate 10 = .ok (.goto 19, 3) := by decide +kernel
theorem dL_relate_13 : decode cL_relate 13 = .ok (.astore 4, 2) := by decide +kernel
theorem dL_relate_15 : decode cL_relate 15 = .ok (.iconst 1, 1) := by decide +kernel
theorem dL_relate_16 : decode cL_relate 16 = .ok (.ireturn, 1) := by decide +kernel
theorem dL_relate_17 : decode cL_relate 17 = .ok (.astore 4, 2) := by decide +kernel
theorem dL_relate_19 : decode cL_relate 19 = .ok (.iconst 2, 1) := by decide +kernel
theorem dL_relate_20 : decode cL_relate 20 = .ok (.ireturn, 1) := by decide +kernel
theorem dL_relate_21 : decode cL_relate 21 = .ok (.astore 4, 2) := by decide +kernel
theorem dL_relate_23 : decode cL_relate 23 = .ok (.iconst 3, 1) := by decide +kernel
theorem dL_relate_24 : decode cL_relate 24 = .ok (.ireturn, 1) := by decide +kernel
theorem dL_relate_25 : decode cL_relate 25 = .ok (.astore 4, 2) := by decide +kernel
theorem dL_relate_27 : decode cL_relate 27 = .ok (.iconst 4, 1) := by decide +kernel
theorem dL_relate_28 : decode cL_relate 28 = .ok (.ireturn, 1) := by decide +kernel
theorem dL_relate_29 : decode cL_relate 29 = .ok (.iconst 0, 1) := by decide +kernel
theorem dL_relate_30 : decode cL_relate 30 = .ok (.ireturn, 1) := by decide +kernel
theorem dL_is_0 : decode cL_is 0 = .ok (.aload 4, 2) := by decide +kernel
theorem dL_is_2 : decode cL_is 2 = .ok (.iconst 0, 1) := by decide +kernel
theorem dL_is_3 : decode cL_is 3 = .ok (.aload_n 0, 1) := by decide +kernel
theorem dL_is_4 : decode cL_is 4 = .ok (.iload_n 1, 1) := by decide +kernel
theorem dL_is_5 : decode cL_is 5 = .ok (.iload_n 2, 1) := by decide +kernel
theorem dL_is_6 : decode cL_is 6 = .ok (.iload_n 3, 1) := by decide +kernel
theorem dL_is_7 : decode cL_is 7 = .ok (.invokevirtual 68, 3) := by decide +kernel
theorem dL_is_10 : decode cL_is 10 = .ok (.ifCond .eq 7, 3) := by decide +kernel
theorem dL_is_13 : decode cL_is 13 = .ok (.lconst 1, 1) := by decide +kernel
theorem dL_is_14 : decode cL_is 14 = .ok (.goto 4, 3) := by decide +kernel
theorem dL_is_17 : decode cL_is 17 = .ok (.lconst 0, 1) := by decide +kernel
theorem dL_is_18 : decode cL_is 18 = .ok (.lastore, 1) := by decide +kernel
theorem dL_is_19 : decode cL_is 19 = .ok (.goto 19, 3) := by decide +kernel
theorem dL_is_22 : decode cL_is 22 = .ok (.astore 5, 2) := by decide +kernel
theorem dL_is_24 : decode cL_is 24 = .ok (.iconst 1, 1) := by decide +kernel
theorem dL_is_25 : decode cL_is 25 = .ok (.ireturn, 1) := by decide +kernel
theorem dL_is_26 : decode cL_is 26 = .ok (.astore 5, 2) := by decide +kernel
theorem dL_is_28 : decode cL_is 28 = .ok (.iconst 2, 1) := by decide +kernel
theorem dL_is_29 : decode cL_is 29 = .ok (.ireturn, 1) := by decide +kernel
theorem dL_is_30 : decode cL_is 30 = .ok (.astore 5, 2) := by decide +kernel
theorem dL_is_32 : decode cL_is 32 = .ok (.iconst 3, 1) := by decide +kernel
theorem dL_is_33 : decode cL_is 33 = .ok (.ireturn, 1) := by decide +kernel
theorem dL_is_34 : decode cL_is 34 = .ok (.astore 5, 2) := by decide +kernel
theorem dL_is_36 : decode cL_is 36 = .ok (.iconst 4, 1) := by decide +kernel
theorem dL_is_37 : decode cL_is 37 = .ok (.ireturn, 1) := by decide +kernel
theorem dL_is_38 : decode cL_is 38 = .ok (.iconst 0, 1) := by decide +kernel
theorem dL_is_39 : decode cL_is 39 = .ok (.ireturn, 1) := by decide +kernel
theorem dL_locate_0 : decode cL_locate 0 = .ok (.aload 4, 2) := by decide +kernel
theorem dL_locate_2 : decode cL_locate 2 = .ok (.iconst 0, 1) := by decide +kernel
theorem dL_locate_3 : decode cL_locate 3 = .ok (.aload_n 0, 1) := by decide +kernel
theorem dL_locate_4 : decode cL_locate 4 = .ok (.iload_n 1, 1) := by decide +kernel
theorem dL_locate_5 : decode cL_locate 5 = .ok (.iload_n 2, 1) := by decide +kernel
theorem dL_locate_6 : decode cL_locate 6 = .ok (.iload_n 3, 1) := by decide +kernel
theorem dL_locate_7 : decode cL_locate 7 = .ok (.invokevirtual 72, 3) := by decide +kernel
theorem dL_locate_10 : decode cL_locate 10 = .ok (.i2l, 1) := by decide +kernel
theorem dL_locate_11 : decode cL_locate 11 = .ok (.lastore, 1) := by decide +kernel
theorem dL_locate_12 : decode cL_locate 12 = .ok (.goto 19, 3) := by decide +kernel
theorem dL_locate_15 : decode cL_locate 15 = .ok (.astore 5, 2) := by decide +kernel
theorem dL_locate_17 : decode cL_locate 17 = .ok (.iconst 1, 1) := by decide +kernel
theorem dL_locate_18 : decode cL_locate 18 = .ok (.ireturn, 1) := by decide +kernel
theorem dL_locate_19 : decode cL_locate 19 = .ok (.astore 5, 2) := by decide +kernel
theorem dL_locate_21 : decode cL_locate 21 = .ok (.iconst 2, 1) := by decide +kernel
theorem dL_locate_22 : decode cL_locate 22 = .ok (.ireturn, 1) := by decide +kernel
theorem dL_locate_23 : decode cL_locate 23 = .ok (.astore 5, 2) := by decide +kernel
theorem dL_locate_25 : decode cL_locate 25 = .ok (.iconst 3, 1) := by decide +kernel
theorem dL_locate_26 : decode cL_locate 26 = .ok (.ireturn, 1) := by decide +kernel
theorem dL_locate_27 : decode cL_locate 27 = .ok (.astore 5, 2) := by decide +kernel
theorem dL_locate_29 : decode cL_locate 29 = .ok (.iconst 4, 1) := by decide +kernel
theorem dL_locate_30 : decode cL_locate 30 = .ok (.ireturn, 1) := by decide +kernel
theorem dL_locate_31 : decode cL_locate 31 = .ok (.iconst 0, 1) := by decide +kernel
theorem dL_locate_32 : decode cL_locate 32 = .ok (.ireturn, 1) := by decide +kernel
theorem dL_hull_0 : decode cL_hull 0 = .ok (.aload_n 3, 1) := by decide +kernel
theorem dL_hull_1 : decode cL_hull 1 = .ok (.iconst 0, 1) := by decide +kernel
theorem dL_hull_2 : decode cL_hull 2 = .ok (.aload_n 0, 1) := by decide +kernel
theorem dL_hull_3 : decode cL_hull 3 = .ok (.iload_n 1, 1) := by decide +kernel
theorem dL_hull_4 : decode cL_hull 4 = .ok (.iload_n 2, 1) := by decide +kernel
theorem dL_hull_5 : decode cL_hull 5 = .ok (.invokevirtual 76, 3) := by decide +kernel
theorem dL_hull_8 : decode cL_hull 8 = .ok (.i2l, 1) := by decide +kernel
theorem dL_hull_9 : decode cL_hull 9 = .ok (.lastore, 1) := by decide +kernel
theorem dL_hull_10 : decode cL_hull 10 = .ok (.goto 15, 3) := by decide +kernel
theorem dL_hull_13 : decode cL_hull 13 = .ok (.astore 4, 2) := by decide +kernel
theorem dL_hull_15 : decode cL_hull 15 = .ok (.iconst 1, 1) := by decide +kernel
theorem dL_hull_16 : decode cL_hull 16 = .ok (.ireturn, 1) := by decide +kernel
theorem dL_hull_17 : decode cL_hull 17 = .ok (.astore 4, 2) := by decide +kernel
theorem dL_hull_19 : decode cL_hull 19 = .ok (.iconst 2, 1) := by decide +kernel
theorem dL_hull_20 : decode cL_hull 20 = .ok (.ireturn, 1) := by decide +kernel
theorem dL_hull_21 : decode cL_hull 21 = .ok (.astore 4, 2) := by decide +kernel
theorem dL_hull_23 : decode cL_hull 23 = .ok (.iconst 3, 1) := by decide +kernel
theorem dL_hull_24 : decode cL_hull 24 = .ok (.ireturn, 1) := by decide +kernel
theorem dL_hull_25 : decode cL_hull 25 = .ok (.iconst 0, 1) := by decide +kernel
theorem dL_hull_26 : decode cL_hull 26 = .ok (.ireturn, 1) := by decide +kernel
theorem dL_triangles_0 : decode cL_triangles 0 = .ok (.aload_n 3, 1) := by decide +kernel
theorem dL_triangles_1 : decode cL_triangles 1 = .ok (.iconst 0, 1) := by decide +kernel
theorem dL_triangles_2 : decode cL_triangles 2 = .ok (.aload_n 0, 1) := by decide +kernel
theorem dL_triangles_3 : decode cL_triangles 3 = .ok (.iload_n 1, 1) := by decide +kernel
theorem dL_triangles_4 : decode cL_triangles 4 = .ok (.iload_n 2, 1) := by decide +kernel
theorem dL_triangles_5 : decode cL_triangles 5 = .ok (.invokevirtual 79, 3) := by decide +kernel
theorem dL_triangles_8 : decode cL_triangles 8 = .ok (.i2l, 1) := by decide +kernel
theorem dL_triangles_9 : decode cL_triangles 9 = .ok (.lastore, 1) := by decide +kernel
theorem dL_triangles_10 : decode cL_triangles 10 = .ok (.goto 15, 3) := by decide +kernel
theorem dL_triangles_13 : decode cL_triangles 13 = .ok (.astore 4, 2) := by decide +kernel
theorem dL_triangles_15 : decode cL_triangles 15 = .ok (.iconst 1, 1) := by decide +kernel
theorem dL_triangles_16 : decode cL_triangles 16 = .ok (.ireturn, 1) := by decide +kernel
theorem dL_triangles_17 : decode cL_triangles 17 = .ok (.astore 4, 2) := by decide +kernel
theorem dL_triangles_19 : decode cL_triangles 19 = .ok (.iconst 2, 1) := by decide +kernel
theorem dL_triangles_20 : decode cL_triangles 20 = .ok (.ireturn, 1) := by decide +kernel
theorem dL_triangles_21 : decode cL_triangles 21 = .ok (.astore 4, 2) := by decide +kernel
theorem dL_triangles_23 : decode cL_triangles 23 = .ok (.iconst 3, 1) := by decide +kernel
theorem dL_triangles_24 : decode cL_triangles 24 = .ok (.ireturn, 1) := by decide +kernel
theorem dL_triangles_25 : decode cL_triangles 25 = .ok (.iconst 0, 1) := by decide +kernel
theorem dL_triangles_26 : decode cL_triangles 26 = .ok (.ireturn, 1) := by decide +kernel
theorem dL_simplify_0 : decode cL_simplify 0 = .ok (.aload 4, 2) := by decide +kernel
theorem dL_simplify_2 : decode cL_simplify 2 = .ok (.iconst 0, 1) := by decide +kernel
theorem dL_simplify_3 : decode cL_simplify 3 = .ok (.aload_n 0, 1) := by decide +kernel
theorem dL_simplify_4 : decode cL_simplify 4 = .ok (.iload_n 1, 1) := by decide +kernel
theorem dL_simplify_5 : decode cL_simplify 5 = .ok (.iload_n 2, 1) := by decide +kernel
theorem dL_simplify_6 : decode cL_simplify 6 = .ok (.iload_n 3, 1) := by decide +kernel
theorem dL_simplify_7 : decode cL_simplify 7 = .ok (.invokevirtual 82, 3) := by decide +kernel
theorem dL_simplify_10 : decode cL_simplify 10 = .ok (.i2l, 1) := by decide +kernel
theorem dL_simplify_11 : decode cL_simplify 11 = .ok (.lastore, 1) := by decide +kernel
theorem dL_simplify_12 : decode cL_simplify 12 = .ok (.goto 15, 3) := by decide +kernel
theorem dL_simplify_15 : decode cL_simplify 15 = .ok (.astore 5, 2) := by decide +kernel
theorem dL_simplify_17 : decode cL_simplify 17 = .ok (.iconst 1, 1) := by decide +kernel
theorem dL_simplify_18 : decode cL_simplify 18 = .ok (.ireturn, 1) := by decide +kernel
theorem dL_simplify_19 : decode cL_simplify 19 = .ok (.astore 5, 2) := by decide +kernel
theorem dL_simplify_21 : decode cL_simplify 21 = .ok (.iconst 2, 1) := by decide +kernel
theorem dL_simplify_22 : decode cL_simplify 22 = .ok (.ireturn, 1) := by decide +kernel
theorem dL_simplify_23 : decode cL_simplify 23 = .ok (.astore 5, 2) := by decide +kernel
theorem dL_simplify_25 : decode cL_simplify 25 = .ok (.iconst 3, 1) := by decide +kernel
theorem dL_simplify_26 : decode cL_simplify 26 = .ok (.ireturn, 1) := by decide +kernel
theorem dL_simplify_27 : decode cL_simplify 27 = .ok (.iconst 0, 1) := by decide +kernel
theorem dL_simplify_28 : decode cL_simplify 28 = .ok (.ireturn, 1) := by decide +kernel
theorem dL_area_0 : decode cL_area 0 = .ok (.aload_n 2, 1) := by decide +kernel
theorem dL_area_1 : decode cL_area 1 = .ok (.iconst 0, 1) := by decide +kernel
theorem dL_area_2 : decode cL_area 2 = .ok (.aload_n 0, 1) := by decide +kernel
theorem dL_area_3 : decode cL_area 3 = .ok (.iload_n 1, 1) := by decide +kernel
theorem dL_area_4 : decode cL_area 4 = .ok (.invokevirtual 85, 3) := by decide +kernel
theorem dL_area_7 : decode cL_area 7 = .ok (.lastore, 1) := by decide +kernel
theorem dL_area_8 : decode cL_area 8 = .ok (.goto 9, 3) := by decide +kernel
theorem dL_area_11 : decode cL_area 11 = .ok (.astore_n 3, 1) := by decide +kernel
theorem dL_area_12 : decode cL_area 12 = .ok (.iconst 1, 1) := by decide +kernel
theorem dL_area_13 : decode cL_area 13 = .ok (.ireturn, 1) := by decide +kernel
theorem dL_area_14 : decode cL_area 14 = .ok (.astore_n 3, 1) := by decide +kernel
theorem dL_area_15 : decode cL_area 15 = .ok (.iconst 2, 1) := by decide +kernel
theorem dL_area_16 : decode cL_area 16 = .ok (.ireturn, 1) := by decide +kernel
theorem dL_area_17 : decode cL_area 17 = .ok (.iconst 0, 1) := by decide +kernel
theorem dL_area_18 : decode cL_area 18 = .ok (.ireturn, 1) := by decide +kernel
theorem dL_bounds_0 : decode cL_bounds 0 = .ok (.aload_n 3, 1) := by decide +kernel
theorem dL_bounds_1 : decode cL_bounds 1 = .ok (.iconst 0, 1) := by decide +kernel
theorem dL_bounds_2 : decode cL_bounds 2 = .ok (.aload_n 0, 1) := by decide +kernel
theorem dL_bounds_3 : decode cL_bounds 3 = .ok (.iload_n 1, 1) := by decide +kernel
theorem dL_bounds_4 : decode cL_bounds 4 = .ok (.iload_n 2, 1) := by decide +kernel
theorem dL_bounds_5 : decode cL_bounds 5 = .ok (.invokevirtual 89, 3) := by decide +kernel
theorem dL_bounds_8 : decode cL_bounds 8 = .ok (.i2l, 1) := by decide +kernel
theorem dL_bounds_9 : decode cL_bounds 9 = .ok (.lastore, 1) := by decide +kernel
theorem dL_bounds_10 : decode cL_bounds 10 = .ok (.goto 15, 3) := by decide +kernel
theorem dL_bounds_13 : decode cL_bounds 13 = .ok (.astore 4, 2) := by decide +kernel
theorem dL_bounds_15 : decode cL_bounds 15 = .ok (.iconst 1, 1) := by decide +kernel
theorem dL_bounds_16 : decode cL_bounds 16 = .ok (.ireturn, 1) := by decide +kernel
theorem dL_bounds_17 : decode cL_bounds 17 = .ok (.astore 4, 2) := by decide +kernel
theorem dL_bounds_19 : decode cL_bounds 19 = .ok (.iconst 2, 1) := by decide +kernel
theorem dL_bounds_20 : decode cL_bounds 20 = .ok (.ireturn, 1) := by decide +kernel
theorem dL_bounds_21 : decode cL_bounds 21 = .ok (.astore 4, 2) := by decide +kernel
theorem dL_bounds_23 : decode cL_bounds 23 = .ok (.iconst 3, 1) := by decide +kernel
theorem dL_bounds_24 : decode cL_bounds 24 = .ok (.ireturn, 1) := by decide +kernel
theorem dL_bounds_25 : decode cL_bounds 25 = .ok (.iconst 0, 1) := by decide +kernel
theorem dL_bounds_26 : decode cL_bounds 26 = .ok (.ireturn, 1) := by decide +kernel
