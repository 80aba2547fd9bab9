theorem dX12_shapeOfBytes_0 : decode cX12_shapeOfBytes 0 = .ok (.aload_n 0, 1) := by decide +kernel
theorem dX12_shapeOfBytes_1 : decode cX12_shapeOfBytes 1 = .ok (.iconst 1, 1) := by decide +kernel
theorem dX12_shapeOfBytes_2 : decode cX12_shapeOfBytes 2 = .ok (.invokevirtual 468, 3) := by decide +kernel
theorem dX12_shapeOfBytes_5 : decode cX12_shapeOfBytes 5 = .ok (.ifCond .ne 13, 3) := by decide +kernel
theorem dX12_shapeOfBytes_8 : decode cX12_shapeOfBytes 8 = .ok (.aload_n 0, 1) := by decide +kernel
theorem dX12_shapeOfBytes_9 : decode cX12_shapeOfBytes 9 = .ok (.iconst 3, 1) := by decide +kernel
theorem dX12_shapeOfBytes_10 : decode cX12_shapeOfBytes 10 = .ok (.aload_n 0, 1) := by decide +kernel
theorem dX12_shapeOfBytes_11 : decode cX12_shapeOfBytes 11 = .ok (.getfield 300, 3) := by decide +kernel
theorem dX12_shapeOfBytes_14 : decode cX12_shapeOfBytes 14 = .ok (.invokevirtual 317, 3) := by decide +kernel
theorem dX12_shapeOfBytes_17 : decode cX12_shapeOfBytes 17 = .ok (.ireturn, 1) := by decide +kernel
theorem dX12_shapeOfBytes_18 : decode cX12_shapeOfBytes 18 = .ok (.aload_n 0, 1) := by decide +kernel
theorem dX12_shapeOfBytes_19 : decode cX12_shapeOfBytes 19 = .ok (.getfield 8, 3) := by decide +kernel
theorem dX12_shapeOfBytes_22 : decode cX12_shapeOfBytes 22 = .ok (.aload_n 0, 1) := by decide +kernel
theorem dX12_shapeOfBytes_23 : decode cX12_shapeOfBytes 23 = .ok (.getfield 300, 3) := by decide +kernel
theorem dX12_shapeOfBytes_26 : decode cX12_shapeOfBytes 26 = .ok (.baload, 1) := by decide +kernel
theorem dX12_shapeOfBytes_27 : decode cX12_shapeOfBytes 27 = .ok (.ifCond .eq 26, 3) := by decide +kernel
theorem dX12_shapeOfBytes_30 : decode cX12_shapeOfBytes 30 = .ok (.aload_n 0, 1) := by decide +kernel
theorem dX12_shapeOfBytes_31 : decode cX12_shapeOfBytes 31 = .ok (.getfield 8, 3) := by decide +kernel
theorem dX12_shapeOfBytes_34 : decode cX12_shapeOfBytes 34 = .ok (.aload_n 0, 1) := by decide +kernel
theorem dX12_shapeOfBytes_35 : decode cX12_shapeOfBytes 35 = .ok (.getfield 300, 3) := by decide +kernel
theorem dX12_shapeOfBytes_38 : decode cX12_shapeOfBytes 38 = .ok (.baload, 1) := by decide +kernel
theorem dX12_shapeOfBytes_39 : decode cX12_shapeOfBytes 39 = .ok (.iconst 1, 1) := by decide +kernel
theorem dX12_shapeOfBytes_40 : decode cX12_shapeOfBytes 40 = .ok (.if_icmp .eq 13, 3) := by decide +kernel
theorem dX12_shapeOfBytes_43 : decode cX12_shapeOfBytes 43 = .ok (.aload_n 0, 1) := by decide +kernel
theorem dX12_shapeOfBytes_44 : decode cX12_shapeOfBytes 44 = .ok (.iconst 1, 1) := by decide +kernel
theorem dX12_shapeOfBytes_45 : decode cX12_shapeOfBytes 45 = .ok (.aload_n 0, 1) := by decide +kernel
theorem dX12_shapeOfBytes_46 : decode cX12_shapeOfBytes 46 = .ok (.getfield 300, 3) := by decide +kernel
theorem dX12_shapeOfBytes_49 : decode cX12_shapeOfBytes 49 = .ok (.invokevirtual 317, 3) := by decide +kernel
theorem dX12_shapeOfBytes_52 : decode cX12_shapeOfBytes 52 = .ok (.ireturn, 1) := by decide +kernel
theorem dX12_shapeOfBytes_53 : decode cX12_shapeOfBytes 53 = .ok (.aload_n 0, 1) := by decide +kernel
theorem dX12_shapeOfBytes_54 : decode cX12_shapeOfBytes 54 = .ok (.aload_n 0, 1) := by decide +kernel
theorem dX12_shapeOfBytes_55 : decode cX12_shapeOfBytes 55 = .ok (.getfield 8, 3) := by decide +kernel
theorem dX12_shapeOfBytes_58 : decode cX12_shapeOfBytes 58 = .ok (.aload_n 0, 1) := by decide +kernel
theorem dX12_shapeOfBytes_59 : decode cX12_shapeOfBytes 59 = .ok (.getfield 300, 3) := by decide +kernel
theorem dX12_shapeOfBytes_62 : decode cX12_shapeOfBytes 62 = .ok (.baload, 1) := by decide +kernel
theorem dX12_shapeOfBytes_63 : decode cX12_shapeOfBytes 63 = .ok (.ifCond .ne 7, 3) := by decide +kernel
theorem dX12_shapeOfBytes_66 : decode cX12_shapeOfBytes 66 = .ok (.iconst 1, 1) := by decide +kernel
theorem dX12_shapeOfBytes_67 : decode cX12_shapeOfBytes 67 = .ok (.goto 4, 3) := by decide +kernel
theorem dX12_shapeOfBytes_70 : decode cX12_shapeOfBytes 70 = .ok (.iconst 0, 1) := by decide +kernel
theorem dX12_shapeOfBytes_71 : decode cX12_shapeOfBytes 71 = .ok (.putfield 457, 3) := by decide +kernel
theorem dX12_shapeOfBytes_74 : decode cX12_shapeOfBytes 74 = .ok (.aload_n 0, 1) := by decide +kernel
theorem dX12_shapeOfBytes_75 : decode cX12_shapeOfBytes 75 = .ok (.dup, 1) := by decide +kernel
theorem dX12_shapeOfBytes_76 : decode cX12_shapeOfBytes 76 = .ok (.getfield 300, 3) := by decide +kernel
theorem dX12_shapeOfBytes_79 : decode cX12_shapeOfBytes 79 = .ok (.iconst 1, 1) := by decide +kernel
theorem dX12_shapeOfBytes_80 : decode cX12_shapeOfBytes 80 = .ok (.iadd, 1) := by decide +kernel
theorem dX12_shapeOfBytes_81 : decode cX12_shapeOfBytes 81 = .ok (.putfield 300, 3) := by decide +kernel
theorem dX12_shapeOfBytes_84 : decode cX12_shapeOfBytes 84 = .ok (.aload_n 0, 1) := by decide +kernel
theorem dX12_shapeOfBytes_85 : decode cX12_shapeOfBytes 85 = .ok (.iconst 4, 1) := by decide +kernel
theorem dX12_shapeOfBytes_86 : decode cX12_shapeOfBytes 86 = .ok (.invokevirtual 468, 3) := by decide +kernel
theorem dX12_shapeOfBytes_89 : decode cX12_shapeOfBytes 89 = .ok (.ifCond .ne 13, 3) := by decide +kernel
theorem dX12_shapeOfBytes_92 : decode cX12_shapeOfBytes 92 = .ok (.aload_n 0, 1) := by decide +kernel
theorem dX12_shapeOfBytes_93 : decode cX12_shapeOfBytes 93 = .ok (.iconst 3, 1) := by decide +kernel
theorem dX12_shapeOfBytes_94 : decode cX12_shapeOfBytes 94 = .ok (.aload_n 0, 1) := by decide +kernel
theorem dX12_shapeOfBytes_95 : decode cX12_shapeOfBytes 95 = .ok (.getfield 300, 3) := by decide +kernel
theorem dX12_shapeOfBytes_98 : decode cX12_shapeOfBytes 98 = .ok (.invokevirtual 317, 3) := by decide +kernel
theorem dX12_shapeOfBytes_101 : decode cX12_shapeOfBytes 101 = .ok (.ireturn, 1) := by decide +kernel
theorem dX12_shapeOfBytes_102 : decode cX12_shapeOfBytes 102 = .ok (.aload_n 0, 1) := by decide +kernel
theorem dX12_shapeOfBytes_103 : decode cX12_shapeOfBytes 103 = .ok (.aload_n 0, 1) := by decide +kernel
theorem dX12_shapeOfBytes_104 : decode cX12_shapeOfBytes 104 = .ok (.getfield 300, 3) := by decide +kernel
theorem dX12_shapeOfBytes_107 : decode cX12_shapeOfBytes 107 = .ok (.iconst 4, 1) := by decide +kernel
theorem dX12_shapeOfBytes_108 : decode cX12_shapeOfBytes 108 = .ok (.invokevirtual 471, 3) := by decide +kernel
theorem dX12_shapeOfBytes_111 : decode cX12_shapeOfBytes 111 = .ok (.lstore_n 2, 1) := by decide +kernel
theorem dX12_shapeOfBytes_112 : decode cX12_shapeOfBytes 112 = .ok (.lload_n 2, 1) := by decide +kernel
theorem dX12_shapeOfBytes_113 : decode cX12_shapeOfBytes 113 = .ok (.ldc2_w 475, 3) := by decide +kernel
theorem dX12_shapeOfBytes_116 : decode cX12_shapeOfBytes 116 = .ok (.land, 1) := by decide +kernel
theorem dX12_shapeOfBytes_117 : decode cX12_shapeOfBytes 117 = .ok (.lstore 4, 2) := by decide +kernel
theorem dX12_shapeOfBytes_119 : decode cX12_shapeOfBytes 119 = .ok (.lload 4, 2) := by decide +kernel
theorem dX12_shapeOfBytes_121 : decode cX12_shapeOfBytes 121 = .ok (.ldc2_w 477, 3) := by decide +kernel
theorem dX12_shapeOfBytes_124 : decode cX12_shapeOfBytes 124 = .ok (.lrem, 1) := by decide +kernel
theorem dX12_shapeOfBytes_125 : decode cX12_shapeOfBytes 125 = .ok (.l2i, 1) := by decide +kernel
theorem dX12_shapeOfBytes_126 : decode cX12_shapeOfBytes 126 = .ok (.istore 6, 2) := by decide +kernel
theorem dX12_shapeOfBytes_128 : decode cX12_shapeOfBytes 128 = .ok (.lload 4, 2) := by decide +kernel
theorem dX12_shapeOfBytes_130 : decode cX12_shapeOfBytes 130 = .ok (.ldc2_w 479, 3) := by decide +kernel
theorem dX12_shapeOfBytes_133 : decode cX12_shapeOfBytes 133 = .ok (.lcmp, 1) := by decide +kernel
theorem dX12_shapeOfBytes_134 : decode cX12_shapeOfBytes 134 = .ok (.ifCond .ge 30, 3) := by decide +kernel
theorem dX12_shapeOfBytes_137 : decode cX12_shapeOfBytes 137 = .ok (.iload 6, 2) := by decide +kernel
theorem dX12_shapeOfBytes_139 : decode cX12_shapeOfBytes 139 = .ok (.i2l, 1) := by decide +kernel
theorem dX12_shapeOfBytes_140 : decode cX12_shapeOfBytes 140 = .ok (.lconst 1, 1) := by decide +kernel
theorem dX12_shapeOfBytes_141 : decode cX12_shapeOfBytes 141 = .ok (.ldc2_w 481, 3) := by decide +kernel
theorem dX12_shapeOfBytes_144 : decode cX12_shapeOfBytes 144 = .ok (.invokestatic 287, 3) := by decide +kernel
theorem dX12_shapeOfBytes_147 : decode cX12_shapeOfBytes 147 = .ok (.ifCond .eq 17, 3) := by decide +kernel
theorem dX12_shapeOfBytes_150 : decode cX12_shapeOfBytes 150 = .ok (.iload_n 1, 1) := by decide +kernel
theorem dX12_shapeOfBytes_151 : decode cX12_shapeOfBytes 151 = .ok (.ifCond .eq 9, 3) := by decide +kernel
theorem dX12_shapeOfBytes_154 : decode cX12_shapeOfBytes 154 = .ok (.iload 6, 2) := by decide +kernel
theorem dX12_shapeOfBytes_156 : decode cX12_shapeOfBytes 156 = .ok (.iload_n 1, 1) := by decide +kernel
theorem dX12_shapeOfBytes_157 : decode cX12_shapeOfBytes 157 = .ok (.if_icmp .ne 7, 3) := by decide +kernel
theorem dX12_shapeOfBytes_160 : decode cX12_shapeOfBytes 160 = .ok (.iconst 1, 1) := by decide +kernel
theorem dX12_shapeOfBytes_161 : decode cX12_shapeOfBytes 161 = .ok (.goto 4, 3) := by decide +kernel
theorem dX12_shapeOfBytes_164 : decode cX12_shapeOfBytes 164 = .ok (.iconst 0, 1) := by decide +kernel
theorem dX12_shapeOfBytes_165 : decode cX12_shapeOfBytes 165 = .ok (.istore 7, 2) := by decide +kernel
theorem dX12_shapeOfBytes_167 : decode cX12_shapeOfBytes 167 = .ok (.iload 7, 2) := by decide +kernel
theorem dX12_shapeOfBytes_169 : decode cX12_shapeOfBytes 169 = .ok (.ifCond .ne 13, 3) := by decide +kernel
theorem dX12_shapeOfBytes_172 : decode cX12_shapeOfBytes 172 = .ok (.aload_n 0, 1) := by decide +kernel
theorem dX12_shapeOfBytes_173 : decode cX12_shapeOfBytes 173 = .ok (.iconst 2, 1) := by decide +kernel
theorem dX12_shapeOfBytes_174 : decode cX12_shapeOfBytes 174 = .ok (.aload_n 0, 1) := by decide +kernel
theorem dX12_shapeOfBytes_175 : decode cX12_shapeOfBytes 175 = .ok (.getfield 300, 3) := by decide +kernel
theorem dX12_shapeOfBytes_178 : decode cX12_shapeOfBytes 178 = .ok (.invokevirtual 317, 3) := by decide +kernel
theorem dX12_shapeOfBytes_181 : decode cX12_shapeOfBytes 181 = .ok (.ireturn, 1) := by decide +kernel
theorem dX12_shapeOfBytes_182 : decode cX12_shapeOfBytes 182 = .ok (.lload_n 2, 1) := by decide +kernel
theorem dX12_shapeOfBytes_183 : decode cX12_shapeOfBytes 183 = .ok (.bipush 30, 2) := by decide +kernel
theorem dX12_shapeOfBytes_185 : decode cX12_shapeOfBytes 185 = .ok (.lshr, 1) := by decide +kernel
theorem dX12_shapeOfBytes_186 : decode cX12_shapeOfBytes 186 = .ok (.lconst 0, 1) := by decide +kernel
theorem dX12_shapeOfBytes_187 : decode cX12_shapeOfBytes 187 = .ok (.lcmp, 1) := by decide +kernel
theorem dX12_shapeOfBytes_188 : decode cX12_shapeOfBytes 188 = .ok (.ifCond .ne 12, 3) := by decide +kernel
theorem dX12_shapeOfBytes_191 : decode cX12_shapeOfBytes 191 = .ok (.lload 4, 2) := by decide +kernel
theorem dX12_shapeOfBytes_193 : decode cX12_shapeOfBytes 193 = .ok (.ldc2_w 477, 3) := by decide +kernel
theorem dX12_shapeOfBytes_196 : decode cX12_shapeOfBytes 196 = .ok (.lcmp, 1) := by decide +kernel
theorem dX12_shapeOfBytes_197 : decode cX12_shapeOfBytes 197 = .ok (.ifCond .lt 14, 3) := by decide +kernel
theorem dX12_shapeOfBytes_200 : decode cX12_shapeOfBytes 200 = .ok (.aload_n 0, 1) := by decide +kernel
theorem dX12_shapeOfBytes_201 : decode cX12_shapeOfBytes 201 = .ok (.bipush 9, 2) := by decide +kernel
theorem dX12_shapeOfBytes_203 : decode cX12_shapeOfBytes 203 = .ok (.aload_n 0, 1) := by decide +kernel
theorem dX12_shapeOfBytes_204 : decode cX12_shapeOfBytes 204 = .ok (.getfield 300, 3) := by decide +kernel
theorem dX12_shapeOfBytes_207 : decode cX12_shapeOfBytes 207 = .ok (.invokevirtual 317, 3) := by decide +kernel
theorem dX12_shapeOfBytes_210 : decode cX12_shapeOfBytes 210 = .ok (.ireturn, 1) := by decide +kernel
theorem dX12_shapeOfBytes_211 : decode cX12_shapeOfBytes 211 = .ok (.iload 6, 2) := by decide +kernel
theorem dX12_shapeOfBytes_213 : decode cX12_shapeOfBytes 213 = .ok (.bipush 7, 2) := by decide +kernel
theorem dX12_shapeOfBytes_215 : decode cX12_shapeOfBytes 215 = .ok (.if_icmp .ne 23, 3) := by decide +kernel
theorem dX12_shapeOfBytes_218 : decode cX12_shapeOfBytes 218 = .ok (.aload_n 0, 1) := by decide +kernel
theorem dX12_shapeOfBytes_219 : decode cX12_shapeOfBytes 219 = .ok (.getfield 355, 3) := by decide +kernel
theorem dX12_shapeOfBytes_222 : decode cX12_shapeOfBytes 222 = .ok (.bipush 50, 2) := by decide +kernel
theorem dX12_shapeOfBytes_224 : decode cX12_shapeOfBytes 224 = .ok (.if_icmp .ne 14, 3) := by decide +kernel
theorem dX12_shapeOfBytes_227 : decode cX12_shapeOfBytes 227 = .ok (.aload_n 0, 1) := by decide +kernel
theorem dX12_shapeOfBytes_228 : decode cX12_shapeOfBytes 228 = .ok (.bipush 6, 2) := by decide +kernel
theorem dX12_shapeOfBytes_230 : decode cX12_shapeOfBytes 230 = .ok (.aload_n 0, 1) := by decide +kernel
theorem dX12_shapeOfBytes_231 : decode cX12_shapeOfBytes 231 = .ok (.getfield 300, 3) := by decide +kernel
theorem dX12_shapeOfBytes_234 : decode cX12_shapeOfBytes 234 = .ok (.invokevirtual 317, 3) := by decide +kernel
theorem dX12_shapeOfBytes_237 : decode cX12_shapeOfBytes 237 = .ok (.ireturn, 1) := by decide +kernel
theorem dX12_shapeOfBytes_238 : decode cX12_shapeOfBytes 238 = .ok (.aload_n 0, 1) := by decide +kernel
theorem dX12_shapeOfBytes_239 : decode cX12_shapeOfBytes 239 = .ok (.dup, 1) := by decide +kernel
theorem dX12_shapeOfBytes_240 : decode cX12_shapeOfBytes 240 = .ok (.getfield 300, 3) := by decide +kernel
theorem dX12_shapeOfBytes_243 : decode cX12_shapeOfBytes 243 = .ok (.iconst 4, 1) := by decide +kernel
theorem dX12_shapeOfBytes_244 : decode cX12_shapeOfBytes 244 = .ok (.iadd, 1) := by decide +kernel
theorem dX12_shapeOfBytes_245 : decode cX12_shapeOfBytes 245 = .ok (.putfield 300, 3) := by decide +kernel
theorem dX12_shapeOfBytes_248 : decode cX12_shapeOfBytes 248 = .ok (.lload_n 2, 1) := by decide +kernel
theorem dX12_shapeOfBytes_249 : decode cX12_shapeOfBytes 249 = .ok (.bipush 29, 2) := by decide +kernel
theorem dX12_shapeOfBytes_251 : decode cX12_shapeOfBytes 251 = .ok (.lshr, 1) := by decide +kernel
theorem dX12_shapeOfBytes_252 : decode cX12_shapeOfBytes 252 = .ok (.lconst 1, 1) := by decide +kernel
theorem dX12_shapeOfBytes_253 : decode cX12_shapeOfBytes 253 = .ok (.land, 1) := by decide +kernel
theorem dX12_shapeOfBytes_254 : decode cX12_shapeOfBytes 254 = .ok (.lconst 1, 1) := by decide +kernel
theorem dX12_shapeOfBytes_255 : decode cX12_shapeOfBytes 255 = .ok (.lcmp, 1) := by decide +kernel
theorem dX12_shapeOfBytes_256 : decode cX12_shapeOfBytes 256 = .ok (.ifCond .ne 31, 3) := by decide +kernel
theorem dX12_shapeOfBytes_259 : decode cX12_shapeOfBytes 259 = .ok (.aload_n 0, 1) := by decide +kernel
theorem dX12_shapeOfBytes_260 : decode cX12_shapeOfBytes 260 = .ok (.iconst 4, 1) := by decide +kernel
theorem dX12_shapeOfBytes_261 : decode cX12_shapeOfBytes 261 = .ok (.invokevirtual 468, 3) := by decide +kernel
theorem dX12_shapeOfBytes_264 : decode cX12_shapeOfBytes 264 = .ok (.ifCond .ne 13, 3) := by decide +kernel
theorem dX12_shapeOfBytes_267 : decode cX12_shapeOfBytes 267 = .ok (.aload_n 0, 1) := by decide +kernel
theorem dX12_shapeOfBytes_268 : decode cX12_shapeOfBytes 268 = .ok (.iconst 3, 1) := by decide +kernel
theorem dX12_shapeOfBytes_269 : decode cX12_shapeOfBytes 269 = .ok (.aload_n 0, 1) := by decide +kernel
theorem dX12_shapeOfBytes_270 : decode cX12_shapeOfBytes 270 = .ok (.getfield 300, 3) := by decide +kernel
theorem dX12_shapeOfBytes_273 : decode cX12_shapeOfBytes 273 = .ok (.invokevirtual 317, 3) := by decide +kernel
theorem dX12_shapeOfBytes_276 : decode cX12_shapeOfBytes 276 = .ok (.ireturn, 1) := by decide +kernel
theorem dX12_shapeOfBytes_277 : decode cX12_shapeOfBytes 277 = .ok (.aload_n 0, 1) := by decide +kernel
theorem dX12_shapeOfBytes_278 : decode cX12_shapeOfBytes 278 = .ok (.dup, 1) := by decide +kernel
theorem dX12_shapeOfBytes_279 : decode cX12_shapeOfBytes 279 = .ok (.getfield 300, 3) := by decide +kernel
theorem dX12_shapeOfBytes_282 : decode cX12_shapeOfBytes 282 = .ok (.iconst 4, 1) := by decide +kernel
theorem dX12_shapeOfBytes_283 : decode cX12_shapeOfBytes 283 = .ok (.iadd, 1) := by decide +kernel
theorem dX12_shapeOfBytes_284 : decode cX12_shapeOfBytes 284 = .ok (.putfield 300, 3) := by decide +kernel
theorem dX12_shapeOfBytes_287 : decode cX12_shapeOfBytes 287 = .ok (.aload_n 0, 1) := by decide +kernel
theorem dX12_shapeOfBytes_288 : decode cX12_shapeOfBytes 288 = .ok (.getfield 18, 3) := by decide +kernel
theorem dX12_shapeOfBytes_291 : decode cX12_shapeOfBytes 291 = .ok (.bipush 32, 2) := by decide +kernel
theorem dX12_shapeOfBytes_293 : decode cX12_shapeOfBytes 293 = .ok (.iaload, 1) := by decide +kernel
theorem dX12_shapeOfBytes_294 : decode cX12_shapeOfBytes 294 = .ok (.iconst 2, 1) := by decide +kernel
theorem dX12_shapeOfBytes_295 : decode cX12_shapeOfBytes 295 = .ok (.iadd, 1) := by decide +kernel
theorem dX12_shapeOfBytes_296 : decode cX12_shapeOfBytes 296 = .ok (.sipush 2048, 3) := by decide +kernel
theorem dX12_shapeOfBytes_299 : decode cX12_shapeOfBytes 299 = .ok (.if_icmp .le 14, 3) := by decide +kernel
theorem dX12_shapeOfBytes_302 : decode cX12_shapeOfBytes 302 = .ok (.aload_n 0, 1) := by decide +kernel
theorem dX12_shapeOfBytes_303 : decode cX12_shapeOfBytes 303 = .ok (.bipush 7, 2) := by decide +kernel
theorem dX12_shapeOfBytes_305 : decode cX12_shapeOfBytes 305 = .ok (.aload_n 0, 1) := by decide +kernel
theorem dX12_shapeOfBytes_306 : decode cX12_shapeOfBytes 306 = .ok (.getfield 300, 3) := by decide +kernel
theorem dX12_shapeOfBytes_309 : decode cX12_shapeOfBytes 309 = .ok (.invokevirtual 317, 3) := by decide +kernel
theorem dX12_shapeOfBytes_312 : decode cX12_shapeOfBytes 312 = .ok (.ireturn, 1) := by decide +kernel
theorem dX12_shapeOfBytes_313 : decode cX12_shapeOfBytes 313 = .ok (.aload_n 0, 1) := by decide +kernel
theorem dX12_shapeOfBytes_314 : decode cX12_shapeOfBytes 314 = .ok (.iload 6, 2) := by decide +kernel
theorem dX12_shapeOfBytes_316 : decode cX12_shapeOfBytes 316 = .ok (.invokevirtual 352, 3) := by decide +kernel
theorem dX12_shapeOfBytes_319 : decode cX12_shapeOfBytes 319 = .ok (.aload_n 0, 1) := by decide +kernel
theorem dX12_shapeOfBytes_320 : decode cX12_shapeOfBytes 320 = .ok (.iconst 0, 1) := by decide +kernel
theorem dX12_shapeOfBytes_321 : decode cX12_shapeOfBytes 321 = .ok (.invokevirtual 352, 3) := by decide +kernel
theorem dX12_shapeOfBytes_324 : decode cX12_shapeOfBytes 324 = .ok (.aload_n 0, 1) := by decide +kernel
theorem dX12_shapeOfBytes_325 : decode cX12_shapeOfBytes 325 = .ok (.getfield 18, 3) := by decide +kernel
theorem dX12_shapeOfBytes_328 : decode cX12_shapeOfBytes 328 = .ok (.bipush 32, 2) := by decide +kernel
theorem dX12_shapeOfBytes_330 : decode cX12_shapeOfBytes 330 = .ok (.iaload, 1) := by decide +kernel
theorem dX12_shapeOfBytes_331 : decode cX12_shapeOfBytes 331 = .ok (.iconst 1, 1) := by decide +kernel
theorem dX12_shapeOfBytes_332 : decode cX12_shapeOfBytes 332 = .ok (.isub, 1) := by decide +kernel
theorem dX12_shapeOfBytes_333 : decode cX12_shapeOfBytes 333 = .ok (.istore 8, 2) := by decide +kernel
theorem dX12_shapeOfBytes_335 : decode cX12_shapeOfBytes 335 = .ok (.iload 6, 2) := by decide +kernel
theorem dX12_shapeOfBytes_337 : decode cX12_shapeOfBytes 337 = .ok (.iconst 1, 1) := by decide +kernel
theorem dX12_shapeOfBytes_338 : decode cX12_shapeOfBytes 338 = .ok (.if_icmp .ne 10, 3) := by decide +kernel
theorem dX12_shapeOfBytes_341 : decode cX12_shapeOfBytes 341 = .ok (.aload_n 0, 1) := by decide +kernel
theorem dX12_shapeOfBytes_342 : decode cX12_shapeOfBytes 342 = .ok (.iload 8, 2) := by decide +kernel
theorem dX12_shapeOfBytes_344 : decode cX12_shapeOfBytes 344 = .ok (.invokevirtual 483, 3) := by decide +kernel
theorem dX12_shapeOfBytes_347 : decode cX12_shapeOfBytes 347 = .ok (.ireturn, 1) := by decide +kernel
theorem dX12_shapeOfBytes_348 : decode cX12_shapeOfBytes 348 = .ok (.aload_n 0, 1) := by decide +kernel
theorem dX12_shapeOfBytes_349 : decode cX12_shapeOfBytes 349 = .ok (.iconst 4, 1) := by decide +kernel
theorem dX12_shapeOfBytes_350 : decode cX12_shapeOfBytes 350 = .ok (.invokevirtual 468, 3) := by decide +kernel
theorem dX12_shapeOfBytes_353 : decode cX12_shapeOfBytes 353 = .ok (.ifCond .ne 13, 3) := by decide +kernel
theorem dX12_shapeOfBytes_356 : decode cX12_shapeOfBytes 356 = .ok (.aload_n 0, 1) := by decide +kernel
theorem dX12_shapeOfBytes_357 : decode cX12_shapeOfBytes 357 = .ok (.iconst 3, 1) := by decide +kernel
theorem dX12_shapeOfBytes_358 : decode cX12_shapeOfBytes 358 = .ok (.aload_n 0, 1) := by decide +kernel
theorem dX12_shapeOfBytes_359 : decode cX12_shapeOfBytes 359 = .ok (.getfield 300, 3) := by decide +kernel
theorem dX12_shapeOfBytes_362 : decode cX12_shapeOfBytes 362 = .ok (.invokevirtual 317, 3) := by decide +kernel
theorem dX12_shapeOfBytes_365 : decode cX12_shapeOfBytes 365 = .ok (.ireturn, 1) := by decide +kernel
theorem dX12_shapeOfBytes_366 : decode cX12_shapeOfBytes 366 = .ok (.aload_n 0, 1) := by decide +kernel
theorem dX12_shapeOfBytes_367 : decode cX12_shapeOfBytes 367 = .ok (.aload_n 0, 1) := by decide +kernel
theorem dX12_shapeOfBytes_368 : decode cX12_shapeOfBytes 368 = .ok (.getfield 300, 3) := by decide +kernel
theorem dX12_shapeOfBytes_371 : decode cX12_shapeOfBytes 371 = .ok (.iconst 4, 1) := by decide +kernel
theorem dX12_shapeOfBytes_372 : decode cX12_shapeOfBytes 372 = .ok (.invokevirtual 471, 3) := by decide +kernel
theorem dX12_shapeOfBytes_375 : decode cX12_shapeOfBytes 375 = .ok (.lstore 9, 2) := by decide +kernel
theorem dX12_shapeOfBytes_377 : decode cX12_shapeOfBytes 377 = .ok (.aload_n 0, 1) := by decide +kernel
theorem dX12_shapeOfBytes_378 : decode cX12_shapeOfBytes 378 = .ok (.dup, 1) := by decide +kernel
theorem dX12_shapeOfBytes_379 : decode cX12_shapeOfBytes 379 = .ok (.getfield 300, 3) := by decide +kernel
theorem dX12_shapeOfBytes_382 : decode cX12_shapeOfBytes 382 = .ok (.iconst 4, 1) := by decide +kernel
theorem dX12_shapeOfBytes_383 : decode cX12_shapeOfBytes 383 = .ok (.iadd, 1) := by decide +kernel
theorem dX12_shapeOfBytes_384 : decode cX12_shapeOfBytes 384 = .ok (.putfield 300, 3) := by decide +kernel
theorem dX12_shapeOfBytes_387 : decode cX12_shapeOfBytes 387 = .ok (.aload_n 0, 1) := by decide +kernel
theorem dX12_shapeOfBytes_388 : decode cX12_shapeOfBytes 388 = .ok (.getfield 23, 3) := by decide +kernel
theorem dX12_shapeOfBytes_391 : decode cX12_shapeOfBytes 391 = .ok (.ldc 7, 2) := by decide +kernel
theorem dX12_shapeOfBytes_393 : decode cX12_shapeOfBytes 393 = .ok (.iload 8, 2) := by decide +kernel
theorem dX12_shapeOfBytes_395 : decode cX12_shapeOfBytes 395 = .ok (.iadd, 1) := by decide +kernel
theorem dX12_shapeOfBytes_396 : decode cX12_shapeOfBytes 396 = .ok (.lload 9, 2) := by decide +kernel
theorem dX12_shapeOfBytes_398 : decode cX12_shapeOfBytes 398 = .ok (.l2i, 1) := by decide +kernel
theorem dX12_shapeOfBytes_399 : decode cX12_shapeOfBytes 399 = .ok (.iastore, 1) := by decide +kernel
theorem dX12_shapeOfBytes_400 : decode cX12_shapeOfBytes 400 = .ok (.iload 6, 2) := by decide +kernel
theorem dX12_shapeOfBytes_402 : decode cX12_shapeOfBytes 402 = .ok (.iconst 2, 1) := by decide +kernel
theorem dX12_shapeOfBytes_403 : decode cX12_shapeOfBytes 403 = .ok (.if_icmp .ne 10, 3) := by decide +kernel
theorem dX12_shapeOfBytes_406 : decode cX12_shapeOfBytes 406 = .ok (.aload_n 0, 1) := by decide +kernel
theorem dX12_shapeOfBytes_407 : decode cX12_shapeOfBytes 407 = .ok (.lload 9, 2) := by decide +kernel
theorem dX12_shapeOfBytes_409 : decode cX12_shapeOfBytes 409 = .ok (.invokevirtual 486, 3) := by decide +kernel
theorem dX12_shapeOfBytes_412 : decode cX12_shapeOfBytes 412 = .ok (.ireturn, 1) := by decide +kernel
theorem dX12_shapeOfBytes_413 : decode cX12_shapeOfBytes 413 = .ok (.iload 6, 2) := by decide +kernel
theorem dX12_shapeOfBytes_415 : decode cX12_shapeOfBytes 415 = .ok (.iconst 3, 1) := by decide +kernel
theorem dX12_shapeOfBytes_416 : decode cX12_shapeOfBytes 416 = .ok (.if_icmp .ne 12, 3) := by decide +kernel
theorem dX12_shapeOfBytes_419 : decode cX12_shapeOfBytes 419 = .ok (.aload_n 0, 1) := by decide +kernel
theorem dX12_shapeOfBytes_420 : decode cX12_shapeOfBytes 420 = .ok (.lload 9, 2) := by decide +kernel
theorem dX12_shapeOfBytes_422 : decode cX12_shapeOfBytes 422 = .ok (.invokevirtual 490, 3) := by decide +kernel
theorem dX12_shapeOfBytes_425 : decode cX12_shapeOfBytes 425 = .ok (.goto 11, 3) := by decide +kernel
theorem dX12_shapeOfBytes_428 : decode cX12_shapeOfBytes 428 = .ok (.aload_n 0, 1) := by decide +kernel
theorem dX12_shapeOfBytes_429 : decode cX12_shapeOfBytes 429 = .ok (.iload 6, 2) := by decide +kernel
theorem dX12_shapeOfBytes_431 : decode cX12_shapeOfBytes 431 = .ok (.lload 9, 2) := by decide +kernel
theorem dX12_shapeOfBytes_433 : decode cX12_shapeOfBytes 433 = .ok (.invokevirtual 493, 3) := by decide +kernel
theorem dX12_shapeOfBytes_436 : decode cX12_shapeOfBytes 436 = .ok (.ireturn, 1) := by decide +kernel
theorem dX12_partsOfBytes_0 : decode cX12_partsOfBytes 0 = .ok (.aload_n 0, 1) := by decide +kernel
theorem dX12_partsOfBytes_1 : decode cX12_partsOfBytes 1 = .ok (.getfield 44, 3) := by decide +kernel
theorem dX12_partsOfBytes_4 : decode cX12_partsOfBytes 4 = .ok (.aload_n 0, 1) := by decide +kernel
theorem dX12_partsOfBytes_5 : decode cX12_partsOfBytes 5 = .ok (.getfield 462, 3) := by decide +kernel
theorem dX12_partsOfBytes_8 : decode cX12_partsOfBytes 8 = .ok (.lload_n 2, 1) := by decide +kernel
theorem dX12_partsOfBytes_9 : decode cX12_partsOfBytes 9 = .ok (.lastore, 1) := by decide +kernel
theorem dX12_partsOfBytes_10 : decode cX12_partsOfBytes 10 = .ok (.aload_n 0, 1) := by decide +kernel
theorem dX12_partsOfBytes_11 : decode cX12_partsOfBytes 11 = .ok (.getfield 48, 3) := by decide +kernel
theorem dX12_partsOfBytes_14 : decode cX12_partsOfBytes 14 = .ok (.aload_n 0, 1) := by decide +kernel
theorem dX12_partsOfBytes_15 : decode cX12_partsOfBytes 15 = .ok (.getfield 462, 3) := by decide +kernel
theorem dX12_partsOfBytes_18 : decode cX12_partsOfBytes 18 = .ok (.iload_n 1, 1) := by decide +kernel
theorem dX12_partsOfBytes_19 : decode cX12_partsOfBytes 19 = .ok (.bipush 7, 2) := by decide +kernel
theorem dX12_partsOfBytes_21 : decode cX12_partsOfBytes 21 = .ok (.if_icmp .ne 7, 3) := by decide +kernel
theorem dX12_partsOfBytes_24 : decode cX12_partsOfBytes 24 = .ok (.iconst 0, 1) := by decide +kernel
theorem dX12_partsOfBytes_25 : decode cX12_partsOfBytes 25 = .ok (.goto 6, 3) := by decide +kernel
theorem dX12_partsOfBytes_28 : decode cX12_partsOfBytes 28 = .ok (.iload_n 1, 1) := by decide +kernel
theorem dX12_partsOfBytes_29 : decode cX12_partsOfBytes 29 = .ok (.iconst 3, 1) := by decide +kernel
theorem dX12_partsOfBytes_30 : decode cX12_partsOfBytes 30 = .ok (.isub, 1) := by decide +kernel
theorem dX12_partsOfBytes_31 : decode cX12_partsOfBytes 31 = .ok (.iastore, 1) := by decide +kernel
theorem dX12_partsOfBytes_32 : decode cX12_partsOfBytes 32 = .ok (.aload_n 0, 1) := by decide +kernel
theorem dX12_partsOfBytes_33 : decode cX12_partsOfBytes 33 = .ok (.dup, 1) := by decide +kernel
theorem dX12_partsOfBytes_34 : decode cX12_partsOfBytes 34 = .ok (.getfield 462, 3) := by decide +kernel
theorem dX12_partsOfBytes_37 : decode cX12_partsOfBytes 37 = .ok (.iconst 1, 1) := by decide +kernel
theorem dX12_partsOfBytes_38 : decode cX12_partsOfBytes 38 = .ok (.iadd, 1) := by decide +kernel
theorem dX12_partsOfBytes_39 : decode cX12_partsOfBytes 39 = .ok (.putfield 462, 3) := by decide +kernel
theorem dX12_partsOfBytes_42 : decode cX12_partsOfBytes 42 = .ok (.aload_n 0, 1) := by decide +kernel
theorem dX12_partsOfBytes_43 : decode cX12_partsOfBytes 43 = .ok (.iload_n 1, 1) := by decide +kernel
theorem dX12_partsOfBytes_44 : decode cX12_partsOfBytes 44 = .ok (.bipush 7, 2) := by decide +kernel
theorem dX12_partsOfBytes_46 : decode cX12_partsOfBytes 46 = .ok (.if_icmp .ne 12, 3) := by decide +kernel
theorem dX12_partsOfBytes_49 : decode cX12_partsOfBytes 49 = .ok (.aload_n 0, 1) := by decide +kernel
theorem dX12_partsOfBytes_50 : decode cX12_partsOfBytes 50 = .ok (.getfield 355, 3) := by decide +kernel
theorem dX12_partsOfBytes_53 : decode cX12_partsOfBytes 53 = .ok (.iconst 1, 1) := by decide +kernel
theorem dX12_partsOfBytes_54 : decode cX12_partsOfBytes 54 = .ok (.iadd, 1) := by decide +kernel
theorem dX12_partsOfBytes_55 : decode cX12_partsOfBytes 55 = .ok (.goto 7, 3) := by decide +kernel
theorem dX12_partsOfBytes_58 : decode cX12_partsOfBytes 58 = .ok (.aload_n 0, 1) := by decide +kernel
theorem dX12_partsOfBytes_59 : decode cX12_partsOfBytes 59 = .ok (.getfield 355, 3) := by decide +kernel
theorem dX12_partsOfBytes_62 : decode cX12_partsOfBytes 62 = .ok (.putfield 355, 3) := by decide +kernel
theorem dX12_partsOfBytes_65 : decode cX12_partsOfBytes 65 = .ok (.iconst 1, 1) := by decide +kernel
theorem dX12_partsOfBytes_66 : decode cX12_partsOfBytes 66 = .ok (.ireturn, 1) := by decide +kernel
theorem dX12_isNoNumber_0 : decode cX12_isNoNumber 0 = .ok (.lload_n 0, 1) := by decide +kernel
theorem dX12_isNoNumber_1 : decode cX12_isNoNumber 1 = .ok (.bipush 52, 2) := by decide +kernel
theorem dX12_isNoNumber_3 : decode cX12_isNoNumber 3 = .ok (.lushr, 1) := by decide +kernel
theorem dX12_isNoNumber_4 : decode cX12_isNoNumber 4 = .ok (.ldc2_w 497, 3) := by decide +kernel
theorem dX12_isNoNumber_7 : decode cX12_isNoNumber 7 = .ok (.land, 1) := by decide +kernel
theorem dX12_isNoNumber_8 : decode cX12_isNoNumber 8 = .ok (.ldc2_w 497, 3) := by decide +kernel
theorem dX12_isNoNumber_11 : decode cX12_isNoNumber 11 = .ok (.lcmp, 1) := by decide +kernel
theorem dX12_isNoNumber_12 : decode cX12_isNoNumber 12 = .ok (.ifCond .ne 17, 3) := by decide +kernel
theorem dX12_isNoNumber_15 : decode cX12_isNoNumber 15 = .ok (.lload_n 0, 1) := by decide +kernel
theorem dX12_isNoNumber_16 : decode cX12_isNoNumber 16 = .ok (.ldc2_w 499, 3) := by decide +kernel
theorem dX12_isNoNumber_19 : decode cX12_isNoNumber 19 = .ok (.land, 1) := by decide +kernel
theorem dX12_isNoNumber_20 : decode cX12_isNoNumber 20 = .ok (.lconst 0, 1) := by decide +kernel
theorem dX12_isNoNumber_21 : decode cX12_isNoNumber 21 = .ok (.lcmp, 1) := by decide +kernel
theorem dX12_isNoNumber_22 : decode cX12_isNoNumber 22 = .ok (.ifCond .eq 7, 3) := by decide +kernel
theorem dX12_isNoNumber_25 : decode cX12_isNoNumber 25 = .ok (.iconst 1, 1) := by decide +kernel
theorem dX12_isNoNumber_26 : decode cX12_isNoNumber 26 = .ok (.goto 4, 3) := by decide +kernel
theorem dX12_isNoNumber_29 : decode cX12_isNoNumber 29 = .ok (.iconst 0, 1) := by decide +kernel
theorem dX12_isNoNumber_30 : decode cX12_isNoNumber 30 = .ok (.ireturn, 1) := by decide +kernel
theorem dX12_pointOfBytes_0 : decode cX12_pointOfBytes 0 = .ok (.aload_n 0, 1) := by decide +kernel
theorem dX12_pointOfBytes_1 : decode cX12_pointOfBytes 1 = .ok (.bipush 16, 2) := by decide +kernel
theorem dX12_pointOfBytes_3 : decode cX12_pointOfBytes 3 = .ok (.invokevirtual 468, 3) := by decide +kernel
theorem dX12_pointOfBytes_6 : decode cX12_pointOfBytes 6 = .ok (.ifCond .eq 51, 3) := by decide +kernel
theorem dX12_pointOfBytes_9 : decode cX12_pointOfBytes 9 = .ok (.aload_n 0, 1) := by decide +kernel
theorem dX12_pointOfBytes_10 : decode cX12_pointOfBytes 10 = .ok (.aload_n 0, 1) := by decide +kernel
theorem dX12_pointOfBytes_11 : decode cX12_pointOfBytes 11 = .ok (.getfield 300, 3) := by decide +kernel
theorem dX12_pointOfBytes_14 : decode cX12_pointOfBytes 14 = .ok (.bipush 8, 2) := by decide +kernel
theorem dX12_pointOfBytes_16 : decode cX12_pointOfBytes 16 = .ok (.invokevirtual 471, 3) := by decide +kernel
theorem dX12_pointOfBytes_19 : decode cX12_pointOfBytes 19 = .ok (.invokestatic 501, 3) := by decide +kernel
theorem dX12_pointOfBytes_22 : decode cX12_pointOfBytes 22 = .ok (.ifCond .eq 35, 3) := by decide +kernel
theorem dX12_pointOfBytes_25 : decode cX12_pointOfBytes 25 = .ok (.aload_n 0, 1) := by decide +kernel
theorem dX12_pointOfBytes_26 : decode cX12_pointOfBytes 26 = .ok (.aload_n 0, 1) := by decide +kernel
theorem dX12_pointOfBytes_27 : decode cX12_pointOfBytes 27 = .ok (.getfield 300, 3) := by decide +kernel
theorem dX12_pointOfBytes_30 : decode cX12_pointOfBytes 30 = .ok (.bipush 8, 2) := by decide +kernel
theorem dX12_pointOfBytes_32 : decode cX12_pointOfBytes 32 = .ok (.iadd, 1) := by decide +kernel
theorem dX12_pointOfBytes_33 : decode cX12_pointOfBytes 33 = .ok (.bipush 8, 2) := by decide +kernel
theorem dX12_pointOfBytes_35 : decode cX12_pointOfBytes 35 = .ok (.invokevirtual 471, 3) := by decide +kernel
theorem dX12_pointOfBytes_38 : decode cX12_pointOfBytes 38 = .ok (.invokestatic 501, 3) := by decide +kernel
theorem dX12_pointOfBytes_41 : decode cX12_pointOfBytes 41 = .ok (.ifCond .eq 16, 3) := by decide +kernel
theorem dX12_pointOfBytes_44 : decode cX12_pointOfBytes 44 = .ok (.aload_n 0, 1) := by decide +kernel
theorem dX12_pointOfBytes_45 : decode cX12_pointOfBytes 45 = .ok (.dup, 1) := by decide +kernel
theorem dX12_pointOfBytes_46 : decode cX12_pointOfBytes 46 = .ok (.getfield 300, 3) := by decide +kernel
theorem dX12_pointOfBytes_49 : decode cX12_pointOfBytes 49 = .ok (.bipush 16, 2) := by decide +kernel
theorem dX12_pointOfBytes_51 : decode cX12_pointOfBytes 51 = .ok (.iadd, 1) := by decide +kernel
theorem dX12_pointOfBytes_52 : decode cX12_pointOfBytes 52 = .ok (.putfield 300, 3) := by decide +kernel
theorem dX12_pointOfBytes_55 : decode cX12_pointOfBytes 55 = .ok (.iconst 1, 1) := by decide +kernel
theorem dX12_pointOfBytes_56 : decode cX12_pointOfBytes 56 = .ok (.ireturn, 1) := by decide +kernel
theorem dX12_pointOfBytes_57 : decode cX12_pointOfBytes 57 = .ok (.aload_n 0, 1) := by decide +kernel
theorem dX12_pointOfBytes_58 : decode cX12_pointOfBytes 58 = .ok (.iload_n 1, 1) := by decide +kernel
theorem dX12_pointOfBytes_59 : decode cX12_pointOfBytes 59 = .ok (.invokevirtual 376, 3) := by decide +kernel
theorem dX12_pointOfBytes_62 : decode cX12_pointOfBytes 62 = .ok (.aload_n 0, 1) := by decide +kernel
theorem dX12_pointOfBytes_63 : decode cX12_pointOfBytes 63 = .ok (.invokevirtual 504, 3) := by decide +kernel
theorem dX12_pointOfBytes_66 : decode cX12_pointOfBytes 66 = .ok (.ireturn, 1) := by decide +kernel
theorem dX12_rowOfBytes_0 : decode cX12_rowOfBytes 0 = .ok (.lconst 0, 1) := by decide +kernel
theorem dX12_rowOfBytes_1 : decode cX12_rowOfBytes 1 = .ok (.lstore_n 3, 1) := by decide +kernel
theorem dX12_rowOfBytes_2 : decode cX12_rowOfBytes 2 = .ok (.lload_n 3, 1) := by decide +kernel
theorem dX12_rowOfBytes_3 : decode cX12_rowOfBytes 3 = .ok (.lload_n 1, 1) := by decide +kernel
theorem dX12_rowOfBytes_4 : decode cX12_rowOfBytes 4 = .ok (.lcmp, 1) := by decide +kernel
theorem dX12_rowOfBytes_5 : decode cX12_rowOfBytes 5 = .ok (.ifCond .ge 19, 3) := by decide +kernel
theorem dX12_rowOfBytes_8 : decode cX12_rowOfBytes 8 = .ok (.aload_n 0, 1) := by decide +kernel
theorem dX12_rowOfBytes_9 : decode cX12_rowOfBytes 9 = .ok (.invokevirtual 504, 3) := by decide +kernel
theorem dX12_rowOfBytes_12 : decode cX12_rowOfBytes 12 = .ok (.ifCond .ne 5, 3) := by decide +kernel
theorem dX12_rowOfBytes_15 : decode cX12_rowOfBytes 15 = .ok (.iconst 0, 1) := by decide +kernel
theorem dX12_rowOfBytes_16 : decode cX12_rowOfBytes 16 = .ok (.ireturn, 1) := by decide +kernel
theorem dX12_rowOfBytes_17 : decode cX12_rowOfBytes 17 = .ok (.lload_n 3, 1) := by decide +kernel
theorem dX12_rowOfBytes_18 : decode cX12_rowOfBytes 18 = .ok (.lconst 1, 1) := by decide +kernel
theorem dX12_rowOfBytes_19 : decode cX12_rowOfBytes 19 = .ok (.ladd, 1) := by decide +kernel
theorem dX12_rowOfBytes_20 : decode cX12_rowOfBytes 20 = .ok (.lstore_n 3, 1) := by decide +kernel
theorem dX12_rowOfBytes_21 : decode cX12_rowOfBytes 21 = .ok (.goto (-19), 3) := by decide +kernel
theorem dX12_rowOfBytes_24 : decode cX12_rowOfBytes 24 = .ok (.iconst 1, 1) := by decide +kernel
theorem dX12_rowOfBytes_25 : decode cX12_rowOfBytes 25 = .ok (.ireturn, 1) := by decide +kernel
theorem dX12_ringsOfBytes_0 : decode cX12_ringsOfBytes 0 = .ok (.lconst 0, 1) := by decide +kernel
theorem dX12_ringsOfBytes_1 : decode cX12_ringsOfBytes 1 = .ok (.lstore_n 3, 1) := by decide +kernel
theorem dX12_ringsOfBytes_2 : decode cX12_ringsOfBytes 2 = .ok (.lload_n 3, 1) := by decide +kernel
theorem dX12_ringsOfBytes_3 : decode cX12_ringsOfBytes 3 = .ok (.lload_n 1, 1) := by decide +kernel
theorem dX12_ringsOfBytes_4 : decode cX12_ringsOfBytes 4 = .ok (.lcmp, 1) := by decide +kernel
theorem dX12_ringsOfBytes_5 : decode cX12_ringsOfBytes 5 = .ok (.ifCond .ge 108, 3) := by decide +kernel
theorem dX12_ringsOfBytes_8 : decode cX12_ringsOfBytes 8 = .ok (.aload_n 0, 1) := by decide +kernel
theorem dX12_ringsOfBytes_9 : decode cX12_ringsOfBytes 9 = .ok (.getfield 18, 3) := by decide +kernel
theorem dX12_ringsOfBytes_12 : decode cX12_ringsOfBytes 12 = .ok (.bipush 32, 2) := by decide +kernel
theorem dX12_ringsOfBytes_14 : decode cX12_ringsOfBytes 14 = .ok (.iaload, 1) := by decide +kernel
theorem dX12_ringsOfBytes_15 : decode cX12_ringsOfBytes 15 = .ok (.sipush 2048, 3) := by decide +kernel
theorem dX12_ringsOfBytes_18 : decode cX12_ringsOfBytes 18 = .ok (.if_icmp .ne 14, 3) := by decide +kernel
theorem dX12_ringsOfBytes_21 : decode cX12_ringsOfBytes 21 = .ok (.aload_n 0, 1) := by decide +kernel
theorem dX12_ringsOfBytes_22 : decode cX12_ringsOfBytes 22 = .ok (.bipush 7, 2) := by decide +kernel
theorem dX12_ringsOfBytes_24 : decode cX12_ringsOfBytes 24 = .ok (.aload_n 0, 1) := by decide +kernel
theorem dX12_ringsOfBytes_25 : decode cX12_ringsOfBytes 25 = .ok (.getfield 300, 3) := by decide +kernel
theorem dX12_ringsOfBytes_28 : decode cX12_ringsOfBytes 28 = .ok (.invokevirtual 317, 3) := by decide +kernel
theorem dX12_ringsOfBytes_31 : decode cX12_ringsOfBytes 31 = .ok (.ireturn, 1) := by decide +kernel
theorem dX12_ringsOfBytes_32 : decode cX12_ringsOfBytes 32 = .ok (.aload_n 0, 1) := by decide +kernel
theorem dX12_ringsOfBytes_33 : decode cX12_ringsOfBytes 33 = .ok (.iconst 4, 1) := by decide +kernel
theorem dX12_ringsOfBytes_34 : decode cX12_ringsOfBytes 34 = .ok (.invokevirtual 468, 3) := by decide +kernel
theorem dX12_ringsOfBytes_37 : decode cX12_ringsOfBytes 37 = .ok (.ifCond .ne 13, 3) := by decide +kernel
theorem dX12_ringsOfBytes_40 : decode cX12_ringsOfBytes 40 = .ok (.aload_n 0, 1) := by decide +kernel
theorem dX12_ringsOfBytes_41 : decode cX12_ringsOfBytes 41 = .ok (.iconst 3, 1) := by decide +kernel
theorem dX12_ringsOfBytes_42 : decode cX12_ringsOfBytes 42 = .ok (.aload_n 0, 1) := by decide +kernel
theorem dX12_ringsOfBytes_43 : decode cX12_ringsOfBytes 43 = .ok (.getfield 300, 3) := by decide +kernel
theorem dX12_ringsOfBytes_46 : decode cX12_ringsOfBytes 46 = .ok (.invokevirtual 317, 3) := by decide +kernel
theorem dX12_ringsOfBytes_49 : decode cX12_ringsOfBytes 49 = .ok (.ireturn, 1) := by decide +kernel
theorem dX12_ringsOfBytes_50 : decode cX12_ringsOfBytes 50 = .ok (.aload_n 0, 1) := by decide +kernel
theorem dX12_ringsOfBytes_51 : decode cX12_ringsOfBytes 51 = .ok (.aload_n 0, 1) := by decide +kernel
theorem dX12_ringsOfBytes_52 : decode cX12_ringsOfBytes 52 = .ok (.getfield 300, 3) := by decide +kernel
theorem dX12_ringsOfBytes_55 : decode cX12_ringsOfBytes 55 = .ok (.iconst 4, 1) := by decide +kernel
theorem dX12_ringsOfBytes_56 : decode cX12_ringsOfBytes 56 = .ok (.invokevirtual 471, 3) := by decide +kernel
theorem dX12_ringsOfBytes_59 : decode cX12_ringsOfBytes 59 = .ok (.lstore 5, 2) := by decide +kernel
theorem dX12_ringsOfBytes_61 : decode cX12_ringsOfBytes 61 = .ok (.lload 5, 2) := by decide +kernel
theorem dX12_ringsOfBytes_63 : decode cX12_ringsOfBytes 63 = .ok (.lconst 0, 1) := by decide +kernel
theorem dX12_ringsOfBytes_64 : decode cX12_ringsOfBytes 64 = .ok (.lcmp, 1) := by decide +kernel
theorem dX12_ringsOfBytes_65 : decode cX12_ringsOfBytes 65 = .ok (.ifCond .ne 13, 3) := by decide +kernel
theorem dX12_ringsOfBytes_68 : decode cX12_ringsOfBytes 68 = .ok (.aload_n 0, 1) := by decide +kernel
theorem dX12_ringsOfBytes_69 : decode cX12_ringsOfBytes 69 = .ok (.iconst 4, 1) := by decide +kernel
theorem dX12_ringsOfBytes_70 : decode cX12_ringsOfBytes 70 = .ok (.aload_n 0, 1) := by decide +kernel
theorem dX12_ringsOfBytes_71 : decode cX12_ringsOfBytes 71 = .ok (.getfield 300, 3) := by decide +kernel
theorem dX12_ringsOfBytes_74 : decode cX12_ringsOfBytes 74 = .ok (.invokevirtual 317, 3) := by decide +kernel
theorem dX12_ringsOfBytes_77 : decode cX12_ringsOfBytes 77 = .ok (.ireturn, 1) := by decide +kernel
theorem dX12_ringsOfBytes_78 : decode cX12_ringsOfBytes 78 = .ok (.aload_n 0, 1) := by decide +kernel
theorem dX12_ringsOfBytes_79 : decode cX12_ringsOfBytes 79 = .ok (.dup, 1) := by decide +kernel
theorem dX12_ringsOfBytes_80 : decode cX12_ringsOfBytes 80 = .ok (.getfield 300, 3) := by decide +kernel
theorem dX12_ringsOfBytes_83 : decode cX12_ringsOfBytes 83 = .ok (.iconst 4, 1) := by decide +kernel
theorem dX12_ringsOfBytes_84 : decode cX12_ringsOfBytes 84 = .ok (.iadd, 1) := by decide +kernel
theorem dX12_ringsOfBytes_85 : decode cX12_ringsOfBytes 85 = .ok (.putfield 300, 3) := by decide +kernel
theorem dX12_ringsOfBytes_88 : decode cX12_ringsOfBytes 88 = .ok (.aload_n 0, 1) := by decide +kernel
theorem dX12_ringsOfBytes_89 : decode cX12_ringsOfBytes 89 = .ok (.lload 5, 2) := by decide +kernel
theorem dX12_ringsOfBytes_91 : decode cX12_ringsOfBytes 91 = .ok (.l2i, 1) := by decide +kernel
theorem dX12_ringsOfBytes_92 : decode cX12_ringsOfBytes 92 = .ok (.invokevirtual 352, 3) := by decide +kernel
theorem dX12_ringsOfBytes_95 : decode cX12_ringsOfBytes 95 = .ok (.aload_n 0, 1) := by decide +kernel
theorem dX12_ringsOfBytes_96 : decode cX12_ringsOfBytes 96 = .ok (.lload 5, 2) := by decide +kernel
theorem dX12_ringsOfBytes_98 : decode cX12_ringsOfBytes 98 = .ok (.invokevirtual 486, 3) := by decide +kernel
theorem dX12_ringsOfBytes_101 : decode cX12_ringsOfBytes 101 = .ok (.ifCond .ne 5, 3) := by decide +kernel
theorem dX12_ringsOfBytes_104 : decode cX12_ringsOfBytes 104 = .ok (.iconst 0, 1) := by decide +kernel
theorem dX12_ringsOfBytes_105 : decode cX12_ringsOfBytes 105 = .ok (.ireturn, 1) := by decide +kernel
theorem dX12_ringsOfBytes_106 : decode cX12_ringsOfBytes 106 = .ok (.lload_n 3, 1) := by decide +kernel
theorem dX12_ringsOfBytes_107 : decode cX12_ringsOfBytes 107 = .ok (.lconst 1, 1) := by decide +kernel
theorem dX12_ringsOfBytes_108 : decode cX12_ringsOfBytes 108 = .ok (.ladd, 1) := by decide +kernel
theorem dX12_ringsOfBytes_109 : decode cX12_ringsOfBytes 109 = .ok (.lstore_n 3, 1) := by decide +kernel
theorem dX12_ringsOfBytes_110 : decode cX12_ringsOfBytes 110 = .ok (.goto (-108), 3) := by decide +kernel
theorem dX12_ringsOfBytes_113 : decode cX12_ringsOfBytes 113 = .ok (.iconst 1, 1) := by decide +kernel
theorem dX12_ringsOfBytes_114 : decode cX12_ringsOfBytes 114 = .ok (.ireturn, 1) := by decide +kernel
theorem dX12_coordinateOfBytes_0 : decode cX12_coordinateOfBytes 0 = .ok (.aload_n 0, 1) := by decide +kernel
theorem dX12_coordinateOfBytes_1 : decode cX12_coordinateOfBytes 1 = .ok (.getfield 26, 3) := by decide +kernel
theorem dX12_coordinateOfBytes_4 : decode cX12_coordinateOfBytes 4 = .ok (.bipush 32, 2) := by decide +kernel
theorem dX12_coordinateOfBytes_6 : decode cX12_coordinateOfBytes 6 = .ok (.iaload, 1) := by decide +kernel
theorem dX12_coordinateOfBytes_7 : decode cX12_coordinateOfBytes 7 = .ok (.sipush 2048, 3) := by decide +kernel
theorem dX12_coordinateOfBytes_10 : decode cX12_coordinateOfBytes 10 = .ok (.if_icmp .ne 14, 3) := by decide +kernel
theorem dX12_coordinateOfBytes_13 : decode cX12_coordinateOfBytes 13 = .ok (.aload_n 0, 1) := by decide +kernel
theorem dX12_coordinateOfBytes_14 : decode cX12_coordinateOfBytes 14 = .ok (.bipush 7, 2) := by decide +kernel
theorem dX12_coordinateOfBytes_16 : decode cX12_coordinateOfBytes 16 = .ok (.aload_n 0, 1) := by decide +kernel
theorem dX12_coordinateOfBytes_17 : decode cX12_coordinateOfBytes 17 = .ok (.getfield 300, 3) := by decide +kernel
theorem dX12_coordinateOfBytes_20 : decode cX12_coordinateOfBytes 20 = .ok (.invokevirtual 317, 3) := by decide +kernel
theorem dX12_coordinateOfBytes_23 : decode cX12_coordinateOfBytes 23 = .ok (.ireturn, 1) := by decide +kernel
theorem dX12_coordinateOfBytes_24 : decode cX12_coordinateOfBytes 24 = .ok (.aload_n 0, 1) := by decide +kernel
theorem dX12_coordinateOfBytes_25 : decode cX12_coordinateOfBytes 25 = .ok (.invokevirtual 507, 3) := by decide +kernel
theorem dX12_coordinateOfBytes_28 : decode cX12_coordinateOfBytes 28 = .ok (.ifCond .ne 5, 3) := by decide +kernel
theorem dX12_coordinateOfBytes_31 : decode cX12_coordinateOfBytes 31 = .ok (.iconst 0, 1) := by decide +kernel
theorem dX12_coordinateOfBytes_32 : decode cX12_coordinateOfBytes 32 = .ok (.ireturn, 1) := by decide +kernel
theorem dX12_coordinateOfBytes_33 : decode cX12_coordinateOfBytes 33 = .ok (.aload_n 0, 1) := by decide +kernel
theorem dX12_coordinateOfBytes_34 : decode cX12_coordinateOfBytes 34 = .ok (.getfield 409, 3) := by decide +kernel
theorem dX12_coordinateOfBytes_37 : decode cX12_coordinateOfBytes 37 = .ok (.lstore_n 1, 1) := by decide +kernel
theorem dX12_coordinateOfBytes_38 : decode cX12_coordinateOfBytes 38 = .ok (.aload_n 0, 1) := by decide +kernel
theorem dX12_coordinateOfBytes_39 : decode cX12_coordinateOfBytes 39 = .ok (.invokevirtual 507, 3) := by decide +kernel
theorem dX12_coordinateOfBytes_42 : decode cX12_coordinateOfBytes 42 = .ok (.ifCond .ne 5, 3) := by decide +kernel
theorem dX12_coordinateOfBytes_45 : decode cX12_coordinateOfBytes 45 = .ok (.iconst 0, 1) := by decide +kernel
theorem dX12_coordinateOfBytes_46 : decode cX12_coordinateOfBytes 46 = .ok (.ireturn, 1) := by decide +kernel
theorem dX12_coordinateOfBytes_47 : decode cX12_coordinateOfBytes 47 = .ok (.aload_n 0, 1) := by decide +kernel
theorem dX12_coordinateOfBytes_48 : decode cX12_coordinateOfBytes 48 = .ok (.lload_n 1, 1) := by decide +kernel
theorem dX12_coordinateOfBytes_49 : decode cX12_coordinateOfBytes 49 = .ok (.aload_n 0, 1) := by decide +kernel
theorem dX12_coordinateOfBytes_50 : decode cX12_coordinateOfBytes 50 = .ok (.getfield 409, 3) := by decide +kernel
theorem dX12_coordinateOfBytes_53 : decode cX12_coordinateOfBytes 53 = .ok (.invokevirtual 412, 3) := by decide +kernel
theorem dX12_coordinateOfBytes_56 : decode cX12_coordinateOfBytes 56 = .ok (.iconst 1, 1) := by decide +kernel
theorem dX12_coordinateOfBytes_57 : decode cX12_coordinateOfBytes 57 = .ok (.ireturn, 1) := by decide +kernel
theorem dX12_ordinateOfBytes_0 : decode cX12_ordinateOfBytes 0 = .ok (.aload_n 0, 1) := by decide +kernel
theorem dX12_ordinateOfBytes_1 : decode cX12_ordinateOfBytes 1 = .ok (.bipush 8, 2) := by decide +kernel
theorem dX12_ordinateOfBytes_3 : decode cX12_ordinateOfBytes 3 = .ok (.invokevirtual 468, 3) := by decide +kernel
theorem dX12_ordinateOfBytes_6 : decode cX12_ordinateOfBytes 6 = .ok (.ifCond .ne 13, 3) := by decide +kernel
theorem dX12_ordinateOfBytes_9 : decode cX12_ordinateOfBytes 9 = .ok (.aload_n 0, 1) := by decide +kernel
theorem dX12_ordinateOfBytes_10 : decode cX12_ordinateOfBytes 10 = .ok (.iconst 3, 1) := by decide +kernel
theorem dX12_ordinateOfBytes_11 : decode cX12_ordinateOfBytes 11 = .ok (.aload_n 0, 1) := by decide +kernel
theorem dX12_ordinateOfBytes_12 : decode cX12_ordinateOfBytes 12 = .ok (.getfield 300, 3) := by decide +kernel
theorem dX12_ordinateOfBytes_15 : decode cX12_ordinateOfBytes 15 = .ok (.invokevirtual 317, 3) := by decide +kernel
theorem dX12_ordinateOfBytes_18 : decode cX12_ordinateOfBytes 18 = .ok (.ireturn, 1) := by decide +kernel
theorem dX12_ordinateOfBytes_19 : decode cX12_ordinateOfBytes 19 = .ok (.aload_n 0, 1) := by decide +kernel
theorem dX12_ordinateOfBytes_20 : decode cX12_ordinateOfBytes 20 = .ok (.aload_n 0, 1) := by decide +kernel
theorem dX12_ordinateOfBytes_21 : decode cX12_ordinateOfBytes 21 = .ok (.getfield 300, 3) := by decide +kernel
theorem dX12_ordinateOfBytes_24 : decode cX12_ordinateOfBytes 24 = .ok (.bipush 8, 2) := by decide +kernel
theorem dX12_ordinateOfBytes_26 : decode cX12_ordinateOfBytes 26 = .ok (.invokevirtual 471, 3) := by decide +kernel
theorem dX12_ordinateOfBytes_29 : decode cX12_ordinateOfBytes 29 = .ok (.lstore_n 1, 1) := by decide +kernel
theorem dX12_ordinateOfBytes_30 : decode cX12_ordinateOfBytes 30 = .ok (.lload_n 1, 1) := by decide +kernel
theorem dX12_ordinateOfBytes_31 : decode cX12_ordinateOfBytes 31 = .ok (.bipush 52, 2) := by decide +kernel
theorem dX12_ordinateOfBytes_33 : decode cX12_ordinateOfBytes 33 = .ok (.lushr, 1) := by decide +kernel
theorem dX12_ordinateOfBytes_34 : decode cX12_ordinateOfBytes 34 = .ok (.ldc2_w 497, 3) := by decide +kernel
theorem dX12_ordinateOfBytes_37 : decode cX12_ordinateOfBytes 37 = .ok (.land, 1) := by decide +kernel
theorem dX12_ordinateOfBytes_38 : decode cX12_ordinateOfBytes 38 = .ok (.ldc2_w 497, 3) := by decide +kernel
theorem dX12_ordinateOfBytes_41 : decode cX12_ordinateOfBytes 41 = .ok (.lcmp, 1) := by decide +kernel
theorem dX12_ordinateOfBytes_42 : decode cX12_ordinateOfBytes 42 = .ok (.ifCond .ne 13, 3) := by decide +kernel
theorem dX12_ordinateOfBytes_45 : decode cX12_ordinateOfBytes 45 = .ok (.aload_n 0, 1) := by decide +kernel
theorem dX12_ordinateOfBytes_46 : decode cX12_ordinateOfBytes 46 = .ok (.iconst 4, 1) := by decide +kernel
theorem dX12_ordinateOfBytes_47 : decode cX12_ordinateOfBytes 47 = .ok (.aload_n 0, 1) := by decide +kernel
theorem dX12_ordinateOfBytes_48 : decode cX12_ordinateOfBytes 48 = .ok (.getfield 300, 3) := by decide +kernel
theorem dX12_ordinateOfBytes_51 : decode cX12_ordinateOfBytes 51 = .ok (.invokevirtual 317, 3) := by decide +kernel
theorem dX12_ordinateOfBytes_54 : decode cX12_ordinateOfBytes 54 = .ok (.ireturn, 1) := by decide +kernel
theorem dX12_ordinateOfBytes_55 : decode cX12_ordinateOfBytes 55 = .ok (.aload_n 0, 1) := by decide +kernel
theorem dX12_ordinateOfBytes_56 : decode cX12_ordinateOfBytes 56 = .ok (.lload_n 1, 1) := by decide +kernel
theorem dX12_ordinateOfBytes_57 : decode cX12_ordinateOfBytes 57 = .ok (.invokevirtual 510, 3) := by decide +kernel
theorem dX12_ordinateOfBytes_60 : decode cX12_ordinateOfBytes 60 = .ok (.lstore_n 3, 1) := by decide +kernel
theorem dX12_ordinateOfBytes_61 : decode cX12_ordinateOfBytes 61 = .ok (.lload_n 3, 1) := by decide +kernel
theorem dX12_ordinateOfBytes_62 : decode cX12_ordinateOfBytes 62 = .ok (.ldc2_w 436, 3) := by decide +kernel
theorem dX12_ordinateOfBytes_65 : decode cX12_ordinateOfBytes 65 = .ok (.lcmp, 1) := by decide +kernel
theorem dX12_ordinateOfBytes_66 : decode cX12_ordinateOfBytes 66 = .ok (.ifCond .le 13, 3) := by decide +kernel
theorem dX12_ordinateOfBytes_69 : decode cX12_ordinateOfBytes 69 = .ok (.aload_n 0, 1) := by decide +kernel
theorem dX12_ordinateOfBytes_70 : decode cX12_ordinateOfBytes 70 = .ok (.iconst 5, 1) := by decide +kernel
theorem dX12_ordinateOfBytes_71 : decode cX12_ordinateOfBytes 71 = .ok (.aload_n 0, 1) := by decide +kernel
theorem dX12_ordinateOfBytes_72 : decode cX12_ordinateOfBytes 72 = .ok (.getfield 300, 3) := by decide +kernel
theorem dX12_ordinateOfBytes_75 : decode cX12_ordinateOfBytes 75 = .ok (.invokevirtual 317, 3) := by decide +kernel
theorem dX12_ordinateOfBytes_78 : decode cX12_ordinateOfBytes 78 = .ok (.ireturn, 1) := by decide +kernel
theorem dX12_ordinateOfBytes_79 : decode cX12_ordinateOfBytes 79 = .ok (.aload_n 0, 1) := by decide +kernel
theorem dX12_ordinateOfBytes_80 : decode cX12_ordinateOfBytes 80 = .ok (.lload_n 1, 1) := by decide +kernel
theorem dX12_ordinateOfBytes_81 : decode cX12_ordinateOfBytes 81 = .ok (.lconst 0, 1) := by decide +kernel
theorem dX12_ordinateOfBytes_82 : decode cX12_ordinateOfBytes 82 = .ok (.lcmp, 1) := by decide +kernel
theorem dX12_ordinateOfBytes_83 : decode cX12_ordinateOfBytes 83 = .ok (.ifCond .ge 8, 3) := by decide +kernel
theorem dX12_ordinateOfBytes_86 : decode cX12_ordinateOfBytes 86 = .ok (.lload_n 3, 1) := by decide +kernel
theorem dX12_ordinateOfBytes_87 : decode cX12_ordinateOfBytes 87 = .ok (.lneg, 1) := by decide +kernel
theorem dX12_ordinateOfBytes_88 : decode cX12_ordinateOfBytes 88 = .ok (.goto 4, 3) := by decide +kernel
theorem dX12_ordinateOfBytes_91 : decode cX12_ordinateOfBytes 91 = .ok (.lload_n 3, 1) := by decide +kernel
theorem dX12_ordinateOfBytes_92 : decode cX12_ordinateOfBytes 92 = .ok (.putfield 409, 3) := by decide +kernel
theorem dX12_ordinateOfBytes_95 : decode cX12_ordinateOfBytes 95 = .ok (.aload_n 0, 1) := by decide +kernel
theorem dX12_ordinateOfBytes_96 : decode cX12_ordinateOfBytes 96 = .ok (.dup, 1) := by decide +kernel
theorem dX12_ordinateOfBytes_97 : decode cX12_ordinateOfBytes 97 = .ok (.getfield 300, 3) := by decide +kernel
theorem dX12_ordinateOfBytes_100 : decode cX12_ordinateOfBytes 100 = .ok (.bipush 8, 2) := by decide +kernel
theorem dX12_ordinateOfBytes_102 : decode cX12_ordinateOfBytes 102 = .ok (.iadd, 1) := by decide +kernel
theorem dX12_ordinateOfBytes_103 : decode cX12_ordinateOfBytes 103 = .ok (.putfield 300, 3) := by decide +kernel
theorem dX12_ordinateOfBytes_106 : decode cX12_ordinateOfBytes 106 = .ok (.iconst 1, 1) := by decide +kernel
theorem dX12_ordinateOfBytes_107 : decode cX12_ordinateOfBytes 107 = .ok (.ireturn, 1) := by decide +kernel
theorem dX12_inUnits_0 : decode cX12_inUnits 0 = .ok (.lload_n 1, 1) := by decide +kernel
theorem dX12_inUnits_1 : decode cX12_inUnits 1 = .ok (.bipush 52, 2) := by decide +kernel
theorem dX12_inUnits_3 : decode cX12_inUnits 3 = .ok (.lushr, 1) := by decide +kernel
theorem dX12_inUnits_4 : decode cX12_inUnits 4 = .ok (.ldc2_w 497, 3) := by decide +kernel
theorem dX12_inUnits_7 : decode cX12_inUnits 7 = .ok (.land, 1) := by decide +kernel
theorem dX12_inUnits_8 : decode cX12_inUnits 8 = .ok (.l2i, 1) := by decide +kernel
theorem dX12_inUnits_9 : decode cX12_inUnits 9 = .ok (.istore_n 3, 1) := by decide +kernel
theorem dX12_inUnits_10 : decode cX12_inUnits 10 = .ok (.lload_n 1, 1) := by decide +kernel
theorem dX12_inUnits_11 : decode cX12_inUnits 11 = .ok (.ldc2_w 499, 3) := by decide +kernel
theorem dX12_inUnits_14 : decode cX12_inUnits 14 = .ok (.land, 1) := by decide +kernel
theorem dX12_inUnits_15 : decode cX12_inUnits 15 = .ok (.lstore 4, 2) := by decide +kernel
theorem dX12_inUnits_17 : decode cX12_inUnits 17 = .ok (.iload_n 3, 1) := by decide +kernel
theorem dX12_inUnits_18 : decode cX12_inUnits 18 = .ok (.ifCond .ne 8, 3) := by decide +kernel
theorem dX12_inUnits_21 : decode cX12_inUnits 21 = .ok (.lload 4, 2) := by decide +kernel
theorem dX12_inUnits_23 : decode cX12_inUnits 23 = .ok (.goto 9, 3) := by decide +kernel
theorem dX12_inUnits_26 : decode cX12_inUnits 26 = .ok (.lload 4, 2) := by decide +kernel
theorem dX12_inUnits_28 : decode cX12_inUnits 28 = .ok (.ldc2_w 514, 3) := by decide +kernel
theorem dX12_inUnits_31 : decode cX12_inUnits 31 = .ok (.lor, 1) := by decide +kernel
theorem dX12_inUnits_32 : decode cX12_inUnits 32 = .ok (.aload_n 0, 1) := by decide +kernel
theorem dX12_inUnits_33 : decode cX12_inUnits 33 = .ok (.getfield 265, 3) := by decide +kernel
theorem dX12_inUnits_36 : decode cX12_inUnits 36 = .ok (.lmul, 1) := by decide +kernel
theorem dX12_inUnits_37 : decode cX12_inUnits 37 = .ok (.lstore 6, 2) := by decide +kernel
theorem dX12_inUnits_39 : decode cX12_inUnits 39 = .ok (.iload_n 3, 1) := by decide +kernel
theorem dX12_inUnits_40 : decode cX12_inUnits 40 = .ok (.ifCond .ne 7, 3) := by decide +kernel
theorem dX12_inUnits_43 : decode cX12_inUnits 43 = .ok (.iconst 1, 1) := by decide +kernel
theorem dX12_inUnits_44 : decode cX12_inUnits 44 = .ok (.goto 4, 3) := by decide +kernel
theorem dX12_inUnits_47 : decode cX12_inUnits 47 = .ok (.iload_n 3, 1) := by decide +kernel
theorem dX12_inUnits_48 : decode cX12_inUnits 48 = .ok (.sipush 1075, 3) := by decide +kernel
theorem dX12_inUnits_51 : decode cX12_inUnits 51 = .ok (.isub, 1) := by decide +kernel
theorem dX12_inUnits_52 : decode cX12_inUnits 52 = .ok (.istore 8, 2) := by decide +kernel
theorem dX12_inUnits_54 : decode cX12_inUnits 54 = .ok (.lload 6, 2) := by decide +kernel
theorem dX12_inUnits_56 : decode cX12_inUnits 56 = .ok (.lconst 0, 1) := by decide +kernel
theorem dX12_inUnits_57 : decode cX12_inUnits 57 = .ok (.lcmp, 1) := by decide +kernel
theorem dX12_inUnits_58 : decode cX12_inUnits 58 = .ok (.ifCond .ne 5, 3) := by decide +kernel
theorem dX12_inUnits_61 : decode cX12_inUnits 61 = .ok (.lconst 0, 1) := by decide +kernel
theorem dX12_inUnits_62 : decode cX12_inUnits 62 = .ok (.lreturn, 1) := by decide +kernel
theorem dX12_inUnits_63 : decode cX12_inUnits 63 = .ok (.iload 8, 2) := by decide +kernel
theorem dX12_inUnits_65 : decode cX12_inUnits 65 = .ok (.ifCond .lt 7, 3) := by decide +kernel
theorem dX12_inUnits_68 : decode cX12_inUnits 68 = .ok (.ldc2_w 438, 3) := by decide +kernel
theorem dX12_inUnits_71 : decode cX12_inUnits 71 = .ok (.lreturn, 1) := by decide +kernel
theorem dX12_inUnits_72 : decode cX12_inUnits 72 = .ok (.iload 8, 2) := by decide +kernel
theorem dX12_inUnits_74 : decode cX12_inUnits 74 = .ok (.bipush (-63), 2) := by decide +kernel
theorem dX12_inUnits_76 : decode cX12_inUnits 76 = .ok (.if_icmp .ge 5, 3) := by decide +kernel
theorem dX12_inUnits_79 : decode cX12_inUnits 79 = .ok (.lconst 0, 1) := by decide +kernel
theorem dX12_inUnits_80 : decode cX12_inUnits 80 = .ok (.lreturn, 1) := by decide +kernel
theorem dX12_inUnits_81 : decode cX12_inUnits 81 = .ok (.lload 6, 2) := by decide +kernel
theorem dX12_inUnits_83 : decode cX12_inUnits 83 = .ok (.iload 8, 2) := by decide +kernel
theorem dX12_inUnits_85 : decode cX12_inUnits 85 = .ok (.ineg, 1) := by decide +kernel
theorem dX12_inUnits_86 : decode cX12_inUnits 86 = .ok (.lushr, 1) := by decide +kernel
theorem dX12_inUnits_87 : decode cX12_inUnits 87 = .ok (.lstore 9, 2) := by decide +kernel
theorem dX12_inUnits_89 : decode cX12_inUnits 89 = .ok (.lload 6, 2) := by decide +kernel
theorem dX12_inUnits_91 : decode cX12_inUnits 91 = .ok (.lload 9, 2) := by decide +kernel
theorem dX12_inUnits_93 : decode cX12_inUnits 93 = .ok (.iload 8, 2) := by decide +kernel
theorem dX12_inUnits_95 : decode cX12_inUnits 95 = .ok (.ineg, 1) := by decide +kernel
theorem dX12_inUnits_96 : decode cX12_inUnits 96 = .ok (.lshl, 1) := by decide +kernel
theorem dX12_inUnits_97 : decode cX12_inUnits 97 = .ok (.lsub, 1) := by decide +kernel
theorem dX12_inUnits_98 : decode cX12_inUnits 98 = .ok (.lstore 11, 2) := by decide +kernel
theorem dX12_inUnits_100 : decode cX12_inUnits 100 = .ok (.lconst 1, 1) := by decide +kernel
theorem dX12_inUnits_101 : decode cX12_inUnits 101 = .ok (.iload 8, 2) := by decide +kernel
theorem dX12_inUnits_103 : decode cX12_inUnits 103 = .ok (.ineg, 1) := by decide +kernel
theorem dX12_inUnits_104 : decode cX12_inUnits 104 = .ok (.iconst 1, 1) := by decide +kernel
theorem dX12_inUnits_105 : decode cX12_inUnits 105 = .ok (.isub, 1) := by decide +kernel
theorem dX12_inUnits_106 : decode cX12_inUnits 106 = .ok (.lshl, 1) := by decide +kernel
theorem dX12_inUnits_107 : decode cX12_inUnits 107 = .ok (.lstore 13, 2) := by decide +kernel
theorem dX12_inUnits_109 : decode cX12_inUnits 109 = .ok (.lload 11, 2) := by decide +kernel
theorem dX12_inUnits_111 : decode cX12_inUnits 111 = .ok (.lload 13, 2) := by decide +kernel
theorem dX12_inUnits_113 : decode cX12_inUnits 113 = .ok (.lcmp, 1) := by decide +kernel
theorem dX12_inUnits_114 : decode cX12_inUnits 114 = .ok (.ifCond .gt 20, 3) := by decide +kernel
theorem dX12_inUnits_117 : decode cX12_inUnits 117 = .ok (.lload 11, 2) := by decide +kernel
theorem dX12_inUnits_119 : decode cX12_inUnits 119 = .ok (.lload 13, 2) := by decide +kernel
theorem dX12_inUnits_121 : decode cX12_inUnits 121 = .ok (.lcmp, 1) := by decide +kernel
theorem dX12_inUnits_122 : decode cX12_inUnits 122 = .ok (.ifCond .ne 16, 3) := by decide +kernel
theorem dX12_inUnits_125 : decode cX12_inUnits 125 = .ok (.lload 9, 2) := by decide +kernel
theorem dX12_inUnits_127 : decode cX12_inUnits 127 = .ok (.lconst 1, 1) := by decide +kernel
theorem dX12_inUnits_128 : decode cX12_inUnits 128 = .ok (.land, 1) := by decide +kernel
theorem dX12_inUnits_129 : decode cX12_inUnits 129 = .ok (.lconst 1, 1) := by decide +kernel
theorem dX12_inUnits_130 : decode cX12_inUnits 130 = .ok (.lcmp, 1) := by decide +kernel
theorem dX12_inUnits_131 : decode cX12_inUnits 131 = .ok (.ifCond .ne 7, 3) := by decide +kernel
theorem dX12_inUnits_134 : decode cX12_inUnits 134 = .ok (.iconst 1, 1) := by decide +kernel
theorem dX12_inUnits_135 : decode cX12_inUnits 135 = .ok (.goto 4, 3) := by decide +kernel
theorem dX12_inUnits_138 : decode cX12_inUnits 138 = .ok (.iconst 0, 1) := by decide +kernel
theorem dX12_inUnits_139 : decode cX12_inUnits 139 = .ok (.istore 15, 2) := by decide +kernel
theorem dX12_inUnits_141 : decode cX12_inUnits 141 = .ok (.lload 9, 2) := by decide +kernel
theorem dX12_inUnits_143 : decode cX12_inUnits 143 = .ok (.ldc2_w 438, 3) := by decide +kernel
theorem dX12_inUnits_146 : decode cX12_inUnits 146 = .ok (.lcmp, 1) := by decide +kernel
theorem dX12_inUnits_147 : decode cX12_inUnits 147 = .ok (.ifCond .lt 9, 3) := by decide +kernel
theorem dX12_inUnits_150 : decode cX12_inUnits 150 = .ok (.ldc2_w 438, 3) := by decide +kernel
theorem dX12_inUnits_153 : decode cX12_inUnits 153 = .ok (.goto 17, 3) := by decide +kernel
theorem dX12_inUnits_156 : decode cX12_inUnits 156 = .ok (.iload 15, 2) := by decide +kernel
theorem dX12_inUnits_158 : decode cX12_inUnits 158 = .ok (.ifCond .eq 10, 3) := by decide +kernel
theorem dX12_inUnits_161 : decode cX12_inUnits 161 = .ok (.lload 9, 2) := by decide +kernel
theorem dX12_inUnits_163 : decode cX12_inUnits 163 = .ok (.lconst 1, 1) := by decide +kernel
theorem dX12_inUnits_164 : decode cX12_inUnits 164 = .ok (.ladd, 1) := by decide +kernel
theorem dX12_inUnits_165 : decode cX12_inUnits 165 = .ok (.goto 5, 3) := by decide +kernel
theorem dX12_inUnits_168 : decode cX12_inUnits 168 = .ok (.lload 9, 2) := by decide +kernel
theorem dX12_inUnits_170 : decode cX12_inUnits 170 = .ok (.lreturn, 1) := by decide +kernel
theorem dX12_put_0 : decode cX12_put 0 = .ok (.aload_n 0, 1) := by decide +kernel
theorem dX12_put_1 : decode cX12_put 1 = .ok (.getfield 15, 3) := by decide +kernel
theorem dX12_put_4 : decode cX12_put 4 = .ok (.aload_n 0, 1) := by decide +kernel
theorem dX12_put_5 : decode cX12_put 5 = .ok (.getfield 291, 3) := by decide +kernel
theorem dX12_put_8 : decode cX12_put 8 = .ok (.iload_n 1, 1) := by decide +kernel
theorem dX12_put_9 : decode cX12_put 9 = .ok (.i2b, 1) := by decide +kernel
theorem dX12_put_10 : decode cX12_put 10 = .ok (.bastore, 1) := by decide +kernel
theorem dX12_put_11 : decode cX12_put 11 = .ok (.aload_n 0, 1) := by decide +kernel
theorem dX12_put_12 : decode cX12_put 12 = .ok (.dup, 1) := by decide +kernel
theorem dX12_put_13 : decode cX12_put 13 = .ok (.getfield 291, 3) := by decide +kernel
theorem dX12_put_16 : decode cX12_put 16 = .ok (.iconst 1, 1) := by decide +kernel
theorem dX12_put_17 : decode cX12_put 17 = .ok (.iadd, 1) := by decide +kernel
theorem dX12_put_18 : decode cX12_put 18 = .ok (.putfield 291, 3) := by decide +kernel
theorem dX12_put_21 : decode cX12_put 21 = .ok (.return_, 1) := by decide +kernel
theorem dX12_next_0 : decode cX12_next 0 = .ok (.aload_n 0, 1) := by decide +kernel
theorem dX12_next_1 : decode cX12_next 1 = .ok (.dup, 1) := by decide +kernel
theorem dX12_next_2 : decode cX12_next 2 = .ok (.getfield 516, 3) := by decide +kernel
theorem dX12_next_5 : decode cX12_next 5 = .ok (.iconst 1, 1) := by decide +kernel
theorem dX12_next_6 : decode cX12_next 6 = .ok (.iadd, 1) := by decide +kernel
theorem dX12_next_7 : decode cX12_next 7 = .ok (.putfield 516, 3) := by decide +kernel
theorem dX12_next_10 : decode cX12_next 10 = .ok (.aload_n 0, 1) := by decide +kernel
theorem dX12_next_11 : decode cX12_next 11 = .ok (.getfield 23, 3) := by decide +kernel
theorem dX12_next_14 : decode cX12_next 14 = .ok (.aload_n 0, 1) := by decide +kernel
theorem dX12_next_15 : decode cX12_next 15 = .ok (.getfield 516, 3) := by decide +kernel
theorem dX12_next_18 : decode cX12_next 18 = .ok (.iconst 1, 1) := by decide +kernel
theorem dX12_next_19 : decode cX12_next 19 = .ok (.isub, 1) := by decide +kernel
theorem dX12_next_20 : decode cX12_next 20 = .ok (.iaload, 1) := by decide +kernel
theorem dX12_next_21 : decode cX12_next 21 = .ok (.ireturn, 1) := by decide +kernel
theorem dX12_putWord_0 : decode cX12_putWord 0 = .ok (.iconst 1, 1) := by decide +kernel
theorem dX12_putWord_1 : decode cX12_putWord 1 = .ok (.istore_n 2, 1) := by decide +kernel
theorem dX12_putWord_2 : decode cX12_putWord 2 = .ok (.iconst 0, 1) := by decide +kernel
theorem dX12_putWord_3 : decode cX12_putWord 3 = .ok (.istore_n 3, 1) := by decide +kernel
theorem dX12_putWord_4 : decode cX12_putWord 4 = .ok (.iload_n 3, 1) := by decide +kernel
theorem dX12_putWord_5 : decode cX12_putWord 5 = .ok (.ldc_w 331, 3) := by decide +kernel
theorem dX12_putWord_8 : decode cX12_putWord 8 = .ok (.invokevirtual 339, 3) := by decide +kernel
theorem dX12_putWord_11 : decode cX12_putWord 11 = .ok (.if_icmp .ge 42, 3) := by decide +kernel
theorem dX12_putWord_14 : decode cX12_putWord 14 = .ok (.ldc_w 331, 3) := by decide +kernel
theorem dX12_putWord_17 : decode cX12_putWord 17 = .ok (.iload_n 3, 1) := by decide +kernel
theorem dX12_putWord_18 : decode cX12_putWord 18 = .ok (.invokevirtual 333, 3) := by decide +kernel
theorem dX12_putWord_21 : decode cX12_putWord 21 = .ok (.istore 4, 2) := by decide +kernel
theorem dX12_putWord_23 : decode cX12_putWord 23 = .ok (.iload 4, 2) := by decide +kernel
theorem dX12_putWord_25 : decode cX12_putWord 25 = .ok (.bipush 32, 2) := by decide +kernel
theorem dX12_putWord_27 : decode cX12_putWord 27 = .ok (.if_icmp .ne 9, 3) := by decide +kernel
theorem dX12_putWord_30 : decode cX12_putWord 30 = .ok (.iinc 2 1, 3) := by decide +kernel
theorem dX12_putWord_33 : decode cX12_putWord 33 = .ok (.goto 14, 3) := by decide +kernel
theorem dX12_putWord_36 : decode cX12_putWord 36 = .ok (.iload_n 2, 1) := by decide +kernel
theorem dX12_putWord_37 : decode cX12_putWord 37 = .ok (.iload_n 1, 1) := by decide +kernel
theorem dX12_putWord_38 : decode cX12_putWord 38 = .ok (.if_icmp .ne 9, 3) := by decide +kernel
theorem dX12_putWord_41 : decode cX12_putWord 41 = .ok (.aload_n 0, 1) := by decide +kernel
theorem dX12_putWord_42 : decode cX12_putWord 42 = .ok (.iload 4, 2) := by decide +kernel
theorem dX12_putWord_44 : decode cX12_putWord 44 = .ok (.invokevirtual 519, 3) := by decide +kernel
theorem dX12_putWord_47 : decode cX12_putWord 47 = .ok (.iinc 3 1, 3) := by decide +kernel
theorem dX12_putWord_50 : decode cX12_putWord 50 = .ok (.goto (-46), 3) := by decide +kernel
theorem dX12_putWord_53 : decode cX12_putWord 53 = .ok (.return_, 1) := by decide +kernel
theorem dX12_putNumber_0 : decode cX12_putNumber 0 = .ok (.iload_n 1, 1) := by decide +kernel
theorem dX12_putNumber_1 : decode cX12_putNumber 1 = .ok (.ifCond .ge 9, 3) := by decide +kernel
theorem dX12_putNumber_4 : decode cX12_putNumber 4 = .ok (.iload_n 1, 1) := by decide +kernel
theorem dX12_putNumber_5 : decode cX12_putNumber 5 = .ok (.i2l, 1) := by decide +kernel
theorem dX12_putNumber_6 : decode cX12_putNumber 6 = .ok (.lneg, 1) := by decide +kernel
theorem dX12_putNumber_7 : decode cX12_putNumber 7 = .ok (.goto 5, 3) := by decide +kernel
theorem dX12_putNumber_10 : decode cX12_putNumber 10 = .ok (.iload_n 1, 1) := by decide +kernel
theorem dX12_putNumber_11 : decode cX12_putNumber 11 = .ok (.i2l, 1) := by decide +kernel
theorem dX12_putNumber_12 : decode cX12_putNumber 12 = .ok (.lstore_n 2, 1) := by decide +kernel
theorem dX12_putNumber_13 : decode cX12_putNumber 13 = .ok (.iload_n 1, 1) := by decide +kernel
theorem dX12_putNumber_14 : decode cX12_putNumber 14 = .ok (.ifCond .ge 9, 3) := by decide +kernel
theorem dX12_putNumber_17 : decode cX12_putNumber 17 = .ok (.aload_n 0, 1) := by decide +kernel
theorem dX12_putNumber_18 : decode cX12_putNumber 18 = .ok (.bipush 45, 2) := by decide +kernel
theorem dX12_putNumber_20 : decode cX12_putNumber 20 = .ok (.invokevirtual 519, 3) := by decide +kernel
theorem dX12_putNumber_23 : decode cX12_putNumber 23 = .ok (.lconst 1, 1) := by decide +kernel
theorem dX12_putNumber_24 : decode cX12_putNumber 24 = .ok (.lstore 4, 2) := by decide +kernel
theorem dX12_putNumber_26 : decode cX12_putNumber 26 = .ok (.lload_n 2, 1) := by decide +kernel
theorem dX12_putNumber_27 : decode cX12_putNumber 27 = .ok (.aload_n 0, 1) := by decide +kernel
theorem dX12_putNumber_28 : decode cX12_putNumber 28 = .ok (.getfield 265, 3) := by decide +kernel
theorem dX12_putNumber_31 : decode cX12_putNumber 31 = .ok (.ldiv, 1) := by decide +kernel
theorem dX12_putNumber_32 : decode cX12_putNumber 32 = .ok (.lload 4, 2) := by decide +kernel
theorem dX12_putNumber_34 : decode cX12_putNumber 34 = .ok (.ldiv, 1) := by decide +kernel
theorem dX12_putNumber_35 : decode cX12_putNumber 35 = .ok (.ldc2_w 522, 3) := by decide +kernel
theorem dX12_putNumber_38 : decode cX12_putNumber 38 = .ok (.lcmp, 1) := by decide +kernel
theorem dX12_putNumber_39 : decode cX12_putNumber 39 = .ok (.ifCond .le 14, 3) := by decide +kernel
theorem dX12_putNumber_42 : decode cX12_putNumber 42 = .ok (.lload 4, 2) := by decide +kernel
theorem dX12_putNumber_44 : decode cX12_putNumber 44 = .ok (.ldc2_w 269, 3) := by decide +kernel
theorem dX12_putNumber_47 : decode cX12_putNumber 47 = .ok (.lmul, 1) := by decide +kernel
theorem dX12_putNumber_48 : decode cX12_putNumber 48 = .ok (.lstore 4, 2) := by decide +kernel
theorem dX12_putNumber_50 : decode cX12_putNumber 50 = .ok (.goto (-24), 3) := by decide +kernel
theorem dX12_putNumber_53 : decode cX12_putNumber 53 = .ok (.lload 4, 2) := by decide +kernel
theorem dX12_putNumber_55 : decode cX12_putNumber 55 = .ok (.lconst 0, 1) := by decide +kernel
theorem dX12_putNumber_56 : decode cX12_putNumber 56 = .ok (.lcmp, 1) := by decide +kernel
theorem dX12_putNumber_57 : decode cX12_putNumber 57 = .ok (.ifCond .le 36, 3) := by decide +kernel
theorem dX12_putNumber_60 : decode cX12_putNumber 60 = .ok (.aload_n 0, 1) := by decide +kernel
theorem dX12_putNumber_61 : decode cX12_putNumber 61 = .ok (.ldc2_w 430, 3) := by decide +kernel
theorem dX12_putNumber_64 : decode cX12_putNumber 64 = .ok (.lload_n 2, 1) := by decide +kernel
theorem dX12_putNumber_65 : decode cX12_putNumber 65 = .ok (.aload_n 0, 1) := by decide +kernel
theorem dX12_putNumber_66 : decode cX12_putNumber 66 = .ok (.getfield 265, 3) := by decide +kernel
theorem dX12_putNumber_69 : decode cX12_putNumber 69 = .ok (.ldiv, 1) := by decide +kernel
theorem dX12_putNumber_70 : decode cX12_putNumber 70 = .ok (.lload 4, 2) := by decide +kernel
theorem dX12_putNumber_72 : decode cX12_putNumber 72 = .ok (.ldiv, 1) := by decide +kernel
theorem dX12_putNumber_73 : decode cX12_putNumber 73 = .ok (.ldc2_w 269, 3) := by decide +kernel
theorem dX12_putNumber_76 : decode cX12_putNumber 76 = .ok (.lrem, 1) := by decide +kernel
theorem dX12_putNumber_77 : decode cX12_putNumber 77 = .ok (.ladd, 1) := by decide +kernel
theorem dX12_putNumber_78 : decode cX12_putNumber 78 = .ok (.l2i, 1) := by decide +kernel
theorem dX12_putNumber_79 : decode cX12_putNumber 79 = .ok (.invokevirtual 519, 3) := by decide +kernel
theorem dX12_putNumber_82 : decode cX12_putNumber 82 = .ok (.lload 4, 2) := by decide +kernel
theorem dX12_putNumber_84 : decode cX12_putNumber 84 = .ok (.ldc2_w 269, 3) := by decide +kernel
theorem dX12_putNumber_87 : decode cX12_putNumber 87 = .ok (.ldiv, 1) := by decide +kernel
theorem dX12_putNumber_88 : decode cX12_putNumber 88 = .ok (.lstore 4, 2) := by decide +kernel
theorem dX12_putNumber_90 : decode cX12_putNumber 90 = .ok (.goto (-37), 3) := by decide +kernel
theorem dX12_putNumber_93 : decode cX12_putNumber 93 = .ok (.lload_n 2, 1) := by decide +kernel
theorem dX12_putNumber_94 : decode cX12_putNumber 94 = .ok (.aload_n 0, 1) := by decide +kernel
theorem dX12_putNumber_95 : decode cX12_putNumber 95 = .ok (.getfield 265, 3) := by decide +kernel
theorem dX12_putNumber_98 : decode cX12_putNumber 98 = .ok (.lrem, 1) := by decide +kernel
theorem dX12_putNumber_99 : decode cX12_putNumber 99 = .ok (.lstore 6, 2) := by decide +kernel
theorem dX12_putNumber_101 : decode cX12_putNumber 101 = .ok (.lload 6, 2) := by decide +kernel
theorem dX12_putNumber_103 : decode cX12_putNumber 103 = .ok (.lconst 0, 1) := by decide +kernel
theorem dX12_putNumber_104 : decode cX12_putNumber 104 = .ok (.lcmp, 1) := by decide +kernel
theorem dX12_putNumber_105 : decode cX12_putNumber 105 = .ok (.ifCond .le 9, 3) := by decide +kernel
theorem dX12_putNumber_108 : decode cX12_putNumber 108 = .ok (.aload_n 0, 1) := by decide +kernel
theorem dX12_putNumber_109 : decode cX12_putNumber 109 = .ok (.bipush 46, 2) := by decide +kernel
theorem dX12_putNumber_111 : decode cX12_putNumber 111 = .ok (.invokevirtual 519, 3) := by decide +kernel
theorem dX12_putNumber_114 : decode cX12_putNumber 114 = .ok (.aload_n 0, 1) := by decide +kernel
theorem dX12_putNumber_115 : decode cX12_putNumber 115 = .ok (.getfield 265, 3) := by decide +kernel
theorem dX12_putNumber_118 : decode cX12_putNumber 118 = .ok (.ldc2_w 269, 3) := by decide +kernel
theorem dX12_putNumber_121 : decode cX12_putNumber 121 = .ok (.ldiv, 1) := by decide +kernel
theorem dX12_putNumber_122 : decode cX12_putNumber 122 = .ok (.lstore 8, 2) := by decide +kernel
theorem dX12_putNumber_124 : decode cX12_putNumber 124 = .ok (.lload 6, 2) := by decide +kernel
theorem dX12_putNumber_126 : decode cX12_putNumber 126 = .ok (.lconst 0, 1) := by decide +kernel
theorem dX12_putNumber_127 : decode cX12_putNumber 127 = .ok (.lcmp, 1) := by decide +kernel
theorem dX12_putNumber_128 : decode cX12_putNumber 128 = .ok (.ifCond .le 35, 3) := by decide +kernel
theorem dX12_putNumber_131 : decode cX12_putNumber 131 = .ok (.aload_n 0, 1) := by decide +kernel
theorem dX12_putNumber_132 : decode cX12_putNumber 132 = .ok (.ldc2_w 430, 3) := by decide +kernel
theorem dX12_putNumber_135 : decode cX12_putNumber 135 = .ok (.lload 6, 2) := by decide +kernel
theorem dX12_putNumber_137 : decode cX12_putNumber 137 = .ok (.lload 8, 2) := by decide +kernel
theorem dX12_putNumber_139 : decode cX12_putNumber 139 = .ok (.ldiv, 1) := by decide +kernel
theorem dX12_putNumber_140 : decode cX12_putNumber 140 = .ok (.ladd, 1) := by decide +kernel
theorem dX12_putNumber_141 : decode cX12_putNumber 141 = .ok (.l2i, 1) := by decide +kernel
theorem dX12_putNumber_142 : decode cX12_putNumber 142 = .ok (.invokevirtual 519, 3) := by decide +kernel
theorem dX12_putNumber_145 : decode cX12_putNumber 145 = .ok (.lload 6, 2) := by decide +kernel
theorem dX12_putNumber_147 : decode cX12_putNumber 147 = .ok (.lload 8, 2) := by decide +kernel
theorem dX12_putNumber_149 : decode cX12_putNumber 149 = .ok (.lrem, 1) := by decide +kernel
theorem dX12_putNumber_150 : decode cX12_putNumber 150 = .ok (.lstore 6, 2) := by decide +kernel
theorem dX12_putNumber_152 : decode cX12_putNumber 152 = .ok (.lload 8, 2) := by decide +kernel
theorem dX12_putNumber_154 : decode cX12_putNumber 154 = .ok (.ldc2_w 269, 3) := by decide +kernel
theorem dX12_putNumber_157 : decode cX12_putNumber 157 = .ok (.ldiv, 1) := by decide +kernel
theorem dX12_putNumber_158 : decode cX12_putNumber 158 = .ok (.lstore 8, 2) := by decide +kernel
theorem dX12_putNumber_160 : decode cX12_putNumber 160 = .ok (.goto (-36), 3) := by decide +kernel
theorem dX12_putNumber_163 : decode cX12_putNumber 163 = .ok (.return_, 1) := by decide +kernel
theorem dX12_putRow_0 : decode cX12_putRow 0 = .ok (.iconst 0, 1) := by decide +kernel
theorem dX12_putRow_1 : decode cX12_putRow 1 = .ok (.istore_n 2, 1) := by decide +kernel
theorem dX12_putRow_2 : decode cX12_putRow 2 = .ok (.iload_n 2, 1) := by decide +kernel
theorem dX12_putRow_3 : decode cX12_putRow 3 = .ok (.iload_n 1, 1) := by decide +kernel
theorem dX12_putRow_4 : decode cX12_putRow 4 = .ok (.if_icmp .ge 71, 3) := by decide +kernel
theorem dX12_putRow_7 : decode cX12_putRow 7 = .ok (.iload_n 2, 1) := by decide +kernel
theorem dX12_putRow_8 : decode cX12_putRow 8 = .ok (.ifCond .le 9, 3) := by decide +kernel
theorem dX12_putRow_11 : decode cX12_putRow 11 = .ok (.aload_n 0, 1) := by decide +kernel
theorem dX12_putRow_12 : decode cX12_putRow 12 = .ok (.bipush 44, 2) := by decide +kernel
theorem dX12_putRow_14 : decode cX12_putRow 14 = .ok (.invokevirtual 519, 3) := by decide +kernel
theorem dX12_putRow_17 : decode cX12_putRow 17 = .ok (.iload_n 2, 1) := by decide +kernel
theorem dX12_putRow_18 : decode cX12_putRow 18 = .ok (.ifCond .le 9, 3) := by decide +kernel
theorem dX12_putRow_21 : decode cX12_putRow 21 = .ok (.aload_n 0, 1) := by decide +kernel
theorem dX12_putRow_22 : decode cX12_putRow 22 = .ok (.bipush 32, 2) := by decide +kernel
theorem dX12_putRow_24 : decode cX12_putRow 24 = .ok (.invokevirtual 519, 3) := by decide +kernel
theorem dX12_putRow_27 : decode cX12_putRow 27 = .ok (.aload_n 0, 1) := by decide +kernel
theorem dX12_putRow_28 : decode cX12_putRow 28 = .ok (.aload_n 0, 1) := by decide +kernel
theorem dX12_putRow_29 : decode cX12_putRow 29 = .ok (.getfield 29, 3) := by decide +kernel
theorem dX12_putRow_32 : decode cX12_putRow 32 = .ok (.aload_n 0, 1) := by decide +kernel
theorem dX12_putRow_33 : decode cX12_putRow 33 = .ok (.getfield 524, 3) := by decide +kernel
theorem dX12_putRow_36 : decode cX12_putRow 36 = .ok (.iaload, 1) := by decide +kernel
theorem dX12_putRow_37 : decode cX12_putRow 37 = .ok (.invokevirtual 527, 3) := by decide +kernel
theorem dX12_putRow_40 : decode cX12_putRow 40 = .ok (.aload_n 0, 1) := by decide +kernel
theorem dX12_putRow_41 : decode cX12_putRow 41 = .ok (.bipush 32, 2) := by decide +kernel
theorem dX12_putRow_43 : decode cX12_putRow 43 = .ok (.invokevirtual 519, 3) := by decide +kernel
theorem dX12_putRow_46 : decode cX12_putRow 46 = .ok (.aload_n 0, 1) := by decide +kernel
theorem dX12_putRow_47 : decode cX12_putRow 47 = .ok (.aload_n 0, 1) := by decide +kernel
theorem dX12_putRow_48 : decode cX12_putRow 48 = .ok (.getfield 32, 3) := by decide +kernel
theorem dX12_putRow_51 : decode cX12_putRow 51 = .ok (.aload_n 0, 1) := by decide +kernel
theorem dX12_putRow_52 : decode cX12_putRow 52 = .ok (.getfield 524, 3) := by decide +kernel
theorem dX12_putRow_55 : decode cX12_putRow 55 = .ok (.iaload, 1) := by decide +kernel
theorem dX12_putRow_56 : decode cX12_putRow 56 = .ok (.invokevirtual 527, 3) := by decide +kernel
theorem dX12_putRow_59 : decode cX12_putRow 59 = .ok (.aload_n 0, 1) := by decide +kernel
theorem dX12_putRow_60 : decode cX12_putRow 60 = .ok (.dup, 1) := by decide +kernel
theorem dX12_putRow_61 : decode cX12_putRow 61 = .ok (.getfield 524, 3) := by decide +kernel
theorem dX12_putRow_64 : decode cX12_putRow 64 = .ok (.iconst 1, 1) := by decide +kernel
theorem dX12_putRow_65 : decode cX12_putRow 65 = .ok (.iadd, 1) := by decide +kernel
theorem dX12_putRow_66 : decode cX12_putRow 66 = .ok (.putfield 524, 3) := by decide +kernel
theorem dX12_putRow_69 : decode cX12_putRow 69 = .ok (.iinc 2 1, 3) := by decide +kernel
theorem dX12_putRow_72 : decode cX12_putRow 72 = .ok (.goto (-70), 3) := by decide +kernel
theorem dX12_putRow_75 : decode cX12_putRow 75 = .ok (.return_, 1) := by decide +kernel
theorem dX12_putRings_0 : decode cX12_putRings 0 = .ok (.iconst 0, 1) := by decide +kernel
theorem dX12_putRings_1 : decode cX12_putRings 1 = .ok (.istore_n 2, 1) := by decide +kernel
theorem dX12_putRings_2 : decode cX12_putRings 2 = .ok (.iload_n 2, 1) := by decide +kernel
theorem dX12_putRings_3 : decode cX12_putRings 3 = .ok (.iload_n 1, 1) := by decide +kernel
theorem dX12_putRings_4 : decode cX12_putRings 4 = .ok (.if_icmp .ge 49, 3) := by decide +kernel
theorem dX12_putRings_7 : decode cX12_putRings 7 = .ok (.iload_n 2, 1) := by decide +kernel
theorem dX12_putRings_8 : decode cX12_putRings 8 = .ok (.ifCond .le 9, 3) := by decide +kernel
theorem dX12_putRings_11 : decode cX12_putRings 11 = .ok (.aload_n 0, 1) := by decide +kernel
theorem dX12_putRings_12 : decode cX12_putRings 12 = .ok (.bipush 44, 2) := by decide +kernel
theorem dX12_putRings_14 : decode cX12_putRings 14 = .ok (.invokevirtual 519, 3) := by decide +kernel
theorem dX12_putRings_17 : decode cX12_putRings 17 = .ok (.iload_n 2, 1) := by decide +kernel
theorem dX12_putRings_18 : decode cX12_putRings 18 = .ok (.ifCond .le 9, 3) := by decide +kernel
theorem dX12_putRings_21 : decode cX12_putRings 21 = .ok (.aload_n 0, 1) := by decide +kernel
theorem dX12_putRings_22 : decode cX12_putRings 22 = .ok (.bipush 32, 2) := by decide +kernel
theorem dX12_putRings_24 : decode cX12_putRings 24 = .ok (.invokevirtual 519, 3) := by decide +kernel
theorem dX12_putRings_27 : decode cX12_putRings 27 = .ok (.aload_n 0, 1) := by decide +kernel
theorem dX12_putRings_28 : decode cX12_putRings 28 = .ok (.bipush 40, 2) := by decide +kernel
theorem dX12_putRings_30 : decode cX12_putRings 30 = .ok (.invokevirtual 519, 3) := by decide +kernel
theorem dX12_putRings_33 : decode cX12_putRings 33 = .ok (.aload_n 0, 1) := by decide +kernel
theorem dX12_putRings_34 : decode cX12_putRings 34 = .ok (.aload_n 0, 1) := by decide +kernel
theorem dX12_putRings_35 : decode cX12_putRings 35 = .ok (.invokevirtual 530, 3) := by decide +kernel
theorem dX12_putRings_38 : decode cX12_putRings 38 = .ok (.invokevirtual 533, 3) := by decide +kernel
theorem dX12_putRings_41 : decode cX12_putRings 41 = .ok (.aload_n 0, 1) := by decide +kernel
theorem dX12_putRings_42 : decode cX12_putRings 42 = .ok (.bipush 41, 2) := by decide +kernel
theorem dX12_putRings_44 : decode cX12_putRings 44 = .ok (.invokevirtual 519, 3) := by decide +kernel
theorem dX12_putRings_47 : decode cX12_putRings 47 = .ok (.iinc 2 1, 3) := by decide +kernel
theorem dX12_putRings_50 : decode cX12_putRings 50 = .ok (.goto (-48), 3) := by decide +kernel
theorem dX12_putRings_53 : decode cX12_putRings 53 = .ok (.return_, 1) := by decide +kernel
theorem dX12_putBody_0 : decode cX12_putBody 0 = .ok (.iload_n 2, 1) := by decide +kernel
theorem dX12_putBody_1 : decode cX12_putBody 1 = .ok (.ifCond .ne 10, 3) := by decide +kernel
theorem dX12_putBody_4 : decode cX12_putBody 4 = .ok (.aload_n 0, 1) := by decide +kernel
theorem dX12_putBody_5 : decode cX12_putBody 5 = .ok (.bipush 8, 2) := by decide +kernel
theorem dX12_putBody_7 : decode cX12_putBody 7 = .ok (.invokevirtual 536, 3) := by decide +kernel
theorem dX12_putBody_10 : decode cX12_putBody 10 = .ok (.return_, 1) := by decide +kernel
theorem dX12_putBody_11 : decode cX12_putBody 11 = .ok (.aload_n 0, 1) := by decide +kernel
theorem dX12_putBody_12 : decode cX12_putBody 12 = .ok (.bipush 40, 2) := by decide +kernel
theorem dX12_putBody_14 : decode cX12_putBody 14 = .ok (.invokevirtual 519, 3) := by decide +kernel
theorem dX12_putBody_17 : decode cX12_putBody 17 = .ok (.iload_n 1, 1) := by decide +kernel
theorem dX12_putBody_18 : decode cX12_putBody 18 = .ok (.iconst 3, 1) := by decide +kernel
theorem dX12_putBody_19 : decode cX12_putBody 19 = .ok (.if_icmp .ge 11, 3) := by decide +kernel
theorem dX12_putBody_22 : decode cX12_putBody 22 = .ok (.aload_n 0, 1) := by decide +kernel
theorem dX12_putBody_23 : decode cX12_putBody 23 = .ok (.iload_n 2, 1) := by decide +kernel
theorem dX12_putBody_24 : decode cX12_putBody 24 = .ok (.invokevirtual 533, 3) := by decide +kernel
theorem dX12_putBody_27 : decode cX12_putBody 27 = .ok (.goto 8, 3) := by decide +kernel
theorem dX12_putBody_30 : decode cX12_putBody 30 = .ok (.aload_n 0, 1) := by decide +kernel
theorem dX12_putBody_31 : decode cX12_putBody 31 = .ok (.iload_n 2, 1) := by decide +kernel
theorem dX12_putBody_32 : decode cX12_putBody 32 = .ok (.invokevirtual 539, 3) := by decide +kernel
theorem dX12_putBody_35 : decode cX12_putBody 35 = .ok (.aload_n 0, 1) := by decide +kernel
theorem dX12_putBody_36 : decode cX12_putBody 36 = .ok (.bipush 41, 2) := by decide +kernel
theorem dX12_putBody_38 : decode cX12_putBody 38 = .ok (.invokevirtual 519, 3) := by decide +kernel
theorem dX12_putBody_41 : decode cX12_putBody 41 = .ok (.return_, 1) := by decide +kernel
theorem dX12_putParts_0 : decode cX12_putParts 0 = .ok (.iload_n 1, 1) := by decide +kernel
theorem dX12_putParts_1 : decode cX12_putParts 1 = .ok (.ifCond .ne 10, 3) := by decide +kernel
theorem dX12_putParts_4 : decode cX12_putParts 4 = .ok (.aload_n 0, 1) := by decide +kernel
theorem dX12_putParts_5 : decode cX12_putParts 5 = .ok (.bipush 8, 2) := by decide +kernel
theorem dX12_putParts_7 : decode cX12_putParts 7 = .ok (.invokevirtual 536, 3) := by decide +kernel
theorem dX12_putParts_10 : decode cX12_putParts 10 = .ok (.return_, 1) := by decide +kernel
theorem dX12_putParts_11 : decode cX12_putParts 11 = .ok (.aload_n 0, 1) := by decide +kernel
theorem dX12_putParts_12 : decode cX12_putParts 12 = .ok (.bipush 40, 2) := by decide +kernel
theorem dX12_putParts_14 : decode cX12_putParts 14 = .ok (.invokevirtual 519, 3) := by decide +kernel
theorem dX12_putParts_17 : decode cX12_putParts 17 = .ok (.iconst 0, 1) := by decide +kernel
theorem dX12_putParts_18 : decode cX12_putParts 18 = .ok (.istore_n 2, 1) := by decide +kernel
theorem dX12_putParts_19 : decode cX12_putParts 19 = .ok (.iload_n 2, 1) := by decide +kernel
theorem dX12_putParts_20 : decode cX12_putParts 20 = .ok (.iload_n 1, 1) := by decide +kernel
theorem dX12_putParts_21 : decode cX12_putParts 21 = .ok (.if_icmp .ge 43, 3) := by decide +kernel
theorem dX12_putParts_24 : decode cX12_putParts 24 = .ok (.iload_n 2, 1) := by decide +kernel
theorem dX12_putParts_25 : decode cX12_putParts 25 = .ok (.ifCond .le 9, 3) := by decide +kernel
theorem dX12_putParts_28 : decode cX12_putParts 28 = .ok (.aload_n 0, 1) := by decide +kernel
theorem dX12_putParts_29 : decode cX12_putParts 29 = .ok (.bipush 44, 2) := by decide +kernel
theorem dX12_putParts_31 : decode cX12_putParts 31 = .ok (.invokevirtual 519, 3) := by decide +kernel
theorem dX12_putParts_34 : decode cX12_putParts 34 = .ok (.iload_n 2, 1) := by decide +kernel
theorem dX12_putParts_35 : decode cX12_putParts 35 = .ok (.ifCond .le 9, 3) := by decide +kernel
theorem dX12_putParts_38 : decode cX12_putParts 38 = .ok (.aload_n 0, 1) := by decide +kernel
theorem dX12_putParts_39 : decode cX12_putParts 39 = .ok (.bipush 32, 2) := by decide +kernel
theorem dX12_putParts_41 : decode cX12_putParts 41 = .ok (.invokevirtual 519, 3) := by decide +kernel
theorem dX12_putParts_44 : decode cX12_putParts 44 = .ok (.aload_n 0, 1) := by decide +kernel
theorem dX12_putParts_45 : decode cX12_putParts 45 = .ok (.invokevirtual 530, 3) := by decide +kernel
theorem dX12_putParts_48 : decode cX12_putParts 48 = .ok (.istore_n 3, 1) := by decide +kernel
theorem dX12_putParts_49 : decode cX12_putParts 49 = .ok (.aload_n 0, 1) := by decide +kernel
theorem dX12_putParts_50 : decode cX12_putParts 50 = .ok (.iload_n 3, 1) := by decide +kernel
theorem dX12_putParts_51 : decode cX12_putParts 51 = .ok (.aload_n 0, 1) := by decide +kernel
theorem dX12_putParts_52 : decode cX12_putParts 52 = .ok (.invokevirtual 530, 3) := by decide +kernel
theorem dX12_putParts_55 : decode cX12_putParts 55 = .ok (.invokevirtual 542, 3) := by decide +kernel
theorem dX12_putParts_58 : decode cX12_putParts 58 = .ok (.iinc 2 1, 3) := by decide +kernel
theorem dX12_putParts_61 : decode cX12_putParts 61 = .ok (.goto (-42), 3) := by decide +kernel
theorem dX12_putParts_64 : decode cX12_putParts 64 = .ok (.aload_n 0, 1) := by decide +kernel
theorem dX12_putParts_65 : decode cX12_putParts 65 = .ok (.bipush 41, 2) := by decide +kernel
theorem dX12_putParts_67 : decode cX12_putParts 67 = .ok (.invokevirtual 519, 3) := by decide +kernel
theorem dX12_putParts_70 : decode cX12_putParts 70 = .ok (.return_, 1) := by decide +kernel
theorem dX12_leadsOn_0 : decode cX12_leadsOn 0 = .ok (.aload_n 0, 1) := by decide +kernel
theorem dX12_leadsOn_1 : decode cX12_leadsOn 1 = .ok (.getfield 462, 3) := by decide +kernel
theorem dX12_leadsOn_4 : decode cX12_leadsOn 4 = .ok (.ifCond .le 67, 3) := by decide +kernel
theorem dX12_leadsOn_7 : decode cX12_leadsOn 7 = .ok (.aload_n 0, 1) := by decide +kernel
theorem dX12_leadsOn_8 : decode cX12_leadsOn 8 = .ok (.getfield 44, 3) := by decide +kernel
theorem dX12_leadsOn_11 : decode cX12_leadsOn 11 = .ok (.aload_n 0, 1) := by decide +kernel
theorem dX12_leadsOn_12 : decode cX12_leadsOn 12 = .ok (.getfield 462, 3) := by decide +kernel
theorem dX12_leadsOn_15 : decode cX12_leadsOn 15 = .ok (.iconst 1, 1) := by decide +kernel
theorem dX12_leadsOn_16 : decode cX12_leadsOn 16 = .ok (.isub, 1) := by decide +kernel
theorem dX12_leadsOn_17 : decode cX12_leadsOn 17 = .ok (.dup2, 1) := by decide +kernel
theorem dX12_leadsOn_18 : decode cX12_leadsOn 18 = .ok (.laload, 1) := by decide +kernel
theorem dX12_leadsOn_19 : decode cX12_leadsOn 19 = .ok (.lconst 1, 1) := by decide +kernel
theorem dX12_leadsOn_20 : decode cX12_leadsOn 20 = .ok (.lsub, 1) := by decide +kernel
theorem dX12_leadsOn_21 : decode cX12_leadsOn 21 = .ok (.lastore, 1) := by decide +kernel
theorem dX12_leadsOn_22 : decode cX12_leadsOn 22 = .ok (.aload_n 0, 1) := by decide +kernel
theorem dX12_leadsOn_23 : decode cX12_leadsOn 23 = .ok (.getfield 44, 3) := by decide +kernel
theorem dX12_leadsOn_26 : decode cX12_leadsOn 26 = .ok (.aload_n 0, 1) := by decide +kernel
theorem dX12_leadsOn_27 : decode cX12_leadsOn 27 = .ok (.getfield 462, 3) := by decide +kernel
theorem dX12_leadsOn_30 : decode cX12_leadsOn 30 = .ok (.iconst 1, 1) := by decide +kernel
theorem dX12_leadsOn_31 : decode cX12_leadsOn 31 = .ok (.isub, 1) := by decide +kernel
theorem dX12_leadsOn_32 : decode cX12_leadsOn 32 = .ok (.laload, 1) := by decide +kernel
theorem dX12_leadsOn_33 : decode cX12_leadsOn 33 = .ok (.lconst 0, 1) := by decide +kernel
theorem dX12_leadsOn_34 : decode cX12_leadsOn 34 = .ok (.lcmp, 1) := by decide +kernel
theorem dX12_leadsOn_35 : decode cX12_leadsOn 35 = .ok (.ifCond .le 17, 3) := by decide +kernel
theorem dX12_leadsOn_38 : decode cX12_leadsOn 38 = .ok (.aload_n 0, 1) := by decide +kernel
theorem dX12_leadsOn_39 : decode cX12_leadsOn 39 = .ok (.bipush 44, 2) := by decide +kernel
theorem dX12_leadsOn_41 : decode cX12_leadsOn 41 = .ok (.invokevirtual 519, 3) := by decide +kernel
theorem dX12_leadsOn_44 : decode cX12_leadsOn 44 = .ok (.aload_n 0, 1) := by decide +kernel
theorem dX12_leadsOn_45 : decode cX12_leadsOn 45 = .ok (.bipush 32, 2) := by decide +kernel
theorem dX12_leadsOn_47 : decode cX12_leadsOn 47 = .ok (.invokevirtual 519, 3) := by decide +kernel
theorem dX12_leadsOn_50 : decode cX12_leadsOn 50 = .ok (.iconst 1, 1) := by decide +kernel
theorem dX12_leadsOn_51 : decode cX12_leadsOn 51 = .ok (.ireturn, 1) := by decide +kernel
theorem dX12_leadsOn_52 : decode cX12_leadsOn 52 = .ok (.aload_n 0, 1) := by decide +kernel
theorem dX12_leadsOn_53 : decode cX12_leadsOn 53 = .ok (.bipush 41, 2) := by decide +kernel
theorem dX12_leadsOn_55 : decode cX12_leadsOn 55 = .ok (.invokevirtual 519, 3) := by decide +kernel
theorem dX12_leadsOn_58 : decode cX12_leadsOn 58 = .ok (.aload_n 0, 1) := by decide +kernel
theorem dX12_leadsOn_59 : decode cX12_leadsOn 59 = .ok (.dup, 1) := by decide +kernel
theorem dX12_leadsOn_60 : decode cX12_leadsOn 60 = .ok (.getfield 462, 3) := by decide +kernel
theorem dX12_leadsOn_63 : decode cX12_leadsOn 63 = .ok (.iconst 1, 1) := by decide +kernel
theorem dX12_leadsOn_64 : decode cX12_leadsOn 64 = .ok (.isub, 1) := by decide +kernel
theorem dX12_leadsOn_65 : decode cX12_leadsOn 65 = .ok (.putfield 462, 3) := by decide +kernel
theorem dX12_leadsOn_68 : decode cX12_leadsOn 68 = .ok (.goto (-68), 3) := by decide +kernel
theorem dX12_leadsOn_71 : decode cX12_leadsOn 71 = .ok (.iconst 0, 1) := by decide +kernel
theorem dX12_leadsOn_72 : decode cX12_leadsOn 72 = .ok (.ireturn, 1) := by decide +kernel
theorem dX12_writeWords_0 : decode cX12_writeWords 0 = .ok (.aload_n 0, 1) := by decide +kernel
theorem dX12_writeWords_1 : decode cX12_writeWords 1 = .ok (.iconst 0, 1) := by decide +kernel
theorem dX12_writeWords_2 : decode cX12_writeWords 2 = .ok (.putfield 271, 3) := by decide +kernel
theorem dX12_writeWords_5 : decode cX12_writeWords 5 = .ok (.aload_n 0, 1) := by decide +kernel
theorem dX12_writeWords_6 : decode cX12_writeWords 6 = .ok (.iload_n 1, 1) := by decide +kernel
theorem dX12_writeWords_7 : decode cX12_writeWords 7 = .ok (.invokestatic 440, 3) := by decide +kernel
theorem dX12_writeWords_10 : decode cX12_writeWords 10 = .ok (.ifCond .ne 7, 3) := by decide +kernel
theorem dX12_writeWords_13 : decode cX12_writeWords 13 = .ok (.iconst 1, 1) := by decide +kernel
theorem dX12_writeWords_14 : decode cX12_writeWords 14 = .ok (.goto 4, 3) := by decide +kernel
theorem dX12_writeWords_17 : decode cX12_writeWords 17 = .ok (.iconst 0, 1) := by decide +kernel
theorem dX12_writeWords_18 : decode cX12_writeWords 18 = .ok (.iconst 1, 1) := by decide +kernel
theorem dX12_writeWords_19 : decode cX12_writeWords 19 = .ok (.invokevirtual 277, 3) := by decide +kernel
theorem dX12_writeWords_22 : decode cX12_writeWords 22 = .ok (.ifCond .ne 24, 3) := by decide +kernel
theorem dX12_writeWords_25 : decode cX12_writeWords 25 = .ok (.aload_n 0, 1) := by decide +kernel
theorem dX12_writeWords_26 : decode cX12_writeWords 26 = .ok (.aload_n 0, 1) := by decide +kernel
theorem dX12_writeWords_27 : decode cX12_writeWords 27 = .ok (.iload_n 1, 1) := by decide +kernel
theorem dX12_writeWords_28 : decode cX12_writeWords 28 = .ok (.invokevirtual 545, 3) := by decide +kernel
theorem dX12_writeWords_31 : decode cX12_writeWords 31 = .ok (.ifCond .ne 7, 3) := by decide +kernel
theorem dX12_writeWords_34 : decode cX12_writeWords 34 = .ok (.iconst 1, 1) := by decide +kernel
theorem dX12_writeWords_35 : decode cX12_writeWords 35 = .ok (.goto 4, 3) := by decide +kernel
theorem dX12_writeWords_38 : decode cX12_writeWords 38 = .ok (.iconst 0, 1) := by decide +kernel
theorem dX12_writeWords_39 : decode cX12_writeWords 39 = .ok (.iconst 2, 1) := by decide +kernel
theorem dX12_writeWords_40 : decode cX12_writeWords 40 = .ok (.invokevirtual 277, 3) := by decide +kernel
theorem dX12_writeWords_43 : decode cX12_writeWords 43 = .ok (.ifCond .eq 5, 3) := by decide +kernel
theorem dX12_writeWords_46 : decode cX12_writeWords 46 = .ok (.iconst 0, 1) := by decide +kernel
theorem dX12_writeWords_47 : decode cX12_writeWords 47 = .ok (.ireturn, 1) := by decide +kernel
theorem dX12_writeWords_48 : decode cX12_writeWords 48 = .ok (.aload_n 0, 1) := by decide +kernel
theorem dX12_writeWords_49 : decode cX12_writeWords 49 = .ok (.iconst 0, 1) := by decide +kernel
theorem dX12_writeWords_50 : decode cX12_writeWords 50 = .ok (.putfield 291, 3) := by decide +kernel
theorem dX12_writeWords_53 : decode cX12_writeWords 53 = .ok (.aload_n 0, 1) := by decide +kernel
theorem dX12_writeWords_54 : decode cX12_writeWords 54 = .ok (.sipush 2048, 3) := by decide +kernel
theorem dX12_writeWords_57 : decode cX12_writeWords 57 = .ok (.iload_n 1, 1) := by decide +kernel
theorem dX12_writeWords_58 : decode cX12_writeWords 58 = .ok (.imul, 1) := by decide +kernel
theorem dX12_writeWords_59 : decode cX12_writeWords 59 = .ok (.putfield 516, 3) := by decide +kernel
theorem dX12_writeWords_62 : decode cX12_writeWords 62 = .ok (.aload_n 0, 1) := by decide +kernel
theorem dX12_writeWords_63 : decode cX12_writeWords 63 = .ok (.sipush 2048, 3) := by decide +kernel
theorem dX12_writeWords_66 : decode cX12_writeWords 66 = .ok (.iload_n 1, 1) := by decide +kernel
theorem dX12_writeWords_67 : decode cX12_writeWords 67 = .ok (.imul, 1) := by decide +kernel
theorem dX12_writeWords_68 : decode cX12_writeWords 68 = .ok (.putfield 524, 3) := by decide +kernel
theorem dX12_writeWords_71 : decode cX12_writeWords 71 = .ok (.aload_n 0, 1) := by decide +kernel
theorem dX12_writeWords_72 : decode cX12_writeWords 72 = .ok (.iconst 0, 1) := by decide +kernel
theorem dX12_writeWords_73 : decode cX12_writeWords 73 = .ok (.putfield 462, 3) := by decide +kernel
theorem dX12_writeWords_76 : decode cX12_writeWords 76 = .ok (.iconst 1, 1) := by decide +kernel
theorem dX12_writeWords_77 : decode cX12_writeWords 77 = .ok (.istore_n 2, 1) := by decide +kernel
theorem dX12_writeWords_78 : decode cX12_writeWords 78 = .ok (.iload_n 2, 1) := by decide +kernel
theorem dX12_writeWords_79 : decode cX12_writeWords 79 = .ok (.ifCond .eq 96, 3) := by decide +kernel
theorem dX12_writeWords_82 : decode cX12_writeWords 82 = .ok (.aload_n 0, 1) := by decide +kernel
theorem dX12_writeWords_83 : decode cX12_writeWords 83 = .ok (.invokevirtual 530, 3) := by decide +kernel
theorem dX12_writeWords_86 : decode cX12_writeWords 86 = .ok (.istore_n 3, 1) := by decide +kernel
theorem dX12_writeWords_87 : decode cX12_writeWords 87 = .ok (.aload_n 0, 1) := by decide +kernel
theorem dX12_writeWords_88 : decode cX12_writeWords 88 = .ok (.invokevirtual 530, 3) := by decide +kernel
theorem dX12_writeWords_91 : decode cX12_writeWords 91 = .ok (.istore 4, 2) := by decide +kernel
theorem dX12_writeWords_93 : decode cX12_writeWords 93 = .ok (.aload_n 0, 1) := by decide +kernel
theorem dX12_writeWords_94 : decode cX12_writeWords 94 = .ok (.iload_n 3, 1) := by decide +kernel
theorem dX12_writeWords_95 : decode cX12_writeWords 95 = .ok (.invokevirtual 536, 3) := by decide +kernel
theorem dX12_writeWords_98 : decode cX12_writeWords 98 = .ok (.aload_n 0, 1) := by decide +kernel
theorem dX12_writeWords_99 : decode cX12_writeWords 99 = .ok (.bipush 32, 2) := by decide +kernel
theorem dX12_writeWords_101 : decode cX12_writeWords 101 = .ok (.invokevirtual 519, 3) := by decide +kernel
theorem dX12_writeWords_104 : decode cX12_writeWords 104 = .ok (.iload_n 3, 1) := by decide +kernel
theorem dX12_writeWords_105 : decode cX12_writeWords 105 = .ok (.bipush 7, 2) := by decide +kernel
theorem dX12_writeWords_107 : decode cX12_writeWords 107 = .ok (.if_icmp .ne 39, 3) := by decide +kernel
theorem dX12_writeWords_110 : decode cX12_writeWords 110 = .ok (.iload 4, 2) := by decide +kernel
theorem dX12_writeWords_112 : decode cX12_writeWords 112 = .ok (.ifCond .le 34, 3) := by decide +kernel
theorem dX12_writeWords_115 : decode cX12_writeWords 115 = .ok (.aload_n 0, 1) := by decide +kernel
theorem dX12_writeWords_116 : decode cX12_writeWords 116 = .ok (.bipush 40, 2) := by decide +kernel
theorem dX12_writeWords_118 : decode cX12_writeWords 118 = .ok (.invokevirtual 519, 3) := by decide +kernel
theorem dX12_writeWords_121 : decode cX12_writeWords 121 = .ok (.aload_n 0, 1) := by decide +kernel
theorem dX12_writeWords_122 : decode cX12_writeWords 122 = .ok (.getfield 44, 3) := by decide +kernel
theorem dX12_writeWords_125 : decode cX12_writeWords 125 = .ok (.aload_n 0, 1) := by decide +kernel
theorem dX12_writeWords_126 : decode cX12_writeWords 126 = .ok (.getfield 462, 3) := by decide +kernel
theorem dX12_writeWords_129 : decode cX12_writeWords 129 = .ok (.iload 4, 2) := by decide +kernel
theorem dX12_writeWords_131 : decode cX12_writeWords 131 = .ok (.i2l, 1) := by decide +kernel
theorem dX12_writeWords_132 : decode cX12_writeWords 132 = .ok (.lastore, 1) := by decide +kernel
theorem dX12_writeWords_133 : decode cX12_writeWords 133 = .ok (.aload_n 0, 1) := by decide +kernel
theorem dX12_writeWords_134 : decode cX12_writeWords 134 = .ok (.dup, 1) := by decide +kernel
theorem dX12_writeWords_135 : decode cX12_writeWords 135 = .ok (.getfield 462, 3) := by decide +kernel
theorem dX12_writeWords_138 : decode cX12_writeWords 138 = .ok (.iconst 1, 1) := by decide +kernel
theorem dX12_writeWords_139 : decode cX12_writeWords 139 = .ok (.iadd, 1) := by decide +kernel
theorem dX12_writeWords_140 : decode cX12_writeWords 140 = .ok (.putfield 462, 3) := by decide +kernel
theorem dX12_writeWords_143 : decode cX12_writeWords 143 = .ok (.goto (-65), 3) := by decide +kernel
theorem dX12_writeWords_146 : decode cX12_writeWords 146 = .ok (.iload_n 3, 1) := by decide +kernel
theorem dX12_writeWords_147 : decode cX12_writeWords 147 = .ok (.iconst 4, 1) := by decide +kernel
theorem dX12_writeWords_148 : decode cX12_writeWords 148 = .ok (.if_icmp .ge 13, 3) := by decide +kernel
theorem dX12_writeWords_151 : decode cX12_writeWords 151 = .ok (.aload_n 0, 1) := by decide +kernel
theorem dX12_writeWords_152 : decode cX12_writeWords 152 = .ok (.iload_n 3, 1) := by decide +kernel
theorem dX12_writeWords_153 : decode cX12_writeWords 153 = .ok (.iload 4, 2) := by decide +kernel
theorem dX12_writeWords_155 : decode cX12_writeWords 155 = .ok (.invokevirtual 542, 3) := by decide +kernel
theorem dX12_writeWords_158 : decode cX12_writeWords 158 = .ok (.goto 9, 3) := by decide +kernel
theorem dX12_writeWords_161 : decode cX12_writeWords 161 = .ok (.aload_n 0, 1) := by decide +kernel
theorem dX12_writeWords_162 : decode cX12_writeWords 162 = .ok (.iload 4, 2) := by decide +kernel
theorem dX12_writeWords_164 : decode cX12_writeWords 164 = .ok (.invokevirtual 548, 3) := by decide +kernel
theorem dX12_writeWords_167 : decode cX12_writeWords 167 = .ok (.aload_n 0, 1) := by decide +kernel
theorem dX12_writeWords_168 : decode cX12_writeWords 168 = .ok (.invokevirtual 551, 3) := by decide +kernel
theorem dX12_writeWords_171 : decode cX12_writeWords 171 = .ok (.istore_n 2, 1) := by decide +kernel
theorem dX12_writeWords_172 : decode cX12_writeWords 172 = .ok (.goto (-94), 3) := by decide +kernel
theorem dX12_writeWords_175 : decode cX12_writeWords 175 = .ok (.aload_n 0, 1) := by decide +kernel
theorem dX12_writeWords_176 : decode cX12_writeWords 176 = .ok (.getfield 291, 3) := by decide +kernel
theorem dX12_writeWords_179 : decode cX12_writeWords 179 = .ok (.ireturn, 1) := by decide +kernel
theorem dX12_putBytes_0 : decode cX12_putBytes 0 = .ok (.iconst 0, 1) := by decide +kernel
theorem dX12_putBytes_1 : decode cX12_putBytes 1 = .ok (.istore 5, 2) := by decide +kernel
theorem dX12_putBytes_3 : decode cX12_putBytes 3 = .ok (.iload 5, 2) := by decide +kernel
theorem dX12_putBytes_5 : decode cX12_putBytes 5 = .ok (.iload_n 3, 1) := by decide +kernel
theorem dX12_putBytes_6 : decode cX12_putBytes 6 = .ok (.if_icmp .ge 39, 3) := by decide +kernel
theorem dX12_putBytes_9 : decode cX12_putBytes 9 = .ok (.iload 4, 2) := by decide +kernel
theorem dX12_putBytes_11 : decode cX12_putBytes 11 = .ok (.ifCond .ne 12, 3) := by decide +kernel
theorem dX12_putBytes_14 : decode cX12_putBytes 14 = .ok (.iload_n 3, 1) := by decide +kernel
theorem dX12_putBytes_15 : decode cX12_putBytes 15 = .ok (.iconst 1, 1) := by decide +kernel
theorem dX12_putBytes_16 : decode cX12_putBytes 16 = .ok (.isub, 1) := by decide +kernel
theorem dX12_putBytes_17 : decode cX12_putBytes 17 = .ok (.iload 5, 2) := by decide +kernel
theorem dX12_putBytes_19 : decode cX12_putBytes 19 = .ok (.isub, 1) := by decide +kernel
theorem dX12_putBytes_20 : decode cX12_putBytes 20 = .ok (.goto 5, 3) := by decide +kernel
theorem dX12_putBytes_23 : decode cX12_putBytes 23 = .ok (.iload 5, 2) := by decide +kernel
theorem dX12_putBytes_25 : decode cX12_putBytes 25 = .ok (.istore 6, 2) := by decide +kernel
theorem dX12_putBytes_27 : decode cX12_putBytes 27 = .ok (.aload_n 0, 1) := by decide +kernel
theorem dX12_putBytes_28 : decode cX12_putBytes 28 = .ok (.lload_n 1, 1) := by decide +kernel
theorem dX12_putBytes_29 : decode cX12_putBytes 29 = .ok (.bipush 8, 2) := by decide +kernel
theorem dX12_putBytes_31 : decode cX12_putBytes 31 = .ok (.iload 6, 2) := by decide +kernel
theorem dX12_putBytes_33 : decode cX12_putBytes 33 = .ok (.imul, 1) := by decide +kernel
theorem dX12_putBytes_34 : decode cX12_putBytes 34 = .ok (.lshr, 1) := by decide +kernel
theorem dX12_putBytes_35 : decode cX12_putBytes 35 = .ok (.l2i, 1) := by decide +kernel
theorem dX12_putBytes_36 : decode cX12_putBytes 36 = .ok (.invokevirtual 519, 3) := by decide +kernel
theorem dX12_putBytes_39 : decode cX12_putBytes 39 = .ok (.iinc 5 1, 3) := by decide +kernel
theorem dX12_putBytes_42 : decode cX12_putBytes 42 = .ok (.goto (-39), 3) := by decide +kernel
theorem dX12_putBytes_45 : decode cX12_putBytes 45 = .ok (.return_, 1) := by decide +kernel
theorem dX12_fraction_0 : decode cX12_fraction 0 = .ok (.iload_n 1, 1) := by decide +kernel
theorem dX12_fraction_1 : decode cX12_fraction 1 = .ok (.ifCond .ne 5, 3) := by decide +kernel
theorem dX12_fraction_4 : decode cX12_fraction 4 = .ok (.lconst 0, 1) := by decide +kernel
theorem dX12_fraction_5 : decode cX12_fraction 5 = .ok (.lreturn, 1) := by decide +kernel
theorem dX12_fraction_6 : decode cX12_fraction 6 = .ok (.iload_n 1, 1) := by decide +kernel
theorem dX12_fraction_7 : decode cX12_fraction 7 = .ok (.ifCond .ge 9, 3) := by decide +kernel
theorem dX12_fraction_10 : decode cX12_fraction 10 = .ok (.iload_n 1, 1) := by decide +kernel
theorem dX12_fraction_11 : decode cX12_fraction 11 = .ok (.i2l, 1) := by decide +kernel
theorem dX12_fraction_12 : decode cX12_fraction 12 = .ok (.lneg, 1) := by decide +kernel
theorem dX12_fraction_13 : decode cX12_fraction 13 = .ok (.goto 5, 3) := by decide +kernel
theorem dX12_fraction_16 : decode cX12_fraction 16 = .ok (.iload_n 1, 1) := by decide +kernel
theorem dX12_fraction_17 : decode cX12_fraction 17 = .ok (.i2l, 1) := by decide +kernel
theorem dX12_fraction_18 : decode cX12_fraction 18 = .ok (.lstore_n 2, 1) := by decide +kernel
theorem dX12_fraction_19 : decode cX12_fraction 19 = .ok (.aload_n 0, 1) := by decide +kernel
theorem dX12_fraction_20 : decode cX12_fraction 20 = .ok (.getfield 265, 3) := by decide +kernel
theorem dX12_fraction_23 : decode cX12_fraction 23 = .ok (.lstore 4, 2) := by decide +kernel
theorem dX12_fraction_25 : decode cX12_fraction 25 = .ok (.iconst 0, 1) := by decide +kernel
theorem dX12_fraction_26 : decode cX12_fraction 26 = .ok (.istore 6, 2) := by decide +kernel
theorem dX12_fraction_28 : decode cX12_fraction 28 = .ok (.lload_n 2, 1) := by decide +kernel
theorem dX12_fraction_29 : decode cX12_fraction 29 = .ok (.ldc2_w 554, 3) := by decide +kernel
theorem dX12_fraction_32 : decode cX12_fraction 32 = .ok (.lload 4, 2) := by decide +kernel
theorem dX12_fraction_34 : decode cX12_fraction 34 = .ok (.lmul, 1) := by decide +kernel
theorem dX12_fraction_35 : decode cX12_fraction 35 = .ok (.lcmp, 1) := by decide +kernel
theorem dX12_fraction_36 : decode cX12_fraction 36 = .ok (.ifCond .lt 17, 3) := by decide +kernel
theorem dX12_fraction_39 : decode cX12_fraction 39 = .ok (.ldc2_w 554, 3) := by decide +kernel
theorem dX12_fraction_42 : decode cX12_fraction 42 = .ok (.lload 4, 2) := by decide +kernel
theorem dX12_fraction_44 : decode cX12_fraction 44 = .ok (.lmul, 1) := by decide +kernel
theorem dX12_fraction_45 : decode cX12_fraction 45 = .ok (.lstore 4, 2) := by decide +kernel
theorem dX12_fraction_47 : decode cX12_fraction 47 = .ok (.iinc 6 1, 3) := by decide +kernel
theorem dX12_fraction_50 : decode cX12_fraction 50 = .ok (.goto (-22), 3) := by decide +kernel
theorem dX12_fraction_53 : decode cX12_fraction 53 = .ok (.lload_n 2, 1) := by decide +kernel
theorem dX12_fraction_54 : decode cX12_fraction 54 = .ok (.lload 4, 2) := by decide +kernel
theorem dX12_fraction_56 : decode cX12_fraction 56 = .ok (.lcmp, 1) := by decide +kernel
theorem dX12_fraction_57 : decode cX12_fraction 57 = .ok (.ifCond .ge 15, 3) := by decide +kernel
theorem dX12_fraction_60 : decode cX12_fraction 60 = .ok (.ldc2_w 554, 3) := by decide +kernel
theorem dX12_fraction_63 : decode cX12_fraction 63 = .ok (.lload_n 2, 1) := by decide +kernel
theorem dX12_fraction_64 : decode cX12_fraction 64 = .ok (.lmul, 1) := by decide +kernel
theorem dX12_fraction_65 : decode cX12_fraction 65 = .ok (.lstore_n 2, 1) := by decide +kernel
theorem dX12_fraction_66 : decode cX12_fraction 66 = .ok (.iinc 6 (-1), 3) := by decide +kernel
theorem dX12_fraction_69 : decode cX12_fraction 69 = .ok (.goto (-16), 3) := by decide +kernel
theorem dX12_fraction_72 : decode cX12_fraction 72 = .ok (.lconst 0, 1) := by decide +kernel
theorem dX12_fraction_73 : decode cX12_fraction 73 = .ok (.lstore 7, 2) := by decide +kernel
theorem dX12_fraction_75 : decode cX12_fraction 75 = .ok (.iconst 0, 1) := by decide +kernel
theorem dX12_fraction_76 : decode cX12_fraction 76 = .ok (.istore 9, 2) := by decide +kernel
theorem dX12_fraction_78 : decode cX12_fraction 78 = .ok (.iload 9, 2) := by decide +kernel
theorem dX12_fraction_80 : decode cX12_fraction 80 = .ok (.bipush 53, 2) := by decide +kernel
theorem dX12_fraction_82 : decode cX12_fraction 82 = .ok (.if_icmp .ge 41, 3) := by decide +kernel
theorem dX12_fraction_85 : decode cX12_fraction 85 = .ok (.ldc2_w 554, 3) := by decide +kernel
theorem dX12_fraction_88 : decode cX12_fraction 88 = .ok (.lload 7, 2) := by decide +kernel
theorem dX12_fraction_90 : decode cX12_fraction 90 = .ok (.lmul, 1) := by decide +kernel
theorem dX12_fraction_91 : decode cX12_fraction 91 = .ok (.lstore 7, 2) := by decide +kernel
theorem dX12_fraction_93 : decode cX12_fraction 93 = .ok (.lload_n 2, 1) := by decide +kernel
theorem dX12_fraction_94 : decode cX12_fraction 94 = .ok (.lload 4, 2) := by decide +kernel
theorem dX12_fraction_96 : decode cX12_fraction 96 = .ok (.lcmp, 1) := by decide +kernel
theorem dX12_fraction_97 : decode cX12_fraction 97 = .ok (.ifCond .lt 14, 3) := by decide +kernel
theorem dX12_fraction_100 : decode cX12_fraction 100 = .ok (.lload 7, 2) := by decide +kernel
theorem dX12_fraction_102 : decode cX12_fraction 102 = .ok (.lconst 1, 1) := by decide +kernel
theorem dX12_fraction_103 : decode cX12_fraction 103 = .ok (.ladd, 1) := by decide +kernel
theorem dX12_fraction_104 : decode cX12_fraction 104 = .ok (.lstore 7, 2) := by decide +kernel
theorem dX12_fraction_106 : decode cX12_fraction 106 = .ok (.lload_n 2, 1) := by decide +kernel
theorem dX12_fraction_107 : decode cX12_fraction 107 = .ok (.lload 4, 2) := by decide +kernel
theorem dX12_fraction_109 : decode cX12_fraction 109 = .ok (.lsub, 1) := by decide +kernel
theorem dX12_fraction_110 : decode cX12_fraction 110 = .ok (.lstore_n 2, 1) := by decide +kernel
theorem dX12_fraction_111 : decode cX12_fraction 111 = .ok (.ldc2_w 554, 3) := by decide +kernel
theorem dX12_fraction_114 : decode cX12_fraction 114 = .ok (.lload_n 2, 1) := by decide +kernel
theorem dX12_fraction_115 : decode cX12_fraction 115 = .ok (.lmul, 1) := by decide +kernel
theorem dX12_fraction_116 : decode cX12_fraction 116 = .ok (.lstore_n 2, 1) := by decide +kernel
theorem dX12_fraction_117 : decode cX12_fraction 117 = .ok (.iinc 9 1, 3) := by decide +kernel
theorem dX12_fraction_120 : decode cX12_fraction 120 = .ok (.goto (-42), 3) := by decide +kernel
theorem dX12_fraction_123 : decode cX12_fraction 123 = .ok (.lload_n 2, 1) := by decide +kernel
theorem dX12_fraction_124 : decode cX12_fraction 124 = .ok (.lload 4, 2) := by decide +kernel
theorem dX12_fraction_126 : decode cX12_fraction 126 = .ok (.lcmp, 1) := by decide +kernel
theorem dX12_fraction_127 : decode cX12_fraction 127 = .ok (.ifCond .gt 19, 3) := by decide +kernel
theorem dX12_fraction_130 : decode cX12_fraction 130 = .ok (.lload_n 2, 1) := by decide +kernel
theorem dX12_fraction_131 : decode cX12_fraction 131 = .ok (.lload 4, 2) := by decide +kernel
theorem dX12_fraction_133 : decode cX12_fraction 133 = .ok (.lcmp, 1) := by decide +kernel
theorem dX12_fraction_134 : decode cX12_fraction 134 = .ok (.ifCond .ne 18, 3) := by decide +kernel
theorem dX12_fraction_137 : decode cX12_fraction 137 = .ok (.lload 7, 2) := by decide +kernel
theorem dX12_fraction_139 : decode cX12_fraction 139 = .ok (.lconst 1, 1) := by decide +kernel
theorem dX12_fraction_140 : decode cX12_fraction 140 = .ok (.land, 1) := by decide +kernel
theorem dX12_fraction_141 : decode cX12_fraction 141 = .ok (.lconst 1, 1) := by decide +kernel
theorem dX12_fraction_142 : decode cX12_fraction 142 = .ok (.lcmp, 1) := by decide +kernel
theorem dX12_fraction_143 : decode cX12_fraction 143 = .ok (.ifCond .ne 9, 3) := by decide +kernel
theorem dX12_fraction_146 : decode cX12_fraction 146 = .ok (.lload 7, 2) := by decide +kernel
theorem dX12_fraction_148 : decode cX12_fraction 148 = .ok (.lconst 1, 1) := by decide +kernel
theorem dX12_fraction_149 : decode cX12_fraction 149 = .ok (.ladd, 1) := by decide +kernel
theorem dX12_fraction_150 : decode cX12_fraction 150 = .ok (.lstore 7, 2) := by decide +kernel
theorem dX12_fraction_152 : decode cX12_fraction 152 = .ok (.lload 7, 2) := by decide +kernel
theorem dX12_fraction_154 : decode cX12_fraction 154 = .ok (.ldc2_w 556, 3) := by decide +kernel
theorem dX12_fraction_157 : decode cX12_fraction 157 = .ok (.lcmp, 1) := by decide +kernel
theorem dX12_fraction_158 : decode cX12_fraction 158 = .ok (.ifCond .ne 11, 3) := by decide +kernel
theorem dX12_fraction_161 : decode cX12_fraction 161 = .ok (.ldc2_w 514, 3) := by decide +kernel
theorem dX12_fraction_164 : decode cX12_fraction 164 = .ok (.lstore 7, 2) := by decide +kernel
theorem dX12_fraction_166 : decode cX12_fraction 166 = .ok (.iinc 6 1, 3) := by decide +kernel
theorem dX12_fraction_169 : decode cX12_fraction 169 = .ok (.iload 6, 2) := by decide +kernel
theorem dX12_fraction_171 : decode cX12_fraction 171 = .ok (.sipush 1023, 3) := by decide +kernel
theorem dX12_fraction_174 : decode cX12_fraction 174 = .ok (.iadd, 1) := by decide +kernel
theorem dX12_fraction_175 : decode cX12_fraction 175 = .ok (.i2l, 1) := by decide +kernel
theorem dX12_fraction_176 : decode cX12_fraction 176 = .ok (.bipush 52, 2) := by decide +kernel
theorem dX12_fraction_178 : decode cX12_fraction 178 = .ok (.lshl, 1) := by decide +kernel
theorem dX12_fraction_179 : decode cX12_fraction 179 = .ok (.lload 7, 2) := by decide +kernel
theorem dX12_fraction_181 : decode cX12_fraction 181 = .ok (.ldc2_w 499, 3) := by decide +kernel
theorem dX12_fraction_184 : decode cX12_fraction 184 = .ok (.land, 1) := by decide +kernel
theorem dX12_fraction_185 : decode cX12_fraction 185 = .ok (.lor, 1) := by decide +kernel
theorem dX12_fraction_186 : decode cX12_fraction 186 = .ok (.lstore 9, 2) := by decide +kernel
theorem dX12_fraction_188 : decode cX12_fraction 188 = .ok (.iload_n 1, 1) := by decide +kernel
theorem dX12_fraction_189 : decode cX12_fraction 189 = .ok (.ifCond .ge 12, 3) := by decide +kernel
theorem dX12_fraction_192 : decode cX12_fraction 192 = .ok (.lload 9, 2) := by decide +kernel
theorem dX12_fraction_194 : decode cX12_fraction 194 = .ok (.ldc2_w 558, 3) := by decide +kernel
theorem dX12_fraction_197 : decode cX12_fraction 197 = .ok (.lor, 1) := by decide +kernel
theorem dX12_fraction_198 : decode cX12_fraction 198 = .ok (.goto 5, 3) := by decide +kernel
theorem dX12_fraction_201 : decode cX12_fraction 201 = .ok (.lload 9, 2) := by decide +kernel
theorem dX12_fraction_203 : decode cX12_fraction 203 = .ok (.lreturn, 1) := by decide +kernel
theorem dX12_putPoints_0 : decode cX12_putPoints 0 = .ok (.iconst 0, 1) := by decide +kernel
theorem dX12_putPoints_1 : decode cX12_putPoints 1 = .ok (.istore_n 3, 1) := by decide +kernel
theorem dX12_putPoints_2 : decode cX12_putPoints 2 = .ok (.iload_n 3, 1) := by decide +kernel
theorem dX12_putPoints_3 : decode cX12_putPoints 3 = .ok (.iload_n 1, 1) := by decide +kernel
theorem dX12_putPoints_4 : decode cX12_putPoints 4 = .ok (.if_icmp .ge 59, 3) := by decide +kernel
theorem dX12_putPoints_7 : decode cX12_putPoints 7 = .ok (.aload_n 0, 1) := by decide +kernel
theorem dX12_putPoints_8 : decode cX12_putPoints 8 = .ok (.aload_n 0, 1) := by decide +kernel
theorem dX12_putPoints_9 : decode cX12_putPoints 9 = .ok (.aload_n 0, 1) := by decide +kernel
theorem dX12_putPoints_10 : decode cX12_putPoints 10 = .ok (.getfield 29, 3) := by decide +kernel
theorem dX12_putPoints_13 : decode cX12_putPoints 13 = .ok (.aload_n 0, 1) := by decide +kernel
theorem dX12_putPoints_14 : decode cX12_putPoints 14 = .ok (.getfield 524, 3) := by decide +kernel
theorem dX12_putPoints_17 : decode cX12_putPoints 17 = .ok (.iaload, 1) := by decide +kernel
theorem dX12_putPoints_18 : decode cX12_putPoints 18 = .ok (.invokevirtual 560, 3) := by decide +kernel
theorem dX12_putPoints_21 : decode cX12_putPoints 21 = .ok (.bipush 8, 2) := by decide +kernel
theorem dX12_putPoints_23 : decode cX12_putPoints 23 = .ok (.iload_n 2, 1) := by decide +kernel
theorem dX12_putPoints_24 : decode cX12_putPoints 24 = .ok (.invokevirtual 564, 3) := by decide +kernel
theorem dX12_putPoints_27 : decode cX12_putPoints 27 = .ok (.aload_n 0, 1) := by decide +kernel
theorem dX12_putPoints_28 : decode cX12_putPoints 28 = .ok (.aload_n 0, 1) := by decide +kernel
theorem dX12_putPoints_29 : decode cX12_putPoints 29 = .ok (.aload_n 0, 1) := by decide +kernel
theorem dX12_putPoints_30 : decode cX12_putPoints 30 = .ok (.getfield 32, 3) := by decide +kernel
theorem dX12_putPoints_33 : decode cX12_putPoints 33 = .ok (.aload_n 0, 1) := by decide +kernel
theorem dX12_putPoints_34 : decode cX12_putPoints 34 = .ok (.getfield 524, 3) := by decide +kernel
theorem dX12_putPoints_37 : decode cX12_putPoints 37 = .ok (.iaload, 1) := by decide +kernel
theorem dX12_putPoints_38 : decode cX12_putPoints 38 = .ok (.invokevirtual 560, 3) := by decide +kernel
theorem dX12_putPoints_41 : decode cX12_putPoints 41 = .ok (.bipush 8, 2) := by decide +kernel
theorem dX12_putPoints_43 : decode cX12_putPoints 43 = .ok (.iload_n 2, 1) := by decide +kernel
theorem dX12_putPoints_44 : decode cX12_putPoints 44 = .ok (.invokevirtual 564, 3) := by decide +kernel
theorem dX12_putPoints_47 : decode cX12_putPoints 47 = .ok (.aload_n 0, 1) := by decide +kernel
theorem dX12_putPoints_48 : decode cX12_putPoints 48 = .ok (.dup, 1) := by decide +kernel
theorem dX12_putPoints_49 : decode cX12_putPoints 49 = .ok (.getfield 524, 3) := by decide +kernel
theorem dX12_putPoints_52 : decode cX12_putPoints 52 = .ok (.iconst 1, 1) := by decide +kernel
theorem dX12_putPoints_53 : decode cX12_putPoints 53 = .ok (.iadd, 1) := by decide +kernel
theorem dX12_putPoints_54 : decode cX12_putPoints 54 = .ok (.putfield 524, 3) := by decide +kernel
theorem dX12_putPoints_57 : decode cX12_putPoints 57 = .ok (.iinc 3 1, 3) := by decide +kernel
theorem dX12_putPoints_60 : decode cX12_putPoints 60 = .ok (.goto (-58), 3) := by decide +kernel
theorem dX12_putPoints_63 : decode cX12_putPoints 63 = .ok (.return_, 1) := by decide +kernel
theorem dX12_writeBytes_0 : decode cX12_writeBytes 0 = .ok (.aload_n 0, 1) := by decide +kernel
theorem dX12_writeBytes_1 : decode cX12_writeBytes 1 = .ok (.iconst 0, 1) := by decide +kernel
theorem dX12_writeBytes_2 : decode cX12_writeBytes 2 = .ok (.putfield 271, 3) := by decide +kernel
theorem dX12_writeBytes_5 : decode cX12_writeBytes 5 = .ok (.aload_n 0, 1) := by decide +kernel
theorem dX12_writeBytes_6 : decode cX12_writeBytes 6 = .ok (.iload_n 1, 1) := by decide +kernel
theorem dX12_writeBytes_7 : decode cX12_writeBytes 7 = .ok (.invokestatic 440, 3) := by decide +kernel
theorem dX12_writeBytes_10 : decode cX12_writeBytes 10 = .ok (.ifCond .ne 7, 3) := by decide +kernel
theorem dX12_writeBytes_13 : decode cX12_writeBytes 13 = .ok (.iconst 1, 1) := by decide +kernel
theorem dX12_writeBytes_14 : decode cX12_writeBytes 14 = .ok (.goto 4, 3) := by decide +kernel
theorem dX12_writeBytes_17 : decode cX12_writeBytes 17 = .ok (.iconst 0, 1) := by decide +kernel
theorem dX12_writeBytes_18 : decode cX12_writeBytes 18 = .ok (.iconst 1, 1) := by decide +kernel
theorem dX12_writeBytes_19 : decode cX12_writeBytes 19 = .ok (.invokevirtual 277, 3) := by decide +kernel
theorem dX12_writeBytes_22 : decode cX12_writeBytes 22 = .ok (.ifCond .ne 47, 3) := by decide +kernel
theorem dX12_writeBytes_25 : decode cX12_writeBytes 25 = .ok (.aload_n 0, 1) := by decide +kernel
theorem dX12_writeBytes_26 : decode cX12_writeBytes 26 = .ok (.aload_n 0, 1) := by decide +kernel
theorem dX12_writeBytes_27 : decode cX12_writeBytes 27 = .ok (.iload_n 1, 1) := by decide +kernel
theorem dX12_writeBytes_28 : decode cX12_writeBytes 28 = .ok (.invokevirtual 545, 3) := by decide +kernel
theorem dX12_writeBytes_31 : decode cX12_writeBytes 31 = .ok (.ifCond .ne 7, 3) := by decide +kernel
theorem dX12_writeBytes_34 : decode cX12_writeBytes 34 = .ok (.iconst 1, 1) := by decide +kernel
theorem dX12_writeBytes_35 : decode cX12_writeBytes 35 = .ok (.goto 4, 3) := by decide +kernel
theorem dX12_writeBytes_38 : decode cX12_writeBytes 38 = .ok (.iconst 0, 1) := by decide +kernel
theorem dX12_writeBytes_39 : decode cX12_writeBytes 39 = .ok (.iconst 2, 1) := by decide +kernel
theorem dX12_writeBytes_40 : decode cX12_writeBytes 40 = .ok (.invokevirtual 277, 3) := by decide +kernel
theorem dX12_writeBytes_43 : decode cX12_writeBytes 43 = .ok (.ifCond .ne 26, 3) := by decide +kernel
theorem dX12_writeBytes_46 : decode cX12_writeBytes 46 = .ok (.aload_n 0, 1) := by decide +kernel
theorem dX12_writeBytes_47 : decode cX12_writeBytes 47 = .ok (.iload_n 2, 1) := by decide +kernel
theorem dX12_writeBytes_48 : decode cX12_writeBytes 48 = .ok (.i2l, 1) := by decide +kernel
theorem dX12_writeBytes_49 : decode cX12_writeBytes 49 = .ok (.lconst 0, 1) := by decide +kernel
theorem dX12_writeBytes_50 : decode cX12_writeBytes 50 = .ok (.lconst 1, 1) := by decide +kernel
theorem dX12_writeBytes_51 : decode cX12_writeBytes 51 = .ok (.invokestatic 287, 3) := by decide +kernel
theorem dX12_writeBytes_54 : decode cX12_writeBytes 54 = .ok (.ifCond .ne 7, 3) := by decide +kernel
theorem dX12_writeBytes_57 : decode cX12_writeBytes 57 = .ok (.iconst 1, 1) := by decide +kernel
theorem dX12_writeBytes_58 : decode cX12_writeBytes 58 = .ok (.goto 4, 3) := by decide +kernel
theorem dX12_writeBytes_61 : decode cX12_writeBytes 61 = .ok (.iconst 0, 1) := by decide +kernel
theorem dX12_writeBytes_62 : decode cX12_writeBytes 62 = .ok (.iconst 3, 1) := by decide +kernel
theorem dX12_writeBytes_63 : decode cX12_writeBytes 63 = .ok (.invokevirtual 277, 3) := by decide +kernel
theorem dX12_writeBytes_66 : decode cX12_writeBytes 66 = .ok (.ifCond .eq 5, 3) := by decide +kernel
theorem dX12_writeBytes_69 : decode cX12_writeBytes 69 = .ok (.iconst 0, 1) := by decide +kernel
theorem dX12_writeBytes_70 : decode cX12_writeBytes 70 = .ok (.ireturn, 1) := by decide +kernel
theorem dX12_writeBytes_71 : decode cX12_writeBytes 71 = .ok (.aload_n 0, 1) := by decide +kernel
theorem dX12_writeBytes_72 : decode cX12_writeBytes 72 = .ok (.iconst 0, 1) := by decide +kernel
theorem dX12_writeBytes_73 : decode cX12_writeBytes 73 = .ok (.putfield 291, 3) := by decide +kernel
theorem dX12_writeBytes_76 : decode cX12_writeBytes 76 = .ok (.aload_n 0, 1) := by decide +kernel
theorem dX12_writeBytes_77 : decode cX12_writeBytes 77 = .ok (.sipush 2048, 3) := by decide +kernel
theorem dX12_writeBytes_80 : decode cX12_writeBytes 80 = .ok (.iload_n 1, 1) := by decide +kernel
theorem dX12_writeBytes_81 : decode cX12_writeBytes 81 = .ok (.imul, 1) := by decide +kernel
theorem dX12_writeBytes_82 : decode cX12_writeBytes 82 = .ok (.putfield 516, 3) := by decide +kernel
theorem dX12_writeBytes_85 : decode cX12_writeBytes 85 = .ok (.aload_n 0, 1) := by decide +kernel
theorem dX12_writeBytes_86 : decode cX12_writeBytes 86 = .ok (.sipush 2048, 3) := by decide +kernel
theorem dX12_writeBytes_89 : decode cX12_writeBytes 89 = .ok (.iload_n 1, 1) := by decide +kernel
theorem dX12_writeBytes_90 : decode cX12_writeBytes 90 = .ok (.imul, 1) := by decide +kernel
theorem dX12_writeBytes_91 : decode cX12_writeBytes 91 = .ok (.putfield 524, 3) := by decide +kernel
theorem dX12_writeBytes_94 : decode cX12_writeBytes 94 = .ok (.aload_n 0, 1) := by decide +kernel
theorem dX12_writeBytes_95 : decode cX12_writeBytes 95 = .ok (.getfield 516, 3) := by decide +kernel
theorem dX12_writeBytes_98 : decode cX12_writeBytes 98 = .ok (.aload_n 0, 1) := by decide +kernel
theorem dX12_writeBytes_99 : decode cX12_writeBytes 99 = .ok (.getfield 18, 3) := by decide +kernel
theorem dX12_writeBytes_102 : decode cX12_writeBytes 102 = .ok (.iload_n 1, 1) := by decide +kernel
theorem dX12_writeBytes_103 : decode cX12_writeBytes 103 = .ok (.iaload, 1) := by decide +kernel
theorem dX12_writeBytes_104 : decode cX12_writeBytes 104 = .ok (.iadd, 1) := by decide +kernel
theorem dX12_writeBytes_105 : decode cX12_writeBytes 105 = .ok (.istore_n 3, 1) := by decide +kernel
theorem dX12_writeBytes_106 : decode cX12_writeBytes 106 = .ok (.aload_n 0, 1) := by decide +kernel
theorem dX12_writeBytes_107 : decode cX12_writeBytes 107 = .ok (.getfield 516, 3) := by decide +kernel
theorem dX12_writeBytes_110 : decode cX12_writeBytes 110 = .ok (.iload_n 3, 1) := by decide +kernel
theorem dX12_writeBytes_111 : decode cX12_writeBytes 111 = .ok (.if_icmp .ge 138, 3) := by decide +kernel
theorem dX12_writeBytes_114 : decode cX12_writeBytes 114 = .ok (.aload_n 0, 1) := by decide +kernel
theorem dX12_writeBytes_115 : decode cX12_writeBytes 115 = .ok (.invokevirtual 530, 3) := by decide +kernel
theorem dX12_writeBytes_118 : decode cX12_writeBytes 118 = .ok (.istore 4, 2) := by decide +kernel
theorem dX12_writeBytes_120 : decode cX12_writeBytes 120 = .ok (.aload_n 0, 1) := by decide +kernel
theorem dX12_writeBytes_121 : decode cX12_writeBytes 121 = .ok (.invokevirtual 530, 3) := by decide +kernel
theorem dX12_writeBytes_124 : decode cX12_writeBytes 124 = .ok (.istore 5, 2) := by decide +kernel
theorem dX12_writeBytes_126 : decode cX12_writeBytes 126 = .ok (.aload_n 0, 1) := by decide +kernel
theorem dX12_writeBytes_127 : decode cX12_writeBytes 127 = .ok (.iload_n 2, 1) := by decide +kernel
theorem dX12_writeBytes_128 : decode cX12_writeBytes 128 = .ok (.invokevirtual 519, 3) := by decide +kernel
theorem dX12_writeBytes_131 : decode cX12_writeBytes 131 = .ok (.aload_n 0, 1) := by decide +kernel
theorem dX12_writeBytes_132 : decode cX12_writeBytes 132 = .ok (.iload 4, 2) := by decide +kernel
theorem dX12_writeBytes_134 : decode cX12_writeBytes 134 = .ok (.i2l, 1) := by decide +kernel
theorem dX12_writeBytes_135 : decode cX12_writeBytes 135 = .ok (.iconst 4, 1) := by decide +kernel
theorem dX12_writeBytes_136 : decode cX12_writeBytes 136 = .ok (.iload_n 2, 1) := by decide +kernel
theorem dX12_writeBytes_137 : decode cX12_writeBytes 137 = .ok (.invokevirtual 564, 3) := by decide +kernel
theorem dX12_writeBytes_140 : decode cX12_writeBytes 140 = .ok (.iload 4, 2) := by decide +kernel
theorem dX12_writeBytes_142 : decode cX12_writeBytes 142 = .ok (.iconst 1, 1) := by decide +kernel
theorem dX12_writeBytes_143 : decode cX12_writeBytes 143 = .ok (.if_icmp .ne 31, 3) := by decide +kernel
theorem dX12_writeBytes_146 : decode cX12_writeBytes 146 = .ok (.iload 5, 2) := by decide +kernel
theorem dX12_writeBytes_148 : decode cX12_writeBytes 148 = .ok (.ifCond .ne 26, 3) := by decide +kernel
theorem dX12_writeBytes_151 : decode cX12_writeBytes 151 = .ok (.aload_n 0, 1) := by decide +kernel
theorem dX12_writeBytes_152 : decode cX12_writeBytes 152 = .ok (.ldc2_w 568, 3) := by decide +kernel
theorem dX12_writeBytes_155 : decode cX12_writeBytes 155 = .ok (.bipush 8, 2) := by decide +kernel
theorem dX12_writeBytes_157 : decode cX12_writeBytes 157 = .ok (.iload_n 2, 1) := by decide +kernel
theorem dX12_writeBytes_158 : decode cX12_writeBytes 158 = .ok (.invokevirtual 564, 3) := by decide +kernel
theorem dX12_writeBytes_161 : decode cX12_writeBytes 161 = .ok (.aload_n 0, 1) := by decide +kernel
theorem dX12_writeBytes_162 : decode cX12_writeBytes 162 = .ok (.ldc2_w 568, 3) := by decide +kernel
theorem dX12_writeBytes_165 : decode cX12_writeBytes 165 = .ok (.bipush 8, 2) := by decide +kernel
theorem dX12_writeBytes_167 : decode cX12_writeBytes 167 = .ok (.iload_n 2, 1) := by decide +kernel
theorem dX12_writeBytes_168 : decode cX12_writeBytes 168 = .ok (.invokevirtual 564, 3) := by decide +kernel
theorem dX12_writeBytes_171 : decode cX12_writeBytes 171 = .ok (.goto (-65), 3) := by decide +kernel
theorem dX12_writeBytes_174 : decode cX12_writeBytes 174 = .ok (.iload 4, 2) := by decide +kernel
theorem dX12_writeBytes_176 : decode cX12_writeBytes 176 = .ok (.iconst 1, 1) := by decide +kernel
theorem dX12_writeBytes_177 : decode cX12_writeBytes 177 = .ok (.if_icmp .le 12, 3) := by decide +kernel
theorem dX12_writeBytes_180 : decode cX12_writeBytes 180 = .ok (.aload_n 0, 1) := by decide +kernel
theorem dX12_writeBytes_181 : decode cX12_writeBytes 181 = .ok (.iload 5, 2) := by decide +kernel
theorem dX12_writeBytes_183 : decode cX12_writeBytes 183 = .ok (.i2l, 1) := by decide +kernel
theorem dX12_writeBytes_184 : decode cX12_writeBytes 184 = .ok (.iconst 4, 1) := by decide +kernel
theorem dX12_writeBytes_185 : decode cX12_writeBytes 185 = .ok (.iload_n 2, 1) := by decide +kernel
theorem dX12_writeBytes_186 : decode cX12_writeBytes 186 = .ok (.invokevirtual 564, 3) := by decide +kernel
theorem dX12_writeBytes_189 : decode cX12_writeBytes 189 = .ok (.iload 4, 2) := by decide +kernel
theorem dX12_writeBytes_191 : decode cX12_writeBytes 191 = .ok (.iconst 3, 1) := by decide +kernel
theorem dX12_writeBytes_192 : decode cX12_writeBytes 192 = .ok (.if_icmp .ge 10, 3) := by decide +kernel
theorem dX12_writeBytes_195 : decode cX12_writeBytes 195 = .ok (.aload_n 0, 1) := by decide +kernel
theorem dX12_writeBytes_196 : decode cX12_writeBytes 196 = .ok (.iload 5, 2) := by decide +kernel
theorem dX12_writeBytes_198 : decode cX12_writeBytes 198 = .ok (.iload_n 2, 1) := by decide +kernel
theorem dX12_writeBytes_199 : decode cX12_writeBytes 199 = .ok (.invokevirtual 570, 3) := by decide +kernel
theorem dX12_writeBytes_202 : decode cX12_writeBytes 202 = .ok (.iconst 0, 1) := by decide +kernel
theorem dX12_writeBytes_203 : decode cX12_writeBytes 203 = .ok (.istore 6, 2) := by decide +kernel
theorem dX12_writeBytes_205 : decode cX12_writeBytes 205 = .ok (.iload 4, 2) := by decide +kernel
theorem dX12_writeBytes_207 : decode cX12_writeBytes 207 = .ok (.iconst 3, 1) := by decide +kernel
theorem dX12_writeBytes_208 : decode cX12_writeBytes 208 = .ok (.if_icmp .ne 38, 3) := by decide +kernel
theorem dX12_writeBytes_211 : decode cX12_writeBytes 211 = .ok (.iload 6, 2) := by decide +kernel
theorem dX12_writeBytes_213 : decode cX12_writeBytes 213 = .ok (.iload 5, 2) := by decide +kernel
theorem dX12_writeBytes_215 : decode cX12_writeBytes 215 = .ok (.if_icmp .ge 31, 3) := by decide +kernel
theorem dX12_writeBytes_218 : decode cX12_writeBytes 218 = .ok (.aload_n 0, 1) := by decide +kernel
theorem dX12_writeBytes_219 : decode cX12_writeBytes 219 = .ok (.invokevirtual 530, 3) := by decide +kernel
theorem dX12_writeBytes_222 : decode cX12_writeBytes 222 = .ok (.istore 7, 2) := by decide +kernel
theorem dX12_writeBytes_224 : decode cX12_writeBytes 224 = .ok (.aload_n 0, 1) := by decide +kernel
theorem dX12_writeBytes_225 : decode cX12_writeBytes 225 = .ok (.iload 7, 2) := by decide +kernel
theorem dX12_writeBytes_227 : decode cX12_writeBytes 227 = .ok (.i2l, 1) := by decide +kernel
theorem dX12_writeBytes_228 : decode cX12_writeBytes 228 = .ok (.iconst 4, 1) := by decide +kernel
theorem dX12_writeBytes_229 : decode cX12_writeBytes 229 = .ok (.iload_n 2, 1) := by decide +kernel
theorem dX12_writeBytes_230 : decode cX12_writeBytes 230 = .ok (.invokevirtual 564, 3) := by decide +kernel
theorem dX12_writeBytes_233 : decode cX12_writeBytes 233 = .ok (.aload_n 0, 1) := by decide +kernel
theorem dX12_writeBytes_234 : decode cX12_writeBytes 234 = .ok (.iload 7, 2) := by decide +kernel
theorem dX12_writeBytes_236 : decode cX12_writeBytes 236 = .ok (.iload_n 2, 1) := by decide +kernel
theorem dX12_writeBytes_237 : decode cX12_writeBytes 237 = .ok (.invokevirtual 570, 3) := by decide +kernel
theorem dX12_writeBytes_240 : decode cX12_writeBytes 240 = .ok (.iinc 6 1, 3) := by decide +kernel
theorem dX12_writeBytes_243 : decode cX12_writeBytes 243 = .ok (.goto (-38), 3) := by decide +kernel
theorem dX12_writeBytes_246 : decode cX12_writeBytes 246 = .ok (.goto (-140), 3) := by decide +kernel
theorem dX12_writeBytes_249 : decode cX12_writeBytes 249 = .ok (.aload_n 0, 1) := by decide +kernel
theorem dX12_writeBytes_250 : decode cX12_writeBytes 250 = .ok (.getfield 291, 3) := by decide +kernel
theorem dX12_writeBytes_253 : decode cX12_writeBytes 253 = .ok (.ireturn, 1) := by decide +kernel
theorem dX12_copy_0 : decode cX12_copy 0 = .ok (.aload_n 0, 1) := by decide +kernel
theorem dX12_copy_1 : decode cX12_copy 1 = .ok (.iconst 0, 1) := by decide +kernel
theorem dX12_copy_2 : decode cX12_copy 2 = .ok (.putfield 271, 3) := by decide +kernel
theorem dX12_copy_5 : decode cX12_copy 5 = .ok (.aload_n 0, 1) := by decide +kernel
theorem dX12_copy_6 : decode cX12_copy 6 = .ok (.iload_n 1, 1) := by decide +kernel
theorem dX12_copy_7 : decode cX12_copy 7 = .ok (.invokestatic 440, 3) := by decide +kernel
theorem dX12_copy_10 : decode cX12_copy 10 = .ok (.ifCond .eq 10, 3) := by decide +kernel
theorem dX12_copy_13 : decode cX12_copy 13 = .ok (.iload_n 2, 1) := by decide +kernel
theorem dX12_copy_14 : decode cX12_copy 14 = .ok (.invokestatic 440, 3) := by decide +kernel
theorem dX12_copy_17 : decode cX12_copy 17 = .ok (.ifCond .ne 7, 3) := by decide +kernel
theorem dX12_copy_20 : decode cX12_copy 20 = .ok (.iconst 1, 1) := by decide +kernel
theorem dX12_copy_21 : decode cX12_copy 21 = .ok (.goto 4, 3) := by decide +kernel
theorem dX12_copy_24 : decode cX12_copy 24 = .ok (.iconst 0, 1) := by decide +kernel
theorem dX12_copy_25 : decode cX12_copy 25 = .ok (.iconst 1, 1) := by decide +kernel
theorem dX12_copy_26 : decode cX12_copy 26 = .ok (.invokevirtual 277, 3) := by decide +kernel
theorem dX12_copy_29 : decode cX12_copy 29 = .ok (.ifCond .ne 24, 3) := by decide +kernel
theorem dX12_copy_32 : decode cX12_copy 32 = .ok (.aload_n 0, 1) := by decide +kernel
theorem dX12_copy_33 : decode cX12_copy 33 = .ok (.aload_n 0, 1) := by decide +kernel
theorem dX12_copy_34 : decode cX12_copy 34 = .ok (.iload_n 1, 1) := by decide +kernel
theorem dX12_copy_35 : decode cX12_copy 35 = .ok (.invokevirtual 545, 3) := by decide +kernel
theorem dX12_copy_38 : decode cX12_copy 38 = .ok (.ifCond .ne 7, 3) := by decide +kernel
theorem dX12_copy_41 : decode cX12_copy 41 = .ok (.iconst 1, 1) := by decide +kernel
theorem dX12_copy_42 : decode cX12_copy 42 = .ok (.goto 4, 3) := by decide +kernel
theorem dX12_copy_45 : decode cX12_copy 45 = .ok (.iconst 0, 1) := by decide +kernel
theorem dX12_copy_46 : decode cX12_copy 46 = .ok (.iconst 2, 1) := by decide +kernel
theorem dX12_copy_47 : decode cX12_copy 47 = .ok (.invokevirtual 277, 3) := by decide +kernel
theorem dX12_copy_50 : decode cX12_copy 50 = .ok (.ifCond .eq 5, 3) := by decide +kernel
theorem dX12_copy_53 : decode cX12_copy 53 = .ok (.iconst 0, 1) := by decide +kernel
theorem dX12_copy_54 : decode cX12_copy 54 = .ok (.ireturn, 1) := by decide +kernel
theorem dX12_copy_55 : decode cX12_copy 55 = .ok (.iload_n 1, 1) := by decide +kernel
theorem dX12_copy_56 : decode cX12_copy 56 = .ok (.iload_n 2, 1) := by decide +kernel
theorem dX12_copy_57 : decode cX12_copy 57 = .ok (.if_icmp .eq 9, 3) := by decide +kernel
theorem dX12_copy_60 : decode cX12_copy 60 = .ok (.aload_n 0, 1) := by decide +kernel
theorem dX12_copy_61 : decode cX12_copy 61 = .ok (.iload_n 1, 1) := by decide +kernel
theorem dX12_copy_62 : decode cX12_copy 62 = .ok (.iload_n 2, 1) := by decide +kernel
theorem dX12_copy_63 : decode cX12_copy 63 = .ok (.invokevirtual 449, 3) := by decide +kernel
theorem dX12_copy_66 : decode cX12_copy 66 = .ok (.aload_n 0, 1) := by decide +kernel
theorem dX12_copy_67 : decode cX12_copy 67 = .ok (.getfield 23, 3) := by decide +kernel
theorem dX12_copy_70 : decode cX12_copy 70 = .ok (.sipush 2048, 3) := by decide +kernel
theorem dX12_copy_73 : decode cX12_copy 73 = .ok (.iload_n 2, 1) := by decide +kernel
theorem dX12_copy_74 : decode cX12_copy 74 = .ok (.imul, 1) := by decide +kernel
theorem dX12_copy_75 : decode cX12_copy 75 = .ok (.iaload, 1) := by decide +kernel
theorem dX12_copy_76 : decode cX12_copy 76 = .ok (.ireturn, 1) := by decide +kernel
theorem dX12_drop_0 : decode cX12_drop 0 = .ok (.aload_n 0, 1) := by decide +kernel
theorem dX12_drop_1 : decode cX12_drop 1 = .ok (.iconst 0, 1) := by decide +kernel
theorem dX12_drop_2 : decode cX12_drop 2 = .ok (.putfield 271, 3) := by decide +kernel
theorem dX12_drop_5 : decode cX12_drop 5 = .ok (.aload_n 0, 1) := by decide +kernel
theorem dX12_drop_6 : decode cX12_drop 6 = .ok (.iload_n 1, 1) := by decide +kernel
theorem dX12_drop_7 : decode cX12_drop 7 = .ok (.invokestatic 440, 3) := by decide +kernel
theorem dX12_drop_10 : decode cX12_drop 10 = .ok (.ifCond .ne 7, 3) := by decide +kernel
theorem dX12_drop_13 : decode cX12_drop 13 = .ok (.iconst 1, 1) := by decide +kernel
theorem dX12_drop_14 : decode cX12_drop 14 = .ok (.goto 4, 3) := by decide +kernel
theorem dX12_drop_17 : decode cX12_drop 17 = .ok (.iconst 0, 1) := by decide +kernel
theorem dX12_drop_18 : decode cX12_drop 18 = .ok (.iconst 1, 1) := by decide +kernel
theorem dX12_drop_19 : decode cX12_drop 19 = .ok (.invokevirtual 277, 3) := by decide +kernel
theorem dX12_drop_22 : decode cX12_drop 22 = .ok (.ifCond .eq 5, 3) := by decide +kernel
theorem dX12_drop_25 : decode cX12_drop 25 = .ok (.iconst 0, 1) := by decide +kernel
theorem dX12_drop_26 : decode cX12_drop 26 = .ok (.ireturn, 1) := by decide +kernel
theorem dX12_drop_27 : decode cX12_drop 27 = .ok (.aload_n 0, 1) := by decide +kernel
theorem dX12_drop_28 : decode cX12_drop 28 = .ok (.iload_n 1, 1) := by decide +kernel
theorem dX12_drop_29 : decode cX12_drop 29 = .ok (.invokevirtual 545, 3) := by decide +kernel
theorem dX12_drop_32 : decode cX12_drop 32 = .ok (.istore_n 2, 1) := by decide +kernel
theorem dX12_drop_33 : decode cX12_drop 33 = .ok (.aload_n 0, 1) := by decide +kernel
theorem dX12_drop_34 : decode cX12_drop 34 = .ok (.iload_n 1, 1) := by decide +kernel
theorem dX12_drop_35 : decode cX12_drop 35 = .ok (.invokevirtual 358, 3) := by decide +kernel
theorem dX12_drop_38 : decode cX12_drop 38 = .ok (.iload_n 2, 1) := by decide +kernel
theorem dX12_drop_39 : decode cX12_drop 39 = .ok (.ireturn, 1) := by decide +kernel
