theorem dX12_gatherShape_0 : decode cX12_gatherShape 0 = .ok (.aload_n 0, 1) := by decide +kernel
theorem dX12_gatherShape_1 : decode cX12_gatherShape 1 = .ok (.getfield 652, 3) := by decide +kernel
theorem dX12_gatherShape_4 : decode cX12_gatherShape 4 = .ok (.istore_n 3, 1) := by decide +kernel
theorem dX12_gatherShape_5 : decode cX12_gatherShape 5 = .ok (.aload_n 0, 1) := by decide +kernel
theorem dX12_gatherShape_6 : decode cX12_gatherShape 6 = .ok (.getfield 191, 3) := by decide +kernel
theorem dX12_gatherShape_9 : decode cX12_gatherShape 9 = .ok (.iload_n 2, 1) := by decide +kernel
theorem dX12_gatherShape_10 : decode cX12_gatherShape 10 = .ok (.iload_n 1, 1) := by decide +kernel
theorem dX12_gatherShape_11 : decode cX12_gatherShape 11 = .ok (.iastore, 1) := by decide +kernel
theorem dX12_gatherShape_12 : decode cX12_gatherShape 12 = .ok (.aload_n 0, 1) := by decide +kernel
theorem dX12_gatherShape_13 : decode cX12_gatherShape 13 = .ok (.getfield 194, 3) := by decide +kernel
theorem dX12_gatherShape_16 : decode cX12_gatherShape 16 = .ok (.iload_n 2, 1) := by decide +kernel
theorem dX12_gatherShape_17 : decode cX12_gatherShape 17 = .ok (.aload_n 0, 1) := by decide +kernel
theorem dX12_gatherShape_18 : decode cX12_gatherShape 18 = .ok (.getfield 23, 3) := by decide +kernel
theorem dX12_gatherShape_21 : decode cX12_gatherShape 21 = .ok (.sipush 2048, 3) := by decide +kernel
theorem dX12_gatherShape_24 : decode cX12_gatherShape 24 = .ok (.iload_n 1, 1) := by decide +kernel
theorem dX12_gatherShape_25 : decode cX12_gatherShape 25 = .ok (.imul, 1) := by decide +kernel
theorem dX12_gatherShape_26 : decode cX12_gatherShape 26 = .ok (.iaload, 1) := by decide +kernel
theorem dX12_gatherShape_27 : decode cX12_gatherShape 27 = .ok (.invokestatic 926, 3) := by decide +kernel
theorem dX12_gatherShape_30 : decode cX12_gatherShape 30 = .ok (.iastore, 1) := by decide +kernel
theorem dX12_gatherShape_31 : decode cX12_gatherShape 31 = .ok (.aload_n 0, 1) := by decide +kernel
theorem dX12_gatherShape_32 : decode cX12_gatherShape 32 = .ok (.getfield 197, 3) := by decide +kernel
theorem dX12_gatherShape_35 : decode cX12_gatherShape 35 = .ok (.iload_n 2, 1) := by decide +kernel
theorem dX12_gatherShape_36 : decode cX12_gatherShape 36 = .ok (.iconst 0, 1) := by decide +kernel
theorem dX12_gatherShape_37 : decode cX12_gatherShape 37 = .ok (.iastore, 1) := by decide +kernel
theorem dX12_gatherShape_38 : decode cX12_gatherShape 38 = .ok (.aload_n 0, 1) := by decide +kernel
theorem dX12_gatherShape_39 : decode cX12_gatherShape 39 = .ok (.getfield 209, 3) := by decide +kernel
theorem dX12_gatherShape_42 : decode cX12_gatherShape 42 = .ok (.iload_n 2, 1) := by decide +kernel
theorem dX12_gatherShape_43 : decode cX12_gatherShape 43 = .ok (.iconst 0, 1) := by decide +kernel
theorem dX12_gatherShape_44 : decode cX12_gatherShape 44 = .ok (.iastore, 1) := by decide +kernel
theorem dX12_gatherShape_45 : decode cX12_gatherShape 45 = .ok (.aload_n 0, 1) := by decide +kernel
theorem dX12_gatherShape_46 : decode cX12_gatherShape 46 = .ok (.getfield 203, 3) := by decide +kernel
theorem dX12_gatherShape_49 : decode cX12_gatherShape 49 = .ok (.iload_n 2, 1) := by decide +kernel
theorem dX12_gatherShape_50 : decode cX12_gatherShape 50 = .ok (.iconst 0, 1) := by decide +kernel
theorem dX12_gatherShape_51 : decode cX12_gatherShape 51 = .ok (.bastore, 1) := by decide +kernel
theorem dX12_gatherShape_52 : decode cX12_gatherShape 52 = .ok (.sipush 2048, 3) := by decide +kernel
theorem dX12_gatherShape_55 : decode cX12_gatherShape 55 = .ok (.iload_n 1, 1) := by decide +kernel
theorem dX12_gatherShape_56 : decode cX12_gatherShape 56 = .ok (.imul, 1) := by decide +kernel
theorem dX12_gatherShape_57 : decode cX12_gatherShape 57 = .ok (.istore 4, 2) := by decide +kernel
theorem dX12_gatherShape_59 : decode cX12_gatherShape 59 = .ok (.iload 4, 2) := by decide +kernel
theorem dX12_gatherShape_61 : decode cX12_gatherShape 61 = .ok (.aload_n 0, 1) := by decide +kernel
theorem dX12_gatherShape_62 : decode cX12_gatherShape 62 = .ok (.getfield 18, 3) := by decide +kernel
theorem dX12_gatherShape_65 : decode cX12_gatherShape 65 = .ok (.iload_n 1, 1) := by decide +kernel
theorem dX12_gatherShape_66 : decode cX12_gatherShape 66 = .ok (.iaload, 1) := by decide +kernel
theorem dX12_gatherShape_67 : decode cX12_gatherShape 67 = .ok (.iadd, 1) := by decide +kernel
theorem dX12_gatherShape_68 : decode cX12_gatherShape 68 = .ok (.istore 5, 2) := by decide +kernel
theorem dX12_gatherShape_70 : decode cX12_gatherShape 70 = .ok (.sipush 2048, 3) := by decide +kernel
theorem dX12_gatherShape_73 : decode cX12_gatherShape 73 = .ok (.iload_n 1, 1) := by decide +kernel
theorem dX12_gatherShape_74 : decode cX12_gatherShape 74 = .ok (.imul, 1) := by decide +kernel
theorem dX12_gatherShape_75 : decode cX12_gatherShape 75 = .ok (.istore 6, 2) := by decide +kernel
theorem dX12_gatherShape_77 : decode cX12_gatherShape 77 = .ok (.iload 4, 2) := by decide +kernel
theorem dX12_gatherShape_79 : decode cX12_gatherShape 79 = .ok (.iload 5, 2) := by decide +kernel
theorem dX12_gatherShape_81 : decode cX12_gatherShape 81 = .ok (.if_icmp .ge 143, 3) := by decide +kernel
theorem dX12_gatherShape_84 : decode cX12_gatherShape 84 = .ok (.aload_n 0, 1) := by decide +kernel
theorem dX12_gatherShape_85 : decode cX12_gatherShape 85 = .ok (.getfield 23, 3) := by decide +kernel
theorem dX12_gatherShape_88 : decode cX12_gatherShape 88 = .ok (.iload 4, 2) := by decide +kernel
theorem dX12_gatherShape_90 : decode cX12_gatherShape 90 = .ok (.iaload, 1) := by decide +kernel
theorem dX12_gatherShape_91 : decode cX12_gatherShape 91 = .ok (.istore 7, 2) := by decide +kernel
theorem dX12_gatherShape_93 : decode cX12_gatherShape 93 = .ok (.aload_n 0, 1) := by decide +kernel
theorem dX12_gatherShape_94 : decode cX12_gatherShape 94 = .ok (.getfield 23, 3) := by decide +kernel
theorem dX12_gatherShape_97 : decode cX12_gatherShape 97 = .ok (.iload 4, 2) := by decide +kernel
theorem dX12_gatherShape_99 : decode cX12_gatherShape 99 = .ok (.iconst 1, 1) := by decide +kernel
theorem dX12_gatherShape_100 : decode cX12_gatherShape 100 = .ok (.iadd, 1) := by decide +kernel
theorem dX12_gatherShape_101 : decode cX12_gatherShape 101 = .ok (.iaload, 1) := by decide +kernel
theorem dX12_gatherShape_102 : decode cX12_gatherShape 102 = .ok (.istore 8, 2) := by decide +kernel
theorem dX12_gatherShape_104 : decode cX12_gatherShape 104 = .ok (.iinc 4 2, 3) := by decide +kernel
theorem dX12_gatherShape_107 : decode cX12_gatherShape 107 = .ok (.iload 7, 2) := by decide +kernel
theorem dX12_gatherShape_109 : decode cX12_gatherShape 109 = .ok (.iconst 2, 1) := by decide +kernel
theorem dX12_gatherShape_110 : decode cX12_gatherShape 110 = .ok (.if_icmp .ne 32, 3) := by decide +kernel
theorem dX12_gatherShape_113 : decode cX12_gatherShape 113 = .ok (.aload_n 0, 1) := by decide +kernel
theorem dX12_gatherShape_114 : decode cX12_gatherShape 114 = .ok (.getfield 197, 3) := by decide +kernel
theorem dX12_gatherShape_117 : decode cX12_gatherShape 117 = .ok (.iload_n 2, 1) := by decide +kernel
theorem dX12_gatherShape_118 : decode cX12_gatherShape 118 = .ok (.dup2, 1) := by decide +kernel
theorem dX12_gatherShape_119 : decode cX12_gatherShape 119 = .ok (.iaload, 1) := by decide +kernel
theorem dX12_gatherShape_120 : decode cX12_gatherShape 120 = .ok (.iconst 1, 1) := by decide +kernel
theorem dX12_gatherShape_121 : decode cX12_gatherShape 121 = .ok (.iadd, 1) := by decide +kernel
theorem dX12_gatherShape_122 : decode cX12_gatherShape 122 = .ok (.iastore, 1) := by decide +kernel
theorem dX12_gatherShape_123 : decode cX12_gatherShape 123 = .ok (.aload_n 0, 1) := by decide +kernel
theorem dX12_gatherShape_124 : decode cX12_gatherShape 124 = .ok (.iload_n 2, 1) := by decide +kernel
theorem dX12_gatherShape_125 : decode cX12_gatherShape 125 = .ok (.iload 6, 2) := by decide +kernel
theorem dX12_gatherShape_127 : decode cX12_gatherShape 127 = .ok (.iload 8, 2) := by decide +kernel
theorem dX12_gatherShape_129 : decode cX12_gatherShape 129 = .ok (.invokevirtual 929, 3) := by decide +kernel
theorem dX12_gatherShape_132 : decode cX12_gatherShape 132 = .ok (.aload_n 0, 1) := by decide +kernel
theorem dX12_gatherShape_133 : decode cX12_gatherShape 133 = .ok (.iload_n 2, 1) := by decide +kernel
theorem dX12_gatherShape_134 : decode cX12_gatherShape 134 = .ok (.iload 6, 2) := by decide +kernel
theorem dX12_gatherShape_136 : decode cX12_gatherShape 136 = .ok (.iload 8, 2) := by decide +kernel
theorem dX12_gatherShape_138 : decode cX12_gatherShape 138 = .ok (.iconst 0, 1) := by decide +kernel
theorem dX12_gatherShape_139 : decode cX12_gatherShape 139 = .ok (.invokevirtual 931, 3) := by decide +kernel
theorem dX12_gatherShape_142 : decode cX12_gatherShape 142 = .ok (.iload 6, 2) := by decide +kernel
theorem dX12_gatherShape_144 : decode cX12_gatherShape 144 = .ok (.iload 7, 2) := by decide +kernel
theorem dX12_gatherShape_146 : decode cX12_gatherShape 146 = .ok (.iconst 3, 1) := by decide +kernel
theorem dX12_gatherShape_147 : decode cX12_gatherShape 147 = .ok (.if_icmp .ge 8, 3) := by decide +kernel
theorem dX12_gatherShape_150 : decode cX12_gatherShape 150 = .ok (.iload 8, 2) := by decide +kernel
theorem dX12_gatherShape_152 : decode cX12_gatherShape 152 = .ok (.goto 4, 3) := by decide +kernel
theorem dX12_gatherShape_155 : decode cX12_gatherShape 155 = .ok (.iconst 0, 1) := by decide +kernel
theorem dX12_gatherShape_156 : decode cX12_gatherShape 156 = .ok (.iadd, 1) := by decide +kernel
theorem dX12_gatherShape_157 : decode cX12_gatherShape 157 = .ok (.istore 6, 2) := by decide +kernel
theorem dX12_gatherShape_159 : decode cX12_gatherShape 159 = .ok (.iconst 0, 1) := by decide +kernel
theorem dX12_gatherShape_160 : decode cX12_gatherShape 160 = .ok (.istore 9, 2) := by decide +kernel
theorem dX12_gatherShape_162 : decode cX12_gatherShape 162 = .ok (.iload 7, 2) := by decide +kernel
theorem dX12_gatherShape_164 : decode cX12_gatherShape 164 = .ok (.iconst 3, 1) := by decide +kernel
theorem dX12_gatherShape_165 : decode cX12_gatherShape 165 = .ok (.if_icmp .ne 56, 3) := by decide +kernel
theorem dX12_gatherShape_168 : decode cX12_gatherShape 168 = .ok (.iload 9, 2) := by decide +kernel
theorem dX12_gatherShape_170 : decode cX12_gatherShape 170 = .ok (.iload 8, 2) := by decide +kernel
theorem dX12_gatherShape_172 : decode cX12_gatherShape 172 = .ok (.if_icmp .ge 49, 3) := by decide +kernel
theorem dX12_gatherShape_175 : decode cX12_gatherShape 175 = .ok (.aload_n 0, 1) := by decide +kernel
theorem dX12_gatherShape_176 : decode cX12_gatherShape 176 = .ok (.getfield 197, 3) := by decide +kernel
theorem dX12_gatherShape_179 : decode cX12_gatherShape 179 = .ok (.iload_n 2, 1) := by decide +kernel
theorem dX12_gatherShape_180 : decode cX12_gatherShape 180 = .ok (.dup2, 1) := by decide +kernel
theorem dX12_gatherShape_181 : decode cX12_gatherShape 181 = .ok (.iaload, 1) := by decide +kernel
theorem dX12_gatherShape_182 : decode cX12_gatherShape 182 = .ok (.iconst 1, 1) := by decide +kernel
theorem dX12_gatherShape_183 : decode cX12_gatherShape 183 = .ok (.iadd, 1) := by decide +kernel
theorem dX12_gatherShape_184 : decode cX12_gatherShape 184 = .ok (.iastore, 1) := by decide +kernel
theorem dX12_gatherShape_185 : decode cX12_gatherShape 185 = .ok (.aload_n 0, 1) := by decide +kernel
theorem dX12_gatherShape_186 : decode cX12_gatherShape 186 = .ok (.iload_n 2, 1) := by decide +kernel
theorem dX12_gatherShape_187 : decode cX12_gatherShape 187 = .ok (.iload 6, 2) := by decide +kernel
theorem dX12_gatherShape_189 : decode cX12_gatherShape 189 = .ok (.aload_n 0, 1) := by decide +kernel
theorem dX12_gatherShape_190 : decode cX12_gatherShape 190 = .ok (.getfield 23, 3) := by decide +kernel
theorem dX12_gatherShape_193 : decode cX12_gatherShape 193 = .ok (.iload 4, 2) := by decide +kernel
theorem dX12_gatherShape_195 : decode cX12_gatherShape 195 = .ok (.iaload, 1) := by decide +kernel
theorem dX12_gatherShape_196 : decode cX12_gatherShape 196 = .ok (.iconst 1, 1) := by decide +kernel
theorem dX12_gatherShape_197 : decode cX12_gatherShape 197 = .ok (.invokevirtual 931, 3) := by decide +kernel
theorem dX12_gatherShape_200 : decode cX12_gatherShape 200 = .ok (.iload 6, 2) := by decide +kernel
theorem dX12_gatherShape_202 : decode cX12_gatherShape 202 = .ok (.aload_n 0, 1) := by decide +kernel
theorem dX12_gatherShape_203 : decode cX12_gatherShape 203 = .ok (.getfield 23, 3) := by decide +kernel
theorem dX12_gatherShape_206 : decode cX12_gatherShape 206 = .ok (.iload 4, 2) := by decide +kernel
theorem dX12_gatherShape_208 : decode cX12_gatherShape 208 = .ok (.iaload, 1) := by decide +kernel
theorem dX12_gatherShape_209 : decode cX12_gatherShape 209 = .ok (.iadd, 1) := by decide +kernel
theorem dX12_gatherShape_210 : decode cX12_gatherShape 210 = .ok (.istore 6, 2) := by decide +kernel
theorem dX12_gatherShape_212 : decode cX12_gatherShape 212 = .ok (.iinc 4 1, 3) := by decide +kernel
theorem dX12_gatherShape_215 : decode cX12_gatherShape 215 = .ok (.iinc 9 1, 3) := by decide +kernel
theorem dX12_gatherShape_218 : decode cX12_gatherShape 218 = .ok (.goto (-56), 3) := by decide +kernel
theorem dX12_gatherShape_221 : decode cX12_gatherShape 221 = .ok (.goto (-144), 3) := by decide +kernel
theorem dX12_gatherShape_224 : decode cX12_gatherShape 224 = .ok (.aload_n 0, 1) := by decide +kernel
theorem dX12_gatherShape_225 : decode cX12_gatherShape 225 = .ok (.getfield 200, 3) := by decide +kernel
theorem dX12_gatherShape_228 : decode cX12_gatherShape 228 = .ok (.iload_n 2, 1) := by decide +kernel
theorem dX12_gatherShape_229 : decode cX12_gatherShape 229 = .ok (.aload_n 0, 1) := by decide +kernel
theorem dX12_gatherShape_230 : decode cX12_gatherShape 230 = .ok (.getfield 652, 3) := by decide +kernel
theorem dX12_gatherShape_233 : decode cX12_gatherShape 233 = .ok (.iload_n 3, 1) := by decide +kernel
theorem dX12_gatherShape_234 : decode cX12_gatherShape 234 = .ok (.isub, 1) := by decide +kernel
theorem dX12_gatherShape_235 : decode cX12_gatherShape 235 = .ok (.iastore, 1) := by decide +kernel
theorem dX12_gatherShape_236 : decode cX12_gatherShape 236 = .ok (.return_, 1) := by decide +kernel
theorem dX12_linear_0 : decode cX12_linear 0 = .ok (.lload_n 3, 1) := by decide +kernel
theorem dX12_linear_1 : decode cX12_linear 1 = .ok (.lconst 0, 1) := by decide +kernel
theorem dX12_linear_2 : decode cX12_linear 2 = .ok (.lcmp, 1) := by decide +kernel
theorem dX12_linear_3 : decode cX12_linear 3 = .ok (.ifCond .eq 12, 3) := by decide +kernel
theorem dX12_linear_6 : decode cX12_linear 6 = .ok (.aload_n 0, 1) := by decide +kernel
theorem dX12_linear_7 : decode cX12_linear 7 = .ok (.getfield 66, 3) := by decide +kernel
theorem dX12_linear_10 : decode cX12_linear 10 = .ok (.iconst 0, 1) := by decide +kernel
theorem dX12_linear_11 : decode cX12_linear 11 = .ok (.iaload, 1) := by decide +kernel
theorem dX12_linear_12 : decode cX12_linear 12 = .ok (.ifCond .ne 8, 3) := by decide +kernel
theorem dX12_linear_15 : decode cX12_linear 15 = .ok (.lload_n 1, 1) := by decide +kernel
theorem dX12_linear_16 : decode cX12_linear 16 = .ok (.invokestatic 648, 3) := by decide +kernel
theorem dX12_linear_19 : decode cX12_linear 19 = .ok (.ireturn, 1) := by decide +kernel
theorem dX12_linear_20 : decode cX12_linear 20 = .ok (.aload_n 0, 1) := by decide +kernel
theorem dX12_linear_21 : decode cX12_linear 21 = .ok (.iconst 2, 1) := by decide +kernel
theorem dX12_linear_22 : decode cX12_linear 22 = .ok (.lload_n 1, 1) := by decide +kernel
theorem dX12_linear_23 : decode cX12_linear 23 = .ok (.invokevirtual 635, 3) := by decide +kernel
theorem dX12_linear_26 : decode cX12_linear 26 = .ok (.aload_n 0, 1) := by decide +kernel
theorem dX12_linear_27 : decode cX12_linear 27 = .ok (.iconst 3, 1) := by decide +kernel
theorem dX12_linear_28 : decode cX12_linear 28 = .ok (.iconst 2, 1) := by decide +kernel
theorem dX12_linear_29 : decode cX12_linear 29 = .ok (.iconst 1, 1) := by decide +kernel
theorem dX12_linear_30 : decode cX12_linear 30 = .ok (.invokevirtual 632, 3) := by decide +kernel
theorem dX12_linear_33 : decode cX12_linear 33 = .ok (.aload_n 0, 1) := by decide +kernel
theorem dX12_linear_34 : decode cX12_linear 34 = .ok (.iconst 4, 1) := by decide +kernel
theorem dX12_linear_35 : decode cX12_linear 35 = .ok (.lload_n 3, 1) := by decide +kernel
theorem dX12_linear_36 : decode cX12_linear 36 = .ok (.invokevirtual 635, 3) := by decide +kernel
theorem dX12_linear_39 : decode cX12_linear 39 = .ok (.aload_n 0, 1) := by decide +kernel
theorem dX12_linear_40 : decode cX12_linear 40 = .ok (.iconst 5, 1) := by decide +kernel
theorem dX12_linear_41 : decode cX12_linear 41 = .ok (.iconst 4, 1) := by decide +kernel
theorem dX12_linear_42 : decode cX12_linear 42 = .ok (.iconst 0, 1) := by decide +kernel
theorem dX12_linear_43 : decode cX12_linear 43 = .ok (.invokevirtual 632, 3) := by decide +kernel
theorem dX12_linear_46 : decode cX12_linear 46 = .ok (.aload_n 0, 1) := by decide +kernel
theorem dX12_linear_47 : decode cX12_linear 47 = .ok (.bipush 6, 2) := by decide +kernel
theorem dX12_linear_49 : decode cX12_linear 49 = .ok (.iconst 3, 1) := by decide +kernel
theorem dX12_linear_50 : decode cX12_linear 50 = .ok (.iconst 5, 1) := by decide +kernel
theorem dX12_linear_51 : decode cX12_linear 51 = .ok (.iconst 0, 1) := by decide +kernel
theorem dX12_linear_52 : decode cX12_linear 52 = .ok (.invokevirtual 621, 3) := by decide +kernel
theorem dX12_linear_55 : decode cX12_linear 55 = .ok (.aload_n 0, 1) := by decide +kernel
theorem dX12_linear_56 : decode cX12_linear 56 = .ok (.getfield 69, 3) := by decide +kernel
theorem dX12_linear_59 : decode cX12_linear 59 = .ok (.bipush 6, 2) := by decide +kernel
theorem dX12_linear_61 : decode cX12_linear 61 = .ok (.iaload, 1) := by decide +kernel
theorem dX12_linear_62 : decode cX12_linear 62 = .ok (.ireturn, 1) := by decide +kernel
theorem dX12_besideX_0 : decode cX12_besideX 0 = .ok (.aload_n 0, 1) := by decide +kernel
theorem dX12_besideX_1 : decode cX12_besideX 1 = .ok (.aload_n 0, 1) := by decide +kernel
theorem dX12_besideX_2 : decode cX12_besideX 2 = .ok (.getfield 934, 3) := by decide +kernel
theorem dX12_besideX_5 : decode cX12_besideX 5 = .ok (.lload_n 1, 1) := by decide +kernel
theorem dX12_besideX_6 : decode cX12_besideX 6 = .ok (.lsub, 1) := by decide +kernel
theorem dX12_besideX_7 : decode cX12_besideX 7 = .ok (.aload_n 0, 1) := by decide +kernel
theorem dX12_besideX_8 : decode cX12_besideX 8 = .ok (.getfield 937, 3) := by decide +kernel
theorem dX12_besideX_11 : decode cX12_besideX 11 = .ok (.invokevirtual 940, 3) := by decide +kernel
theorem dX12_besideX_14 : decode cX12_besideX 14 = .ok (.ireturn, 1) := by decide +kernel
theorem dX12_besideY_0 : decode cX12_besideY 0 = .ok (.aload_n 0, 1) := by decide +kernel
theorem dX12_besideY_1 : decode cX12_besideY 1 = .ok (.aload_n 0, 1) := by decide +kernel
theorem dX12_besideY_2 : decode cX12_besideY 2 = .ok (.getfield 943, 3) := by decide +kernel
theorem dX12_besideY_5 : decode cX12_besideY 5 = .ok (.lload_n 1, 1) := by decide +kernel
theorem dX12_besideY_6 : decode cX12_besideY 6 = .ok (.lsub, 1) := by decide +kernel
theorem dX12_besideY_7 : decode cX12_besideY 7 = .ok (.aload_n 0, 1) := by decide +kernel
theorem dX12_besideY_8 : decode cX12_besideY 8 = .ok (.getfield 946, 3) := by decide +kernel
theorem dX12_besideY_11 : decode cX12_besideY 11 = .ok (.invokevirtual 940, 3) := by decide +kernel
theorem dX12_besideY_14 : decode cX12_besideY 14 = .ok (.ireturn, 1) := by decide +kernel
theorem dX12_sideOf_0 : decode cX12_sideOf 0 = .ok (.lload 5, 2) := by decide +kernel
theorem dX12_sideOf_2 : decode cX12_sideOf 2 = .ok (.lload_n 1, 1) := by decide +kernel
theorem dX12_sideOf_3 : decode cX12_sideOf 3 = .ok (.lsub, 1) := by decide +kernel
theorem dX12_sideOf_4 : decode cX12_sideOf 4 = .ok (.lload 7, 2) := by decide +kernel
theorem dX12_sideOf_6 : decode cX12_sideOf 6 = .ok (.lload_n 3, 1) := by decide +kernel
theorem dX12_sideOf_7 : decode cX12_sideOf 7 = .ok (.lsub, 1) := by decide +kernel
theorem dX12_sideOf_8 : decode cX12_sideOf 8 = .ok (.aload_n 0, 1) := by decide +kernel
theorem dX12_sideOf_9 : decode cX12_sideOf 9 = .ok (.getfield 934, 3) := by decide +kernel
theorem dX12_sideOf_12 : decode cX12_sideOf 12 = .ok (.lload_n 1, 1) := by decide +kernel
theorem dX12_sideOf_13 : decode cX12_sideOf 13 = .ok (.lsub, 1) := by decide +kernel
theorem dX12_sideOf_14 : decode cX12_sideOf 14 = .ok (.aload_n 0, 1) := by decide +kernel
theorem dX12_sideOf_15 : decode cX12_sideOf 15 = .ok (.getfield 943, 3) := by decide +kernel
theorem dX12_sideOf_18 : decode cX12_sideOf 18 = .ok (.lload_n 3, 1) := by decide +kernel
theorem dX12_sideOf_19 : decode cX12_sideOf 19 = .ok (.lsub, 1) := by decide +kernel
theorem dX12_sideOf_20 : decode cX12_sideOf 20 = .ok (.invokestatic 644, 3) := by decide +kernel
theorem dX12_sideOf_23 : decode cX12_sideOf 23 = .ok (.lstore 9, 2) := by decide +kernel
theorem dX12_sideOf_25 : decode cX12_sideOf 25 = .ok (.aload_n 0, 1) := by decide +kernel
theorem dX12_sideOf_26 : decode cX12_sideOf 26 = .ok (.lload 9, 2) := by decide +kernel
theorem dX12_sideOf_28 : decode cX12_sideOf 28 = .ok (.lload 5, 2) := by decide +kernel
theorem dX12_sideOf_30 : decode cX12_sideOf 30 = .ok (.lload_n 1, 1) := by decide +kernel
theorem dX12_sideOf_31 : decode cX12_sideOf 31 = .ok (.lsub, 1) := by decide +kernel
theorem dX12_sideOf_32 : decode cX12_sideOf 32 = .ok (.lload 7, 2) := by decide +kernel
theorem dX12_sideOf_34 : decode cX12_sideOf 34 = .ok (.lload_n 3, 1) := by decide +kernel
theorem dX12_sideOf_35 : decode cX12_sideOf 35 = .ok (.lsub, 1) := by decide +kernel
theorem dX12_sideOf_36 : decode cX12_sideOf 36 = .ok (.aload_n 0, 1) := by decide +kernel
theorem dX12_sideOf_37 : decode cX12_sideOf 37 = .ok (.getfield 937, 3) := by decide +kernel
theorem dX12_sideOf_40 : decode cX12_sideOf 40 = .ok (.aload_n 0, 1) := by decide +kernel
theorem dX12_sideOf_41 : decode cX12_sideOf 41 = .ok (.getfield 946, 3) := by decide +kernel
theorem dX12_sideOf_44 : decode cX12_sideOf 44 = .ok (.invokestatic 644, 3) := by decide +kernel
theorem dX12_sideOf_47 : decode cX12_sideOf 47 = .ok (.invokevirtual 940, 3) := by decide +kernel
theorem dX12_sideOf_50 : decode cX12_sideOf 50 = .ok (.ireturn, 1) := by decide +kernel
theorem dX12_isHereOn_0 : decode cX12_isHereOn 0 = .ok (.aload_n 0, 1) := by decide +kernel
theorem dX12_isHereOn_1 : decode cX12_isHereOn 1 = .ok (.aload_n 0, 1) := by decide +kernel
theorem dX12_isHereOn_2 : decode cX12_isHereOn 2 = .ok (.getfield 78, 3) := by decide +kernel
theorem dX12_isHereOn_5 : decode cX12_isHereOn 5 = .ok (.iload_n 1, 1) := by decide +kernel
theorem dX12_isHereOn_6 : decode cX12_isHereOn 6 = .ok (.laload, 1) := by decide +kernel
theorem dX12_isHereOn_7 : decode cX12_isHereOn 7 = .ok (.aload_n 0, 1) := by decide +kernel
theorem dX12_isHereOn_8 : decode cX12_isHereOn 8 = .ok (.getfield 81, 3) := by decide +kernel
theorem dX12_isHereOn_11 : decode cX12_isHereOn 11 = .ok (.iload_n 1, 1) := by decide +kernel
theorem dX12_isHereOn_12 : decode cX12_isHereOn 12 = .ok (.laload, 1) := by decide +kernel
theorem dX12_isHereOn_13 : decode cX12_isHereOn 13 = .ok (.aload_n 0, 1) := by decide +kernel
theorem dX12_isHereOn_14 : decode cX12_isHereOn 14 = .ok (.getfield 84, 3) := by decide +kernel
theorem dX12_isHereOn_17 : decode cX12_isHereOn 17 = .ok (.iload_n 1, 1) := by decide +kernel
theorem dX12_isHereOn_18 : decode cX12_isHereOn 18 = .ok (.laload, 1) := by decide +kernel
theorem dX12_isHereOn_19 : decode cX12_isHereOn 19 = .ok (.aload_n 0, 1) := by decide +kernel
theorem dX12_isHereOn_20 : decode cX12_isHereOn 20 = .ok (.getfield 87, 3) := by decide +kernel
theorem dX12_isHereOn_23 : decode cX12_isHereOn 23 = .ok (.iload_n 1, 1) := by decide +kernel
theorem dX12_isHereOn_24 : decode cX12_isHereOn 24 = .ok (.laload, 1) := by decide +kernel
theorem dX12_isHereOn_25 : decode cX12_isHereOn 25 = .ok (.invokevirtual 949, 3) := by decide +kernel
theorem dX12_isHereOn_28 : decode cX12_isHereOn 28 = .ok (.ifCond .eq 5, 3) := by decide +kernel
theorem dX12_isHereOn_31 : decode cX12_isHereOn 31 = .ok (.iconst 0, 1) := by decide +kernel
theorem dX12_isHereOn_32 : decode cX12_isHereOn 32 = .ok (.ireturn, 1) := by decide +kernel
theorem dX12_isHereOn_33 : decode cX12_isHereOn 33 = .ok (.aload_n 0, 1) := by decide +kernel
theorem dX12_isHereOn_34 : decode cX12_isHereOn 34 = .ok (.aload_n 0, 1) := by decide +kernel
theorem dX12_isHereOn_35 : decode cX12_isHereOn 35 = .ok (.getfield 78, 3) := by decide +kernel
theorem dX12_isHereOn_38 : decode cX12_isHereOn 38 = .ok (.iload_n 1, 1) := by decide +kernel
theorem dX12_isHereOn_39 : decode cX12_isHereOn 39 = .ok (.laload, 1) := by decide +kernel
theorem dX12_isHereOn_40 : decode cX12_isHereOn 40 = .ok (.invokevirtual 953, 3) := by decide +kernel
theorem dX12_isHereOn_43 : decode cX12_isHereOn 43 = .ok (.aload_n 0, 1) := by decide +kernel
theorem dX12_isHereOn_44 : decode cX12_isHereOn 44 = .ok (.aload_n 0, 1) := by decide +kernel
theorem dX12_isHereOn_45 : decode cX12_isHereOn 45 = .ok (.getfield 84, 3) := by decide +kernel
theorem dX12_isHereOn_48 : decode cX12_isHereOn 48 = .ok (.iload_n 1, 1) := by decide +kernel
theorem dX12_isHereOn_49 : decode cX12_isHereOn 49 = .ok (.laload, 1) := by decide +kernel
theorem dX12_isHereOn_50 : decode cX12_isHereOn 50 = .ok (.invokevirtual 953, 3) := by decide +kernel
theorem dX12_isHereOn_53 : decode cX12_isHereOn 53 = .ok (.imul, 1) := by decide +kernel
theorem dX12_isHereOn_54 : decode cX12_isHereOn 54 = .ok (.ifCond .gt 31, 3) := by decide +kernel
theorem dX12_isHereOn_57 : decode cX12_isHereOn 57 = .ok (.aload_n 0, 1) := by decide +kernel
theorem dX12_isHereOn_58 : decode cX12_isHereOn 58 = .ok (.aload_n 0, 1) := by decide +kernel
theorem dX12_isHereOn_59 : decode cX12_isHereOn 59 = .ok (.getfield 81, 3) := by decide +kernel
theorem dX12_isHereOn_62 : decode cX12_isHereOn 62 = .ok (.iload_n 1, 1) := by decide +kernel
theorem dX12_isHereOn_63 : decode cX12_isHereOn 63 = .ok (.laload, 1) := by decide +kernel
theorem dX12_isHereOn_64 : decode cX12_isHereOn 64 = .ok (.invokevirtual 956, 3) := by decide +kernel
theorem dX12_isHereOn_67 : decode cX12_isHereOn 67 = .ok (.aload_n 0, 1) := by decide +kernel
theorem dX12_isHereOn_68 : decode cX12_isHereOn 68 = .ok (.aload_n 0, 1) := by decide +kernel
theorem dX12_isHereOn_69 : decode cX12_isHereOn 69 = .ok (.getfield 87, 3) := by decide +kernel
theorem dX12_isHereOn_72 : decode cX12_isHereOn 72 = .ok (.iload_n 1, 1) := by decide +kernel
theorem dX12_isHereOn_73 : decode cX12_isHereOn 73 = .ok (.laload, 1) := by decide +kernel
theorem dX12_isHereOn_74 : decode cX12_isHereOn 74 = .ok (.invokevirtual 956, 3) := by decide +kernel
theorem dX12_isHereOn_77 : decode cX12_isHereOn 77 = .ok (.imul, 1) := by decide +kernel
theorem dX12_isHereOn_78 : decode cX12_isHereOn 78 = .ok (.ifCond .gt 7, 3) := by decide +kernel
theorem dX12_isHereOn_81 : decode cX12_isHereOn 81 = .ok (.iconst 1, 1) := by decide +kernel
theorem dX12_isHereOn_82 : decode cX12_isHereOn 82 = .ok (.goto 4, 3) := by decide +kernel
theorem dX12_isHereOn_85 : decode cX12_isHereOn 85 = .ok (.iconst 0, 1) := by decide +kernel
theorem dX12_isHereOn_86 : decode cX12_isHereOn 86 = .ok (.ireturn, 1) := by decide +kernel
theorem dX12_isHere_0 : decode cX12_isHere 0 = .ok (.aload_n 0, 1) := by decide +kernel
theorem dX12_isHere_1 : decode cX12_isHere 1 = .ok (.aload_n 0, 1) := by decide +kernel
theorem dX12_isHere_2 : decode cX12_isHere 2 = .ok (.getfield 29, 3) := by decide +kernel
theorem dX12_isHere_5 : decode cX12_isHere 5 = .ok (.iload_n 1, 1) := by decide +kernel
theorem dX12_isHere_6 : decode cX12_isHere 6 = .ok (.iaload, 1) := by decide +kernel
theorem dX12_isHere_7 : decode cX12_isHere 7 = .ok (.i2l, 1) := by decide +kernel
theorem dX12_isHere_8 : decode cX12_isHere 8 = .ok (.invokevirtual 953, 3) := by decide +kernel
theorem dX12_isHere_11 : decode cX12_isHere 11 = .ok (.ifCond .ne 21, 3) := by decide +kernel
theorem dX12_isHere_14 : decode cX12_isHere 14 = .ok (.aload_n 0, 1) := by decide +kernel
theorem dX12_isHere_15 : decode cX12_isHere 15 = .ok (.aload_n 0, 1) := by decide +kernel
theorem dX12_isHere_16 : decode cX12_isHere 16 = .ok (.getfield 32, 3) := by decide +kernel
theorem dX12_isHere_19 : decode cX12_isHere 19 = .ok (.iload_n 1, 1) := by decide +kernel
theorem dX12_isHere_20 : decode cX12_isHere 20 = .ok (.iaload, 1) := by decide +kernel
theorem dX12_isHere_21 : decode cX12_isHere 21 = .ok (.i2l, 1) := by decide +kernel
theorem dX12_isHere_22 : decode cX12_isHere 22 = .ok (.invokevirtual 956, 3) := by decide +kernel
theorem dX12_isHere_25 : decode cX12_isHere 25 = .ok (.ifCond .ne 7, 3) := by decide +kernel
theorem dX12_isHere_28 : decode cX12_isHere 28 = .ok (.iconst 1, 1) := by decide +kernel
theorem dX12_isHere_29 : decode cX12_isHere 29 = .ok (.goto 4, 3) := by decide +kernel
theorem dX12_isHere_32 : decode cX12_isHere 32 = .ok (.iconst 0, 1) := by decide +kernel
theorem dX12_isHere_33 : decode cX12_isHere 33 = .ok (.ireturn, 1) := by decide +kernel
theorem dX12_isOnSegments_0 : decode cX12_isOnSegments 0 = .ok (.iconst 0, 1) := by decide +kernel
theorem dX12_isOnSegments_1 : decode cX12_isOnSegments 1 = .ok (.istore_n 2, 1) := by decide +kernel
theorem dX12_isOnSegments_2 : decode cX12_isOnSegments 2 = .ok (.iconst 0, 1) := by decide +kernel
theorem dX12_isOnSegments_3 : decode cX12_isOnSegments 3 = .ok (.istore_n 3, 1) := by decide +kernel
theorem dX12_isOnSegments_4 : decode cX12_isOnSegments 4 = .ok (.iload_n 3, 1) := by decide +kernel
theorem dX12_isOnSegments_5 : decode cX12_isOnSegments 5 = .ok (.aload_n 0, 1) := by decide +kernel
theorem dX12_isOnSegments_6 : decode cX12_isOnSegments 6 = .ok (.getfield 652, 3) := by decide +kernel
theorem dX12_isOnSegments_9 : decode cX12_isOnSegments 9 = .ok (.if_icmp .ge 37, 3) := by decide +kernel
theorem dX12_isOnSegments_12 : decode cX12_isOnSegments 12 = .ok (.iload_n 2, 1) := by decide +kernel
theorem dX12_isOnSegments_13 : decode cX12_isOnSegments 13 = .ok (.ifCond .ne 33, 3) := by decide +kernel
theorem dX12_isOnSegments_16 : decode cX12_isOnSegments 16 = .ok (.aload_n 0, 1) := by decide +kernel
theorem dX12_isOnSegments_17 : decode cX12_isOnSegments 17 = .ok (.getfield 96, 3) := by decide +kernel
theorem dX12_isOnSegments_20 : decode cX12_isOnSegments 20 = .ok (.iload_n 3, 1) := by decide +kernel
theorem dX12_isOnSegments_21 : decode cX12_isOnSegments 21 = .ok (.iaload, 1) := by decide +kernel
theorem dX12_isOnSegments_22 : decode cX12_isOnSegments 22 = .ok (.iload_n 1, 1) := by decide +kernel
theorem dX12_isOnSegments_23 : decode cX12_isOnSegments 23 = .ok (.if_icmp .ne 15, 3) := by decide +kernel
theorem dX12_isOnSegments_26 : decode cX12_isOnSegments 26 = .ok (.aload_n 0, 1) := by decide +kernel
theorem dX12_isOnSegments_27 : decode cX12_isOnSegments 27 = .ok (.iload_n 3, 1) := by decide +kernel
theorem dX12_isOnSegments_28 : decode cX12_isOnSegments 28 = .ok (.invokevirtual 959, 3) := by decide +kernel
theorem dX12_isOnSegments_31 : decode cX12_isOnSegments 31 = .ok (.ifCond .eq 7, 3) := by decide +kernel
theorem dX12_isOnSegments_34 : decode cX12_isOnSegments 34 = .ok (.iconst 1, 1) := by decide +kernel
theorem dX12_isOnSegments_35 : decode cX12_isOnSegments 35 = .ok (.goto 4, 3) := by decide +kernel
theorem dX12_isOnSegments_38 : decode cX12_isOnSegments 38 = .ok (.iconst 0, 1) := by decide +kernel
theorem dX12_isOnSegments_39 : decode cX12_isOnSegments 39 = .ok (.istore_n 2, 1) := by decide +kernel
theorem dX12_isOnSegments_40 : decode cX12_isOnSegments 40 = .ok (.iinc 3 1, 3) := by decide +kernel
theorem dX12_isOnSegments_43 : decode cX12_isOnSegments 43 = .ok (.goto (-39), 3) := by decide +kernel
theorem dX12_isOnSegments_46 : decode cX12_isOnSegments 46 = .ok (.iload_n 2, 1) := by decide +kernel
theorem dX12_isOnSegments_47 : decode cX12_isOnSegments 47 = .ok (.ireturn, 1) := by decide +kernel
theorem dX12_isAbove_0 : decode cX12_isAbove 0 = .ok (.aload_n 0, 1) := by decide +kernel
theorem dX12_isAbove_1 : decode cX12_isAbove 1 = .ok (.lload_n 1, 1) := by decide +kernel
theorem dX12_isAbove_2 : decode cX12_isAbove 2 = .ok (.invokevirtual 956, 3) := by decide +kernel
theorem dX12_isAbove_5 : decode cX12_isAbove 5 = .ok (.istore_n 3, 1) := by decide +kernel
theorem dX12_isAbove_6 : decode cX12_isAbove 6 = .ok (.iload_n 3, 1) := by decide +kernel
theorem dX12_isAbove_7 : decode cX12_isAbove 7 = .ok (.ifCond .lt 16, 3) := by decide +kernel
theorem dX12_isAbove_10 : decode cX12_isAbove 10 = .ok (.iload_n 3, 1) := by decide +kernel
theorem dX12_isAbove_11 : decode cX12_isAbove 11 = .ok (.ifCond .ne 16, 3) := by decide +kernel
theorem dX12_isAbove_14 : decode cX12_isAbove 14 = .ok (.aload_n 0, 1) := by decide +kernel
theorem dX12_isAbove_15 : decode cX12_isAbove 15 = .ok (.getfield 962, 3) := by decide +kernel
theorem dX12_isAbove_18 : decode cX12_isAbove 18 = .ok (.lconst 0, 1) := by decide +kernel
theorem dX12_isAbove_19 : decode cX12_isAbove 19 = .ok (.lcmp, 1) := by decide +kernel
theorem dX12_isAbove_20 : decode cX12_isAbove 20 = .ok (.ifCond .ge 7, 3) := by decide +kernel
theorem dX12_isAbove_23 : decode cX12_isAbove 23 = .ok (.iconst 1, 1) := by decide +kernel
theorem dX12_isAbove_24 : decode cX12_isAbove 24 = .ok (.goto 4, 3) := by decide +kernel
theorem dX12_isAbove_27 : decode cX12_isAbove 27 = .ok (.iconst 0, 1) := by decide +kernel
theorem dX12_isAbove_28 : decode cX12_isAbove 28 = .ok (.ireturn, 1) := by decide +kernel
theorem dX12_isOdd_0 : decode cX12_isOdd 0 = .ok (.iconst 0, 1) := by decide +kernel
theorem dX12_isOdd_1 : decode cX12_isOdd 1 = .ok (.istore_n 2, 1) := by decide +kernel
theorem dX12_isOdd_2 : decode cX12_isOdd 2 = .ok (.iconst 0, 1) := by decide +kernel
theorem dX12_isOdd_3 : decode cX12_isOdd 3 = .ok (.istore_n 3, 1) := by decide +kernel
theorem dX12_isOdd_4 : decode cX12_isOdd 4 = .ok (.iload_n 3, 1) := by decide +kernel
theorem dX12_isOdd_5 : decode cX12_isOdd 5 = .ok (.aload_n 0, 1) := by decide +kernel
theorem dX12_isOdd_6 : decode cX12_isOdd 6 = .ok (.getfield 652, 3) := by decide +kernel
theorem dX12_isOdd_9 : decode cX12_isOdd 9 = .ok (.if_icmp .ge 209, 3) := by decide +kernel
theorem dX12_isOdd_12 : decode cX12_isOdd 12 = .ok (.aload_n 0, 1) := by decide +kernel
theorem dX12_isOdd_13 : decode cX12_isOdd 13 = .ok (.getfield 96, 3) := by decide +kernel
theorem dX12_isOdd_16 : decode cX12_isOdd 16 = .ok (.iload_n 3, 1) := by decide +kernel
theorem dX12_isOdd_17 : decode cX12_isOdd 17 = .ok (.iaload, 1) := by decide +kernel
theorem dX12_isOdd_18 : decode cX12_isOdd 18 = .ok (.iload_n 1, 1) := by decide +kernel
theorem dX12_isOdd_19 : decode cX12_isOdd 19 = .ok (.if_icmp .eq 6, 3) := by decide +kernel
theorem dX12_isOdd_22 : decode cX12_isOdd 22 = .ok (.goto 190, 3) := by decide +kernel
theorem dX12_isOdd_25 : decode cX12_isOdd 25 = .ok (.aload_n 0, 1) := by decide +kernel
theorem dX12_isOdd_26 : decode cX12_isOdd 26 = .ok (.aload_n 0, 1) := by decide +kernel
theorem dX12_isOdd_27 : decode cX12_isOdd 27 = .ok (.getfield 81, 3) := by decide +kernel
theorem dX12_isOdd_30 : decode cX12_isOdd 30 = .ok (.iload_n 3, 1) := by decide +kernel
theorem dX12_isOdd_31 : decode cX12_isOdd 31 = .ok (.laload, 1) := by decide +kernel
theorem dX12_isOdd_32 : decode cX12_isOdd 32 = .ok (.invokevirtual 965, 3) := by decide +kernel
theorem dX12_isOdd_35 : decode cX12_isOdd 35 = .ok (.istore 4, 2) := by decide +kernel
theorem dX12_isOdd_37 : decode cX12_isOdd 37 = .ok (.iload 4, 2) := by decide +kernel
theorem dX12_isOdd_39 : decode cX12_isOdd 39 = .ok (.aload_n 0, 1) := by decide +kernel
theorem dX12_isOdd_40 : decode cX12_isOdd 40 = .ok (.aload_n 0, 1) := by decide +kernel
theorem dX12_isOdd_41 : decode cX12_isOdd 41 = .ok (.getfield 87, 3) := by decide +kernel
theorem dX12_isOdd_44 : decode cX12_isOdd 44 = .ok (.iload_n 3, 1) := by decide +kernel
theorem dX12_isOdd_45 : decode cX12_isOdd 45 = .ok (.laload, 1) := by decide +kernel
theorem dX12_isOdd_46 : decode cX12_isOdd 46 = .ok (.invokevirtual 965, 3) := by decide +kernel
theorem dX12_isOdd_49 : decode cX12_isOdd 49 = .ok (.if_icmp .ne 6, 3) := by decide +kernel
theorem dX12_isOdd_52 : decode cX12_isOdd 52 = .ok (.goto 160, 3) := by decide +kernel
theorem dX12_isOdd_55 : decode cX12_isOdd 55 = .ok (.iload 4, 2) := by decide +kernel
theorem dX12_isOdd_57 : decode cX12_isOdd 57 = .ok (.ifCond .eq 12, 3) := by decide +kernel
theorem dX12_isOdd_60 : decode cX12_isOdd 60 = .ok (.aload_n 0, 1) := by decide +kernel
theorem dX12_isOdd_61 : decode cX12_isOdd 61 = .ok (.getfield 84, 3) := by decide +kernel
theorem dX12_isOdd_64 : decode cX12_isOdd 64 = .ok (.iload_n 3, 1) := by decide +kernel
theorem dX12_isOdd_65 : decode cX12_isOdd 65 = .ok (.laload, 1) := by decide +kernel
theorem dX12_isOdd_66 : decode cX12_isOdd 66 = .ok (.goto 9, 3) := by decide +kernel
theorem dX12_isOdd_69 : decode cX12_isOdd 69 = .ok (.aload_n 0, 1) := by decide +kernel
theorem dX12_isOdd_70 : decode cX12_isOdd 70 = .ok (.getfield 78, 3) := by decide +kernel
theorem dX12_isOdd_73 : decode cX12_isOdd 73 = .ok (.iload_n 3, 1) := by decide +kernel
theorem dX12_isOdd_74 : decode cX12_isOdd 74 = .ok (.laload, 1) := by decide +kernel
theorem dX12_isOdd_75 : decode cX12_isOdd 75 = .ok (.lstore 5, 2) := by decide +kernel
theorem dX12_isOdd_77 : decode cX12_isOdd 77 = .ok (.iload 4, 2) := by decide +kernel
theorem dX12_isOdd_79 : decode cX12_isOdd 79 = .ok (.ifCond .eq 12, 3) := by decide +kernel
theorem dX12_isOdd_82 : decode cX12_isOdd 82 = .ok (.aload_n 0, 1) := by decide +kernel
theorem dX12_isOdd_83 : decode cX12_isOdd 83 = .ok (.getfield 87, 3) := by decide +kernel
theorem dX12_isOdd_86 : decode cX12_isOdd 86 = .ok (.iload_n 3, 1) := by decide +kernel
theorem dX12_isOdd_87 : decode cX12_isOdd 87 = .ok (.laload, 1) := by decide +kernel
theorem dX12_isOdd_88 : decode cX12_isOdd 88 = .ok (.goto 9, 3) := by decide +kernel
theorem dX12_isOdd_91 : decode cX12_isOdd 91 = .ok (.aload_n 0, 1) := by decide +kernel
theorem dX12_isOdd_92 : decode cX12_isOdd 92 = .ok (.getfield 81, 3) := by decide +kernel
theorem dX12_isOdd_95 : decode cX12_isOdd 95 = .ok (.iload_n 3, 1) := by decide +kernel
theorem dX12_isOdd_96 : decode cX12_isOdd 96 = .ok (.laload, 1) := by decide +kernel
theorem dX12_isOdd_97 : decode cX12_isOdd 97 = .ok (.lstore 7, 2) := by decide +kernel
theorem dX12_isOdd_99 : decode cX12_isOdd 99 = .ok (.iload 4, 2) := by decide +kernel
theorem dX12_isOdd_101 : decode cX12_isOdd 101 = .ok (.ifCond .eq 12, 3) := by decide +kernel
theorem dX12_isOdd_104 : decode cX12_isOdd 104 = .ok (.aload_n 0, 1) := by decide +kernel
theorem dX12_isOdd_105 : decode cX12_isOdd 105 = .ok (.getfield 78, 3) := by decide +kernel
theorem dX12_isOdd_108 : decode cX12_isOdd 108 = .ok (.iload_n 3, 1) := by decide +kernel
theorem dX12_isOdd_109 : decode cX12_isOdd 109 = .ok (.laload, 1) := by decide +kernel
theorem dX12_isOdd_110 : decode cX12_isOdd 110 = .ok (.goto 9, 3) := by decide +kernel
theorem dX12_isOdd_113 : decode cX12_isOdd 113 = .ok (.aload_n 0, 1) := by decide +kernel
theorem dX12_isOdd_114 : decode cX12_isOdd 114 = .ok (.getfield 84, 3) := by decide +kernel
theorem dX12_isOdd_117 : decode cX12_isOdd 117 = .ok (.iload_n 3, 1) := by decide +kernel
theorem dX12_isOdd_118 : decode cX12_isOdd 118 = .ok (.laload, 1) := by decide +kernel
theorem dX12_isOdd_119 : decode cX12_isOdd 119 = .ok (.lstore 9, 2) := by decide +kernel
theorem dX12_isOdd_121 : decode cX12_isOdd 121 = .ok (.iload 4, 2) := by decide +kernel
theorem dX12_isOdd_123 : decode cX12_isOdd 123 = .ok (.ifCond .eq 12, 3) := by decide +kernel
theorem dX12_isOdd_126 : decode cX12_isOdd 126 = .ok (.aload_n 0, 1) := by decide +kernel
theorem dX12_isOdd_127 : decode cX12_isOdd 127 = .ok (.getfield 81, 3) := by decide +kernel
theorem dX12_isOdd_130 : decode cX12_isOdd 130 = .ok (.iload_n 3, 1) := by decide +kernel
theorem dX12_isOdd_131 : decode cX12_isOdd 131 = .ok (.laload, 1) := by decide +kernel
theorem dX12_isOdd_132 : decode cX12_isOdd 132 = .ok (.goto 9, 3) := by decide +kernel
theorem dX12_isOdd_135 : decode cX12_isOdd 135 = .ok (.aload_n 0, 1) := by decide +kernel
theorem dX12_isOdd_136 : decode cX12_isOdd 136 = .ok (.getfield 87, 3) := by decide +kernel
theorem dX12_isOdd_139 : decode cX12_isOdd 139 = .ok (.iload_n 3, 1) := by decide +kernel
theorem dX12_isOdd_140 : decode cX12_isOdd 140 = .ok (.laload, 1) := by decide +kernel
theorem dX12_isOdd_141 : decode cX12_isOdd 141 = .ok (.lstore 11, 2) := by decide +kernel
theorem dX12_isOdd_143 : decode cX12_isOdd 143 = .ok (.aload_n 0, 1) := by decide +kernel
theorem dX12_isOdd_144 : decode cX12_isOdd 144 = .ok (.lload 5, 2) := by decide +kernel
theorem dX12_isOdd_146 : decode cX12_isOdd 146 = .ok (.lload 7, 2) := by decide +kernel
theorem dX12_isOdd_148 : decode cX12_isOdd 148 = .ok (.lload 9, 2) := by decide +kernel
theorem dX12_isOdd_150 : decode cX12_isOdd 150 = .ok (.lload 11, 2) := by decide +kernel
theorem dX12_isOdd_152 : decode cX12_isOdd 152 = .ok (.invokevirtual 949, 3) := by decide +kernel
theorem dX12_isOdd_155 : decode cX12_isOdd 155 = .ok (.istore 13, 2) := by decide +kernel
theorem dX12_isOdd_157 : decode cX12_isOdd 157 = .ok (.iload 13, 2) := by decide +kernel
theorem dX12_isOdd_159 : decode cX12_isOdd 159 = .ok (.ifCond .ne 30, 3) := by decide +kernel
theorem dX12_isOdd_162 : decode cX12_isOdd 162 = .ok (.lload 9, 2) := by decide +kernel
theorem dX12_isOdd_164 : decode cX12_isOdd 164 = .ok (.lload 5, 2) := by decide +kernel
theorem dX12_isOdd_166 : decode cX12_isOdd 166 = .ok (.lsub, 1) := by decide +kernel
theorem dX12_isOdd_167 : decode cX12_isOdd 167 = .ok (.lload 11, 2) := by decide +kernel
theorem dX12_isOdd_169 : decode cX12_isOdd 169 = .ok (.lload 7, 2) := by decide +kernel
theorem dX12_isOdd_171 : decode cX12_isOdd 171 = .ok (.lsub, 1) := by decide +kernel
theorem dX12_isOdd_172 : decode cX12_isOdd 172 = .ok (.aload_n 0, 1) := by decide +kernel
theorem dX12_isOdd_173 : decode cX12_isOdd 173 = .ok (.getfield 968, 3) := by decide +kernel
theorem dX12_isOdd_176 : decode cX12_isOdd 176 = .ok (.aload_n 0, 1) := by decide +kernel
theorem dX12_isOdd_177 : decode cX12_isOdd 177 = .ok (.getfield 962, 3) := by decide +kernel
theorem dX12_isOdd_180 : decode cX12_isOdd 180 = .ok (.invokestatic 644, 3) := by decide +kernel
theorem dX12_isOdd_183 : decode cX12_isOdd 183 = .ok (.invokestatic 648, 3) := by decide +kernel
theorem dX12_isOdd_186 : decode cX12_isOdd 186 = .ok (.goto 5, 3) := by decide +kernel
theorem dX12_isOdd_189 : decode cX12_isOdd 189 = .ok (.iload 13, 2) := by decide +kernel
theorem dX12_isOdd_191 : decode cX12_isOdd 191 = .ok (.istore 13, 2) := by decide +kernel
theorem dX12_isOdd_193 : decode cX12_isOdd 193 = .ok (.iload 13, 2) := by decide +kernel
theorem dX12_isOdd_195 : decode cX12_isOdd 195 = .ok (.ifCond .le 15, 3) := by decide +kernel
theorem dX12_isOdd_198 : decode cX12_isOdd 198 = .ok (.iload_n 2, 1) := by decide +kernel
theorem dX12_isOdd_199 : decode cX12_isOdd 199 = .ok (.ifCond .ne 7, 3) := by decide +kernel
theorem dX12_isOdd_202 : decode cX12_isOdd 202 = .ok (.iconst 1, 1) := by decide +kernel
theorem dX12_isOdd_203 : decode cX12_isOdd 203 = .ok (.goto 8, 3) := by decide +kernel
theorem dX12_isOdd_206 : decode cX12_isOdd 206 = .ok (.iconst 0, 1) := by decide +kernel
theorem dX12_isOdd_207 : decode cX12_isOdd 207 = .ok (.goto 4, 3) := by decide +kernel
theorem dX12_isOdd_210 : decode cX12_isOdd 210 = .ok (.iload_n 2, 1) := by decide +kernel
theorem dX12_isOdd_211 : decode cX12_isOdd 211 = .ok (.istore_n 2, 1) := by decide +kernel
theorem dX12_isOdd_212 : decode cX12_isOdd 212 = .ok (.iinc 3 1, 3) := by decide +kernel
theorem dX12_isOdd_215 : decode cX12_isOdd 215 = .ok (.goto (-211), 3) := by decide +kernel
theorem dX12_isOdd_218 : decode cX12_isOdd 218 = .ok (.iload_n 2, 1) := by decide +kernel
theorem dX12_isOdd_219 : decode cX12_isOdd 219 = .ok (.ireturn, 1) := by decide +kernel
theorem dX12_where_0 : decode cX12_where 0 = .ok (.aload_n 0, 1) := by decide +kernel
theorem dX12_where_1 : decode cX12_where 1 = .ok (.lconst 0, 1) := by decide +kernel
theorem dX12_where_2 : decode cX12_where 2 = .ok (.putfield 968, 3) := by decide +kernel
theorem dX12_where_5 : decode cX12_where 5 = .ok (.aload_n 0, 1) := by decide +kernel
theorem dX12_where_6 : decode cX12_where 6 = .ok (.lconst 0, 1) := by decide +kernel
theorem dX12_where_7 : decode cX12_where 7 = .ok (.putfield 962, 3) := by decide +kernel
theorem dX12_where_10 : decode cX12_where 10 = .ok (.aload_n 0, 1) := by decide +kernel
theorem dX12_where_11 : decode cX12_where 11 = .ok (.getfield 191, 3) := by decide +kernel
theorem dX12_where_14 : decode cX12_where 14 = .ok (.iload_n 1, 1) := by decide +kernel
theorem dX12_where_15 : decode cX12_where 15 = .ok (.iaload, 1) := by decide +kernel
theorem dX12_where_16 : decode cX12_where 16 = .ok (.istore_n 3, 1) := by decide +kernel
theorem dX12_where_17 : decode cX12_where 17 = .ok (.iconst 0, 1) := by decide +kernel
theorem dX12_where_18 : decode cX12_where 18 = .ok (.istore 4, 2) := by decide +kernel
theorem dX12_where_20 : decode cX12_where 20 = .ok (.aload_n 0, 1) := by decide +kernel
theorem dX12_where_21 : decode cX12_where 21 = .ok (.getfield 194, 3) := by decide +kernel
theorem dX12_where_24 : decode cX12_where 24 = .ok (.iload_n 1, 1) := by decide +kernel
theorem dX12_where_25 : decode cX12_where 25 = .ok (.iaload, 1) := by decide +kernel
theorem dX12_where_26 : decode cX12_where 26 = .ok (.ifCond .ne 61, 3) := by decide +kernel
theorem dX12_where_29 : decode cX12_where 29 = .ok (.sipush 2048, 3) := by decide +kernel
theorem dX12_where_32 : decode cX12_where 32 = .ok (.iload_n 3, 1) := by decide +kernel
theorem dX12_where_33 : decode cX12_where 33 = .ok (.imul, 1) := by decide +kernel
theorem dX12_where_34 : decode cX12_where 34 = .ok (.istore 5, 2) := by decide +kernel
theorem dX12_where_36 : decode cX12_where 36 = .ok (.iload_n 2, 1) := by decide +kernel
theorem dX12_where_37 : decode cX12_where 37 = .ok (.ifCond .ne 39, 3) := by decide +kernel
theorem dX12_where_40 : decode cX12_where 40 = .ok (.iload 4, 2) := by decide +kernel
theorem dX12_where_42 : decode cX12_where 42 = .ok (.ifCond .ne 34, 3) := by decide +kernel
theorem dX12_where_45 : decode cX12_where 45 = .ok (.iload 5, 2) := by decide +kernel
theorem dX12_where_47 : decode cX12_where 47 = .ok (.sipush 2048, 3) := by decide +kernel
theorem dX12_where_50 : decode cX12_where 50 = .ok (.iload_n 3, 1) := by decide +kernel
theorem dX12_where_51 : decode cX12_where 51 = .ok (.imul, 1) := by decide +kernel
theorem dX12_where_52 : decode cX12_where 52 = .ok (.aload_n 0, 1) := by decide +kernel
theorem dX12_where_53 : decode cX12_where 53 = .ok (.getfield 26, 3) := by decide +kernel
theorem dX12_where_56 : decode cX12_where 56 = .ok (.iload_n 3, 1) := by decide +kernel
theorem dX12_where_57 : decode cX12_where 57 = .ok (.iaload, 1) := by decide +kernel
theorem dX12_where_58 : decode cX12_where 58 = .ok (.iadd, 1) := by decide +kernel
theorem dX12_where_59 : decode cX12_where 59 = .ok (.if_icmp .ge 17, 3) := by decide +kernel
theorem dX12_where_62 : decode cX12_where 62 = .ok (.aload_n 0, 1) := by decide +kernel
theorem dX12_where_63 : decode cX12_where 63 = .ok (.iload 5, 2) := by decide +kernel
theorem dX12_where_65 : decode cX12_where 65 = .ok (.invokevirtual 971, 3) := by decide +kernel
theorem dX12_where_68 : decode cX12_where 68 = .ok (.istore 4, 2) := by decide +kernel
theorem dX12_where_70 : decode cX12_where 70 = .ok (.iinc 5 1, 3) := by decide +kernel
theorem dX12_where_73 : decode cX12_where 73 = .ok (.goto (-37), 3) := by decide +kernel
theorem dX12_where_76 : decode cX12_where 76 = .ok (.iload 4, 2) := by decide +kernel
theorem dX12_where_78 : decode cX12_where 78 = .ok (.ifCond .eq 7, 3) := by decide +kernel
theorem dX12_where_81 : decode cX12_where 81 = .ok (.iconst 0, 1) := by decide +kernel
theorem dX12_where_82 : decode cX12_where 82 = .ok (.goto 4, 3) := by decide +kernel
theorem dX12_where_85 : decode cX12_where 85 = .ok (.iconst 2, 1) := by decide +kernel
theorem dX12_where_86 : decode cX12_where 86 = .ok (.ireturn, 1) := by decide +kernel
theorem dX12_where_87 : decode cX12_where 87 = .ok (.aload_n 0, 1) := by decide +kernel
theorem dX12_where_88 : decode cX12_where 88 = .ok (.getfield 194, 3) := by decide +kernel
theorem dX12_where_91 : decode cX12_where 91 = .ok (.iload_n 1, 1) := by decide +kernel
theorem dX12_where_92 : decode cX12_where 92 = .ok (.iaload, 1) := by decide +kernel
theorem dX12_where_93 : decode cX12_where 93 = .ok (.iconst 1, 1) := by decide +kernel
theorem dX12_where_94 : decode cX12_where 94 = .ok (.if_icmp .ne 81, 3) := by decide +kernel
theorem dX12_where_97 : decode cX12_where 97 = .ok (.iconst 0, 1) := by decide +kernel
theorem dX12_where_98 : decode cX12_where 98 = .ok (.istore 5, 2) := by decide +kernel
theorem dX12_where_100 : decode cX12_where 100 = .ok (.iload 5, 2) := by decide +kernel
theorem dX12_where_102 : decode cX12_where 102 = .ok (.aload_n 0, 1) := by decide +kernel
theorem dX12_where_103 : decode cX12_where 103 = .ok (.getfield 209, 3) := by decide +kernel
theorem dX12_where_106 : decode cX12_where 106 = .ok (.iload_n 1, 1) := by decide +kernel
theorem dX12_where_107 : decode cX12_where 107 = .ok (.iaload, 1) := by decide +kernel
theorem dX12_where_108 : decode cX12_where 108 = .ok (.if_icmp .ge 46, 3) := by decide +kernel
theorem dX12_where_111 : decode cX12_where 111 = .ok (.aload_n 0, 1) := by decide +kernel
theorem dX12_where_112 : decode cX12_where 112 = .ok (.aload_n 0, 1) := by decide +kernel
theorem dX12_where_113 : decode cX12_where 113 = .ok (.getfield 206, 3) := by decide +kernel
theorem dX12_where_116 : decode cX12_where 116 = .ok (.sipush 2100, 3) := by decide +kernel
theorem dX12_where_119 : decode cX12_where 119 = .ok (.iload_n 1, 1) := by decide +kernel
theorem dX12_where_120 : decode cX12_where 120 = .ok (.imul, 1) := by decide +kernel
theorem dX12_where_121 : decode cX12_where 121 = .ok (.iload 5, 2) := by decide +kernel
theorem dX12_where_123 : decode cX12_where 123 = .ok (.iadd, 1) := by decide +kernel
theorem dX12_where_124 : decode cX12_where 124 = .ok (.iaload, 1) := by decide +kernel
theorem dX12_where_125 : decode cX12_where 125 = .ok (.invokevirtual 971, 3) := by decide +kernel
theorem dX12_where_128 : decode cX12_where 128 = .ok (.ifCond .eq 16, 3) := by decide +kernel
theorem dX12_where_131 : decode cX12_where 131 = .ok (.iload 4, 2) := by decide +kernel
theorem dX12_where_133 : decode cX12_where 133 = .ok (.ifCond .ne 7, 3) := by decide +kernel
theorem dX12_where_136 : decode cX12_where 136 = .ok (.iconst 1, 1) := by decide +kernel
theorem dX12_where_137 : decode cX12_where 137 = .ok (.goto 9, 3) := by decide +kernel
theorem dX12_where_140 : decode cX12_where 140 = .ok (.iconst 0, 1) := by decide +kernel
theorem dX12_where_141 : decode cX12_where 141 = .ok (.goto 5, 3) := by decide +kernel
theorem dX12_where_144 : decode cX12_where 144 = .ok (.iload 4, 2) := by decide +kernel
theorem dX12_where_146 : decode cX12_where 146 = .ok (.istore 4, 2) := by decide +kernel
theorem dX12_where_148 : decode cX12_where 148 = .ok (.iinc 5 1, 3) := by decide +kernel
theorem dX12_where_151 : decode cX12_where 151 = .ok (.goto (-51), 3) := by decide +kernel
theorem dX12_where_154 : decode cX12_where 154 = .ok (.iload 4, 2) := by decide +kernel
theorem dX12_where_156 : decode cX12_where 156 = .ok (.ifCond .eq 5, 3) := by decide +kernel
theorem dX12_where_159 : decode cX12_where 159 = .ok (.iconst 1, 1) := by decide +kernel
theorem dX12_where_160 : decode cX12_where 160 = .ok (.ireturn, 1) := by decide +kernel
theorem dX12_where_161 : decode cX12_where 161 = .ok (.aload_n 0, 1) := by decide +kernel
theorem dX12_where_162 : decode cX12_where 162 = .ok (.iload_n 1, 1) := by decide +kernel
theorem dX12_where_163 : decode cX12_where 163 = .ok (.invokevirtual 974, 3) := by decide +kernel
theorem dX12_where_166 : decode cX12_where 166 = .ok (.ifCond .eq 7, 3) := by decide +kernel
theorem dX12_where_169 : decode cX12_where 169 = .ok (.iconst 0, 1) := by decide +kernel
theorem dX12_where_170 : decode cX12_where 170 = .ok (.goto 4, 3) := by decide +kernel
theorem dX12_where_173 : decode cX12_where 173 = .ok (.iconst 2, 1) := by decide +kernel
theorem dX12_where_174 : decode cX12_where 174 = .ok (.ireturn, 1) := by decide +kernel
theorem dX12_where_175 : decode cX12_where 175 = .ok (.aload_n 0, 1) := by decide +kernel
theorem dX12_where_176 : decode cX12_where 176 = .ok (.iload_n 1, 1) := by decide +kernel
theorem dX12_where_177 : decode cX12_where 177 = .ok (.invokevirtual 974, 3) := by decide +kernel
theorem dX12_where_180 : decode cX12_where 180 = .ok (.ifCond .eq 5, 3) := by decide +kernel
theorem dX12_where_183 : decode cX12_where 183 = .ok (.iconst 1, 1) := by decide +kernel
theorem dX12_where_184 : decode cX12_where 184 = .ok (.ireturn, 1) := by decide +kernel
theorem dX12_where_185 : decode cX12_where 185 = .ok (.aload_n 0, 1) := by decide +kernel
theorem dX12_where_186 : decode cX12_where 186 = .ok (.iload_n 1, 1) := by decide +kernel
theorem dX12_where_187 : decode cX12_where 187 = .ok (.invokevirtual 977, 3) := by decide +kernel
theorem dX12_where_190 : decode cX12_where 190 = .ok (.ifCond .eq 7, 3) := by decide +kernel
theorem dX12_where_193 : decode cX12_where 193 = .ok (.iconst 0, 1) := by decide +kernel
theorem dX12_where_194 : decode cX12_where 194 = .ok (.goto 4, 3) := by decide +kernel
theorem dX12_where_197 : decode cX12_where 197 = .ok (.iconst 2, 1) := by decide +kernel
theorem dX12_where_198 : decode cX12_where 198 = .ok (.ireturn, 1) := by decide +kernel
theorem dX12_beside_0 : decode cX12_beside 0 = .ok (.aload_n 0, 1) := by decide +kernel
theorem dX12_beside_1 : decode cX12_beside 1 = .ok (.getfield 194, 3) := by decide +kernel
theorem dX12_beside_4 : decode cX12_beside 4 = .ok (.iload_n 1, 1) := by decide +kernel
theorem dX12_beside_5 : decode cX12_beside 5 = .ok (.iaload, 1) := by decide +kernel
theorem dX12_beside_6 : decode cX12_beside 6 = .ok (.iconst 2, 1) := by decide +kernel
theorem dX12_beside_7 : decode cX12_beside 7 = .ok (.if_icmp .ge 5, 3) := by decide +kernel
theorem dX12_beside_10 : decode cX12_beside 10 = .ok (.iconst 2, 1) := by decide +kernel
theorem dX12_beside_11 : decode cX12_beside 11 = .ok (.ireturn, 1) := by decide +kernel
theorem dX12_beside_12 : decode cX12_beside 12 = .ok (.iload_n 2, 1) := by decide +kernel
theorem dX12_beside_13 : decode cX12_beside 13 = .ok (.iconst 1, 1) := by decide +kernel
theorem dX12_beside_14 : decode cX12_beside 14 = .ok (.if_icmp .ne 19, 3) := by decide +kernel
theorem dX12_beside_17 : decode cX12_beside 17 = .ok (.aload_n 0, 1) := by decide +kernel
theorem dX12_beside_18 : decode cX12_beside 18 = .ok (.iload_n 1, 1) := by decide +kernel
theorem dX12_beside_19 : decode cX12_beside 19 = .ok (.invokevirtual 977, 3) := by decide +kernel
theorem dX12_beside_22 : decode cX12_beside 22 = .ok (.ifCond .eq 7, 3) := by decide +kernel
theorem dX12_beside_25 : decode cX12_beside 25 = .ok (.iconst 0, 1) := by decide +kernel
theorem dX12_beside_26 : decode cX12_beside 26 = .ok (.goto 8, 3) := by decide +kernel
theorem dX12_beside_29 : decode cX12_beside 29 = .ok (.iconst 2, 1) := by decide +kernel
theorem dX12_beside_30 : decode cX12_beside 30 = .ok (.goto 4, 3) := by decide +kernel
theorem dX12_beside_33 : decode cX12_beside 33 = .ok (.iload_n 2, 1) := by decide +kernel
theorem dX12_beside_34 : decode cX12_beside 34 = .ok (.istore_n 3, 1) := by decide +kernel
theorem dX12_beside_35 : decode cX12_beside 35 = .ok (.aload_n 0, 1) := by decide +kernel
theorem dX12_beside_36 : decode cX12_beside 36 = .ok (.getfield 203, 3) := by decide +kernel
theorem dX12_beside_39 : decode cX12_beside 39 = .ok (.iload_n 1, 1) := by decide +kernel
theorem dX12_beside_40 : decode cX12_beside 40 = .ok (.aload_n 0, 1) := by decide +kernel
theorem dX12_beside_41 : decode cX12_beside 41 = .ok (.getfield 203, 3) := by decide +kernel
theorem dX12_beside_44 : decode cX12_beside 44 = .ok (.iload_n 1, 1) := by decide +kernel
theorem dX12_beside_45 : decode cX12_beside 45 = .ok (.baload, 1) := by decide +kernel
theorem dX12_beside_46 : decode cX12_beside 46 = .ok (.ifCond .ne 7, 3) := by decide +kernel
theorem dX12_beside_49 : decode cX12_beside 49 = .ok (.iload_n 3, 1) := by decide +kernel
theorem dX12_beside_50 : decode cX12_beside 50 = .ok (.ifCond .ne 7, 3) := by decide +kernel
theorem dX12_beside_53 : decode cX12_beside 53 = .ok (.iconst 1, 1) := by decide +kernel
theorem dX12_beside_54 : decode cX12_beside 54 = .ok (.goto 4, 3) := by decide +kernel
theorem dX12_beside_57 : decode cX12_beside 57 = .ok (.iconst 0, 1) := by decide +kernel
theorem dX12_beside_58 : decode cX12_beside 58 = .ok (.bastore, 1) := by decide +kernel
theorem dX12_beside_59 : decode cX12_beside 59 = .ok (.iload_n 3, 1) := by decide +kernel
theorem dX12_beside_60 : decode cX12_beside 60 = .ok (.ireturn, 1) := by decide +kernel
theorem dX12_mark_0 : decode cX12_mark 0 = .ok (.iconst 3, 1) := by decide +kernel
theorem dX12_mark_1 : decode cX12_mark 1 = .ok (.iload_n 1, 1) := by decide +kernel
theorem dX12_mark_2 : decode cX12_mark 2 = .ok (.imul, 1) := by decide +kernel
theorem dX12_mark_3 : decode cX12_mark 3 = .ok (.iload_n 2, 1) := by decide +kernel
theorem dX12_mark_4 : decode cX12_mark 4 = .ok (.iadd, 1) := by decide +kernel
theorem dX12_mark_5 : decode cX12_mark 5 = .ok (.istore 4, 2) := by decide +kernel
theorem dX12_mark_7 : decode cX12_mark 7 = .ok (.aload_n 0, 1) := by decide +kernel
theorem dX12_mark_8 : decode cX12_mark 8 = .ok (.getfield 212, 3) := by decide +kernel
theorem dX12_mark_11 : decode cX12_mark 11 = .ok (.iload 4, 2) := by decide +kernel
theorem dX12_mark_13 : decode cX12_mark 13 = .ok (.aload_n 0, 1) := by decide +kernel
theorem dX12_mark_14 : decode cX12_mark 14 = .ok (.getfield 212, 3) := by decide +kernel
theorem dX12_mark_17 : decode cX12_mark 17 = .ok (.iload 4, 2) := by decide +kernel
theorem dX12_mark_19 : decode cX12_mark 19 = .ok (.iaload, 1) := by decide +kernel
theorem dX12_mark_20 : decode cX12_mark 20 = .ok (.iload_n 3, 1) := by decide +kernel
theorem dX12_mark_21 : decode cX12_mark 21 = .ok (.if_icmp .ge 7, 3) := by decide +kernel
theorem dX12_mark_24 : decode cX12_mark 24 = .ok (.iload_n 3, 1) := by decide +kernel
theorem dX12_mark_25 : decode cX12_mark 25 = .ok (.goto 10, 3) := by decide +kernel
theorem dX12_mark_28 : decode cX12_mark 28 = .ok (.aload_n 0, 1) := by decide +kernel
theorem dX12_mark_29 : decode cX12_mark 29 = .ok (.getfield 212, 3) := by decide +kernel
theorem dX12_mark_32 : decode cX12_mark 32 = .ok (.iload 4, 2) := by decide +kernel
theorem dX12_mark_34 : decode cX12_mark 34 = .ok (.iaload, 1) := by decide +kernel
theorem dX12_mark_35 : decode cX12_mark 35 = .ok (.iastore, 1) := by decide +kernel
theorem dX12_mark_36 : decode cX12_mark 36 = .ok (.return_, 1) := by decide +kernel
theorem dX12_wholePlace_0 : decode cX12_wholePlace 0 = .ok (.aload_n 0, 1) := by decide +kernel
theorem dX12_wholePlace_1 : decode cX12_wholePlace 1 = .ok (.lload_n 1, 1) := by decide +kernel
theorem dX12_wholePlace_2 : decode cX12_wholePlace 2 = .ok (.putfield 934, 3) := by decide +kernel
theorem dX12_wholePlace_5 : decode cX12_wholePlace 5 = .ok (.aload_n 0, 1) := by decide +kernel
theorem dX12_wholePlace_6 : decode cX12_wholePlace 6 = .ok (.lload_n 3, 1) := by decide +kernel
theorem dX12_wholePlace_7 : decode cX12_wholePlace 7 = .ok (.putfield 943, 3) := by decide +kernel
theorem dX12_wholePlace_10 : decode cX12_wholePlace 10 = .ok (.aload_n 0, 1) := by decide +kernel
theorem dX12_wholePlace_11 : decode cX12_wholePlace 11 = .ok (.lconst 0, 1) := by decide +kernel
theorem dX12_wholePlace_12 : decode cX12_wholePlace 12 = .ok (.putfield 937, 3) := by decide +kernel
theorem dX12_wholePlace_15 : decode cX12_wholePlace 15 = .ok (.aload_n 0, 1) := by decide +kernel
theorem dX12_wholePlace_16 : decode cX12_wholePlace 16 = .ok (.lconst 0, 1) := by decide +kernel
theorem dX12_wholePlace_17 : decode cX12_wholePlace 17 = .ok (.putfield 946, 3) := by decide +kernel
theorem dX12_wholePlace_20 : decode cX12_wholePlace 20 = .ok (.aload_n 0, 1) := by decide +kernel
theorem dX12_wholePlace_21 : decode cX12_wholePlace 21 = .ok (.iconst 0, 1) := by decide +kernel
theorem dX12_wholePlace_22 : decode cX12_wholePlace 22 = .ok (.lconst 0, 1) := by decide +kernel
theorem dX12_wholePlace_23 : decode cX12_wholePlace 23 = .ok (.invokevirtual 635, 3) := by decide +kernel
theorem dX12_wholePlace_26 : decode cX12_wholePlace 26 = .ok (.aload_n 0, 1) := by decide +kernel
theorem dX12_wholePlace_27 : decode cX12_wholePlace 27 = .ok (.iconst 1, 1) := by decide +kernel
theorem dX12_wholePlace_28 : decode cX12_wholePlace 28 = .ok (.lconst 1, 1) := by decide +kernel
theorem dX12_wholePlace_29 : decode cX12_wholePlace 29 = .ok (.invokevirtual 635, 3) := by decide +kernel
theorem dX12_wholePlace_32 : decode cX12_wholePlace 32 = .ok (.return_, 1) := by decide +kernel
theorem dX12_order_0 : decode cX12_order 0 = .ok (.lload_n 0, 1) := by decide +kernel
theorem dX12_order_1 : decode cX12_order 1 = .ok (.lstore 8, 2) := by decide +kernel
theorem dX12_order_3 : decode cX12_order 3 = .ok (.lload_n 2, 1) := by decide +kernel
theorem dX12_order_4 : decode cX12_order 4 = .ok (.lstore 10, 2) := by decide +kernel
theorem dX12_order_6 : decode cX12_order 6 = .ok (.lload 4, 2) := by decide +kernel
theorem dX12_order_8 : decode cX12_order 8 = .ok (.lstore 12, 2) := by decide +kernel
theorem dX12_order_10 : decode cX12_order 10 = .ok (.lload 6, 2) := by decide +kernel
theorem dX12_order_12 : decode cX12_order 12 = .ok (.lstore 14, 2) := by decide +kernel
theorem dX12_order_14 : decode cX12_order 14 = .ok (.iconst 1, 1) := by decide +kernel
theorem dX12_order_15 : decode cX12_order 15 = .ok (.istore 16, 2) := by decide +kernel
theorem dX12_order_17 : decode cX12_order 17 = .ok (.iconst 0, 1) := by decide +kernel
theorem dX12_order_18 : decode cX12_order 18 = .ok (.istore 17, 2) := by decide +kernel
theorem dX12_order_20 : decode cX12_order 20 = .ok (.iload 17, 2) := by decide +kernel
theorem dX12_order_22 : decode cX12_order 22 = .ok (.sipush 200, 3) := by decide +kernel
theorem dX12_order_25 : decode cX12_order 25 = .ok (.if_icmp .ge 125, 3) := by decide +kernel
theorem dX12_order_28 : decode cX12_order 28 = .ok (.lload 8, 2) := by decide +kernel
theorem dX12_order_30 : decode cX12_order 30 = .ok (.lload 10, 2) := by decide +kernel
theorem dX12_order_32 : decode cX12_order 32 = .ok (.ldiv, 1) := by decide +kernel
theorem dX12_order_33 : decode cX12_order 33 = .ok (.lstore 18, 2) := by decide +kernel
theorem dX12_order_35 : decode cX12_order 35 = .ok (.lload 12, 2) := by decide +kernel
theorem dX12_order_37 : decode cX12_order 37 = .ok (.lload 14, 2) := by decide +kernel
theorem dX12_order_39 : decode cX12_order 39 = .ok (.ldiv, 1) := by decide +kernel
theorem dX12_order_40 : decode cX12_order 40 = .ok (.lstore 20, 2) := by decide +kernel
theorem dX12_order_42 : decode cX12_order 42 = .ok (.lload 18, 2) := by decide +kernel
theorem dX12_order_44 : decode cX12_order 44 = .ok (.lload 20, 2) := by decide +kernel
theorem dX12_order_46 : decode cX12_order 46 = .ok (.lcmp, 1) := by decide +kernel
theorem dX12_order_47 : decode cX12_order 47 = .ok (.ifCond .eq 20, 3) := by decide +kernel
theorem dX12_order_50 : decode cX12_order 50 = .ok (.lload 18, 2) := by decide +kernel
theorem dX12_order_52 : decode cX12_order 52 = .ok (.lload 20, 2) := by decide +kernel
theorem dX12_order_54 : decode cX12_order 54 = .ok (.lcmp, 1) := by decide +kernel
theorem dX12_order_55 : decode cX12_order 55 = .ok (.ifCond .ge 9, 3) := by decide +kernel
theorem dX12_order_58 : decode cX12_order 58 = .ok (.iload 16, 2) := by decide +kernel
theorem dX12_order_60 : decode cX12_order 60 = .ok (.ineg, 1) := by decide +kernel
theorem dX12_order_61 : decode cX12_order 61 = .ok (.goto 5, 3) := by decide +kernel
theorem dX12_order_64 : decode cX12_order 64 = .ok (.iload 16, 2) := by decide +kernel
theorem dX12_order_66 : decode cX12_order 66 = .ok (.ireturn, 1) := by decide +kernel
theorem dX12_order_67 : decode cX12_order 67 = .ok (.lload 8, 2) := by decide +kernel
theorem dX12_order_69 : decode cX12_order 69 = .ok (.lload 10, 2) := by decide +kernel
theorem dX12_order_71 : decode cX12_order 71 = .ok (.lrem, 1) := by decide +kernel
theorem dX12_order_72 : decode cX12_order 72 = .ok (.lstore 22, 2) := by decide +kernel
theorem dX12_order_74 : decode cX12_order 74 = .ok (.lload 12, 2) := by decide +kernel
theorem dX12_order_76 : decode cX12_order 76 = .ok (.lload 14, 2) := by decide +kernel
theorem dX12_order_78 : decode cX12_order 78 = .ok (.lrem, 1) := by decide +kernel
theorem dX12_order_79 : decode cX12_order 79 = .ok (.lstore 24, 2) := by decide +kernel
theorem dX12_order_81 : decode cX12_order 81 = .ok (.lload 22, 2) := by decide +kernel
theorem dX12_order_83 : decode cX12_order 83 = .ok (.lconst 0, 1) := by decide +kernel
theorem dX12_order_84 : decode cX12_order 84 = .ok (.lcmp, 1) := by decide +kernel
theorem dX12_order_85 : decode cX12_order 85 = .ok (.ifCond .eq 10, 3) := by decide +kernel
theorem dX12_order_88 : decode cX12_order 88 = .ok (.lload 24, 2) := by decide +kernel
theorem dX12_order_90 : decode cX12_order 90 = .ok (.lconst 0, 1) := by decide +kernel
theorem dX12_order_91 : decode cX12_order 91 = .ok (.lcmp, 1) := by decide +kernel
theorem dX12_order_92 : decode cX12_order 92 = .ok (.ifCond .ne 31, 3) := by decide +kernel
theorem dX12_order_95 : decode cX12_order 95 = .ok (.lload 22, 2) := by decide +kernel
theorem dX12_order_97 : decode cX12_order 97 = .ok (.lload 24, 2) := by decide +kernel
theorem dX12_order_99 : decode cX12_order 99 = .ok (.lcmp, 1) := by decide +kernel
theorem dX12_order_100 : decode cX12_order 100 = .ok (.ifCond .ne 7, 3) := by decide +kernel
theorem dX12_order_103 : decode cX12_order 103 = .ok (.iconst 0, 1) := by decide +kernel
theorem dX12_order_104 : decode cX12_order 104 = .ok (.goto 18, 3) := by decide +kernel
theorem dX12_order_107 : decode cX12_order 107 = .ok (.lload 22, 2) := by decide +kernel
theorem dX12_order_109 : decode cX12_order 109 = .ok (.lconst 0, 1) := by decide +kernel
theorem dX12_order_110 : decode cX12_order 110 = .ok (.lcmp, 1) := by decide +kernel
theorem dX12_order_111 : decode cX12_order 111 = .ok (.ifCond .ne 9, 3) := by decide +kernel
theorem dX12_order_114 : decode cX12_order 114 = .ok (.iload 16, 2) := by decide +kernel
theorem dX12_order_116 : decode cX12_order 116 = .ok (.ineg, 1) := by decide +kernel
theorem dX12_order_117 : decode cX12_order 117 = .ok (.goto 5, 3) := by decide +kernel
theorem dX12_order_120 : decode cX12_order 120 = .ok (.iload 16, 2) := by decide +kernel
theorem dX12_order_122 : decode cX12_order 122 = .ok (.ireturn, 1) := by decide +kernel
theorem dX12_order_123 : decode cX12_order 123 = .ok (.lload 10, 2) := by decide +kernel
theorem dX12_order_125 : decode cX12_order 125 = .ok (.lstore 8, 2) := by decide +kernel
theorem dX12_order_127 : decode cX12_order 127 = .ok (.lload 22, 2) := by decide +kernel
theorem dX12_order_129 : decode cX12_order 129 = .ok (.lstore 10, 2) := by decide +kernel
theorem dX12_order_131 : decode cX12_order 131 = .ok (.lload 14, 2) := by decide +kernel
theorem dX12_order_133 : decode cX12_order 133 = .ok (.lstore 12, 2) := by decide +kernel
theorem dX12_order_135 : decode cX12_order 135 = .ok (.lload 24, 2) := by decide +kernel
theorem dX12_order_137 : decode cX12_order 137 = .ok (.lstore 14, 2) := by decide +kernel
theorem dX12_order_139 : decode cX12_order 139 = .ok (.iload 16, 2) := by decide +kernel
theorem dX12_order_141 : decode cX12_order 141 = .ok (.ineg, 1) := by decide +kernel
theorem dX12_order_142 : decode cX12_order 142 = .ok (.istore 16, 2) := by decide +kernel
theorem dX12_order_144 : decode cX12_order 144 = .ok (.iinc 17 1, 3) := by decide +kernel
theorem dX12_order_147 : decode cX12_order 147 = .ok (.goto (-127), 3) := by decide +kernel
theorem dX12_order_150 : decode cX12_order 150 = .ok (.iconst 0, 1) := by decide +kernel
theorem dX12_order_151 : decode cX12_order 151 = .ok (.ireturn, 1) := by decide +kernel
theorem dX12_cutAt_0 : decode cX12_cutAt 0 = .ok (.lload_n 3, 1) := by decide +kernel
theorem dX12_cutAt_1 : decode cX12_cutAt 1 = .ok (.lconst 0, 1) := by decide +kernel
theorem dX12_cutAt_2 : decode cX12_cutAt 2 = .ok (.lcmp, 1) := by decide +kernel
theorem dX12_cutAt_3 : decode cX12_cutAt 3 = .ok (.ifCond .ge 8, 3) := by decide +kernel
theorem dX12_cutAt_6 : decode cX12_cutAt 6 = .ok (.lload_n 1, 1) := by decide +kernel
theorem dX12_cutAt_7 : decode cX12_cutAt 7 = .ok (.lneg, 1) := by decide +kernel
theorem dX12_cutAt_8 : decode cX12_cutAt 8 = .ok (.goto 4, 3) := by decide +kernel
theorem dX12_cutAt_11 : decode cX12_cutAt 11 = .ok (.lload_n 1, 1) := by decide +kernel
theorem dX12_cutAt_12 : decode cX12_cutAt 12 = .ok (.lstore 5, 2) := by decide +kernel
theorem dX12_cutAt_14 : decode cX12_cutAt 14 = .ok (.lload_n 3, 1) := by decide +kernel
theorem dX12_cutAt_15 : decode cX12_cutAt 15 = .ok (.lconst 0, 1) := by decide +kernel
theorem dX12_cutAt_16 : decode cX12_cutAt 16 = .ok (.lcmp, 1) := by decide +kernel
theorem dX12_cutAt_17 : decode cX12_cutAt 17 = .ok (.ifCond .ge 8, 3) := by decide +kernel
theorem dX12_cutAt_20 : decode cX12_cutAt 20 = .ok (.lload_n 3, 1) := by decide +kernel
theorem dX12_cutAt_21 : decode cX12_cutAt 21 = .ok (.lneg, 1) := by decide +kernel
theorem dX12_cutAt_22 : decode cX12_cutAt 22 = .ok (.goto 4, 3) := by decide +kernel
theorem dX12_cutAt_25 : decode cX12_cutAt 25 = .ok (.lload_n 3, 1) := by decide +kernel
theorem dX12_cutAt_26 : decode cX12_cutAt 26 = .ok (.lstore 7, 2) := by decide +kernel
theorem dX12_cutAt_28 : decode cX12_cutAt 28 = .ok (.aload_n 0, 1) := by decide +kernel
theorem dX12_cutAt_29 : decode cX12_cutAt 29 = .ok (.getfield 980, 3) := by decide +kernel
theorem dX12_cutAt_32 : decode cX12_cutAt 32 = .ok (.istore 9, 2) := by decide +kernel
theorem dX12_cutAt_34 : decode cX12_cutAt 34 = .ok (.iload 9, 2) := by decide +kernel
theorem dX12_cutAt_36 : decode cX12_cutAt 36 = .ok (.ifCond .le 69, 3) := by decide +kernel
theorem dX12_cutAt_39 : decode cX12_cutAt 39 = .ok (.lload 5, 2) := by decide +kernel
theorem dX12_cutAt_41 : decode cX12_cutAt 41 = .ok (.lload 7, 2) := by decide +kernel
theorem dX12_cutAt_43 : decode cX12_cutAt 43 = .ok (.aload_n 0, 1) := by decide +kernel
theorem dX12_cutAt_44 : decode cX12_cutAt 44 = .ok (.getfield 215, 3) := by decide +kernel
theorem dX12_cutAt_47 : decode cX12_cutAt 47 = .ok (.iload 9, 2) := by decide +kernel
theorem dX12_cutAt_49 : decode cX12_cutAt 49 = .ok (.iconst 1, 1) := by decide +kernel
theorem dX12_cutAt_50 : decode cX12_cutAt 50 = .ok (.isub, 1) := by decide +kernel
theorem dX12_cutAt_51 : decode cX12_cutAt 51 = .ok (.laload, 1) := by decide +kernel
theorem dX12_cutAt_52 : decode cX12_cutAt 52 = .ok (.aload_n 0, 1) := by decide +kernel
theorem dX12_cutAt_53 : decode cX12_cutAt 53 = .ok (.getfield 218, 3) := by decide +kernel
theorem dX12_cutAt_56 : decode cX12_cutAt 56 = .ok (.iload 9, 2) := by decide +kernel
theorem dX12_cutAt_58 : decode cX12_cutAt 58 = .ok (.iconst 1, 1) := by decide +kernel
theorem dX12_cutAt_59 : decode cX12_cutAt 59 = .ok (.isub, 1) := by decide +kernel
theorem dX12_cutAt_60 : decode cX12_cutAt 60 = .ok (.laload, 1) := by decide +kernel
theorem dX12_cutAt_61 : decode cX12_cutAt 61 = .ok (.invokestatic 983, 3) := by decide +kernel
theorem dX12_cutAt_64 : decode cX12_cutAt 64 = .ok (.ifCond .ge 41, 3) := by decide +kernel
theorem dX12_cutAt_67 : decode cX12_cutAt 67 = .ok (.aload_n 0, 1) := by decide +kernel
theorem dX12_cutAt_68 : decode cX12_cutAt 68 = .ok (.getfield 215, 3) := by decide +kernel
theorem dX12_cutAt_71 : decode cX12_cutAt 71 = .ok (.iload 9, 2) := by decide +kernel
theorem dX12_cutAt_73 : decode cX12_cutAt 73 = .ok (.aload_n 0, 1) := by decide +kernel
theorem dX12_cutAt_74 : decode cX12_cutAt 74 = .ok (.getfield 215, 3) := by decide +kernel
theorem dX12_cutAt_77 : decode cX12_cutAt 77 = .ok (.iload 9, 2) := by decide +kernel
theorem dX12_cutAt_79 : decode cX12_cutAt 79 = .ok (.iconst 1, 1) := by decide +kernel
theorem dX12_cutAt_80 : decode cX12_cutAt 80 = .ok (.isub, 1) := by decide +kernel
theorem dX12_cutAt_81 : decode cX12_cutAt 81 = .ok (.laload, 1) := by decide +kernel
theorem dX12_cutAt_82 : decode cX12_cutAt 82 = .ok (.lastore, 1) := by decide +kernel
theorem dX12_cutAt_83 : decode cX12_cutAt 83 = .ok (.aload_n 0, 1) := by decide +kernel
theorem dX12_cutAt_84 : decode cX12_cutAt 84 = .ok (.getfield 218, 3) := by decide +kernel
theorem dX12_cutAt_87 : decode cX12_cutAt 87 = .ok (.iload 9, 2) := by decide +kernel
theorem dX12_cutAt_89 : decode cX12_cutAt 89 = .ok (.aload_n 0, 1) := by decide +kernel
theorem dX12_cutAt_90 : decode cX12_cutAt 90 = .ok (.getfield 218, 3) := by decide +kernel
theorem dX12_cutAt_93 : decode cX12_cutAt 93 = .ok (.iload 9, 2) := by decide +kernel
theorem dX12_cutAt_95 : decode cX12_cutAt 95 = .ok (.iconst 1, 1) := by decide +kernel
theorem dX12_cutAt_96 : decode cX12_cutAt 96 = .ok (.isub, 1) := by decide +kernel
theorem dX12_cutAt_97 : decode cX12_cutAt 97 = .ok (.laload, 1) := by decide +kernel
theorem dX12_cutAt_98 : decode cX12_cutAt 98 = .ok (.lastore, 1) := by decide +kernel
theorem dX12_cutAt_99 : decode cX12_cutAt 99 = .ok (.iinc 9 (-1), 3) := by decide +kernel
theorem dX12_cutAt_102 : decode cX12_cutAt 102 = .ok (.goto (-68), 3) := by decide +kernel
theorem dX12_cutAt_105 : decode cX12_cutAt 105 = .ok (.aload_n 0, 1) := by decide +kernel
theorem dX12_cutAt_106 : decode cX12_cutAt 106 = .ok (.getfield 215, 3) := by decide +kernel
theorem dX12_cutAt_109 : decode cX12_cutAt 109 = .ok (.iload 9, 2) := by decide +kernel
theorem dX12_cutAt_111 : decode cX12_cutAt 111 = .ok (.lload 5, 2) := by decide +kernel
theorem dX12_cutAt_113 : decode cX12_cutAt 113 = .ok (.lastore, 1) := by decide +kernel
theorem dX12_cutAt_114 : decode cX12_cutAt 114 = .ok (.aload_n 0, 1) := by decide +kernel
theorem dX12_cutAt_115 : decode cX12_cutAt 115 = .ok (.getfield 218, 3) := by decide +kernel
theorem dX12_cutAt_118 : decode cX12_cutAt 118 = .ok (.iload 9, 2) := by decide +kernel
theorem dX12_cutAt_120 : decode cX12_cutAt 120 = .ok (.lload 7, 2) := by decide +kernel
theorem dX12_cutAt_122 : decode cX12_cutAt 122 = .ok (.lastore, 1) := by decide +kernel
theorem dX12_cutAt_123 : decode cX12_cutAt 123 = .ok (.aload_n 0, 1) := by decide +kernel
theorem dX12_cutAt_124 : decode cX12_cutAt 124 = .ok (.dup, 1) := by decide +kernel
theorem dX12_cutAt_125 : decode cX12_cutAt 125 = .ok (.getfield 980, 3) := by decide +kernel
theorem dX12_cutAt_128 : decode cX12_cutAt 128 = .ok (.iconst 1, 1) := by decide +kernel
theorem dX12_cutAt_129 : decode cX12_cutAt 129 = .ok (.iadd, 1) := by decide +kernel
theorem dX12_cutAt_130 : decode cX12_cutAt 130 = .ok (.putfield 980, 3) := by decide +kernel
theorem dX12_cutAt_133 : decode cX12_cutAt 133 = .ok (.return_, 1) := by decide +kernel
theorem dX12_cutAtPlace_0 : decode cX12_cutAtPlace 0 = .ok (.aload_n 0, 1) := by decide +kernel
theorem dX12_cutAtPlace_1 : decode cX12_cutAtPlace 1 = .ok (.getfield 84, 3) := by decide +kernel
theorem dX12_cutAtPlace_4 : decode cX12_cutAtPlace 4 = .ok (.iload_n 1, 1) := by decide +kernel
theorem dX12_cutAtPlace_5 : decode cX12_cutAtPlace 5 = .ok (.laload, 1) := by decide +kernel
theorem dX12_cutAtPlace_6 : decode cX12_cutAtPlace 6 = .ok (.aload_n 0, 1) := by decide +kernel
theorem dX12_cutAtPlace_7 : decode cX12_cutAtPlace 7 = .ok (.getfield 78, 3) := by decide +kernel
theorem dX12_cutAtPlace_10 : decode cX12_cutAtPlace 10 = .ok (.iload_n 1, 1) := by decide +kernel
theorem dX12_cutAtPlace_11 : decode cX12_cutAtPlace 11 = .ok (.laload, 1) := by decide +kernel
theorem dX12_cutAtPlace_12 : decode cX12_cutAtPlace 12 = .ok (.lcmp, 1) := by decide +kernel
theorem dX12_cutAtPlace_13 : decode cX12_cutAtPlace 13 = .ok (.ifCond .eq 31, 3) := by decide +kernel
theorem dX12_cutAtPlace_16 : decode cX12_cutAtPlace 16 = .ok (.aload_n 0, 1) := by decide +kernel
theorem dX12_cutAtPlace_17 : decode cX12_cutAtPlace 17 = .ok (.lload_n 2, 1) := by decide +kernel
theorem dX12_cutAtPlace_18 : decode cX12_cutAtPlace 18 = .ok (.aload_n 0, 1) := by decide +kernel
theorem dX12_cutAtPlace_19 : decode cX12_cutAtPlace 19 = .ok (.getfield 78, 3) := by decide +kernel
theorem dX12_cutAtPlace_22 : decode cX12_cutAtPlace 22 = .ok (.iload_n 1, 1) := by decide +kernel
theorem dX12_cutAtPlace_23 : decode cX12_cutAtPlace 23 = .ok (.laload, 1) := by decide +kernel
theorem dX12_cutAtPlace_24 : decode cX12_cutAtPlace 24 = .ok (.lsub, 1) := by decide +kernel
theorem dX12_cutAtPlace_25 : decode cX12_cutAtPlace 25 = .ok (.aload_n 0, 1) := by decide +kernel
theorem dX12_cutAtPlace_26 : decode cX12_cutAtPlace 26 = .ok (.getfield 84, 3) := by decide +kernel
theorem dX12_cutAtPlace_29 : decode cX12_cutAtPlace 29 = .ok (.iload_n 1, 1) := by decide +kernel
theorem dX12_cutAtPlace_30 : decode cX12_cutAtPlace 30 = .ok (.laload, 1) := by decide +kernel
theorem dX12_cutAtPlace_31 : decode cX12_cutAtPlace 31 = .ok (.aload_n 0, 1) := by decide +kernel
theorem dX12_cutAtPlace_32 : decode cX12_cutAtPlace 32 = .ok (.getfield 78, 3) := by decide +kernel
theorem dX12_cutAtPlace_35 : decode cX12_cutAtPlace 35 = .ok (.iload_n 1, 1) := by decide +kernel
theorem dX12_cutAtPlace_36 : decode cX12_cutAtPlace 36 = .ok (.laload, 1) := by decide +kernel
theorem dX12_cutAtPlace_37 : decode cX12_cutAtPlace 37 = .ok (.lsub, 1) := by decide +kernel
theorem dX12_cutAtPlace_38 : decode cX12_cutAtPlace 38 = .ok (.invokevirtual 986, 3) := by decide +kernel
theorem dX12_cutAtPlace_41 : decode cX12_cutAtPlace 41 = .ok (.goto 29, 3) := by decide +kernel
theorem dX12_cutAtPlace_44 : decode cX12_cutAtPlace 44 = .ok (.aload_n 0, 1) := by decide +kernel
theorem dX12_cutAtPlace_45 : decode cX12_cutAtPlace 45 = .ok (.lload 4, 2) := by decide +kernel
theorem dX12_cutAtPlace_47 : decode cX12_cutAtPlace 47 = .ok (.aload_n 0, 1) := by decide +kernel
theorem dX12_cutAtPlace_48 : decode cX12_cutAtPlace 48 = .ok (.getfield 81, 3) := by decide +kernel
theorem dX12_cutAtPlace_51 : decode cX12_cutAtPlace 51 = .ok (.iload_n 1, 1) := by decide +kernel
theorem dX12_cutAtPlace_52 : decode cX12_cutAtPlace 52 = .ok (.laload, 1) := by decide +kernel
theorem dX12_cutAtPlace_53 : decode cX12_cutAtPlace 53 = .ok (.lsub, 1) := by decide +kernel
theorem dX12_cutAtPlace_54 : decode cX12_cutAtPlace 54 = .ok (.aload_n 0, 1) := by decide +kernel
theorem dX12_cutAtPlace_55 : decode cX12_cutAtPlace 55 = .ok (.getfield 87, 3) := by decide +kernel
theorem dX12_cutAtPlace_58 : decode cX12_cutAtPlace 58 = .ok (.iload_n 1, 1) := by decide +kernel
theorem dX12_cutAtPlace_59 : decode cX12_cutAtPlace 59 = .ok (.laload, 1) := by decide +kernel
theorem dX12_cutAtPlace_60 : decode cX12_cutAtPlace 60 = .ok (.aload_n 0, 1) := by decide +kernel
theorem dX12_cutAtPlace_61 : decode cX12_cutAtPlace 61 = .ok (.getfield 81, 3) := by decide +kernel
theorem dX12_cutAtPlace_64 : decode cX12_cutAtPlace 64 = .ok (.iload_n 1, 1) := by decide +kernel
theorem dX12_cutAtPlace_65 : decode cX12_cutAtPlace 65 = .ok (.laload, 1) := by decide +kernel
theorem dX12_cutAtPlace_66 : decode cX12_cutAtPlace 66 = .ok (.lsub, 1) := by decide +kernel
theorem dX12_cutAtPlace_67 : decode cX12_cutAtPlace 67 = .ok (.invokevirtual 986, 3) := by decide +kernel
theorem dX12_cutAtPlace_70 : decode cX12_cutAtPlace 70 = .ok (.return_, 1) := by decide +kernel
theorem dX12_cutBy_0 : decode cX12_cutBy 0 = .ok (.aload_n 0, 1) := by decide +kernel
theorem dX12_cutBy_1 : decode cX12_cutBy 1 = .ok (.iload_n 1, 1) := by decide +kernel
theorem dX12_cutBy_2 : decode cX12_cutBy 2 = .ok (.iload_n 2, 1) := by decide +kernel
theorem dX12_cutBy_3 : decode cX12_cutBy 3 = .ok (.invokevirtual 698, 3) := by decide +kernel
theorem dX12_cutBy_6 : decode cX12_cutBy 6 = .ok (.istore_n 3, 1) := by decide +kernel
theorem dX12_cutBy_7 : decode cX12_cutBy 7 = .ok (.iload_n 3, 1) := by decide +kernel
theorem dX12_cutBy_8 : decode cX12_cutBy 8 = .ok (.ifCond .ne 4, 3) := by decide +kernel
theorem dX12_cutBy_11 : decode cX12_cutBy 11 = .ok (.return_, 1) := by decide +kernel
theorem dX12_cutBy_12 : decode cX12_cutBy 12 = .ok (.iload_n 3, 1) := by decide +kernel
theorem dX12_cutBy_13 : decode cX12_cutBy 13 = .ok (.iconst 2, 1) := by decide +kernel
theorem dX12_cutBy_14 : decode cX12_cutBy 14 = .ok (.if_icmp .ne 80, 3) := by decide +kernel
theorem dX12_cutBy_17 : decode cX12_cutBy 17 = .ok (.aload_n 0, 1) := by decide +kernel
theorem dX12_cutBy_18 : decode cX12_cutBy 18 = .ok (.iload_n 1, 1) := by decide +kernel
theorem dX12_cutBy_19 : decode cX12_cutBy 19 = .ok (.aload_n 0, 1) := by decide +kernel
theorem dX12_cutBy_20 : decode cX12_cutBy 20 = .ok (.getfield 78, 3) := by decide +kernel
theorem dX12_cutBy_23 : decode cX12_cutBy 23 = .ok (.iload_n 2, 1) := by decide +kernel
theorem dX12_cutBy_24 : decode cX12_cutBy 24 = .ok (.laload, 1) := by decide +kernel
theorem dX12_cutBy_25 : decode cX12_cutBy 25 = .ok (.aload_n 0, 1) := by decide +kernel
theorem dX12_cutBy_26 : decode cX12_cutBy 26 = .ok (.getfield 81, 3) := by decide +kernel
theorem dX12_cutBy_29 : decode cX12_cutBy 29 = .ok (.iload_n 2, 1) := by decide +kernel
theorem dX12_cutBy_30 : decode cX12_cutBy 30 = .ok (.laload, 1) := by decide +kernel
theorem dX12_cutBy_31 : decode cX12_cutBy 31 = .ok (.invokevirtual 707, 3) := by decide +kernel
theorem dX12_cutBy_34 : decode cX12_cutBy 34 = .ok (.ifCond .eq 20, 3) := by decide +kernel
theorem dX12_cutBy_37 : decode cX12_cutBy 37 = .ok (.aload_n 0, 1) := by decide +kernel
theorem dX12_cutBy_38 : decode cX12_cutBy 38 = .ok (.iload_n 1, 1) := by decide +kernel
theorem dX12_cutBy_39 : decode cX12_cutBy 39 = .ok (.aload_n 0, 1) := by decide +kernel
theorem dX12_cutBy_40 : decode cX12_cutBy 40 = .ok (.getfield 78, 3) := by decide +kernel
theorem dX12_cutBy_43 : decode cX12_cutBy 43 = .ok (.iload_n 2, 1) := by decide +kernel
theorem dX12_cutBy_44 : decode cX12_cutBy 44 = .ok (.laload, 1) := by decide +kernel
theorem dX12_cutBy_45 : decode cX12_cutBy 45 = .ok (.aload_n 0, 1) := by decide +kernel
theorem dX12_cutBy_46 : decode cX12_cutBy 46 = .ok (.getfield 81, 3) := by decide +kernel
theorem dX12_cutBy_49 : decode cX12_cutBy 49 = .ok (.iload_n 2, 1) := by decide +kernel
theorem dX12_cutBy_50 : decode cX12_cutBy 50 = .ok (.laload, 1) := by decide +kernel
theorem dX12_cutBy_51 : decode cX12_cutBy 51 = .ok (.invokevirtual 989, 3) := by decide +kernel
theorem dX12_cutBy_54 : decode cX12_cutBy 54 = .ok (.aload_n 0, 1) := by decide +kernel
theorem dX12_cutBy_55 : decode cX12_cutBy 55 = .ok (.iload_n 1, 1) := by decide +kernel
theorem dX12_cutBy_56 : decode cX12_cutBy 56 = .ok (.aload_n 0, 1) := by decide +kernel
theorem dX12_cutBy_57 : decode cX12_cutBy 57 = .ok (.getfield 84, 3) := by decide +kernel
theorem dX12_cutBy_60 : decode cX12_cutBy 60 = .ok (.iload_n 2, 1) := by decide +kernel
theorem dX12_cutBy_61 : decode cX12_cutBy 61 = .ok (.laload, 1) := by decide +kernel
theorem dX12_cutBy_62 : decode cX12_cutBy 62 = .ok (.aload_n 0, 1) := by decide +kernel
theorem dX12_cutBy_63 : decode cX12_cutBy 63 = .ok (.getfield 87, 3) := by decide +kernel
theorem dX12_cutBy_66 : decode cX12_cutBy 66 = .ok (.iload_n 2, 1) := by decide +kernel
theorem dX12_cutBy_67 : decode cX12_cutBy 67 = .ok (.laload, 1) := by decide +kernel
theorem dX12_cutBy_68 : decode cX12_cutBy 68 = .ok (.invokevirtual 707, 3) := by decide +kernel
theorem dX12_cutBy_71 : decode cX12_cutBy 71 = .ok (.ifCond .eq 146, 3) := by decide +kernel
theorem dX12_cutBy_74 : decode cX12_cutBy 74 = .ok (.aload_n 0, 1) := by decide +kernel
theorem dX12_cutBy_75 : decode cX12_cutBy 75 = .ok (.iload_n 1, 1) := by decide +kernel
theorem dX12_cutBy_76 : decode cX12_cutBy 76 = .ok (.aload_n 0, 1) := by decide +kernel
theorem dX12_cutBy_77 : decode cX12_cutBy 77 = .ok (.getfield 84, 3) := by decide +kernel
theorem dX12_cutBy_80 : decode cX12_cutBy 80 = .ok (.iload_n 2, 1) := by decide +kernel
theorem dX12_cutBy_81 : decode cX12_cutBy 81 = .ok (.laload, 1) := by decide +kernel
theorem dX12_cutBy_82 : decode cX12_cutBy 82 = .ok (.aload_n 0, 1) := by decide +kernel
theorem dX12_cutBy_83 : decode cX12_cutBy 83 = .ok (.getfield 87, 3) := by decide +kernel
theorem dX12_cutBy_86 : decode cX12_cutBy 86 = .ok (.iload_n 2, 1) := by decide +kernel
theorem dX12_cutBy_87 : decode cX12_cutBy 87 = .ok (.laload, 1) := by decide +kernel
theorem dX12_cutBy_88 : decode cX12_cutBy 88 = .ok (.invokevirtual 989, 3) := by decide +kernel
theorem dX12_cutBy_91 : decode cX12_cutBy 91 = .ok (.goto 126, 3) := by decide +kernel
theorem dX12_cutBy_94 : decode cX12_cutBy 94 = .ok (.aload_n 0, 1) := by decide +kernel
theorem dX12_cutBy_95 : decode cX12_cutBy 95 = .ok (.getfield 655, 3) := by decide +kernel
theorem dX12_cutBy_98 : decode cX12_cutBy 98 = .ok (.ifCond .ne 19, 3) := by decide +kernel
theorem dX12_cutBy_101 : decode cX12_cutBy 101 = .ok (.aload_n 0, 1) := by decide +kernel
theorem dX12_cutBy_102 : decode cX12_cutBy 102 = .ok (.iload_n 1, 1) := by decide +kernel
theorem dX12_cutBy_103 : decode cX12_cutBy 103 = .ok (.aload_n 0, 1) := by decide +kernel
theorem dX12_cutBy_104 : decode cX12_cutBy 104 = .ok (.getfield 658, 3) := by decide +kernel
theorem dX12_cutBy_107 : decode cX12_cutBy 107 = .ok (.aload_n 0, 1) := by decide +kernel
theorem dX12_cutBy_108 : decode cX12_cutBy 108 = .ok (.getfield 661, 3) := by decide +kernel
theorem dX12_cutBy_111 : decode cX12_cutBy 111 = .ok (.invokevirtual 989, 3) := by decide +kernel
theorem dX12_cutBy_114 : decode cX12_cutBy 114 = .ok (.goto 103, 3) := by decide +kernel
theorem dX12_cutBy_117 : decode cX12_cutBy 117 = .ok (.aload_n 0, 1) := by decide +kernel
theorem dX12_cutBy_118 : decode cX12_cutBy 118 = .ok (.getfield 84, 3) := by decide +kernel
theorem dX12_cutBy_121 : decode cX12_cutBy 121 = .ok (.iload_n 2, 1) := by decide +kernel
theorem dX12_cutBy_122 : decode cX12_cutBy 122 = .ok (.laload, 1) := by decide +kernel
theorem dX12_cutBy_123 : decode cX12_cutBy 123 = .ok (.aload_n 0, 1) := by decide +kernel
theorem dX12_cutBy_124 : decode cX12_cutBy 124 = .ok (.getfield 78, 3) := by decide +kernel
theorem dX12_cutBy_127 : decode cX12_cutBy 127 = .ok (.iload_n 2, 1) := by decide +kernel
theorem dX12_cutBy_128 : decode cX12_cutBy 128 = .ok (.laload, 1) := by decide +kernel
theorem dX12_cutBy_129 : decode cX12_cutBy 129 = .ok (.lsub, 1) := by decide +kernel
theorem dX12_cutBy_130 : decode cX12_cutBy 130 = .ok (.lstore 4, 2) := by decide +kernel
theorem dX12_cutBy_132 : decode cX12_cutBy 132 = .ok (.aload_n 0, 1) := by decide +kernel
theorem dX12_cutBy_133 : decode cX12_cutBy 133 = .ok (.getfield 87, 3) := by decide +kernel
theorem dX12_cutBy_136 : decode cX12_cutBy 136 = .ok (.iload_n 2, 1) := by decide +kernel
theorem dX12_cutBy_137 : decode cX12_cutBy 137 = .ok (.laload, 1) := by decide +kernel
theorem dX12_cutBy_138 : decode cX12_cutBy 138 = .ok (.aload_n 0, 1) := by decide +kernel
theorem dX12_cutBy_139 : decode cX12_cutBy 139 = .ok (.getfield 81, 3) := by decide +kernel
theorem dX12_cutBy_142 : decode cX12_cutBy 142 = .ok (.iload_n 2, 1) := by decide +kernel
theorem dX12_cutBy_143 : decode cX12_cutBy 143 = .ok (.laload, 1) := by decide +kernel
theorem dX12_cutBy_144 : decode cX12_cutBy 144 = .ok (.lsub, 1) := by decide +kernel
theorem dX12_cutBy_145 : decode cX12_cutBy 145 = .ok (.lstore 6, 2) := by decide +kernel
theorem dX12_cutBy_147 : decode cX12_cutBy 147 = .ok (.aload_n 0, 1) := by decide +kernel
theorem dX12_cutBy_148 : decode cX12_cutBy 148 = .ok (.aload_n 0, 1) := by decide +kernel
theorem dX12_cutBy_149 : decode cX12_cutBy 149 = .ok (.getfield 78, 3) := by decide +kernel
theorem dX12_cutBy_152 : decode cX12_cutBy 152 = .ok (.iload_n 2, 1) := by decide +kernel
theorem dX12_cutBy_153 : decode cX12_cutBy 153 = .ok (.laload, 1) := by decide +kernel
theorem dX12_cutBy_154 : decode cX12_cutBy 154 = .ok (.aload_n 0, 1) := by decide +kernel
theorem dX12_cutBy_155 : decode cX12_cutBy 155 = .ok (.getfield 78, 3) := by decide +kernel
theorem dX12_cutBy_158 : decode cX12_cutBy 158 = .ok (.iload_n 1, 1) := by decide +kernel
theorem dX12_cutBy_159 : decode cX12_cutBy 159 = .ok (.laload, 1) := by decide +kernel
theorem dX12_cutBy_160 : decode cX12_cutBy 160 = .ok (.lsub, 1) := by decide +kernel
theorem dX12_cutBy_161 : decode cX12_cutBy 161 = .ok (.aload_n 0, 1) := by decide +kernel
theorem dX12_cutBy_162 : decode cX12_cutBy 162 = .ok (.getfield 81, 3) := by decide +kernel
theorem dX12_cutBy_165 : decode cX12_cutBy 165 = .ok (.iload_n 2, 1) := by decide +kernel
theorem dX12_cutBy_166 : decode cX12_cutBy 166 = .ok (.laload, 1) := by decide +kernel
theorem dX12_cutBy_167 : decode cX12_cutBy 167 = .ok (.aload_n 0, 1) := by decide +kernel
theorem dX12_cutBy_168 : decode cX12_cutBy 168 = .ok (.getfield 81, 3) := by decide +kernel
theorem dX12_cutBy_171 : decode cX12_cutBy 171 = .ok (.iload_n 1, 1) := by decide +kernel
theorem dX12_cutBy_172 : decode cX12_cutBy 172 = .ok (.laload, 1) := by decide +kernel
theorem dX12_cutBy_173 : decode cX12_cutBy 173 = .ok (.lsub, 1) := by decide +kernel
theorem dX12_cutBy_174 : decode cX12_cutBy 174 = .ok (.lload 4, 2) := by decide +kernel
theorem dX12_cutBy_176 : decode cX12_cutBy 176 = .ok (.lload 6, 2) := by decide +kernel
theorem dX12_cutBy_178 : decode cX12_cutBy 178 = .ok (.invokestatic 644, 3) := by decide +kernel
theorem dX12_cutBy_181 : decode cX12_cutBy 181 = .ok (.aload_n 0, 1) := by decide +kernel
theorem dX12_cutBy_182 : decode cX12_cutBy 182 = .ok (.getfield 84, 3) := by decide +kernel
theorem dX12_cutBy_185 : decode cX12_cutBy 185 = .ok (.iload_n 1, 1) := by decide +kernel
theorem dX12_cutBy_186 : decode cX12_cutBy 186 = .ok (.laload, 1) := by decide +kernel
theorem dX12_cutBy_187 : decode cX12_cutBy 187 = .ok (.aload_n 0, 1) := by decide +kernel
theorem dX12_cutBy_188 : decode cX12_cutBy 188 = .ok (.getfield 78, 3) := by decide +kernel
theorem dX12_cutBy_191 : decode cX12_cutBy 191 = .ok (.iload_n 1, 1) := by decide +kernel
theorem dX12_cutBy_192 : decode cX12_cutBy 192 = .ok (.laload, 1) := by decide +kernel
theorem dX12_cutBy_193 : decode cX12_cutBy 193 = .ok (.lsub, 1) := by decide +kernel
theorem dX12_cutBy_194 : decode cX12_cutBy 194 = .ok (.aload_n 0, 1) := by decide +kernel
theorem dX12_cutBy_195 : decode cX12_cutBy 195 = .ok (.getfield 87, 3) := by decide +kernel
theorem dX12_cutBy_198 : decode cX12_cutBy 198 = .ok (.iload_n 1, 1) := by decide +kernel
theorem dX12_cutBy_199 : decode cX12_cutBy 199 = .ok (.laload, 1) := by decide +kernel
theorem dX12_cutBy_200 : decode cX12_cutBy 200 = .ok (.aload_n 0, 1) := by decide +kernel
theorem dX12_cutBy_201 : decode cX12_cutBy 201 = .ok (.getfield 81, 3) := by decide +kernel
theorem dX12_cutBy_204 : decode cX12_cutBy 204 = .ok (.iload_n 1, 1) := by decide +kernel
theorem dX12_cutBy_205 : decode cX12_cutBy 205 = .ok (.laload, 1) := by decide +kernel
theorem dX12_cutBy_206 : decode cX12_cutBy 206 = .ok (.lsub, 1) := by decide +kernel
theorem dX12_cutBy_207 : decode cX12_cutBy 207 = .ok (.lload 4, 2) := by decide +kernel
theorem dX12_cutBy_209 : decode cX12_cutBy 209 = .ok (.lload 6, 2) := by decide +kernel
theorem dX12_cutBy_211 : decode cX12_cutBy 211 = .ok (.invokestatic 644, 3) := by decide +kernel
theorem dX12_cutBy_214 : decode cX12_cutBy 214 = .ok (.invokevirtual 986, 3) := by decide +kernel
theorem dX12_cutBy_217 : decode cX12_cutBy 217 = .ok (.return_, 1) := by decide +kernel
theorem dX12_cutAll_0 : decode cX12_cutAll 0 = .ok (.aload_n 0, 1) := by decide +kernel
theorem dX12_cutAll_1 : decode cX12_cutAll 1 = .ok (.iconst 0, 1) := by decide +kernel
theorem dX12_cutAll_2 : decode cX12_cutAll 2 = .ok (.putfield 980, 3) := by decide +kernel
theorem dX12_cutAll_5 : decode cX12_cutAll 5 = .ok (.aload_n 0, 1) := by decide +kernel
theorem dX12_cutAll_6 : decode cX12_cutAll 6 = .ok (.lconst 0, 1) := by decide +kernel
theorem dX12_cutAll_7 : decode cX12_cutAll 7 = .ok (.lconst 1, 1) := by decide +kernel
theorem dX12_cutAll_8 : decode cX12_cutAll 8 = .ok (.invokevirtual 986, 3) := by decide +kernel
theorem dX12_cutAll_11 : decode cX12_cutAll 11 = .ok (.aload_n 0, 1) := by decide +kernel
theorem dX12_cutAll_12 : decode cX12_cutAll 12 = .ok (.lconst 1, 1) := by decide +kernel
theorem dX12_cutAll_13 : decode cX12_cutAll 13 = .ok (.lconst 1, 1) := by decide +kernel
theorem dX12_cutAll_14 : decode cX12_cutAll 14 = .ok (.invokevirtual 986, 3) := by decide +kernel
theorem dX12_cutAll_17 : decode cX12_cutAll 17 = .ok (.iconst 0, 1) := by decide +kernel
theorem dX12_cutAll_18 : decode cX12_cutAll 18 = .ok (.istore_n 2, 1) := by decide +kernel
theorem dX12_cutAll_19 : decode cX12_cutAll 19 = .ok (.iload_n 2, 1) := by decide +kernel
theorem dX12_cutAll_20 : decode cX12_cutAll 20 = .ok (.aload_n 0, 1) := by decide +kernel
theorem dX12_cutAll_21 : decode cX12_cutAll 21 = .ok (.getfield 652, 3) := by decide +kernel
theorem dX12_cutAll_24 : decode cX12_cutAll 24 = .ok (.if_icmp .ge 20, 3) := by decide +kernel
theorem dX12_cutAll_27 : decode cX12_cutAll 27 = .ok (.iload_n 2, 1) := by decide +kernel
theorem dX12_cutAll_28 : decode cX12_cutAll 28 = .ok (.iload_n 1, 1) := by decide +kernel
theorem dX12_cutAll_29 : decode cX12_cutAll 29 = .ok (.if_icmp .eq 9, 3) := by decide +kernel
theorem dX12_cutAll_32 : decode cX12_cutAll 32 = .ok (.aload_n 0, 1) := by decide +kernel
theorem dX12_cutAll_33 : decode cX12_cutAll 33 = .ok (.iload_n 1, 1) := by decide +kernel
theorem dX12_cutAll_34 : decode cX12_cutAll 34 = .ok (.iload_n 2, 1) := by decide +kernel
theorem dX12_cutAll_35 : decode cX12_cutAll 35 = .ok (.invokevirtual 993, 3) := by decide +kernel
theorem dX12_cutAll_38 : decode cX12_cutAll 38 = .ok (.iinc 2 1, 3) := by decide +kernel
theorem dX12_cutAll_41 : decode cX12_cutAll 41 = .ok (.goto (-22), 3) := by decide +kernel
theorem dX12_cutAll_44 : decode cX12_cutAll 44 = .ok (.iconst 0, 1) := by decide +kernel
theorem dX12_cutAll_45 : decode cX12_cutAll 45 = .ok (.istore_n 2, 1) := by decide +kernel
theorem dX12_cutAll_46 : decode cX12_cutAll 46 = .ok (.iload_n 2, 1) := by decide +kernel
theorem dX12_cutAll_47 : decode cX12_cutAll 47 = .ok (.iconst 2, 1) := by decide +kernel
theorem dX12_cutAll_48 : decode cX12_cutAll 48 = .ok (.if_icmp .ge 104, 3) := by decide +kernel
theorem dX12_cutAll_51 : decode cX12_cutAll 51 = .ok (.aload_n 0, 1) := by decide +kernel
theorem dX12_cutAll_52 : decode cX12_cutAll 52 = .ok (.getfield 194, 3) := by decide +kernel
theorem dX12_cutAll_55 : decode cX12_cutAll 55 = .ok (.iload_n 2, 1) := by decide +kernel
theorem dX12_cutAll_56 : decode cX12_cutAll 56 = .ok (.iaload, 1) := by decide +kernel
theorem dX12_cutAll_57 : decode cX12_cutAll 57 = .ok (.ifCond .le 6, 3) := by decide +kernel
theorem dX12_cutAll_60 : decode cX12_cutAll 60 = .ok (.goto 86, 3) := by decide +kernel
theorem dX12_cutAll_63 : decode cX12_cutAll 63 = .ok (.sipush 2048, 3) := by decide +kernel
theorem dX12_cutAll_66 : decode cX12_cutAll 66 = .ok (.aload_n 0, 1) := by decide +kernel
theorem dX12_cutAll_67 : decode cX12_cutAll 67 = .ok (.getfield 191, 3) := by decide +kernel
theorem dX12_cutAll_70 : decode cX12_cutAll 70 = .ok (.iload_n 2, 1) := by decide +kernel
theorem dX12_cutAll_71 : decode cX12_cutAll 71 = .ok (.iaload, 1) := by decide +kernel
theorem dX12_cutAll_72 : decode cX12_cutAll 72 = .ok (.imul, 1) := by decide +kernel
theorem dX12_cutAll_73 : decode cX12_cutAll 73 = .ok (.istore_n 3, 1) := by decide +kernel
theorem dX12_cutAll_74 : decode cX12_cutAll 74 = .ok (.iload_n 3, 1) := by decide +kernel
theorem dX12_cutAll_75 : decode cX12_cutAll 75 = .ok (.istore 4, 2) := by decide +kernel
theorem dX12_cutAll_77 : decode cX12_cutAll 77 = .ok (.iload 4, 2) := by decide +kernel
theorem dX12_cutAll_79 : decode cX12_cutAll 79 = .ok (.iload_n 3, 1) := by decide +kernel
theorem dX12_cutAll_80 : decode cX12_cutAll 80 = .ok (.aload_n 0, 1) := by decide +kernel
theorem dX12_cutAll_81 : decode cX12_cutAll 81 = .ok (.getfield 26, 3) := by decide +kernel
theorem dX12_cutAll_84 : decode cX12_cutAll 84 = .ok (.aload_n 0, 1) := by decide +kernel
theorem dX12_cutAll_85 : decode cX12_cutAll 85 = .ok (.getfield 191, 3) := by decide +kernel
theorem dX12_cutAll_88 : decode cX12_cutAll 88 = .ok (.iload_n 2, 1) := by decide +kernel
theorem dX12_cutAll_89 : decode cX12_cutAll 89 = .ok (.iaload, 1) := by decide +kernel
theorem dX12_cutAll_90 : decode cX12_cutAll 90 = .ok (.iaload, 1) := by decide +kernel
theorem dX12_cutAll_91 : decode cX12_cutAll 91 = .ok (.iadd, 1) := by decide +kernel
theorem dX12_cutAll_92 : decode cX12_cutAll 92 = .ok (.if_icmp .ge 54, 3) := by decide +kernel
theorem dX12_cutAll_95 : decode cX12_cutAll 95 = .ok (.aload_n 0, 1) := by decide +kernel
theorem dX12_cutAll_96 : decode cX12_cutAll 96 = .ok (.iload_n 1, 1) := by decide +kernel
theorem dX12_cutAll_97 : decode cX12_cutAll 97 = .ok (.aload_n 0, 1) := by decide +kernel
theorem dX12_cutAll_98 : decode cX12_cutAll 98 = .ok (.getfield 29, 3) := by decide +kernel
theorem dX12_cutAll_101 : decode cX12_cutAll 101 = .ok (.iload 4, 2) := by decide +kernel
theorem dX12_cutAll_103 : decode cX12_cutAll 103 = .ok (.iaload, 1) := by decide +kernel
theorem dX12_cutAll_104 : decode cX12_cutAll 104 = .ok (.i2l, 1) := by decide +kernel
theorem dX12_cutAll_105 : decode cX12_cutAll 105 = .ok (.aload_n 0, 1) := by decide +kernel
theorem dX12_cutAll_106 : decode cX12_cutAll 106 = .ok (.getfield 32, 3) := by decide +kernel
theorem dX12_cutAll_109 : decode cX12_cutAll 109 = .ok (.iload 4, 2) := by decide +kernel
theorem dX12_cutAll_111 : decode cX12_cutAll 111 = .ok (.iaload, 1) := by decide +kernel
theorem dX12_cutAll_112 : decode cX12_cutAll 112 = .ok (.i2l, 1) := by decide +kernel
theorem dX12_cutAll_113 : decode cX12_cutAll 113 = .ok (.invokevirtual 707, 3) := by decide +kernel
theorem dX12_cutAll_116 : decode cX12_cutAll 116 = .ok (.ifCond .eq 24, 3) := by decide +kernel
theorem dX12_cutAll_119 : decode cX12_cutAll 119 = .ok (.aload_n 0, 1) := by decide +kernel
theorem dX12_cutAll_120 : decode cX12_cutAll 120 = .ok (.iload_n 1, 1) := by decide +kernel
theorem dX12_cutAll_121 : decode cX12_cutAll 121 = .ok (.aload_n 0, 1) := by decide +kernel
theorem dX12_cutAll_122 : decode cX12_cutAll 122 = .ok (.getfield 29, 3) := by decide +kernel
theorem dX12_cutAll_125 : decode cX12_cutAll 125 = .ok (.iload 4, 2) := by decide +kernel
theorem dX12_cutAll_127 : decode cX12_cutAll 127 = .ok (.iaload, 1) := by decide +kernel
theorem dX12_cutAll_128 : decode cX12_cutAll 128 = .ok (.i2l, 1) := by decide +kernel
theorem dX12_cutAll_129 : decode cX12_cutAll 129 = .ok (.aload_n 0, 1) := by decide +kernel
theorem dX12_cutAll_130 : decode cX12_cutAll 130 = .ok (.getfield 32, 3) := by decide +kernel
theorem dX12_cutAll_133 : decode cX12_cutAll 133 = .ok (.iload 4, 2) := by decide +kernel
theorem dX12_cutAll_135 : decode cX12_cutAll 135 = .ok (.iaload, 1) := by decide +kernel
theorem dX12_cutAll_136 : decode cX12_cutAll 136 = .ok (.i2l, 1) := by decide +kernel
theorem dX12_cutAll_137 : decode cX12_cutAll 137 = .ok (.invokevirtual 989, 3) := by decide +kernel
theorem dX12_cutAll_140 : decode cX12_cutAll 140 = .ok (.iinc 4 1, 3) := by decide +kernel
theorem dX12_cutAll_143 : decode cX12_cutAll 143 = .ok (.goto (-66), 3) := by decide +kernel
theorem dX12_cutAll_146 : decode cX12_cutAll 146 = .ok (.iinc 2 1, 3) := by decide +kernel
theorem dX12_cutAll_149 : decode cX12_cutAll 149 = .ok (.goto (-103), 3) := by decide +kernel
theorem dX12_cutAll_152 : decode cX12_cutAll 152 = .ok (.return_, 1) := by decide +kernel
theorem dX12_middle_0 : decode cX12_middle 0 = .ok (.aload_n 0, 1) := by decide +kernel
theorem dX12_middle_1 : decode cX12_middle 1 = .ok (.bipush 7, 2) := by decide +kernel
theorem dX12_middle_3 : decode cX12_middle 3 = .ok (.aload_n 0, 1) := by decide +kernel
theorem dX12_middle_4 : decode cX12_middle 4 = .ok (.getfield 215, 3) := by decide +kernel
theorem dX12_middle_7 : decode cX12_middle 7 = .ok (.iload_n 1, 1) := by decide +kernel
theorem dX12_middle_8 : decode cX12_middle 8 = .ok (.laload, 1) := by decide +kernel
theorem dX12_middle_9 : decode cX12_middle 9 = .ok (.invokevirtual 635, 3) := by decide +kernel
theorem dX12_middle_12 : decode cX12_middle 12 = .ok (.aload_n 0, 1) := by decide +kernel
theorem dX12_middle_13 : decode cX12_middle 13 = .ok (.bipush 8, 2) := by decide +kernel
theorem dX12_middle_15 : decode cX12_middle 15 = .ok (.aload_n 0, 1) := by decide +kernel
theorem dX12_middle_16 : decode cX12_middle 16 = .ok (.getfield 218, 3) := by decide +kernel
theorem dX12_middle_19 : decode cX12_middle 19 = .ok (.iload_n 1, 1) := by decide +kernel
theorem dX12_middle_20 : decode cX12_middle 20 = .ok (.iconst 1, 1) := by decide +kernel
theorem dX12_middle_21 : decode cX12_middle 21 = .ok (.iadd, 1) := by decide +kernel
theorem dX12_middle_22 : decode cX12_middle 22 = .ok (.laload, 1) := by decide +kernel
theorem dX12_middle_23 : decode cX12_middle 23 = .ok (.invokevirtual 635, 3) := by decide +kernel
theorem dX12_middle_26 : decode cX12_middle 26 = .ok (.aload_n 0, 1) := by decide +kernel
theorem dX12_middle_27 : decode cX12_middle 27 = .ok (.bipush 9, 2) := by decide +kernel
theorem dX12_middle_29 : decode cX12_middle 29 = .ok (.bipush 7, 2) := by decide +kernel
theorem dX12_middle_31 : decode cX12_middle 31 = .ok (.bipush 8, 2) := by decide +kernel
theorem dX12_middle_33 : decode cX12_middle 33 = .ok (.invokevirtual 632, 3) := by decide +kernel
theorem dX12_middle_36 : decode cX12_middle 36 = .ok (.aload_n 0, 1) := by decide +kernel
theorem dX12_middle_37 : decode cX12_middle 37 = .ok (.bipush 7, 2) := by decide +kernel
theorem dX12_middle_39 : decode cX12_middle 39 = .ok (.aload_n 0, 1) := by decide +kernel
theorem dX12_middle_40 : decode cX12_middle 40 = .ok (.getfield 215, 3) := by decide +kernel
theorem dX12_middle_43 : decode cX12_middle 43 = .ok (.iload_n 1, 1) := by decide +kernel
theorem dX12_middle_44 : decode cX12_middle 44 = .ok (.iconst 1, 1) := by decide +kernel
theorem dX12_middle_45 : decode cX12_middle 45 = .ok (.iadd, 1) := by decide +kernel
theorem dX12_middle_46 : decode cX12_middle 46 = .ok (.laload, 1) := by decide +kernel
theorem dX12_middle_47 : decode cX12_middle 47 = .ok (.invokevirtual 635, 3) := by decide +kernel
theorem dX12_middle_50 : decode cX12_middle 50 = .ok (.aload_n 0, 1) := by decide +kernel
theorem dX12_middle_51 : decode cX12_middle 51 = .ok (.bipush 8, 2) := by decide +kernel
theorem dX12_middle_53 : decode cX12_middle 53 = .ok (.aload_n 0, 1) := by decide +kernel
theorem dX12_middle_54 : decode cX12_middle 54 = .ok (.getfield 218, 3) := by decide +kernel
theorem dX12_middle_57 : decode cX12_middle 57 = .ok (.iload_n 1, 1) := by decide +kernel
theorem dX12_middle_58 : decode cX12_middle 58 = .ok (.laload, 1) := by decide +kernel
theorem dX12_middle_59 : decode cX12_middle 59 = .ok (.invokevirtual 635, 3) := by decide +kernel
theorem dX12_middle_62 : decode cX12_middle 62 = .ok (.aload_n 0, 1) := by decide +kernel
theorem dX12_middle_63 : decode cX12_middle 63 = .ok (.bipush 10, 2) := by decide +kernel
theorem dX12_middle_65 : decode cX12_middle 65 = .ok (.bipush 7, 2) := by decide +kernel
theorem dX12_middle_67 : decode cX12_middle 67 = .ok (.bipush 8, 2) := by decide +kernel
theorem dX12_middle_69 : decode cX12_middle 69 = .ok (.invokevirtual 632, 3) := by decide +kernel
theorem dX12_middle_72 : decode cX12_middle 72 = .ok (.aload_n 0, 1) := by decide +kernel
theorem dX12_middle_73 : decode cX12_middle 73 = .ok (.iconst 0, 1) := by decide +kernel
theorem dX12_middle_74 : decode cX12_middle 74 = .ok (.bipush 9, 2) := by decide +kernel
theorem dX12_middle_76 : decode cX12_middle 76 = .ok (.bipush 10, 2) := by decide +kernel
theorem dX12_middle_78 : decode cX12_middle 78 = .ok (.iconst 0, 1) := by decide +kernel
theorem dX12_middle_79 : decode cX12_middle 79 = .ok (.invokevirtual 621, 3) := by decide +kernel
theorem dX12_middle_82 : decode cX12_middle 82 = .ok (.aload_n 0, 1) := by decide +kernel
theorem dX12_middle_83 : decode cX12_middle 83 = .ok (.bipush 7, 2) := by decide +kernel
theorem dX12_middle_85 : decode cX12_middle 85 = .ok (.aload_n 0, 1) := by decide +kernel
theorem dX12_middle_86 : decode cX12_middle 86 = .ok (.getfield 218, 3) := by decide +kernel
theorem dX12_middle_89 : decode cX12_middle 89 = .ok (.iload_n 1, 1) := by decide +kernel
theorem dX12_middle_90 : decode cX12_middle 90 = .ok (.laload, 1) := by decide +kernel
theorem dX12_middle_91 : decode cX12_middle 91 = .ok (.invokevirtual 635, 3) := by decide +kernel
theorem dX12_middle_94 : decode cX12_middle 94 = .ok (.aload_n 0, 1) := by decide +kernel
theorem dX12_middle_95 : decode cX12_middle 95 = .ok (.bipush 8, 2) := by decide +kernel
theorem dX12_middle_97 : decode cX12_middle 97 = .ok (.aload_n 0, 1) := by decide +kernel
theorem dX12_middle_98 : decode cX12_middle 98 = .ok (.getfield 218, 3) := by decide +kernel
theorem dX12_middle_101 : decode cX12_middle 101 = .ok (.iload_n 1, 1) := by decide +kernel
theorem dX12_middle_102 : decode cX12_middle 102 = .ok (.iconst 1, 1) := by decide +kernel
theorem dX12_middle_103 : decode cX12_middle 103 = .ok (.iadd, 1) := by decide +kernel
theorem dX12_middle_104 : decode cX12_middle 104 = .ok (.laload, 1) := by decide +kernel
theorem dX12_middle_105 : decode cX12_middle 105 = .ok (.invokevirtual 635, 3) := by decide +kernel
theorem dX12_middle_108 : decode cX12_middle 108 = .ok (.aload_n 0, 1) := by decide +kernel
theorem dX12_middle_109 : decode cX12_middle 109 = .ok (.bipush 9, 2) := by decide +kernel
theorem dX12_middle_111 : decode cX12_middle 111 = .ok (.bipush 7, 2) := by decide +kernel
theorem dX12_middle_113 : decode cX12_middle 113 = .ok (.bipush 8, 2) := by decide +kernel
theorem dX12_middle_115 : decode cX12_middle 115 = .ok (.invokevirtual 632, 3) := by decide +kernel
theorem dX12_middle_118 : decode cX12_middle 118 = .ok (.aload_n 0, 1) := by decide +kernel
theorem dX12_middle_119 : decode cX12_middle 119 = .ok (.bipush 8, 2) := by decide +kernel
theorem dX12_middle_121 : decode cX12_middle 121 = .ok (.ldc2_w 554, 3) := by decide +kernel
theorem dX12_middle_124 : decode cX12_middle 124 = .ok (.invokevirtual 635, 3) := by decide +kernel
theorem dX12_middle_127 : decode cX12_middle 127 = .ok (.aload_n 0, 1) := by decide +kernel
theorem dX12_middle_128 : decode cX12_middle 128 = .ok (.iconst 1, 1) := by decide +kernel
theorem dX12_middle_129 : decode cX12_middle 129 = .ok (.bipush 9, 2) := by decide +kernel
theorem dX12_middle_131 : decode cX12_middle 131 = .ok (.bipush 8, 2) := by decide +kernel
theorem dX12_middle_133 : decode cX12_middle 133 = .ok (.invokevirtual 632, 3) := by decide +kernel
theorem dX12_middle_136 : decode cX12_middle 136 = .ok (.return_, 1) := by decide +kernel
theorem dX12_relateAlong_0 : decode cX12_relateAlong 0 = .ok (.aload_n 0, 1) := by decide +kernel
theorem dX12_relateAlong_1 : decode cX12_relateAlong 1 = .ok (.iload_n 1, 1) := by decide +kernel
theorem dX12_relateAlong_2 : decode cX12_relateAlong 2 = .ok (.invokevirtual 996, 3) := by decide +kernel
theorem dX12_relateAlong_5 : decode cX12_relateAlong 5 = .ok (.aload_n 0, 1) := by decide +kernel
theorem dX12_relateAlong_6 : decode cX12_relateAlong 6 = .ok (.aload_n 0, 1) := by decide +kernel
theorem dX12_relateAlong_7 : decode cX12_relateAlong 7 = .ok (.getfield 78, 3) := by decide +kernel
theorem dX12_relateAlong_10 : decode cX12_relateAlong 10 = .ok (.iload_n 1, 1) := by decide +kernel
theorem dX12_relateAlong_11 : decode cX12_relateAlong 11 = .ok (.laload, 1) := by decide +kernel
theorem dX12_relateAlong_12 : decode cX12_relateAlong 12 = .ok (.putfield 934, 3) := by decide +kernel
theorem dX12_relateAlong_15 : decode cX12_relateAlong 15 = .ok (.aload_n 0, 1) := by decide +kernel
theorem dX12_relateAlong_16 : decode cX12_relateAlong 16 = .ok (.aload_n 0, 1) := by decide +kernel
theorem dX12_relateAlong_17 : decode cX12_relateAlong 17 = .ok (.getfield 81, 3) := by decide +kernel
theorem dX12_relateAlong_20 : decode cX12_relateAlong 20 = .ok (.iload_n 1, 1) := by decide +kernel
theorem dX12_relateAlong_21 : decode cX12_relateAlong 21 = .ok (.laload, 1) := by decide +kernel
theorem dX12_relateAlong_22 : decode cX12_relateAlong 22 = .ok (.putfield 943, 3) := by decide +kernel
theorem dX12_relateAlong_25 : decode cX12_relateAlong 25 = .ok (.aload_n 0, 1) := by decide +kernel
theorem dX12_relateAlong_26 : decode cX12_relateAlong 26 = .ok (.aload_n 0, 1) := by decide +kernel
theorem dX12_relateAlong_27 : decode cX12_relateAlong 27 = .ok (.getfield 84, 3) := by decide +kernel
theorem dX12_relateAlong_30 : decode cX12_relateAlong 30 = .ok (.iload_n 1, 1) := by decide +kernel
theorem dX12_relateAlong_31 : decode cX12_relateAlong 31 = .ok (.laload, 1) := by decide +kernel
theorem dX12_relateAlong_32 : decode cX12_relateAlong 32 = .ok (.aload_n 0, 1) := by decide +kernel
theorem dX12_relateAlong_33 : decode cX12_relateAlong 33 = .ok (.getfield 78, 3) := by decide +kernel
theorem dX12_relateAlong_36 : decode cX12_relateAlong 36 = .ok (.iload_n 1, 1) := by decide +kernel
theorem dX12_relateAlong_37 : decode cX12_relateAlong 37 = .ok (.laload, 1) := by decide +kernel
theorem dX12_relateAlong_38 : decode cX12_relateAlong 38 = .ok (.lsub, 1) := by decide +kernel
theorem dX12_relateAlong_39 : decode cX12_relateAlong 39 = .ok (.putfield 937, 3) := by decide +kernel
theorem dX12_relateAlong_42 : decode cX12_relateAlong 42 = .ok (.aload_n 0, 1) := by decide +kernel
theorem dX12_relateAlong_43 : decode cX12_relateAlong 43 = .ok (.aload_n 0, 1) := by decide +kernel
theorem dX12_relateAlong_44 : decode cX12_relateAlong 44 = .ok (.getfield 87, 3) := by decide +kernel
theorem dX12_relateAlong_47 : decode cX12_relateAlong 47 = .ok (.iload_n 1, 1) := by decide +kernel
theorem dX12_relateAlong_48 : decode cX12_relateAlong 48 = .ok (.laload, 1) := by decide +kernel
theorem dX12_relateAlong_49 : decode cX12_relateAlong 49 = .ok (.aload_n 0, 1) := by decide +kernel
theorem dX12_relateAlong_50 : decode cX12_relateAlong 50 = .ok (.getfield 81, 3) := by decide +kernel
theorem dX12_relateAlong_53 : decode cX12_relateAlong 53 = .ok (.iload_n 1, 1) := by decide +kernel
theorem dX12_relateAlong_54 : decode cX12_relateAlong 54 = .ok (.laload, 1) := by decide +kernel
theorem dX12_relateAlong_55 : decode cX12_relateAlong 55 = .ok (.lsub, 1) := by decide +kernel
theorem dX12_relateAlong_56 : decode cX12_relateAlong 56 = .ok (.putfield 946, 3) := by decide +kernel
theorem dX12_relateAlong_59 : decode cX12_relateAlong 59 = .ok (.iconst 0, 1) := by decide +kernel
theorem dX12_relateAlong_60 : decode cX12_relateAlong 60 = .ok (.istore_n 2, 1) := by decide +kernel
theorem dX12_relateAlong_61 : decode cX12_relateAlong 61 = .ok (.iload_n 2, 1) := by decide +kernel
theorem dX12_relateAlong_62 : decode cX12_relateAlong 62 = .ok (.aload_n 0, 1) := by decide +kernel
theorem dX12_relateAlong_63 : decode cX12_relateAlong 63 = .ok (.getfield 980, 3) := by decide +kernel
theorem dX12_relateAlong_66 : decode cX12_relateAlong 66 = .ok (.if_icmp .ge 193, 3) := by decide +kernel
theorem dX12_relateAlong_69 : decode cX12_relateAlong 69 = .ok (.aload_n 0, 1) := by decide +kernel
theorem dX12_relateAlong_70 : decode cX12_relateAlong 70 = .ok (.iconst 0, 1) := by decide +kernel
theorem dX12_relateAlong_71 : decode cX12_relateAlong 71 = .ok (.aload_n 0, 1) := by decide +kernel
theorem dX12_relateAlong_72 : decode cX12_relateAlong 72 = .ok (.getfield 215, 3) := by decide +kernel
theorem dX12_relateAlong_75 : decode cX12_relateAlong 75 = .ok (.iload_n 2, 1) := by decide +kernel
theorem dX12_relateAlong_76 : decode cX12_relateAlong 76 = .ok (.laload, 1) := by decide +kernel
theorem dX12_relateAlong_77 : decode cX12_relateAlong 77 = .ok (.invokevirtual 635, 3) := by decide +kernel
theorem dX12_relateAlong_80 : decode cX12_relateAlong 80 = .ok (.aload_n 0, 1) := by decide +kernel
theorem dX12_relateAlong_81 : decode cX12_relateAlong 81 = .ok (.iconst 1, 1) := by decide +kernel
theorem dX12_relateAlong_82 : decode cX12_relateAlong 82 = .ok (.aload_n 0, 1) := by decide +kernel
theorem dX12_relateAlong_83 : decode cX12_relateAlong 83 = .ok (.getfield 218, 3) := by decide +kernel
theorem dX12_relateAlong_86 : decode cX12_relateAlong 86 = .ok (.iload_n 2, 1) := by decide +kernel
theorem dX12_relateAlong_87 : decode cX12_relateAlong 87 = .ok (.laload, 1) := by decide +kernel
theorem dX12_relateAlong_88 : decode cX12_relateAlong 88 = .ok (.invokevirtual 635, 3) := by decide +kernel
theorem dX12_relateAlong_91 : decode cX12_relateAlong 91 = .ok (.aload_n 0, 1) := by decide +kernel
theorem dX12_relateAlong_92 : decode cX12_relateAlong 92 = .ok (.aload_n 0, 1) := by decide +kernel
theorem dX12_relateAlong_93 : decode cX12_relateAlong 93 = .ok (.iconst 0, 1) := by decide +kernel
theorem dX12_relateAlong_94 : decode cX12_relateAlong 94 = .ok (.iconst 0, 1) := by decide +kernel
theorem dX12_relateAlong_95 : decode cX12_relateAlong 95 = .ok (.invokevirtual 999, 3) := by decide +kernel
theorem dX12_relateAlong_98 : decode cX12_relateAlong 98 = .ok (.aload_n 0, 1) := by decide +kernel
theorem dX12_relateAlong_99 : decode cX12_relateAlong 99 = .ok (.iconst 1, 1) := by decide +kernel
theorem dX12_relateAlong_100 : decode cX12_relateAlong 100 = .ok (.iconst 0, 1) := by decide +kernel
theorem dX12_relateAlong_101 : decode cX12_relateAlong 101 = .ok (.invokevirtual 999, 3) := by decide +kernel
theorem dX12_relateAlong_104 : decode cX12_relateAlong 104 = .ok (.iconst 0, 1) := by decide +kernel
theorem dX12_relateAlong_105 : decode cX12_relateAlong 105 = .ok (.invokevirtual 1002, 3) := by decide +kernel
theorem dX12_relateAlong_108 : decode cX12_relateAlong 108 = .ok (.iload_n 2, 1) := by decide +kernel
theorem dX12_relateAlong_109 : decode cX12_relateAlong 109 = .ok (.iconst 1, 1) := by decide +kernel
theorem dX12_relateAlong_110 : decode cX12_relateAlong 110 = .ok (.iadd, 1) := by decide +kernel
theorem dX12_relateAlong_111 : decode cX12_relateAlong 111 = .ok (.aload_n 0, 1) := by decide +kernel
theorem dX12_relateAlong_112 : decode cX12_relateAlong 112 = .ok (.getfield 980, 3) := by decide +kernel
theorem dX12_relateAlong_115 : decode cX12_relateAlong 115 = .ok (.if_icmp .eq 138, 3) := by decide +kernel
theorem dX12_relateAlong_118 : decode cX12_relateAlong 118 = .ok (.aload_n 0, 1) := by decide +kernel
theorem dX12_relateAlong_119 : decode cX12_relateAlong 119 = .ok (.getfield 215, 3) := by decide +kernel
theorem dX12_relateAlong_122 : decode cX12_relateAlong 122 = .ok (.iload_n 2, 1) := by decide +kernel
theorem dX12_relateAlong_123 : decode cX12_relateAlong 123 = .ok (.laload, 1) := by decide +kernel
theorem dX12_relateAlong_124 : decode cX12_relateAlong 124 = .ok (.aload_n 0, 1) := by decide +kernel
theorem dX12_relateAlong_125 : decode cX12_relateAlong 125 = .ok (.getfield 218, 3) := by decide +kernel
theorem dX12_relateAlong_128 : decode cX12_relateAlong 128 = .ok (.iload_n 2, 1) := by decide +kernel
theorem dX12_relateAlong_129 : decode cX12_relateAlong 129 = .ok (.laload, 1) := by decide +kernel
theorem dX12_relateAlong_130 : decode cX12_relateAlong 130 = .ok (.aload_n 0, 1) := by decide +kernel
theorem dX12_relateAlong_131 : decode cX12_relateAlong 131 = .ok (.getfield 215, 3) := by decide +kernel
theorem dX12_relateAlong_134 : decode cX12_relateAlong 134 = .ok (.iload_n 2, 1) := by decide +kernel
theorem dX12_relateAlong_135 : decode cX12_relateAlong 135 = .ok (.iconst 1, 1) := by decide +kernel
theorem dX12_relateAlong_136 : decode cX12_relateAlong 136 = .ok (.iadd, 1) := by decide +kernel
theorem dX12_relateAlong_137 : decode cX12_relateAlong 137 = .ok (.laload, 1) := by decide +kernel
theorem dX12_relateAlong_138 : decode cX12_relateAlong 138 = .ok (.aload_n 0, 1) := by decide +kernel
theorem dX12_relateAlong_139 : decode cX12_relateAlong 139 = .ok (.getfield 218, 3) := by decide +kernel
theorem dX12_relateAlong_142 : decode cX12_relateAlong 142 = .ok (.iload_n 2, 1) := by decide +kernel
theorem dX12_relateAlong_143 : decode cX12_relateAlong 143 = .ok (.iconst 1, 1) := by decide +kernel
theorem dX12_relateAlong_144 : decode cX12_relateAlong 144 = .ok (.iadd, 1) := by decide +kernel
theorem dX12_relateAlong_145 : decode cX12_relateAlong 145 = .ok (.laload, 1) := by decide +kernel
theorem dX12_relateAlong_146 : decode cX12_relateAlong 146 = .ok (.invokestatic 983, 3) := by decide +kernel
theorem dX12_relateAlong_149 : decode cX12_relateAlong 149 = .ok (.ifCond .ne 6, 3) := by decide +kernel
theorem dX12_relateAlong_152 : decode cX12_relateAlong 152 = .ok (.goto 101, 3) := by decide +kernel
theorem dX12_relateAlong_155 : decode cX12_relateAlong 155 = .ok (.aload_n 0, 1) := by decide +kernel
theorem dX12_relateAlong_156 : decode cX12_relateAlong 156 = .ok (.iload_n 2, 1) := by decide +kernel
theorem dX12_relateAlong_157 : decode cX12_relateAlong 157 = .ok (.invokevirtual 1005, 3) := by decide +kernel
theorem dX12_relateAlong_160 : decode cX12_relateAlong 160 = .ok (.aload_n 0, 1) := by decide +kernel
theorem dX12_relateAlong_161 : decode cX12_relateAlong 161 = .ok (.iconst 0, 1) := by decide +kernel
theorem dX12_relateAlong_162 : decode cX12_relateAlong 162 = .ok (.iconst 1, 1) := by decide +kernel
theorem dX12_relateAlong_163 : decode cX12_relateAlong 163 = .ok (.invokevirtual 999, 3) := by decide +kernel
theorem dX12_relateAlong_166 : decode cX12_relateAlong 166 = .ok (.istore_n 3, 1) := by decide +kernel
theorem dX12_relateAlong_167 : decode cX12_relateAlong 167 = .ok (.aload_n 0, 1) := by decide +kernel
theorem dX12_relateAlong_168 : decode cX12_relateAlong 168 = .ok (.iconst 1, 1) := by decide +kernel
theorem dX12_relateAlong_169 : decode cX12_relateAlong 169 = .ok (.iconst 1, 1) := by decide +kernel
theorem dX12_relateAlong_170 : decode cX12_relateAlong 170 = .ok (.invokevirtual 999, 3) := by decide +kernel
theorem dX12_relateAlong_173 : decode cX12_relateAlong 173 = .ok (.istore 4, 2) := by decide +kernel
theorem dX12_relateAlong_175 : decode cX12_relateAlong 175 = .ok (.aload_n 0, 1) := by decide +kernel
theorem dX12_relateAlong_176 : decode cX12_relateAlong 176 = .ok (.iload_n 3, 1) := by decide +kernel
theorem dX12_relateAlong_177 : decode cX12_relateAlong 177 = .ok (.iload 4, 2) := by decide +kernel
theorem dX12_relateAlong_179 : decode cX12_relateAlong 179 = .ok (.iconst 1, 1) := by decide +kernel
theorem dX12_relateAlong_180 : decode cX12_relateAlong 180 = .ok (.invokevirtual 1002, 3) := by decide +kernel
theorem dX12_relateAlong_183 : decode cX12_relateAlong 183 = .ok (.aload_n 0, 1) := by decide +kernel
theorem dX12_relateAlong_184 : decode cX12_relateAlong 184 = .ok (.aload_n 0, 1) := by decide +kernel
theorem dX12_relateAlong_185 : decode cX12_relateAlong 185 = .ok (.getfield 946, 3) := by decide +kernel
theorem dX12_relateAlong_188 : decode cX12_relateAlong 188 = .ok (.lneg, 1) := by decide +kernel
theorem dX12_relateAlong_189 : decode cX12_relateAlong 189 = .ok (.putfield 968, 3) := by decide +kernel
theorem dX12_relateAlong_192 : decode cX12_relateAlong 192 = .ok (.aload_n 0, 1) := by decide +kernel
theorem dX12_relateAlong_193 : decode cX12_relateAlong 193 = .ok (.aload_n 0, 1) := by decide +kernel
theorem dX12_relateAlong_194 : decode cX12_relateAlong 194 = .ok (.getfield 937, 3) := by decide +kernel
theorem dX12_relateAlong_197 : decode cX12_relateAlong 197 = .ok (.putfield 962, 3) := by decide +kernel
theorem dX12_relateAlong_200 : decode cX12_relateAlong 200 = .ok (.aload_n 0, 1) := by decide +kernel
theorem dX12_relateAlong_201 : decode cX12_relateAlong 201 = .ok (.aload_n 0, 1) := by decide +kernel
theorem dX12_relateAlong_202 : decode cX12_relateAlong 202 = .ok (.iconst 0, 1) := by decide +kernel
theorem dX12_relateAlong_203 : decode cX12_relateAlong 203 = .ok (.iload_n 3, 1) := by decide +kernel
theorem dX12_relateAlong_204 : decode cX12_relateAlong 204 = .ok (.invokevirtual 1008, 3) := by decide +kernel
theorem dX12_relateAlong_207 : decode cX12_relateAlong 207 = .ok (.aload_n 0, 1) := by decide +kernel
theorem dX12_relateAlong_208 : decode cX12_relateAlong 208 = .ok (.iconst 1, 1) := by decide +kernel
theorem dX12_relateAlong_209 : decode cX12_relateAlong 209 = .ok (.iload 4, 2) := by decide +kernel
theorem dX12_relateAlong_211 : decode cX12_relateAlong 211 = .ok (.invokevirtual 1008, 3) := by decide +kernel
theorem dX12_relateAlong_214 : decode cX12_relateAlong 214 = .ok (.iconst 2, 1) := by decide +kernel
theorem dX12_relateAlong_215 : decode cX12_relateAlong 215 = .ok (.invokevirtual 1002, 3) := by decide +kernel
theorem dX12_relateAlong_218 : decode cX12_relateAlong 218 = .ok (.aload_n 0, 1) := by decide +kernel
theorem dX12_relateAlong_219 : decode cX12_relateAlong 219 = .ok (.aload_n 0, 1) := by decide +kernel
theorem dX12_relateAlong_220 : decode cX12_relateAlong 220 = .ok (.getfield 946, 3) := by decide +kernel
theorem dX12_relateAlong_223 : decode cX12_relateAlong 223 = .ok (.putfield 968, 3) := by decide +kernel
theorem dX12_relateAlong_226 : decode cX12_relateAlong 226 = .ok (.aload_n 0, 1) := by decide +kernel
theorem dX12_relateAlong_227 : decode cX12_relateAlong 227 = .ok (.aload_n 0, 1) := by decide +kernel
theorem dX12_relateAlong_228 : decode cX12_relateAlong 228 = .ok (.getfield 937, 3) := by decide +kernel
theorem dX12_relateAlong_231 : decode cX12_relateAlong 231 = .ok (.lneg, 1) := by decide +kernel
theorem dX12_relateAlong_232 : decode cX12_relateAlong 232 = .ok (.putfield 962, 3) := by decide +kernel
theorem dX12_relateAlong_235 : decode cX12_relateAlong 235 = .ok (.aload_n 0, 1) := by decide +kernel
theorem dX12_relateAlong_236 : decode cX12_relateAlong 236 = .ok (.aload_n 0, 1) := by decide +kernel
theorem dX12_relateAlong_237 : decode cX12_relateAlong 237 = .ok (.iconst 0, 1) := by decide +kernel
theorem dX12_relateAlong_238 : decode cX12_relateAlong 238 = .ok (.iload_n 3, 1) := by decide +kernel
theorem dX12_relateAlong_239 : decode cX12_relateAlong 239 = .ok (.invokevirtual 1008, 3) := by decide +kernel
theorem dX12_relateAlong_242 : decode cX12_relateAlong 242 = .ok (.aload_n 0, 1) := by decide +kernel
theorem dX12_relateAlong_243 : decode cX12_relateAlong 243 = .ok (.iconst 1, 1) := by decide +kernel
theorem dX12_relateAlong_244 : decode cX12_relateAlong 244 = .ok (.iload 4, 2) := by decide +kernel
theorem dX12_relateAlong_246 : decode cX12_relateAlong 246 = .ok (.invokevirtual 1008, 3) := by decide +kernel
theorem dX12_relateAlong_249 : decode cX12_relateAlong 249 = .ok (.iconst 2, 1) := by decide +kernel
theorem dX12_relateAlong_250 : decode cX12_relateAlong 250 = .ok (.invokevirtual 1002, 3) := by decide +kernel
theorem dX12_relateAlong_253 : decode cX12_relateAlong 253 = .ok (.iinc 2 1, 3) := by decide +kernel
theorem dX12_relateAlong_256 : decode cX12_relateAlong 256 = .ok (.goto (-195), 3) := by decide +kernel
theorem dX12_relateAlong_259 : decode cX12_relateAlong 259 = .ok (.return_, 1) := by decide +kernel
theorem dX12_isTooMuch_0 : decode cX12_isTooMuch 0 = .ok (.iconst 0, 1) := by decide +kernel
theorem dX12_isTooMuch_1 : decode cX12_isTooMuch 1 = .ok (.istore_n 1, 1) := by decide +kernel
theorem dX12_isTooMuch_2 : decode cX12_isTooMuch 2 = .ok (.iload_n 1, 1) := by decide +kernel
theorem dX12_isTooMuch_3 : decode cX12_isTooMuch 3 = .ok (.iconst 2, 1) := by decide +kernel
theorem dX12_isTooMuch_4 : decode cX12_isTooMuch 4 = .ok (.if_icmp .ge 32, 3) := by decide +kernel
theorem dX12_isTooMuch_7 : decode cX12_isTooMuch 7 = .ok (.aload_n 0, 1) := by decide +kernel
theorem dX12_isTooMuch_8 : decode cX12_isTooMuch 8 = .ok (.getfield 194, 3) := by decide +kernel
theorem dX12_isTooMuch_11 : decode cX12_isTooMuch 11 = .ok (.iload_n 1, 1) := by decide +kernel
theorem dX12_isTooMuch_12 : decode cX12_isTooMuch 12 = .ok (.iaload, 1) := by decide +kernel
theorem dX12_isTooMuch_13 : decode cX12_isTooMuch 13 = .ok (.ifCond .le 17, 3) := by decide +kernel
theorem dX12_isTooMuch_16 : decode cX12_isTooMuch 16 = .ok (.aload_n 0, 1) := by decide +kernel
theorem dX12_isTooMuch_17 : decode cX12_isTooMuch 17 = .ok (.getfield 197, 3) := by decide +kernel
theorem dX12_isTooMuch_20 : decode cX12_isTooMuch 20 = .ok (.iload_n 1, 1) := by decide +kernel
theorem dX12_isTooMuch_21 : decode cX12_isTooMuch 21 = .ok (.iaload, 1) := by decide +kernel
theorem dX12_isTooMuch_22 : decode cX12_isTooMuch 22 = .ok (.sipush 1024, 3) := by decide +kernel
theorem dX12_isTooMuch_25 : decode cX12_isTooMuch 25 = .ok (.if_icmp .le 5, 3) := by decide +kernel
theorem dX12_isTooMuch_28 : decode cX12_isTooMuch 28 = .ok (.iconst 1, 1) := by decide +kernel
theorem dX12_isTooMuch_29 : decode cX12_isTooMuch 29 = .ok (.ireturn, 1) := by decide +kernel
theorem dX12_isTooMuch_30 : decode cX12_isTooMuch 30 = .ok (.iinc 1 1, 3) := by decide +kernel
theorem dX12_isTooMuch_33 : decode cX12_isTooMuch 33 = .ok (.goto (-31), 3) := by decide +kernel
theorem dX12_isTooMuch_36 : decode cX12_isTooMuch 36 = .ok (.aload_n 0, 1) := by decide +kernel
theorem dX12_isTooMuch_37 : decode cX12_isTooMuch 37 = .ok (.getfield 652, 3) := by decide +kernel
theorem dX12_isTooMuch_40 : decode cX12_isTooMuch 40 = .ok (.sipush 256, 3) := by decide +kernel
theorem dX12_isTooMuch_43 : decode cX12_isTooMuch 43 = .ok (.if_icmp .le 5, 3) := by decide +kernel
theorem dX12_isTooMuch_46 : decode cX12_isTooMuch 46 = .ok (.iconst 1, 1) := by decide +kernel
theorem dX12_isTooMuch_47 : decode cX12_isTooMuch 47 = .ok (.ireturn, 1) := by decide +kernel
theorem dX12_isTooMuch_48 : decode cX12_isTooMuch 48 = .ok (.iconst 0, 1) := by decide +kernel
theorem dX12_isTooMuch_49 : decode cX12_isTooMuch 49 = .ok (.istore_n 1, 1) := by decide +kernel
theorem dX12_isTooMuch_50 : decode cX12_isTooMuch 50 = .ok (.iconst 0, 1) := by decide +kernel
theorem dX12_isTooMuch_51 : decode cX12_isTooMuch 51 = .ok (.istore_n 2, 1) := by decide +kernel
theorem dX12_isTooMuch_52 : decode cX12_isTooMuch 52 = .ok (.iload_n 2, 1) := by decide +kernel
theorem dX12_isTooMuch_53 : decode cX12_isTooMuch 53 = .ok (.aload_n 0, 1) := by decide +kernel
theorem dX12_isTooMuch_54 : decode cX12_isTooMuch 54 = .ok (.getfield 652, 3) := by decide +kernel
theorem dX12_isTooMuch_57 : decode cX12_isTooMuch 57 = .ok (.if_icmp .ge 44, 3) := by decide +kernel
theorem dX12_isTooMuch_60 : decode cX12_isTooMuch 60 = .ok (.iload_n 2, 1) := by decide +kernel
theorem dX12_isTooMuch_61 : decode cX12_isTooMuch 61 = .ok (.iconst 1, 1) := by decide +kernel
theorem dX12_isTooMuch_62 : decode cX12_isTooMuch 62 = .ok (.iadd, 1) := by decide +kernel
theorem dX12_isTooMuch_63 : decode cX12_isTooMuch 63 = .ok (.istore_n 3, 1) := by decide +kernel
theorem dX12_isTooMuch_64 : decode cX12_isTooMuch 64 = .ok (.iload_n 3, 1) := by decide +kernel
theorem dX12_isTooMuch_65 : decode cX12_isTooMuch 65 = .ok (.aload_n 0, 1) := by decide +kernel
theorem dX12_isTooMuch_66 : decode cX12_isTooMuch 66 = .ok (.getfield 652, 3) := by decide +kernel
theorem dX12_isTooMuch_69 : decode cX12_isTooMuch 69 = .ok (.if_icmp .ge 26, 3) := by decide +kernel
theorem dX12_isTooMuch_72 : decode cX12_isTooMuch 72 = .ok (.aload_n 0, 1) := by decide +kernel
theorem dX12_isTooMuch_73 : decode cX12_isTooMuch 73 = .ok (.iload_n 2, 1) := by decide +kernel
theorem dX12_isTooMuch_74 : decode cX12_isTooMuch 74 = .ok (.iload_n 3, 1) := by decide +kernel
theorem dX12_isTooMuch_75 : decode cX12_isTooMuch 75 = .ok (.invokevirtual 698, 3) := by decide +kernel
theorem dX12_isTooMuch_78 : decode cX12_isTooMuch 78 = .ok (.ifCond .le 9, 3) := by decide +kernel
theorem dX12_isTooMuch_81 : decode cX12_isTooMuch 81 = .ok (.iload_n 1, 1) := by decide +kernel
theorem dX12_isTooMuch_82 : decode cX12_isTooMuch 82 = .ok (.iconst 1, 1) := by decide +kernel
theorem dX12_isTooMuch_83 : decode cX12_isTooMuch 83 = .ok (.iadd, 1) := by decide +kernel
theorem dX12_isTooMuch_84 : decode cX12_isTooMuch 84 = .ok (.goto 4, 3) := by decide +kernel
theorem dX12_isTooMuch_87 : decode cX12_isTooMuch 87 = .ok (.iload_n 1, 1) := by decide +kernel
theorem dX12_isTooMuch_88 : decode cX12_isTooMuch 88 = .ok (.istore_n 1, 1) := by decide +kernel
theorem dX12_isTooMuch_89 : decode cX12_isTooMuch 89 = .ok (.iinc 3 1, 3) := by decide +kernel
theorem dX12_isTooMuch_92 : decode cX12_isTooMuch 92 = .ok (.goto (-28), 3) := by decide +kernel
theorem dX12_isTooMuch_95 : decode cX12_isTooMuch 95 = .ok (.iinc 2 1, 3) := by decide +kernel
theorem dX12_isTooMuch_98 : decode cX12_isTooMuch 98 = .ok (.goto (-46), 3) := by decide +kernel
theorem dX12_isTooMuch_101 : decode cX12_isTooMuch 101 = .ok (.iload_n 1, 1) := by decide +kernel
theorem dX12_isTooMuch_102 : decode cX12_isTooMuch 102 = .ok (.sipush 1024, 3) := by decide +kernel
theorem dX12_isTooMuch_105 : decode cX12_isTooMuch 105 = .ok (.if_icmp .le 7, 3) := by decide +kernel
theorem dX12_isTooMuch_108 : decode cX12_isTooMuch 108 = .ok (.iconst 1, 1) := by decide +kernel
theorem dX12_isTooMuch_109 : decode cX12_isTooMuch 109 = .ok (.goto 4, 3) := by decide +kernel
theorem dX12_isTooMuch_112 : decode cX12_isTooMuch 112 = .ok (.iconst 0, 1) := by decide +kernel
theorem dX12_isTooMuch_113 : decode cX12_isTooMuch 113 = .ok (.ireturn, 1) := by decide +kernel
theorem dX12_relates_0 : decode cX12_relates 0 = .ok (.aload_n 0, 1) := by decide +kernel
theorem dX12_relates_1 : decode cX12_relates 1 = .ok (.iconst 0, 1) := by decide +kernel
theorem dX12_relates_2 : decode cX12_relates 2 = .ok (.putfield 652, 3) := by decide +kernel
theorem dX12_relates_5 : decode cX12_relates 5 = .ok (.aload_n 0, 1) := by decide +kernel
theorem dX12_relates_6 : decode cX12_relates 6 = .ok (.iload_n 1, 1) := by decide +kernel
theorem dX12_relates_7 : decode cX12_relates 7 = .ok (.iconst 0, 1) := by decide +kernel
theorem dX12_relates_8 : decode cX12_relates 8 = .ok (.invokevirtual 1011, 3) := by decide +kernel
theorem dX12_relates_11 : decode cX12_relates 11 = .ok (.aload_n 0, 1) := by decide +kernel
theorem dX12_relates_12 : decode cX12_relates 12 = .ok (.iload_n 2, 1) := by decide +kernel
theorem dX12_relates_13 : decode cX12_relates 13 = .ok (.iconst 1, 1) := by decide +kernel
theorem dX12_relates_14 : decode cX12_relates 14 = .ok (.invokevirtual 1011, 3) := by decide +kernel
theorem dX12_relates_17 : decode cX12_relates 17 = .ok (.aload_n 0, 1) := by decide +kernel
theorem dX12_relates_18 : decode cX12_relates 18 = .ok (.invokevirtual 1014, 3) := by decide +kernel
theorem dX12_relates_21 : decode cX12_relates 21 = .ok (.ifCond .eq 5, 3) := by decide +kernel
theorem dX12_relates_24 : decode cX12_relates 24 = .ok (.iconst 0, 1) := by decide +kernel
theorem dX12_relates_25 : decode cX12_relates 25 = .ok (.ireturn, 1) := by decide +kernel
theorem dX12_relates_26 : decode cX12_relates 26 = .ok (.iconst 0, 1) := by decide +kernel
theorem dX12_relates_27 : decode cX12_relates 27 = .ok (.istore_n 3, 1) := by decide +kernel
theorem dX12_relates_28 : decode cX12_relates 28 = .ok (.iload_n 3, 1) := by decide +kernel
theorem dX12_relates_29 : decode cX12_relates 29 = .ok (.bipush 9, 2) := by decide +kernel
theorem dX12_relates_31 : decode cX12_relates 31 = .ok (.if_icmp .ge 16, 3) := by decide +kernel
theorem dX12_relates_34 : decode cX12_relates 34 = .ok (.aload_n 0, 1) := by decide +kernel
theorem dX12_relates_35 : decode cX12_relates 35 = .ok (.getfield 212, 3) := by decide +kernel
theorem dX12_relates_38 : decode cX12_relates 38 = .ok (.iload_n 3, 1) := by decide +kernel
theorem dX12_relates_39 : decode cX12_relates 39 = .ok (.iconst (-1), 1) := by decide +kernel
theorem dX12_relates_40 : decode cX12_relates 40 = .ok (.iastore, 1) := by decide +kernel
theorem dX12_relates_41 : decode cX12_relates 41 = .ok (.iinc 3 1, 3) := by decide +kernel
theorem dX12_relates_44 : decode cX12_relates 44 = .ok (.goto (-16), 3) := by decide +kernel
theorem dX12_relates_47 : decode cX12_relates 47 = .ok (.aload_n 0, 1) := by decide +kernel
theorem dX12_relates_48 : decode cX12_relates 48 = .ok (.getfield 212, 3) := by decide +kernel
theorem dX12_relates_51 : decode cX12_relates 51 = .ok (.bipush 8, 2) := by decide +kernel
theorem dX12_relates_53 : decode cX12_relates 53 = .ok (.iconst 2, 1) := by decide +kernel
theorem dX12_relates_54 : decode cX12_relates 54 = .ok (.iastore, 1) := by decide +kernel
theorem dX12_relates_55 : decode cX12_relates 55 = .ok (.iconst 0, 1) := by decide +kernel
theorem dX12_relates_56 : decode cX12_relates 56 = .ok (.istore_n 3, 1) := by decide +kernel
theorem dX12_relates_57 : decode cX12_relates 57 = .ok (.iload_n 3, 1) := by decide +kernel
theorem dX12_relates_58 : decode cX12_relates 58 = .ok (.aload_n 0, 1) := by decide +kernel
theorem dX12_relates_59 : decode cX12_relates 59 = .ok (.getfield 652, 3) := by decide +kernel
theorem dX12_relates_62 : decode cX12_relates 62 = .ok (.if_icmp .ge 14, 3) := by decide +kernel
theorem dX12_relates_65 : decode cX12_relates 65 = .ok (.aload_n 0, 1) := by decide +kernel
theorem dX12_relates_66 : decode cX12_relates 66 = .ok (.iload_n 3, 1) := by decide +kernel
theorem dX12_relates_67 : decode cX12_relates 67 = .ok (.invokevirtual 1017, 3) := by decide +kernel
theorem dX12_relates_70 : decode cX12_relates 70 = .ok (.iinc 3 1, 3) := by decide +kernel
theorem dX12_relates_73 : decode cX12_relates 73 = .ok (.goto (-16), 3) := by decide +kernel
theorem dX12_relates_76 : decode cX12_relates 76 = .ok (.iconst 0, 1) := by decide +kernel
theorem dX12_relates_77 : decode cX12_relates 77 = .ok (.istore_n 3, 1) := by decide +kernel
theorem dX12_relates_78 : decode cX12_relates 78 = .ok (.iload_n 3, 1) := by decide +kernel
theorem dX12_relates_79 : decode cX12_relates 79 = .ok (.iconst 2, 1) := by decide +kernel
theorem dX12_relates_80 : decode cX12_relates 80 = .ok (.if_icmp .ge 96, 3) := by decide +kernel
theorem dX12_relates_83 : decode cX12_relates 83 = .ok (.sipush 2048, 3) := by decide +kernel
theorem dX12_relates_86 : decode cX12_relates 86 = .ok (.aload_n 0, 1) := by decide +kernel
theorem dX12_relates_87 : decode cX12_relates 87 = .ok (.getfield 191, 3) := by decide +kernel
theorem dX12_relates_90 : decode cX12_relates 90 = .ok (.iload_n 3, 1) := by decide +kernel
theorem dX12_relates_91 : decode cX12_relates 91 = .ok (.iaload, 1) := by decide +kernel
theorem dX12_relates_92 : decode cX12_relates 92 = .ok (.imul, 1) := by decide +kernel
theorem dX12_relates_93 : decode cX12_relates 93 = .ok (.istore 4, 2) := by decide +kernel
theorem dX12_relates_95 : decode cX12_relates 95 = .ok (.iload 4, 2) := by decide +kernel
theorem dX12_relates_97 : decode cX12_relates 97 = .ok (.istore 5, 2) := by decide +kernel
theorem dX12_relates_99 : decode cX12_relates 99 = .ok (.aload_n 0, 1) := by decide +kernel
theorem dX12_relates_100 : decode cX12_relates 100 = .ok (.getfield 194, 3) := by decide +kernel
theorem dX12_relates_103 : decode cX12_relates 103 = .ok (.iload_n 3, 1) := by decide +kernel
theorem dX12_relates_104 : decode cX12_relates 104 = .ok (.iaload, 1) := by decide +kernel
theorem dX12_relates_105 : decode cX12_relates 105 = .ok (.ifCond .ne 65, 3) := by decide +kernel
theorem dX12_relates_108 : decode cX12_relates 108 = .ok (.iload 5, 2) := by decide +kernel
theorem dX12_relates_110 : decode cX12_relates 110 = .ok (.iload 4, 2) := by decide +kernel
theorem dX12_relates_112 : decode cX12_relates 112 = .ok (.aload_n 0, 1) := by decide +kernel
theorem dX12_relates_113 : decode cX12_relates 113 = .ok (.getfield 26, 3) := by decide +kernel
theorem dX12_relates_116 : decode cX12_relates 116 = .ok (.aload_n 0, 1) := by decide +kernel
theorem dX12_relates_117 : decode cX12_relates 117 = .ok (.getfield 191, 3) := by decide +kernel
theorem dX12_relates_120 : decode cX12_relates 120 = .ok (.iload_n 3, 1) := by decide +kernel
theorem dX12_relates_121 : decode cX12_relates 121 = .ok (.iaload, 1) := by decide +kernel
theorem dX12_relates_122 : decode cX12_relates 122 = .ok (.iaload, 1) := by decide +kernel
theorem dX12_relates_123 : decode cX12_relates 123 = .ok (.iadd, 1) := by decide +kernel
theorem dX12_relates_124 : decode cX12_relates 124 = .ok (.if_icmp .ge 46, 3) := by decide +kernel
theorem dX12_relates_127 : decode cX12_relates 127 = .ok (.aload_n 0, 1) := by decide +kernel
theorem dX12_relates_128 : decode cX12_relates 128 = .ok (.aload_n 0, 1) := by decide +kernel
theorem dX12_relates_129 : decode cX12_relates 129 = .ok (.getfield 29, 3) := by decide +kernel
theorem dX12_relates_132 : decode cX12_relates 132 = .ok (.iload 5, 2) := by decide +kernel
theorem dX12_relates_134 : decode cX12_relates 134 = .ok (.iaload, 1) := by decide +kernel
theorem dX12_relates_135 : decode cX12_relates 135 = .ok (.i2l, 1) := by decide +kernel
theorem dX12_relates_136 : decode cX12_relates 136 = .ok (.aload_n 0, 1) := by decide +kernel
theorem dX12_relates_137 : decode cX12_relates 137 = .ok (.getfield 32, 3) := by decide +kernel
theorem dX12_relates_140 : decode cX12_relates 140 = .ok (.iload 5, 2) := by decide +kernel
theorem dX12_relates_142 : decode cX12_relates 142 = .ok (.iaload, 1) := by decide +kernel
theorem dX12_relates_143 : decode cX12_relates 143 = .ok (.i2l, 1) := by decide +kernel
theorem dX12_relates_144 : decode cX12_relates 144 = .ok (.invokevirtual 1020, 3) := by decide +kernel
theorem dX12_relates_147 : decode cX12_relates 147 = .ok (.aload_n 0, 1) := by decide +kernel
theorem dX12_relates_148 : decode cX12_relates 148 = .ok (.aload_n 0, 1) := by decide +kernel
theorem dX12_relates_149 : decode cX12_relates 149 = .ok (.iconst 0, 1) := by decide +kernel
theorem dX12_relates_150 : decode cX12_relates 150 = .ok (.iconst 0, 1) := by decide +kernel
theorem dX12_relates_151 : decode cX12_relates 151 = .ok (.invokevirtual 999, 3) := by decide +kernel
theorem dX12_relates_154 : decode cX12_relates 154 = .ok (.aload_n 0, 1) := by decide +kernel
theorem dX12_relates_155 : decode cX12_relates 155 = .ok (.iconst 1, 1) := by decide +kernel
theorem dX12_relates_156 : decode cX12_relates 156 = .ok (.iconst 0, 1) := by decide +kernel
theorem dX12_relates_157 : decode cX12_relates 157 = .ok (.invokevirtual 999, 3) := by decide +kernel
theorem dX12_relates_160 : decode cX12_relates 160 = .ok (.iconst 0, 1) := by decide +kernel
theorem dX12_relates_161 : decode cX12_relates 161 = .ok (.invokevirtual 1002, 3) := by decide +kernel
theorem dX12_relates_164 : decode cX12_relates 164 = .ok (.iinc 5 1, 3) := by decide +kernel
theorem dX12_relates_167 : decode cX12_relates 167 = .ok (.goto (-68), 3) := by decide +kernel
theorem dX12_relates_170 : decode cX12_relates 170 = .ok (.iinc 3 1, 3) := by decide +kernel
theorem dX12_relates_173 : decode cX12_relates 173 = .ok (.goto (-95), 3) := by decide +kernel
theorem dX12_relates_176 : decode cX12_relates 176 = .ok (.iconst 1, 1) := by decide +kernel
theorem dX12_relates_177 : decode cX12_relates 177 = .ok (.ireturn, 1) := by decide +kernel
