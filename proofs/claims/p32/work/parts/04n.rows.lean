theorem dX12_isCrossing_0 : decode cX12_isCrossing 0 = .ok (.aload_n 0, 1) := by decide +kernel
theorem dX12_isCrossing_1 : decode cX12_isCrossing 1 = .ok (.getfield 84, 3) := by decide +kernel
theorem dX12_isCrossing_4 : decode cX12_isCrossing 4 = .ok (.iload_n 1, 1) := by decide +kernel
theorem dX12_isCrossing_5 : decode cX12_isCrossing 5 = .ok (.laload, 1) := by decide +kernel
theorem dX12_isCrossing_6 : decode cX12_isCrossing 6 = .ok (.aload_n 0, 1) := by decide +kernel
theorem dX12_isCrossing_7 : decode cX12_isCrossing 7 = .ok (.getfield 658, 3) := by decide +kernel
theorem dX12_isCrossing_10 : decode cX12_isCrossing 10 = .ok (.lcmp, 1) := by decide +kernel
theorem dX12_isCrossing_11 : decode cX12_isCrossing 11 = .ok (.ifCond .ne 21, 3) := by decide +kernel
theorem dX12_isCrossing_14 : decode cX12_isCrossing 14 = .ok (.aload_n 0, 1) := by decide +kernel
theorem dX12_isCrossing_15 : decode cX12_isCrossing 15 = .ok (.getfield 87, 3) := by decide +kernel
theorem dX12_isCrossing_18 : decode cX12_isCrossing 18 = .ok (.iload_n 1, 1) := by decide +kernel
theorem dX12_isCrossing_19 : decode cX12_isCrossing 19 = .ok (.laload, 1) := by decide +kernel
theorem dX12_isCrossing_20 : decode cX12_isCrossing 20 = .ok (.aload_n 0, 1) := by decide +kernel
theorem dX12_isCrossing_21 : decode cX12_isCrossing 21 = .ok (.getfield 661, 3) := by decide +kernel
theorem dX12_isCrossing_24 : decode cX12_isCrossing 24 = .ok (.lcmp, 1) := by decide +kernel
theorem dX12_isCrossing_25 : decode cX12_isCrossing 25 = .ok (.ifCond .ne 7, 3) := by decide +kernel
theorem dX12_isCrossing_28 : decode cX12_isCrossing 28 = .ok (.iconst 1, 1) := by decide +kernel
theorem dX12_isCrossing_29 : decode cX12_isCrossing 29 = .ok (.goto 4, 3) := by decide +kernel
theorem dX12_isCrossing_32 : decode cX12_isCrossing 32 = .ok (.iconst 0, 1) := by decide +kernel
theorem dX12_isCrossing_33 : decode cX12_isCrossing 33 = .ok (.istore_n 3, 1) := by decide +kernel
theorem dX12_isCrossing_34 : decode cX12_isCrossing 34 = .ok (.aload_n 0, 1) := by decide +kernel
theorem dX12_isCrossing_35 : decode cX12_isCrossing 35 = .ok (.getfield 84, 3) := by decide +kernel
theorem dX12_isCrossing_38 : decode cX12_isCrossing 38 = .ok (.iload_n 2, 1) := by decide +kernel
theorem dX12_isCrossing_39 : decode cX12_isCrossing 39 = .ok (.laload, 1) := by decide +kernel
theorem dX12_isCrossing_40 : decode cX12_isCrossing 40 = .ok (.aload_n 0, 1) := by decide +kernel
theorem dX12_isCrossing_41 : decode cX12_isCrossing 41 = .ok (.getfield 658, 3) := by decide +kernel
theorem dX12_isCrossing_44 : decode cX12_isCrossing 44 = .ok (.lcmp, 1) := by decide +kernel
theorem dX12_isCrossing_45 : decode cX12_isCrossing 45 = .ok (.ifCond .ne 21, 3) := by decide +kernel
theorem dX12_isCrossing_48 : decode cX12_isCrossing 48 = .ok (.aload_n 0, 1) := by decide +kernel
theorem dX12_isCrossing_49 : decode cX12_isCrossing 49 = .ok (.getfield 87, 3) := by decide +kernel
theorem dX12_isCrossing_52 : decode cX12_isCrossing 52 = .ok (.iload_n 2, 1) := by decide +kernel
theorem dX12_isCrossing_53 : decode cX12_isCrossing 53 = .ok (.laload, 1) := by decide +kernel
theorem dX12_isCrossing_54 : decode cX12_isCrossing 54 = .ok (.aload_n 0, 1) := by decide +kernel
theorem dX12_isCrossing_55 : decode cX12_isCrossing 55 = .ok (.getfield 661, 3) := by decide +kernel
theorem dX12_isCrossing_58 : decode cX12_isCrossing 58 = .ok (.lcmp, 1) := by decide +kernel
theorem dX12_isCrossing_59 : decode cX12_isCrossing 59 = .ok (.ifCond .ne 7, 3) := by decide +kernel
theorem dX12_isCrossing_62 : decode cX12_isCrossing 62 = .ok (.iconst 1, 1) := by decide +kernel
theorem dX12_isCrossing_63 : decode cX12_isCrossing 63 = .ok (.goto 4, 3) := by decide +kernel
theorem dX12_isCrossing_66 : decode cX12_isCrossing 66 = .ok (.iconst 0, 1) := by decide +kernel
theorem dX12_isCrossing_67 : decode cX12_isCrossing 67 = .ok (.istore 4, 2) := by decide +kernel
theorem dX12_isCrossing_69 : decode cX12_isCrossing 69 = .ok (.iload_n 3, 1) := by decide +kernel
theorem dX12_isCrossing_70 : decode cX12_isCrossing 70 = .ok (.ifCond .eq 11, 3) := by decide +kernel
theorem dX12_isCrossing_73 : decode cX12_isCrossing 73 = .ok (.aload_n 0, 1) := by decide +kernel
theorem dX12_isCrossing_74 : decode cX12_isCrossing 74 = .ok (.iload_n 1, 1) := by decide +kernel
theorem dX12_isCrossing_75 : decode cX12_isCrossing 75 = .ok (.invokevirtual 691, 3) := by decide +kernel
theorem dX12_isCrossing_78 : decode cX12_isCrossing 78 = .ok (.goto 4, 3) := by decide +kernel
theorem dX12_isCrossing_81 : decode cX12_isCrossing 81 = .ok (.iload_n 1, 1) := by decide +kernel
theorem dX12_isCrossing_82 : decode cX12_isCrossing 82 = .ok (.istore 5, 2) := by decide +kernel
theorem dX12_isCrossing_84 : decode cX12_isCrossing 84 = .ok (.iload 4, 2) := by decide +kernel
theorem dX12_isCrossing_86 : decode cX12_isCrossing 86 = .ok (.ifCond .eq 11, 3) := by decide +kernel
theorem dX12_isCrossing_89 : decode cX12_isCrossing 89 = .ok (.aload_n 0, 1) := by decide +kernel
theorem dX12_isCrossing_90 : decode cX12_isCrossing 90 = .ok (.iload_n 2, 1) := by decide +kernel
theorem dX12_isCrossing_91 : decode cX12_isCrossing 91 = .ok (.invokevirtual 691, 3) := by decide +kernel
theorem dX12_isCrossing_94 : decode cX12_isCrossing 94 = .ok (.goto 4, 3) := by decide +kernel
theorem dX12_isCrossing_97 : decode cX12_isCrossing 97 = .ok (.iload_n 2, 1) := by decide +kernel
theorem dX12_isCrossing_98 : decode cX12_isCrossing 98 = .ok (.istore 6, 2) := by decide +kernel
theorem dX12_isCrossing_100 : decode cX12_isCrossing 100 = .ok (.aload_n 0, 1) := by decide +kernel
theorem dX12_isCrossing_101 : decode cX12_isCrossing 101 = .ok (.getfield 84, 3) := by decide +kernel
theorem dX12_isCrossing_104 : decode cX12_isCrossing 104 = .ok (.iload 5, 2) := by decide +kernel
theorem dX12_isCrossing_106 : decode cX12_isCrossing 106 = .ok (.laload, 1) := by decide +kernel
theorem dX12_isCrossing_107 : decode cX12_isCrossing 107 = .ok (.aload_n 0, 1) := by decide +kernel
theorem dX12_isCrossing_108 : decode cX12_isCrossing 108 = .ok (.getfield 658, 3) := by decide +kernel
theorem dX12_isCrossing_111 : decode cX12_isCrossing 111 = .ok (.lsub, 1) := by decide +kernel
theorem dX12_isCrossing_112 : decode cX12_isCrossing 112 = .ok (.lstore 7, 2) := by decide +kernel
theorem dX12_isCrossing_114 : decode cX12_isCrossing 114 = .ok (.aload_n 0, 1) := by decide +kernel
theorem dX12_isCrossing_115 : decode cX12_isCrossing 115 = .ok (.getfield 87, 3) := by decide +kernel
theorem dX12_isCrossing_118 : decode cX12_isCrossing 118 = .ok (.iload 5, 2) := by decide +kernel
theorem dX12_isCrossing_120 : decode cX12_isCrossing 120 = .ok (.laload, 1) := by decide +kernel
theorem dX12_isCrossing_121 : decode cX12_isCrossing 121 = .ok (.aload_n 0, 1) := by decide +kernel
theorem dX12_isCrossing_122 : decode cX12_isCrossing 122 = .ok (.getfield 661, 3) := by decide +kernel
theorem dX12_isCrossing_125 : decode cX12_isCrossing 125 = .ok (.lsub, 1) := by decide +kernel
theorem dX12_isCrossing_126 : decode cX12_isCrossing 126 = .ok (.lstore 9, 2) := by decide +kernel
theorem dX12_isCrossing_128 : decode cX12_isCrossing 128 = .ok (.aload_n 0, 1) := by decide +kernel
theorem dX12_isCrossing_129 : decode cX12_isCrossing 129 = .ok (.getfield 78, 3) := by decide +kernel
theorem dX12_isCrossing_132 : decode cX12_isCrossing 132 = .ok (.iload_n 1, 1) := by decide +kernel
theorem dX12_isCrossing_133 : decode cX12_isCrossing 133 = .ok (.laload, 1) := by decide +kernel
theorem dX12_isCrossing_134 : decode cX12_isCrossing 134 = .ok (.aload_n 0, 1) := by decide +kernel
theorem dX12_isCrossing_135 : decode cX12_isCrossing 135 = .ok (.getfield 658, 3) := by decide +kernel
theorem dX12_isCrossing_138 : decode cX12_isCrossing 138 = .ok (.lsub, 1) := by decide +kernel
theorem dX12_isCrossing_139 : decode cX12_isCrossing 139 = .ok (.lstore 11, 2) := by decide +kernel
theorem dX12_isCrossing_141 : decode cX12_isCrossing 141 = .ok (.aload_n 0, 1) := by decide +kernel
theorem dX12_isCrossing_142 : decode cX12_isCrossing 142 = .ok (.getfield 81, 3) := by decide +kernel
theorem dX12_isCrossing_145 : decode cX12_isCrossing 145 = .ok (.iload_n 1, 1) := by decide +kernel
theorem dX12_isCrossing_146 : decode cX12_isCrossing 146 = .ok (.laload, 1) := by decide +kernel
theorem dX12_isCrossing_147 : decode cX12_isCrossing 147 = .ok (.aload_n 0, 1) := by decide +kernel
theorem dX12_isCrossing_148 : decode cX12_isCrossing 148 = .ok (.getfield 661, 3) := by decide +kernel
theorem dX12_isCrossing_151 : decode cX12_isCrossing 151 = .ok (.lsub, 1) := by decide +kernel
theorem dX12_isCrossing_152 : decode cX12_isCrossing 152 = .ok (.lstore 13, 2) := by decide +kernel
theorem dX12_isCrossing_154 : decode cX12_isCrossing 154 = .ok (.lload 7, 2) := by decide +kernel
theorem dX12_isCrossing_156 : decode cX12_isCrossing 156 = .ok (.lload 9, 2) := by decide +kernel
theorem dX12_isCrossing_158 : decode cX12_isCrossing 158 = .ok (.lload 11, 2) := by decide +kernel
theorem dX12_isCrossing_160 : decode cX12_isCrossing 160 = .ok (.lload 13, 2) := by decide +kernel
theorem dX12_isCrossing_162 : decode cX12_isCrossing 162 = .ok (.aload_n 0, 1) := by decide +kernel
theorem dX12_isCrossing_163 : decode cX12_isCrossing 163 = .ok (.getfield 84, 3) := by decide +kernel
theorem dX12_isCrossing_166 : decode cX12_isCrossing 166 = .ok (.iload 6, 2) := by decide +kernel
theorem dX12_isCrossing_168 : decode cX12_isCrossing 168 = .ok (.laload, 1) := by decide +kernel
theorem dX12_isCrossing_169 : decode cX12_isCrossing 169 = .ok (.aload_n 0, 1) := by decide +kernel
theorem dX12_isCrossing_170 : decode cX12_isCrossing 170 = .ok (.getfield 658, 3) := by decide +kernel
theorem dX12_isCrossing_173 : decode cX12_isCrossing 173 = .ok (.lsub, 1) := by decide +kernel
theorem dX12_isCrossing_174 : decode cX12_isCrossing 174 = .ok (.aload_n 0, 1) := by decide +kernel
theorem dX12_isCrossing_175 : decode cX12_isCrossing 175 = .ok (.getfield 87, 3) := by decide +kernel
theorem dX12_isCrossing_178 : decode cX12_isCrossing 178 = .ok (.iload 6, 2) := by decide +kernel
theorem dX12_isCrossing_180 : decode cX12_isCrossing 180 = .ok (.laload, 1) := by decide +kernel
theorem dX12_isCrossing_181 : decode cX12_isCrossing 181 = .ok (.aload_n 0, 1) := by decide +kernel
theorem dX12_isCrossing_182 : decode cX12_isCrossing 182 = .ok (.getfield 661, 3) := by decide +kernel
theorem dX12_isCrossing_185 : decode cX12_isCrossing 185 = .ok (.lsub, 1) := by decide +kernel
theorem dX12_isCrossing_186 : decode cX12_isCrossing 186 = .ok (.invokestatic 694, 3) := by decide +kernel
theorem dX12_isCrossing_189 : decode cX12_isCrossing 189 = .ok (.istore 15, 2) := by decide +kernel
theorem dX12_isCrossing_191 : decode cX12_isCrossing 191 = .ok (.lload 7, 2) := by decide +kernel
theorem dX12_isCrossing_193 : decode cX12_isCrossing 193 = .ok (.lload 9, 2) := by decide +kernel
theorem dX12_isCrossing_195 : decode cX12_isCrossing 195 = .ok (.lload 11, 2) := by decide +kernel
theorem dX12_isCrossing_197 : decode cX12_isCrossing 197 = .ok (.lload 13, 2) := by decide +kernel
theorem dX12_isCrossing_199 : decode cX12_isCrossing 199 = .ok (.aload_n 0, 1) := by decide +kernel
theorem dX12_isCrossing_200 : decode cX12_isCrossing 200 = .ok (.getfield 78, 3) := by decide +kernel
theorem dX12_isCrossing_203 : decode cX12_isCrossing 203 = .ok (.iload_n 2, 1) := by decide +kernel
theorem dX12_isCrossing_204 : decode cX12_isCrossing 204 = .ok (.laload, 1) := by decide +kernel
theorem dX12_isCrossing_205 : decode cX12_isCrossing 205 = .ok (.aload_n 0, 1) := by decide +kernel
theorem dX12_isCrossing_206 : decode cX12_isCrossing 206 = .ok (.getfield 658, 3) := by decide +kernel
theorem dX12_isCrossing_209 : decode cX12_isCrossing 209 = .ok (.lsub, 1) := by decide +kernel
theorem dX12_isCrossing_210 : decode cX12_isCrossing 210 = .ok (.aload_n 0, 1) := by decide +kernel
theorem dX12_isCrossing_211 : decode cX12_isCrossing 211 = .ok (.getfield 81, 3) := by decide +kernel
theorem dX12_isCrossing_214 : decode cX12_isCrossing 214 = .ok (.iload_n 2, 1) := by decide +kernel
theorem dX12_isCrossing_215 : decode cX12_isCrossing 215 = .ok (.laload, 1) := by decide +kernel
theorem dX12_isCrossing_216 : decode cX12_isCrossing 216 = .ok (.aload_n 0, 1) := by decide +kernel
theorem dX12_isCrossing_217 : decode cX12_isCrossing 217 = .ok (.getfield 661, 3) := by decide +kernel
theorem dX12_isCrossing_220 : decode cX12_isCrossing 220 = .ok (.lsub, 1) := by decide +kernel
theorem dX12_isCrossing_221 : decode cX12_isCrossing 221 = .ok (.invokestatic 694, 3) := by decide +kernel
theorem dX12_isCrossing_224 : decode cX12_isCrossing 224 = .ok (.istore 16, 2) := by decide +kernel
theorem dX12_isCrossing_226 : decode cX12_isCrossing 226 = .ok (.iload 15, 2) := by decide +kernel
theorem dX12_isCrossing_228 : decode cX12_isCrossing 228 = .ok (.iload 16, 2) := by decide +kernel
theorem dX12_isCrossing_230 : decode cX12_isCrossing 230 = .ok (.if_icmp .eq 7, 3) := by decide +kernel
theorem dX12_isCrossing_233 : decode cX12_isCrossing 233 = .ok (.iconst 1, 1) := by decide +kernel
theorem dX12_isCrossing_234 : decode cX12_isCrossing 234 = .ok (.goto 4, 3) := by decide +kernel
theorem dX12_isCrossing_237 : decode cX12_isCrossing 237 = .ok (.iconst 0, 1) := by decide +kernel
theorem dX12_isCrossing_238 : decode cX12_isCrossing 238 = .ok (.ireturn, 1) := by decide +kernel
theorem dX12_begins_0 : decode cX12_begins 0 = .ok (.aload_n 0, 1) := by decide +kernel
theorem dX12_begins_1 : decode cX12_begins 1 = .ok (.getfield 78, 3) := by decide +kernel
theorem dX12_begins_4 : decode cX12_begins 4 = .ok (.iload_n 1, 1) := by decide +kernel
theorem dX12_begins_5 : decode cX12_begins 5 = .ok (.laload, 1) := by decide +kernel
theorem dX12_begins_6 : decode cX12_begins 6 = .ok (.aload_n 0, 1) := by decide +kernel
theorem dX12_begins_7 : decode cX12_begins 7 = .ok (.getfield 658, 3) := by decide +kernel
theorem dX12_begins_10 : decode cX12_begins 10 = .ok (.lcmp, 1) := by decide +kernel
theorem dX12_begins_11 : decode cX12_begins 11 = .ok (.ifCond .ne 21, 3) := by decide +kernel
theorem dX12_begins_14 : decode cX12_begins 14 = .ok (.aload_n 0, 1) := by decide +kernel
theorem dX12_begins_15 : decode cX12_begins 15 = .ok (.getfield 81, 3) := by decide +kernel
theorem dX12_begins_18 : decode cX12_begins 18 = .ok (.iload_n 1, 1) := by decide +kernel
theorem dX12_begins_19 : decode cX12_begins 19 = .ok (.laload, 1) := by decide +kernel
theorem dX12_begins_20 : decode cX12_begins 20 = .ok (.aload_n 0, 1) := by decide +kernel
theorem dX12_begins_21 : decode cX12_begins 21 = .ok (.getfield 661, 3) := by decide +kernel
theorem dX12_begins_24 : decode cX12_begins 24 = .ok (.lcmp, 1) := by decide +kernel
theorem dX12_begins_25 : decode cX12_begins 25 = .ok (.ifCond .ne 7, 3) := by decide +kernel
theorem dX12_begins_28 : decode cX12_begins 28 = .ok (.iconst 1, 1) := by decide +kernel
theorem dX12_begins_29 : decode cX12_begins 29 = .ok (.goto 4, 3) := by decide +kernel
theorem dX12_begins_32 : decode cX12_begins 32 = .ok (.iconst 0, 1) := by decide +kernel
theorem dX12_begins_33 : decode cX12_begins 33 = .ok (.ireturn, 1) := by decide +kernel
theorem dX12_wrongPair_0 : decode cX12_wrongPair 0 = .ok (.aload_n 0, 1) := by decide +kernel
theorem dX12_wrongPair_1 : decode cX12_wrongPair 1 = .ok (.iload_n 1, 1) := by decide +kernel
theorem dX12_wrongPair_2 : decode cX12_wrongPair 2 = .ok (.iload_n 2, 1) := by decide +kernel
theorem dX12_wrongPair_3 : decode cX12_wrongPair 3 = .ok (.invokevirtual 698, 3) := by decide +kernel
theorem dX12_wrongPair_6 : decode cX12_wrongPair 6 = .ok (.istore_n 3, 1) := by decide +kernel
theorem dX12_wrongPair_7 : decode cX12_wrongPair 7 = .ok (.iload_n 3, 1) := by decide +kernel
theorem dX12_wrongPair_8 : decode cX12_wrongPair 8 = .ok (.ifCond .ne 5, 3) := by decide +kernel
theorem dX12_wrongPair_11 : decode cX12_wrongPair 11 = .ok (.iconst 0, 1) := by decide +kernel
theorem dX12_wrongPair_12 : decode cX12_wrongPair 12 = .ok (.ireturn, 1) := by decide +kernel
theorem dX12_wrongPair_13 : decode cX12_wrongPair 13 = .ok (.iload_n 3, 1) := by decide +kernel
theorem dX12_wrongPair_14 : decode cX12_wrongPair 14 = .ok (.iconst 2, 1) := by decide +kernel
theorem dX12_wrongPair_15 : decode cX12_wrongPair 15 = .ok (.if_icmp .ne 5, 3) := by decide +kernel
theorem dX12_wrongPair_18 : decode cX12_wrongPair 18 = .ok (.iconst 3, 1) := by decide +kernel
theorem dX12_wrongPair_19 : decode cX12_wrongPair 19 = .ok (.ireturn, 1) := by decide +kernel
theorem dX12_wrongPair_20 : decode cX12_wrongPair 20 = .ok (.aload_n 0, 1) := by decide +kernel
theorem dX12_wrongPair_21 : decode cX12_wrongPair 21 = .ok (.getfield 655, 3) := by decide +kernel
theorem dX12_wrongPair_24 : decode cX12_wrongPair 24 = .ok (.ifCond .eq 5, 3) := by decide +kernel
theorem dX12_wrongPair_27 : decode cX12_wrongPair 27 = .ok (.iconst 4, 1) := by decide +kernel
theorem dX12_wrongPair_28 : decode cX12_wrongPair 28 = .ok (.ireturn, 1) := by decide +kernel
theorem dX12_wrongPair_29 : decode cX12_wrongPair 29 = .ok (.aload_n 0, 1) := by decide +kernel
theorem dX12_wrongPair_30 : decode cX12_wrongPair 30 = .ok (.getfield 90, 3) := by decide +kernel
theorem dX12_wrongPair_33 : decode cX12_wrongPair 33 = .ok (.iload_n 1, 1) := by decide +kernel
theorem dX12_wrongPair_34 : decode cX12_wrongPair 34 = .ok (.iaload, 1) := by decide +kernel
theorem dX12_wrongPair_35 : decode cX12_wrongPair 35 = .ok (.aload_n 0, 1) := by decide +kernel
theorem dX12_wrongPair_36 : decode cX12_wrongPair 36 = .ok (.getfield 90, 3) := by decide +kernel
theorem dX12_wrongPair_39 : decode cX12_wrongPair 39 = .ok (.iload_n 2, 1) := by decide +kernel
theorem dX12_wrongPair_40 : decode cX12_wrongPair 40 = .ok (.iaload, 1) := by decide +kernel
theorem dX12_wrongPair_41 : decode cX12_wrongPair 41 = .ok (.if_icmp .eq 34, 3) := by decide +kernel
theorem dX12_wrongPair_44 : decode cX12_wrongPair 44 = .ok (.aload_n 0, 1) := by decide +kernel
theorem dX12_wrongPair_45 : decode cX12_wrongPair 45 = .ok (.iload_n 1, 1) := by decide +kernel
theorem dX12_wrongPair_46 : decode cX12_wrongPair 46 = .ok (.invokevirtual 701, 3) := by decide +kernel
theorem dX12_wrongPair_49 : decode cX12_wrongPair 49 = .ok (.ifCond .ne 24, 3) := by decide +kernel
theorem dX12_wrongPair_52 : decode cX12_wrongPair 52 = .ok (.aload_n 0, 1) := by decide +kernel
theorem dX12_wrongPair_53 : decode cX12_wrongPair 53 = .ok (.iload_n 2, 1) := by decide +kernel
theorem dX12_wrongPair_54 : decode cX12_wrongPair 54 = .ok (.invokevirtual 701, 3) := by decide +kernel
theorem dX12_wrongPair_57 : decode cX12_wrongPair 57 = .ok (.ifCond .ne 16, 3) := by decide +kernel
theorem dX12_wrongPair_60 : decode cX12_wrongPair 60 = .ok (.aload_n 0, 1) := by decide +kernel
theorem dX12_wrongPair_61 : decode cX12_wrongPair 61 = .ok (.iload_n 1, 1) := by decide +kernel
theorem dX12_wrongPair_62 : decode cX12_wrongPair 62 = .ok (.iload_n 2, 1) := by decide +kernel
theorem dX12_wrongPair_63 : decode cX12_wrongPair 63 = .ok (.invokevirtual 704, 3) := by decide +kernel
theorem dX12_wrongPair_66 : decode cX12_wrongPair 66 = .ok (.ifCond .eq 7, 3) := by decide +kernel
theorem dX12_wrongPair_69 : decode cX12_wrongPair 69 = .ok (.iconst 4, 1) := by decide +kernel
theorem dX12_wrongPair_70 : decode cX12_wrongPair 70 = .ok (.goto 4, 3) := by decide +kernel
theorem dX12_wrongPair_73 : decode cX12_wrongPair 73 = .ok (.iconst 0, 1) := by decide +kernel
theorem dX12_wrongPair_74 : decode cX12_wrongPair 74 = .ok (.ireturn, 1) := by decide +kernel
theorem dX12_wrongPair_75 : decode cX12_wrongPair 75 = .ok (.aload_n 0, 1) := by decide +kernel
theorem dX12_wrongPair_76 : decode cX12_wrongPair 76 = .ok (.iload_n 1, 1) := by decide +kernel
theorem dX12_wrongPair_77 : decode cX12_wrongPair 77 = .ok (.invokevirtual 691, 3) := by decide +kernel
theorem dX12_wrongPair_80 : decode cX12_wrongPair 80 = .ok (.iload_n 2, 1) := by decide +kernel
theorem dX12_wrongPair_81 : decode cX12_wrongPair 81 = .ok (.if_icmp .ne 15, 3) := by decide +kernel
theorem dX12_wrongPair_84 : decode cX12_wrongPair 84 = .ok (.aload_n 0, 1) := by decide +kernel
theorem dX12_wrongPair_85 : decode cX12_wrongPair 85 = .ok (.iload_n 2, 1) := by decide +kernel
theorem dX12_wrongPair_86 : decode cX12_wrongPair 86 = .ok (.invokevirtual 701, 3) := by decide +kernel
theorem dX12_wrongPair_89 : decode cX12_wrongPair 89 = .ok (.ifCond .eq 7, 3) := by decide +kernel
theorem dX12_wrongPair_92 : decode cX12_wrongPair 92 = .ok (.iconst 1, 1) := by decide +kernel
theorem dX12_wrongPair_93 : decode cX12_wrongPair 93 = .ok (.goto 4, 3) := by decide +kernel
theorem dX12_wrongPair_96 : decode cX12_wrongPair 96 = .ok (.iconst 0, 1) := by decide +kernel
theorem dX12_wrongPair_97 : decode cX12_wrongPair 97 = .ok (.istore 4, 2) := by decide +kernel
theorem dX12_wrongPair_99 : decode cX12_wrongPair 99 = .ok (.aload_n 0, 1) := by decide +kernel
theorem dX12_wrongPair_100 : decode cX12_wrongPair 100 = .ok (.iload_n 2, 1) := by decide +kernel
theorem dX12_wrongPair_101 : decode cX12_wrongPair 101 = .ok (.invokevirtual 691, 3) := by decide +kernel
theorem dX12_wrongPair_104 : decode cX12_wrongPair 104 = .ok (.iload_n 1, 1) := by decide +kernel
theorem dX12_wrongPair_105 : decode cX12_wrongPair 105 = .ok (.if_icmp .ne 15, 3) := by decide +kernel
theorem dX12_wrongPair_108 : decode cX12_wrongPair 108 = .ok (.aload_n 0, 1) := by decide +kernel
theorem dX12_wrongPair_109 : decode cX12_wrongPair 109 = .ok (.iload_n 1, 1) := by decide +kernel
theorem dX12_wrongPair_110 : decode cX12_wrongPair 110 = .ok (.invokevirtual 701, 3) := by decide +kernel
theorem dX12_wrongPair_113 : decode cX12_wrongPair 113 = .ok (.ifCond .eq 7, 3) := by decide +kernel
theorem dX12_wrongPair_116 : decode cX12_wrongPair 116 = .ok (.iconst 1, 1) := by decide +kernel
theorem dX12_wrongPair_117 : decode cX12_wrongPair 117 = .ok (.goto 4, 3) := by decide +kernel
theorem dX12_wrongPair_120 : decode cX12_wrongPair 120 = .ok (.iconst 0, 1) := by decide +kernel
theorem dX12_wrongPair_121 : decode cX12_wrongPair 121 = .ok (.istore 5, 2) := by decide +kernel
theorem dX12_wrongPair_123 : decode cX12_wrongPair 123 = .ok (.iload 4, 2) := by decide +kernel
theorem dX12_wrongPair_125 : decode cX12_wrongPair 125 = .ok (.ifCond .ne 8, 3) := by decide +kernel
theorem dX12_wrongPair_128 : decode cX12_wrongPair 128 = .ok (.iload 5, 2) := by decide +kernel
theorem dX12_wrongPair_130 : decode cX12_wrongPair 130 = .ok (.ifCond .eq 7, 3) := by decide +kernel
theorem dX12_wrongPair_133 : decode cX12_wrongPair 133 = .ok (.iconst 0, 1) := by decide +kernel
theorem dX12_wrongPair_134 : decode cX12_wrongPair 134 = .ok (.goto 4, 3) := by decide +kernel
theorem dX12_wrongPair_137 : decode cX12_wrongPair 137 = .ok (.iconst 5, 1) := by decide +kernel
theorem dX12_wrongPair_138 : decode cX12_wrongPair 138 = .ok (.ireturn, 1) := by decide +kernel
theorem dX12_forgetPlace_0 : decode cX12_forgetPlace 0 = .ok (.iconst 0, 1) := by decide +kernel
theorem dX12_forgetPlace_1 : decode cX12_forgetPlace 1 = .ok (.istore_n 1, 1) := by decide +kernel
theorem dX12_forgetPlace_2 : decode cX12_forgetPlace 2 = .ok (.iload_n 1, 1) := by decide +kernel
theorem dX12_forgetPlace_3 : decode cX12_forgetPlace 3 = .ok (.bipush 7, 2) := by decide +kernel
theorem dX12_forgetPlace_5 : decode cX12_forgetPlace 5 = .ok (.if_icmp .ge 16, 3) := by decide +kernel
theorem dX12_forgetPlace_8 : decode cX12_forgetPlace 8 = .ok (.aload_n 0, 1) := by decide +kernel
theorem dX12_forgetPlace_9 : decode cX12_forgetPlace 9 = .ok (.getfield 35, 3) := by decide +kernel
theorem dX12_forgetPlace_12 : decode cX12_forgetPlace 12 = .ok (.iload_n 1, 1) := by decide +kernel
theorem dX12_forgetPlace_13 : decode cX12_forgetPlace 13 = .ok (.iconst (-1), 1) := by decide +kernel
theorem dX12_forgetPlace_14 : decode cX12_forgetPlace 14 = .ok (.iastore, 1) := by decide +kernel
theorem dX12_forgetPlace_15 : decode cX12_forgetPlace 15 = .ok (.iinc 1 1, 3) := by decide +kernel
theorem dX12_forgetPlace_18 : decode cX12_forgetPlace 18 = .ok (.goto (-16), 3) := by decide +kernel
theorem dX12_forgetPlace_21 : decode cX12_forgetPlace 21 = .ok (.return_, 1) := by decide +kernel
theorem dX12_tellPair_0 : decode cX12_tellPair 0 = .ok (.aload_n 0, 1) := by decide +kernel
theorem dX12_tellPair_1 : decode cX12_tellPair 1 = .ok (.getfield 35, 3) := by decide +kernel
theorem dX12_tellPair_4 : decode cX12_tellPair 4 = .ok (.iconst 1, 1) := by decide +kernel
theorem dX12_tellPair_5 : decode cX12_tellPair 5 = .ok (.aload_n 0, 1) := by decide +kernel
theorem dX12_tellPair_6 : decode cX12_tellPair 6 = .ok (.getfield 105, 3) := by decide +kernel
theorem dX12_tellPair_9 : decode cX12_tellPair 9 = .ok (.aload_n 0, 1) := by decide +kernel
theorem dX12_tellPair_10 : decode cX12_tellPair 10 = .ok (.getfield 90, 3) := by decide +kernel
theorem dX12_tellPair_13 : decode cX12_tellPair 13 = .ok (.iload_n 2, 1) := by decide +kernel
theorem dX12_tellPair_14 : decode cX12_tellPair 14 = .ok (.iaload, 1) := by decide +kernel
theorem dX12_tellPair_15 : decode cX12_tellPair 15 = .ok (.iaload, 1) := by decide +kernel
theorem dX12_tellPair_16 : decode cX12_tellPair 16 = .ok (.iastore, 1) := by decide +kernel
theorem dX12_tellPair_17 : decode cX12_tellPair 17 = .ok (.aload_n 0, 1) := by decide +kernel
theorem dX12_tellPair_18 : decode cX12_tellPair 18 = .ok (.getfield 35, 3) := by decide +kernel
theorem dX12_tellPair_21 : decode cX12_tellPair 21 = .ok (.iconst 2, 1) := by decide +kernel
theorem dX12_tellPair_22 : decode cX12_tellPair 22 = .ok (.aload_n 0, 1) := by decide +kernel
theorem dX12_tellPair_23 : decode cX12_tellPair 23 = .ok (.getfield 108, 3) := by decide +kernel
theorem dX12_tellPair_26 : decode cX12_tellPair 26 = .ok (.aload_n 0, 1) := by decide +kernel
theorem dX12_tellPair_27 : decode cX12_tellPair 27 = .ok (.getfield 90, 3) := by decide +kernel
theorem dX12_tellPair_30 : decode cX12_tellPair 30 = .ok (.iload_n 2, 1) := by decide +kernel
theorem dX12_tellPair_31 : decode cX12_tellPair 31 = .ok (.iaload, 1) := by decide +kernel
theorem dX12_tellPair_32 : decode cX12_tellPair 32 = .ok (.iaload, 1) := by decide +kernel
theorem dX12_tellPair_33 : decode cX12_tellPair 33 = .ok (.iastore, 1) := by decide +kernel
theorem dX12_tellPair_34 : decode cX12_tellPair 34 = .ok (.aload_n 0, 1) := by decide +kernel
theorem dX12_tellPair_35 : decode cX12_tellPair 35 = .ok (.getfield 35, 3) := by decide +kernel
theorem dX12_tellPair_38 : decode cX12_tellPair 38 = .ok (.iconst 3, 1) := by decide +kernel
theorem dX12_tellPair_39 : decode cX12_tellPair 39 = .ok (.aload_n 0, 1) := by decide +kernel
theorem dX12_tellPair_40 : decode cX12_tellPair 40 = .ok (.getfield 93, 3) := by decide +kernel
theorem dX12_tellPair_43 : decode cX12_tellPair 43 = .ok (.iload_n 2, 1) := by decide +kernel
theorem dX12_tellPair_44 : decode cX12_tellPair 44 = .ok (.iaload, 1) := by decide +kernel
theorem dX12_tellPair_45 : decode cX12_tellPair 45 = .ok (.iastore, 1) := by decide +kernel
theorem dX12_tellPair_46 : decode cX12_tellPair 46 = .ok (.aload_n 0, 1) := by decide +kernel
theorem dX12_tellPair_47 : decode cX12_tellPair 47 = .ok (.getfield 35, 3) := by decide +kernel
theorem dX12_tellPair_50 : decode cX12_tellPair 50 = .ok (.iconst 4, 1) := by decide +kernel
theorem dX12_tellPair_51 : decode cX12_tellPair 51 = .ok (.aload_n 0, 1) := by decide +kernel
theorem dX12_tellPair_52 : decode cX12_tellPair 52 = .ok (.getfield 105, 3) := by decide +kernel
theorem dX12_tellPair_55 : decode cX12_tellPair 55 = .ok (.aload_n 0, 1) := by decide +kernel
theorem dX12_tellPair_56 : decode cX12_tellPair 56 = .ok (.getfield 90, 3) := by decide +kernel
theorem dX12_tellPair_59 : decode cX12_tellPair 59 = .ok (.iload_n 3, 1) := by decide +kernel
theorem dX12_tellPair_60 : decode cX12_tellPair 60 = .ok (.iaload, 1) := by decide +kernel
theorem dX12_tellPair_61 : decode cX12_tellPair 61 = .ok (.iaload, 1) := by decide +kernel
theorem dX12_tellPair_62 : decode cX12_tellPair 62 = .ok (.iastore, 1) := by decide +kernel
theorem dX12_tellPair_63 : decode cX12_tellPair 63 = .ok (.aload_n 0, 1) := by decide +kernel
theorem dX12_tellPair_64 : decode cX12_tellPair 64 = .ok (.getfield 35, 3) := by decide +kernel
theorem dX12_tellPair_67 : decode cX12_tellPair 67 = .ok (.iconst 5, 1) := by decide +kernel
theorem dX12_tellPair_68 : decode cX12_tellPair 68 = .ok (.aload_n 0, 1) := by decide +kernel
theorem dX12_tellPair_69 : decode cX12_tellPair 69 = .ok (.getfield 108, 3) := by decide +kernel
theorem dX12_tellPair_72 : decode cX12_tellPair 72 = .ok (.aload_n 0, 1) := by decide +kernel
theorem dX12_tellPair_73 : decode cX12_tellPair 73 = .ok (.getfield 90, 3) := by decide +kernel
theorem dX12_tellPair_76 : decode cX12_tellPair 76 = .ok (.iload_n 3, 1) := by decide +kernel
theorem dX12_tellPair_77 : decode cX12_tellPair 77 = .ok (.iaload, 1) := by decide +kernel
theorem dX12_tellPair_78 : decode cX12_tellPair 78 = .ok (.iaload, 1) := by decide +kernel
theorem dX12_tellPair_79 : decode cX12_tellPair 79 = .ok (.iastore, 1) := by decide +kernel
theorem dX12_tellPair_80 : decode cX12_tellPair 80 = .ok (.aload_n 0, 1) := by decide +kernel
theorem dX12_tellPair_81 : decode cX12_tellPair 81 = .ok (.getfield 35, 3) := by decide +kernel
theorem dX12_tellPair_84 : decode cX12_tellPair 84 = .ok (.bipush 6, 2) := by decide +kernel
theorem dX12_tellPair_86 : decode cX12_tellPair 86 = .ok (.aload_n 0, 1) := by decide +kernel
theorem dX12_tellPair_87 : decode cX12_tellPair 87 = .ok (.getfield 93, 3) := by decide +kernel
theorem dX12_tellPair_90 : decode cX12_tellPair 90 = .ok (.iload_n 3, 1) := by decide +kernel
theorem dX12_tellPair_91 : decode cX12_tellPair 91 = .ok (.iaload, 1) := by decide +kernel
theorem dX12_tellPair_92 : decode cX12_tellPair 92 = .ok (.iastore, 1) := by decide +kernel
theorem dX12_tellPair_93 : decode cX12_tellPair 93 = .ok (.iload_n 1, 1) := by decide +kernel
theorem dX12_tellPair_94 : decode cX12_tellPair 94 = .ok (.ireturn, 1) := by decide +kernel
theorem dX12_tellRing_0 : decode cX12_tellRing 0 = .ok (.aload_n 0, 1) := by decide +kernel
theorem dX12_tellRing_1 : decode cX12_tellRing 1 = .ok (.getfield 35, 3) := by decide +kernel
theorem dX12_tellRing_4 : decode cX12_tellRing 4 = .ok (.iconst 1, 1) := by decide +kernel
theorem dX12_tellRing_5 : decode cX12_tellRing 5 = .ok (.aload_n 0, 1) := by decide +kernel
theorem dX12_tellRing_6 : decode cX12_tellRing 6 = .ok (.getfield 105, 3) := by decide +kernel
theorem dX12_tellRing_9 : decode cX12_tellRing 9 = .ok (.iload_n 2, 1) := by decide +kernel
theorem dX12_tellRing_10 : decode cX12_tellRing 10 = .ok (.iaload, 1) := by decide +kernel
theorem dX12_tellRing_11 : decode cX12_tellRing 11 = .ok (.iastore, 1) := by decide +kernel
theorem dX12_tellRing_12 : decode cX12_tellRing 12 = .ok (.aload_n 0, 1) := by decide +kernel
theorem dX12_tellRing_13 : decode cX12_tellRing 13 = .ok (.getfield 35, 3) := by decide +kernel
theorem dX12_tellRing_16 : decode cX12_tellRing 16 = .ok (.iconst 2, 1) := by decide +kernel
theorem dX12_tellRing_17 : decode cX12_tellRing 17 = .ok (.aload_n 0, 1) := by decide +kernel
theorem dX12_tellRing_18 : decode cX12_tellRing 18 = .ok (.getfield 108, 3) := by decide +kernel
theorem dX12_tellRing_21 : decode cX12_tellRing 21 = .ok (.iload_n 2, 1) := by decide +kernel
theorem dX12_tellRing_22 : decode cX12_tellRing 22 = .ok (.iaload, 1) := by decide +kernel
theorem dX12_tellRing_23 : decode cX12_tellRing 23 = .ok (.iastore, 1) := by decide +kernel
theorem dX12_tellRing_24 : decode cX12_tellRing 24 = .ok (.iload_n 1, 1) := by decide +kernel
theorem dX12_tellRing_25 : decode cX12_tellRing 25 = .ok (.ireturn, 1) := by decide +kernel
theorem dX12_isWithin_0 : decode cX12_isWithin 0 = .ok (.iconst 0, 1) := by decide +kernel
theorem dX12_isWithin_1 : decode cX12_isWithin 1 = .ok (.istore 10, 2) := by decide +kernel
theorem dX12_isWithin_3 : decode cX12_isWithin 3 = .ok (.aload_n 0, 1) := by decide +kernel
theorem dX12_isWithin_4 : decode cX12_isWithin 4 = .ok (.getfield 111, 3) := by decide +kernel
theorem dX12_isWithin_7 : decode cX12_isWithin 7 = .ok (.iload 5, 2) := by decide +kernel
theorem dX12_isWithin_9 : decode cX12_isWithin 9 = .ok (.iaload, 1) := by decide +kernel
theorem dX12_isWithin_10 : decode cX12_isWithin 10 = .ok (.istore 11, 2) := by decide +kernel
theorem dX12_isWithin_12 : decode cX12_isWithin 12 = .ok (.iload 11, 2) := by decide +kernel
theorem dX12_isWithin_14 : decode cX12_isWithin 14 = .ok (.aload_n 0, 1) := by decide +kernel
theorem dX12_isWithin_15 : decode cX12_isWithin 15 = .ok (.getfield 111, 3) := by decide +kernel
theorem dX12_isWithin_18 : decode cX12_isWithin 18 = .ok (.iload 5, 2) := by decide +kernel
theorem dX12_isWithin_20 : decode cX12_isWithin 20 = .ok (.iconst 1, 1) := by decide +kernel
theorem dX12_isWithin_21 : decode cX12_isWithin 21 = .ok (.iadd, 1) := by decide +kernel
theorem dX12_isWithin_22 : decode cX12_isWithin 22 = .ok (.iaload, 1) := by decide +kernel
theorem dX12_isWithin_23 : decode cX12_isWithin 23 = .ok (.if_icmp .ge 260, 3) := by decide +kernel
theorem dX12_isWithin_26 : decode cX12_isWithin 26 = .ok (.aload_n 0, 1) := by decide +kernel
theorem dX12_isWithin_27 : decode cX12_isWithin 27 = .ok (.getfield 81, 3) := by decide +kernel
theorem dX12_isWithin_30 : decode cX12_isWithin 30 = .ok (.iload 11, 2) := by decide +kernel
theorem dX12_isWithin_32 : decode cX12_isWithin 32 = .ok (.laload, 1) := by decide +kernel
theorem dX12_isWithin_33 : decode cX12_isWithin 33 = .ok (.lload_n 3, 1) := by decide +kernel
theorem dX12_isWithin_34 : decode cX12_isWithin 34 = .ok (.lcmp, 1) := by decide +kernel
theorem dX12_isWithin_35 : decode cX12_isWithin 35 = .ok (.ifCond .gt 22, 3) := by decide +kernel
theorem dX12_isWithin_38 : decode cX12_isWithin 38 = .ok (.aload_n 0, 1) := by decide +kernel
theorem dX12_isWithin_39 : decode cX12_isWithin 39 = .ok (.getfield 81, 3) := by decide +kernel
theorem dX12_isWithin_42 : decode cX12_isWithin 42 = .ok (.iload 11, 2) := by decide +kernel
theorem dX12_isWithin_44 : decode cX12_isWithin 44 = .ok (.laload, 1) := by decide +kernel
theorem dX12_isWithin_45 : decode cX12_isWithin 45 = .ok (.lload_n 3, 1) := by decide +kernel
theorem dX12_isWithin_46 : decode cX12_isWithin 46 = .ok (.lcmp, 1) := by decide +kernel
theorem dX12_isWithin_47 : decode cX12_isWithin 47 = .ok (.ifCond .ne 14, 3) := by decide +kernel
theorem dX12_isWithin_50 : decode cX12_isWithin 50 = .ok (.lload 8, 2) := by decide +kernel
theorem dX12_isWithin_52 : decode cX12_isWithin 52 = .ok (.lconst 0, 1) := by decide +kernel
theorem dX12_isWithin_53 : decode cX12_isWithin 53 = .ok (.lcmp, 1) := by decide +kernel
theorem dX12_isWithin_54 : decode cX12_isWithin 54 = .ok (.ifCond .ge 7, 3) := by decide +kernel
theorem dX12_isWithin_57 : decode cX12_isWithin 57 = .ok (.iconst 1, 1) := by decide +kernel
theorem dX12_isWithin_58 : decode cX12_isWithin 58 = .ok (.goto 4, 3) := by decide +kernel
theorem dX12_isWithin_61 : decode cX12_isWithin 61 = .ok (.iconst 0, 1) := by decide +kernel
theorem dX12_isWithin_62 : decode cX12_isWithin 62 = .ok (.istore 12, 2) := by decide +kernel
theorem dX12_isWithin_64 : decode cX12_isWithin 64 = .ok (.aload_n 0, 1) := by decide +kernel
theorem dX12_isWithin_65 : decode cX12_isWithin 65 = .ok (.getfield 87, 3) := by decide +kernel
theorem dX12_isWithin_68 : decode cX12_isWithin 68 = .ok (.iload 11, 2) := by decide +kernel
theorem dX12_isWithin_70 : decode cX12_isWithin 70 = .ok (.laload, 1) := by decide +kernel
theorem dX12_isWithin_71 : decode cX12_isWithin 71 = .ok (.lload_n 3, 1) := by decide +kernel
theorem dX12_isWithin_72 : decode cX12_isWithin 72 = .ok (.lcmp, 1) := by decide +kernel
theorem dX12_isWithin_73 : decode cX12_isWithin 73 = .ok (.ifCond .gt 22, 3) := by decide +kernel
theorem dX12_isWithin_76 : decode cX12_isWithin 76 = .ok (.aload_n 0, 1) := by decide +kernel
theorem dX12_isWithin_77 : decode cX12_isWithin 77 = .ok (.getfield 87, 3) := by decide +kernel
theorem dX12_isWithin_80 : decode cX12_isWithin 80 = .ok (.iload 11, 2) := by decide +kernel
theorem dX12_isWithin_82 : decode cX12_isWithin 82 = .ok (.laload, 1) := by decide +kernel
theorem dX12_isWithin_83 : decode cX12_isWithin 83 = .ok (.lload_n 3, 1) := by decide +kernel
theorem dX12_isWithin_84 : decode cX12_isWithin 84 = .ok (.lcmp, 1) := by decide +kernel
theorem dX12_isWithin_85 : decode cX12_isWithin 85 = .ok (.ifCond .ne 14, 3) := by decide +kernel
theorem dX12_isWithin_88 : decode cX12_isWithin 88 = .ok (.lload 8, 2) := by decide +kernel
theorem dX12_isWithin_90 : decode cX12_isWithin 90 = .ok (.lconst 0, 1) := by decide +kernel
theorem dX12_isWithin_91 : decode cX12_isWithin 91 = .ok (.lcmp, 1) := by decide +kernel
theorem dX12_isWithin_92 : decode cX12_isWithin 92 = .ok (.ifCond .ge 7, 3) := by decide +kernel
theorem dX12_isWithin_95 : decode cX12_isWithin 95 = .ok (.iconst 1, 1) := by decide +kernel
theorem dX12_isWithin_96 : decode cX12_isWithin 96 = .ok (.goto 4, 3) := by decide +kernel
theorem dX12_isWithin_99 : decode cX12_isWithin 99 = .ok (.iconst 0, 1) := by decide +kernel
theorem dX12_isWithin_100 : decode cX12_isWithin 100 = .ok (.istore 13, 2) := by decide +kernel
theorem dX12_isWithin_102 : decode cX12_isWithin 102 = .ok (.iload 12, 2) := by decide +kernel
theorem dX12_isWithin_104 : decode cX12_isWithin 104 = .ok (.iload 13, 2) := by decide +kernel
theorem dX12_isWithin_106 : decode cX12_isWithin 106 = .ok (.if_icmp .ne 6, 3) := by decide +kernel
theorem dX12_isWithin_109 : decode cX12_isWithin 109 = .ok (.goto 168, 3) := by decide +kernel
theorem dX12_isWithin_112 : decode cX12_isWithin 112 = .ok (.iload 12, 2) := by decide +kernel
theorem dX12_isWithin_114 : decode cX12_isWithin 114 = .ok (.ifCond .eq 13, 3) := by decide +kernel
theorem dX12_isWithin_117 : decode cX12_isWithin 117 = .ok (.aload_n 0, 1) := by decide +kernel
theorem dX12_isWithin_118 : decode cX12_isWithin 118 = .ok (.getfield 84, 3) := by decide +kernel
theorem dX12_isWithin_121 : decode cX12_isWithin 121 = .ok (.iload 11, 2) := by decide +kernel
theorem dX12_isWithin_123 : decode cX12_isWithin 123 = .ok (.laload, 1) := by decide +kernel
theorem dX12_isWithin_124 : decode cX12_isWithin 124 = .ok (.goto 10, 3) := by decide +kernel
theorem dX12_isWithin_127 : decode cX12_isWithin 127 = .ok (.aload_n 0, 1) := by decide +kernel
theorem dX12_isWithin_128 : decode cX12_isWithin 128 = .ok (.getfield 78, 3) := by decide +kernel
theorem dX12_isWithin_131 : decode cX12_isWithin 131 = .ok (.iload 11, 2) := by decide +kernel
theorem dX12_isWithin_133 : decode cX12_isWithin 133 = .ok (.laload, 1) := by decide +kernel
theorem dX12_isWithin_134 : decode cX12_isWithin 134 = .ok (.lstore 14, 2) := by decide +kernel
theorem dX12_isWithin_136 : decode cX12_isWithin 136 = .ok (.iload 12, 2) := by decide +kernel
theorem dX12_isWithin_138 : decode cX12_isWithin 138 = .ok (.ifCond .eq 13, 3) := by decide +kernel
theorem dX12_isWithin_141 : decode cX12_isWithin 141 = .ok (.aload_n 0, 1) := by decide +kernel
theorem dX12_isWithin_142 : decode cX12_isWithin 142 = .ok (.getfield 87, 3) := by decide +kernel
theorem dX12_isWithin_145 : decode cX12_isWithin 145 = .ok (.iload 11, 2) := by decide +kernel
theorem dX12_isWithin_147 : decode cX12_isWithin 147 = .ok (.laload, 1) := by decide +kernel
theorem dX12_isWithin_148 : decode cX12_isWithin 148 = .ok (.goto 10, 3) := by decide +kernel
theorem dX12_isWithin_151 : decode cX12_isWithin 151 = .ok (.aload_n 0, 1) := by decide +kernel
theorem dX12_isWithin_152 : decode cX12_isWithin 152 = .ok (.getfield 81, 3) := by decide +kernel
theorem dX12_isWithin_155 : decode cX12_isWithin 155 = .ok (.iload 11, 2) := by decide +kernel
theorem dX12_isWithin_157 : decode cX12_isWithin 157 = .ok (.laload, 1) := by decide +kernel
theorem dX12_isWithin_158 : decode cX12_isWithin 158 = .ok (.lstore 16, 2) := by decide +kernel
theorem dX12_isWithin_160 : decode cX12_isWithin 160 = .ok (.iload 12, 2) := by decide +kernel
theorem dX12_isWithin_162 : decode cX12_isWithin 162 = .ok (.ifCond .eq 13, 3) := by decide +kernel
theorem dX12_isWithin_165 : decode cX12_isWithin 165 = .ok (.aload_n 0, 1) := by decide +kernel
theorem dX12_isWithin_166 : decode cX12_isWithin 166 = .ok (.getfield 78, 3) := by decide +kernel
theorem dX12_isWithin_169 : decode cX12_isWithin 169 = .ok (.iload 11, 2) := by decide +kernel
theorem dX12_isWithin_171 : decode cX12_isWithin 171 = .ok (.laload, 1) := by decide +kernel
theorem dX12_isWithin_172 : decode cX12_isWithin 172 = .ok (.goto 10, 3) := by decide +kernel
theorem dX12_isWithin_175 : decode cX12_isWithin 175 = .ok (.aload_n 0, 1) := by decide +kernel
theorem dX12_isWithin_176 : decode cX12_isWithin 176 = .ok (.getfield 84, 3) := by decide +kernel
theorem dX12_isWithin_179 : decode cX12_isWithin 179 = .ok (.iload 11, 2) := by decide +kernel
theorem dX12_isWithin_181 : decode cX12_isWithin 181 = .ok (.laload, 1) := by decide +kernel
theorem dX12_isWithin_182 : decode cX12_isWithin 182 = .ok (.lstore 18, 2) := by decide +kernel
theorem dX12_isWithin_184 : decode cX12_isWithin 184 = .ok (.iload 12, 2) := by decide +kernel
theorem dX12_isWithin_186 : decode cX12_isWithin 186 = .ok (.ifCond .eq 13, 3) := by decide +kernel
theorem dX12_isWithin_189 : decode cX12_isWithin 189 = .ok (.aload_n 0, 1) := by decide +kernel
theorem dX12_isWithin_190 : decode cX12_isWithin 190 = .ok (.getfield 81, 3) := by decide +kernel
theorem dX12_isWithin_193 : decode cX12_isWithin 193 = .ok (.iload 11, 2) := by decide +kernel
theorem dX12_isWithin_195 : decode cX12_isWithin 195 = .ok (.laload, 1) := by decide +kernel
theorem dX12_isWithin_196 : decode cX12_isWithin 196 = .ok (.goto 10, 3) := by decide +kernel
theorem dX12_isWithin_199 : decode cX12_isWithin 199 = .ok (.aload_n 0, 1) := by decide +kernel
theorem dX12_isWithin_200 : decode cX12_isWithin 200 = .ok (.getfield 87, 3) := by decide +kernel
theorem dX12_isWithin_203 : decode cX12_isWithin 203 = .ok (.iload 11, 2) := by decide +kernel
theorem dX12_isWithin_205 : decode cX12_isWithin 205 = .ok (.laload, 1) := by decide +kernel
theorem dX12_isWithin_206 : decode cX12_isWithin 206 = .ok (.lstore 20, 2) := by decide +kernel
theorem dX12_isWithin_208 : decode cX12_isWithin 208 = .ok (.lload 14, 2) := by decide +kernel
theorem dX12_isWithin_210 : decode cX12_isWithin 210 = .ok (.lload 16, 2) := by decide +kernel
theorem dX12_isWithin_212 : decode cX12_isWithin 212 = .ok (.lload 18, 2) := by decide +kernel
theorem dX12_isWithin_214 : decode cX12_isWithin 214 = .ok (.lload 20, 2) := by decide +kernel
theorem dX12_isWithin_216 : decode cX12_isWithin 216 = .ok (.lload_n 1, 1) := by decide +kernel
theorem dX12_isWithin_217 : decode cX12_isWithin 217 = .ok (.lload_n 3, 1) := by decide +kernel
theorem dX12_isWithin_218 : decode cX12_isWithin 218 = .ok (.invokestatic 664, 3) := by decide +kernel
theorem dX12_isWithin_221 : decode cX12_isWithin 221 = .ok (.istore 22, 2) := by decide +kernel
theorem dX12_isWithin_223 : decode cX12_isWithin 223 = .ok (.iload 22, 2) := by decide +kernel
theorem dX12_isWithin_225 : decode cX12_isWithin 225 = .ok (.ifCond .ne 26, 3) := by decide +kernel
theorem dX12_isWithin_228 : decode cX12_isWithin 228 = .ok (.lload 18, 2) := by decide +kernel
theorem dX12_isWithin_230 : decode cX12_isWithin 230 = .ok (.lload 14, 2) := by decide +kernel
theorem dX12_isWithin_232 : decode cX12_isWithin 232 = .ok (.lsub, 1) := by decide +kernel
theorem dX12_isWithin_233 : decode cX12_isWithin 233 = .ok (.lload 20, 2) := by decide +kernel
theorem dX12_isWithin_235 : decode cX12_isWithin 235 = .ok (.lload 16, 2) := by decide +kernel
theorem dX12_isWithin_237 : decode cX12_isWithin 237 = .ok (.lsub, 1) := by decide +kernel
theorem dX12_isWithin_238 : decode cX12_isWithin 238 = .ok (.lload 6, 2) := by decide +kernel
theorem dX12_isWithin_240 : decode cX12_isWithin 240 = .ok (.lload 8, 2) := by decide +kernel
theorem dX12_isWithin_242 : decode cX12_isWithin 242 = .ok (.invokestatic 644, 3) := by decide +kernel
theorem dX12_isWithin_245 : decode cX12_isWithin 245 = .ok (.invokestatic 648, 3) := by decide +kernel
theorem dX12_isWithin_248 : decode cX12_isWithin 248 = .ok (.goto 5, 3) := by decide +kernel
theorem dX12_isWithin_251 : decode cX12_isWithin 251 = .ok (.iload 22, 2) := by decide +kernel
theorem dX12_isWithin_253 : decode cX12_isWithin 253 = .ok (.istore 22, 2) := by decide +kernel
theorem dX12_isWithin_255 : decode cX12_isWithin 255 = .ok (.iload 22, 2) := by decide +kernel
theorem dX12_isWithin_257 : decode cX12_isWithin 257 = .ok (.ifCond .le 16, 3) := by decide +kernel
theorem dX12_isWithin_260 : decode cX12_isWithin 260 = .ok (.iload 10, 2) := by decide +kernel
theorem dX12_isWithin_262 : decode cX12_isWithin 262 = .ok (.ifCond .ne 7, 3) := by decide +kernel
theorem dX12_isWithin_265 : decode cX12_isWithin 265 = .ok (.iconst 1, 1) := by decide +kernel
theorem dX12_isWithin_266 : decode cX12_isWithin 266 = .ok (.goto 9, 3) := by decide +kernel
theorem dX12_isWithin_269 : decode cX12_isWithin 269 = .ok (.iconst 0, 1) := by decide +kernel
theorem dX12_isWithin_270 : decode cX12_isWithin 270 = .ok (.goto 5, 3) := by decide +kernel
theorem dX12_isWithin_273 : decode cX12_isWithin 273 = .ok (.iload 10, 2) := by decide +kernel
theorem dX12_isWithin_275 : decode cX12_isWithin 275 = .ok (.istore 10, 2) := by decide +kernel
theorem dX12_isWithin_277 : decode cX12_isWithin 277 = .ok (.iinc 11 1, 3) := by decide +kernel
theorem dX12_isWithin_280 : decode cX12_isWithin 280 = .ok (.goto (-268), 3) := by decide +kernel
theorem dX12_isWithin_283 : decode cX12_isWithin 283 = .ok (.iload 10, 2) := by decide +kernel
theorem dX12_isWithin_285 : decode cX12_isWithin 285 = .ok (.ireturn, 1) := by decide +kernel
theorem dX12_isOnRing_0 : decode cX12_isOnRing 0 = .ok (.iconst 0, 1) := by decide +kernel
theorem dX12_isOnRing_1 : decode cX12_isOnRing 1 = .ok (.istore 6, 2) := by decide +kernel
theorem dX12_isOnRing_3 : decode cX12_isOnRing 3 = .ok (.aload_n 0, 1) := by decide +kernel
theorem dX12_isOnRing_4 : decode cX12_isOnRing 4 = .ok (.getfield 111, 3) := by decide +kernel
theorem dX12_isOnRing_7 : decode cX12_isOnRing 7 = .ok (.iload 5, 2) := by decide +kernel
theorem dX12_isOnRing_9 : decode cX12_isOnRing 9 = .ok (.iaload, 1) := by decide +kernel
theorem dX12_isOnRing_10 : decode cX12_isOnRing 10 = .ok (.istore 7, 2) := by decide +kernel
theorem dX12_isOnRing_12 : decode cX12_isOnRing 12 = .ok (.iload 7, 2) := by decide +kernel
theorem dX12_isOnRing_14 : decode cX12_isOnRing 14 = .ok (.aload_n 0, 1) := by decide +kernel
theorem dX12_isOnRing_15 : decode cX12_isOnRing 15 = .ok (.getfield 111, 3) := by decide +kernel
theorem dX12_isOnRing_18 : decode cX12_isOnRing 18 = .ok (.iload 5, 2) := by decide +kernel
theorem dX12_isOnRing_20 : decode cX12_isOnRing 20 = .ok (.iconst 1, 1) := by decide +kernel
theorem dX12_isOnRing_21 : decode cX12_isOnRing 21 = .ok (.iadd, 1) := by decide +kernel
theorem dX12_isOnRing_22 : decode cX12_isOnRing 22 = .ok (.iaload, 1) := by decide +kernel
theorem dX12_isOnRing_23 : decode cX12_isOnRing 23 = .ok (.if_icmp .ge 24, 3) := by decide +kernel
theorem dX12_isOnRing_26 : decode cX12_isOnRing 26 = .ok (.iload 6, 2) := by decide +kernel
theorem dX12_isOnRing_28 : decode cX12_isOnRing 28 = .ok (.ifCond .ne 19, 3) := by decide +kernel
theorem dX12_isOnRing_31 : decode cX12_isOnRing 31 = .ok (.aload_n 0, 1) := by decide +kernel
theorem dX12_isOnRing_32 : decode cX12_isOnRing 32 = .ok (.iload 7, 2) := by decide +kernel
theorem dX12_isOnRing_34 : decode cX12_isOnRing 34 = .ok (.lload_n 1, 1) := by decide +kernel
theorem dX12_isOnRing_35 : decode cX12_isOnRing 35 = .ok (.lload_n 3, 1) := by decide +kernel
theorem dX12_isOnRing_36 : decode cX12_isOnRing 36 = .ok (.invokevirtual 707, 3) := by decide +kernel
theorem dX12_isOnRing_39 : decode cX12_isOnRing 39 = .ok (.istore 6, 2) := by decide +kernel
theorem dX12_isOnRing_41 : decode cX12_isOnRing 41 = .ok (.iinc 7 1, 3) := by decide +kernel
theorem dX12_isOnRing_44 : decode cX12_isOnRing 44 = .ok (.goto (-32), 3) := by decide +kernel
theorem dX12_isOnRing_47 : decode cX12_isOnRing 47 = .ok (.iload 6, 2) := by decide +kernel
theorem dX12_isOnRing_49 : decode cX12_isOnRing 49 = .ok (.ireturn, 1) := by decide +kernel
theorem dX12_liesIn_0 : decode cX12_liesIn 0 = .ok (.aload_n 0, 1) := by decide +kernel
theorem dX12_liesIn_1 : decode cX12_liesIn 1 = .ok (.getfield 111, 3) := by decide +kernel
theorem dX12_liesIn_4 : decode cX12_liesIn 4 = .ok (.iload_n 1, 1) := by decide +kernel
theorem dX12_liesIn_5 : decode cX12_liesIn 5 = .ok (.iaload, 1) := by decide +kernel
theorem dX12_liesIn_6 : decode cX12_liesIn 6 = .ok (.istore_n 3, 1) := by decide +kernel
theorem dX12_liesIn_7 : decode cX12_liesIn 7 = .ok (.iload_n 3, 1) := by decide +kernel
theorem dX12_liesIn_8 : decode cX12_liesIn 8 = .ok (.istore 4, 2) := by decide +kernel
theorem dX12_liesIn_10 : decode cX12_liesIn 10 = .ok (.iload 4, 2) := by decide +kernel
theorem dX12_liesIn_12 : decode cX12_liesIn 12 = .ok (.aload_n 0, 1) := by decide +kernel
theorem dX12_liesIn_13 : decode cX12_liesIn 13 = .ok (.getfield 111, 3) := by decide +kernel
theorem dX12_liesIn_16 : decode cX12_liesIn 16 = .ok (.iload_n 1, 1) := by decide +kernel
theorem dX12_liesIn_17 : decode cX12_liesIn 17 = .ok (.iconst 1, 1) := by decide +kernel
theorem dX12_liesIn_18 : decode cX12_liesIn 18 = .ok (.iadd, 1) := by decide +kernel
theorem dX12_liesIn_19 : decode cX12_liesIn 19 = .ok (.iaload, 1) := by decide +kernel
theorem dX12_liesIn_20 : decode cX12_liesIn 20 = .ok (.if_icmp .ge 53, 3) := by decide +kernel
theorem dX12_liesIn_23 : decode cX12_liesIn 23 = .ok (.aload_n 0, 1) := by decide +kernel
theorem dX12_liesIn_24 : decode cX12_liesIn 24 = .ok (.aload_n 0, 1) := by decide +kernel
theorem dX12_liesIn_25 : decode cX12_liesIn 25 = .ok (.getfield 78, 3) := by decide +kernel
theorem dX12_liesIn_28 : decode cX12_liesIn 28 = .ok (.iload 4, 2) := by decide +kernel
theorem dX12_liesIn_30 : decode cX12_liesIn 30 = .ok (.laload, 1) := by decide +kernel
theorem dX12_liesIn_31 : decode cX12_liesIn 31 = .ok (.aload_n 0, 1) := by decide +kernel
theorem dX12_liesIn_32 : decode cX12_liesIn 32 = .ok (.getfield 81, 3) := by decide +kernel
theorem dX12_liesIn_35 : decode cX12_liesIn 35 = .ok (.iload 4, 2) := by decide +kernel
theorem dX12_liesIn_37 : decode cX12_liesIn 37 = .ok (.laload, 1) := by decide +kernel
theorem dX12_liesIn_38 : decode cX12_liesIn 38 = .ok (.iload_n 2, 1) := by decide +kernel
theorem dX12_liesIn_39 : decode cX12_liesIn 39 = .ok (.invokevirtual 711, 3) := by decide +kernel
theorem dX12_liesIn_42 : decode cX12_liesIn 42 = .ok (.ifCond .ne 25, 3) := by decide +kernel
theorem dX12_liesIn_45 : decode cX12_liesIn 45 = .ok (.aload_n 0, 1) := by decide +kernel
theorem dX12_liesIn_46 : decode cX12_liesIn 46 = .ok (.aload_n 0, 1) := by decide +kernel
theorem dX12_liesIn_47 : decode cX12_liesIn 47 = .ok (.getfield 78, 3) := by decide +kernel
theorem dX12_liesIn_50 : decode cX12_liesIn 50 = .ok (.iload 4, 2) := by decide +kernel
theorem dX12_liesIn_52 : decode cX12_liesIn 52 = .ok (.laload, 1) := by decide +kernel
theorem dX12_liesIn_53 : decode cX12_liesIn 53 = .ok (.aload_n 0, 1) := by decide +kernel
theorem dX12_liesIn_54 : decode cX12_liesIn 54 = .ok (.getfield 81, 3) := by decide +kernel
theorem dX12_liesIn_57 : decode cX12_liesIn 57 = .ok (.iload 4, 2) := by decide +kernel
theorem dX12_liesIn_59 : decode cX12_liesIn 59 = .ok (.laload, 1) := by decide +kernel
theorem dX12_liesIn_60 : decode cX12_liesIn 60 = .ok (.iload_n 2, 1) := by decide +kernel
theorem dX12_liesIn_61 : decode cX12_liesIn 61 = .ok (.lconst 0, 1) := by decide +kernel
theorem dX12_liesIn_62 : decode cX12_liesIn 62 = .ok (.lconst 0, 1) := by decide +kernel
theorem dX12_liesIn_63 : decode cX12_liesIn 63 = .ok (.invokevirtual 715, 3) := by decide +kernel
theorem dX12_liesIn_66 : decode cX12_liesIn 66 = .ok (.ireturn, 1) := by decide +kernel
theorem dX12_liesIn_67 : decode cX12_liesIn 67 = .ok (.iinc 4 1, 3) := by decide +kernel
theorem dX12_liesIn_70 : decode cX12_liesIn 70 = .ok (.goto (-60), 3) := by decide +kernel
theorem dX12_liesIn_73 : decode cX12_liesIn 73 = .ok (.aload_n 0, 1) := by decide +kernel
theorem dX12_liesIn_74 : decode cX12_liesIn 74 = .ok (.aload_n 0, 1) := by decide +kernel
theorem dX12_liesIn_75 : decode cX12_liesIn 75 = .ok (.getfield 78, 3) := by decide +kernel
theorem dX12_liesIn_78 : decode cX12_liesIn 78 = .ok (.iload_n 3, 1) := by decide +kernel
theorem dX12_liesIn_79 : decode cX12_liesIn 79 = .ok (.laload, 1) := by decide +kernel
theorem dX12_liesIn_80 : decode cX12_liesIn 80 = .ok (.aload_n 0, 1) := by decide +kernel
theorem dX12_liesIn_81 : decode cX12_liesIn 81 = .ok (.getfield 81, 3) := by decide +kernel
theorem dX12_liesIn_84 : decode cX12_liesIn 84 = .ok (.iload_n 3, 1) := by decide +kernel
theorem dX12_liesIn_85 : decode cX12_liesIn 85 = .ok (.laload, 1) := by decide +kernel
theorem dX12_liesIn_86 : decode cX12_liesIn 86 = .ok (.iload_n 2, 1) := by decide +kernel
theorem dX12_liesIn_87 : decode cX12_liesIn 87 = .ok (.aload_n 0, 1) := by decide +kernel
theorem dX12_liesIn_88 : decode cX12_liesIn 88 = .ok (.getfield 84, 3) := by decide +kernel
theorem dX12_liesIn_91 : decode cX12_liesIn 91 = .ok (.iload_n 3, 1) := by decide +kernel
theorem dX12_liesIn_92 : decode cX12_liesIn 92 = .ok (.laload, 1) := by decide +kernel
theorem dX12_liesIn_93 : decode cX12_liesIn 93 = .ok (.aload_n 0, 1) := by decide +kernel
theorem dX12_liesIn_94 : decode cX12_liesIn 94 = .ok (.getfield 78, 3) := by decide +kernel
theorem dX12_liesIn_97 : decode cX12_liesIn 97 = .ok (.iload_n 3, 1) := by decide +kernel
theorem dX12_liesIn_98 : decode cX12_liesIn 98 = .ok (.laload, 1) := by decide +kernel
theorem dX12_liesIn_99 : decode cX12_liesIn 99 = .ok (.lsub, 1) := by decide +kernel
theorem dX12_liesIn_100 : decode cX12_liesIn 100 = .ok (.aload_n 0, 1) := by decide +kernel
theorem dX12_liesIn_101 : decode cX12_liesIn 101 = .ok (.getfield 87, 3) := by decide +kernel
theorem dX12_liesIn_104 : decode cX12_liesIn 104 = .ok (.iload_n 3, 1) := by decide +kernel
theorem dX12_liesIn_105 : decode cX12_liesIn 105 = .ok (.laload, 1) := by decide +kernel
theorem dX12_liesIn_106 : decode cX12_liesIn 106 = .ok (.aload_n 0, 1) := by decide +kernel
theorem dX12_liesIn_107 : decode cX12_liesIn 107 = .ok (.getfield 81, 3) := by decide +kernel
theorem dX12_liesIn_110 : decode cX12_liesIn 110 = .ok (.iload_n 3, 1) := by decide +kernel
theorem dX12_liesIn_111 : decode cX12_liesIn 111 = .ok (.laload, 1) := by decide +kernel
theorem dX12_liesIn_112 : decode cX12_liesIn 112 = .ok (.lsub, 1) := by decide +kernel
theorem dX12_liesIn_113 : decode cX12_liesIn 113 = .ok (.invokevirtual 715, 3) := by decide +kernel
theorem dX12_liesIn_116 : decode cX12_liesIn 116 = .ok (.ireturn, 1) := by decide +kernel
theorem dX12_root_0 : decode cX12_root 0 = .ok (.iload_n 1, 1) := by decide +kernel
theorem dX12_root_1 : decode cX12_root 1 = .ok (.istore_n 2, 1) := by decide +kernel
theorem dX12_root_2 : decode cX12_root 2 = .ok (.aload_n 0, 1) := by decide +kernel
theorem dX12_root_3 : decode cX12_root 3 = .ok (.getfield 129, 3) := by decide +kernel
theorem dX12_root_6 : decode cX12_root 6 = .ok (.iload_n 2, 1) := by decide +kernel
theorem dX12_root_7 : decode cX12_root 7 = .ok (.iaload, 1) := by decide +kernel
theorem dX12_root_8 : decode cX12_root 8 = .ok (.iload_n 2, 1) := by decide +kernel
theorem dX12_root_9 : decode cX12_root 9 = .ok (.if_icmp .eq 13, 3) := by decide +kernel
theorem dX12_root_12 : decode cX12_root 12 = .ok (.aload_n 0, 1) := by decide +kernel
theorem dX12_root_13 : decode cX12_root 13 = .ok (.getfield 129, 3) := by decide +kernel
theorem dX12_root_16 : decode cX12_root 16 = .ok (.iload_n 2, 1) := by decide +kernel
theorem dX12_root_17 : decode cX12_root 17 = .ok (.iaload, 1) := by decide +kernel
theorem dX12_root_18 : decode cX12_root 18 = .ok (.istore_n 2, 1) := by decide +kernel
theorem dX12_root_19 : decode cX12_root 19 = .ok (.goto (-17), 3) := by decide +kernel
theorem dX12_root_22 : decode cX12_root 22 = .ok (.iload_n 2, 1) := by decide +kernel
theorem dX12_root_23 : decode cX12_root 23 = .ok (.ireturn, 1) := by decide +kernel
theorem dX12_touch_0 : decode cX12_touch 0 = .ok (.iconst 0, 1) := by decide +kernel
theorem dX12_touch_1 : decode cX12_touch 1 = .ok (.istore_n 1, 1) := by decide +kernel
theorem dX12_touch_2 : decode cX12_touch 2 = .ok (.iload_n 1, 1) := by decide +kernel
theorem dX12_touch_3 : decode cX12_touch 3 = .ok (.aload_n 0, 1) := by decide +kernel
theorem dX12_touch_4 : decode cX12_touch 4 = .ok (.getfield 719, 3) := by decide +kernel
theorem dX12_touch_7 : decode cX12_touch 7 = .ok (.if_icmp .ge 39, 3) := by decide +kernel
theorem dX12_touch_10 : decode cX12_touch 10 = .ok (.aload_n 0, 1) := by decide +kernel
theorem dX12_touch_11 : decode cX12_touch 11 = .ok (.getfield 117, 3) := by decide +kernel
theorem dX12_touch_14 : decode cX12_touch 14 = .ok (.iload_n 1, 1) := by decide +kernel
theorem dX12_touch_15 : decode cX12_touch 15 = .ok (.laload, 1) := by decide +kernel
theorem dX12_touch_16 : decode cX12_touch 16 = .ok (.aload_n 0, 1) := by decide +kernel
theorem dX12_touch_17 : decode cX12_touch 17 = .ok (.getfield 658, 3) := by decide +kernel
theorem dX12_touch_20 : decode cX12_touch 20 = .ok (.lcmp, 1) := by decide +kernel
theorem dX12_touch_21 : decode cX12_touch 21 = .ok (.ifCond .ne 19, 3) := by decide +kernel
theorem dX12_touch_24 : decode cX12_touch 24 = .ok (.aload_n 0, 1) := by decide +kernel
theorem dX12_touch_25 : decode cX12_touch 25 = .ok (.getfield 120, 3) := by decide +kernel
theorem dX12_touch_28 : decode cX12_touch 28 = .ok (.iload_n 1, 1) := by decide +kernel
theorem dX12_touch_29 : decode cX12_touch 29 = .ok (.laload, 1) := by decide +kernel
theorem dX12_touch_30 : decode cX12_touch 30 = .ok (.aload_n 0, 1) := by decide +kernel
theorem dX12_touch_31 : decode cX12_touch 31 = .ok (.getfield 661, 3) := by decide +kernel
theorem dX12_touch_34 : decode cX12_touch 34 = .ok (.lcmp, 1) := by decide +kernel
theorem dX12_touch_35 : decode cX12_touch 35 = .ok (.ifCond .ne 5, 3) := by decide +kernel
theorem dX12_touch_38 : decode cX12_touch 38 = .ok (.iload_n 1, 1) := by decide +kernel
theorem dX12_touch_39 : decode cX12_touch 39 = .ok (.ireturn, 1) := by decide +kernel
theorem dX12_touch_40 : decode cX12_touch 40 = .ok (.iinc 1 1, 3) := by decide +kernel
theorem dX12_touch_43 : decode cX12_touch 43 = .ok (.goto (-41), 3) := by decide +kernel
theorem dX12_touch_46 : decode cX12_touch 46 = .ok (.aload_n 0, 1) := by decide +kernel
theorem dX12_touch_47 : decode cX12_touch 47 = .ok (.getfield 117, 3) := by decide +kernel
theorem dX12_touch_50 : decode cX12_touch 50 = .ok (.aload_n 0, 1) := by decide +kernel
theorem dX12_touch_51 : decode cX12_touch 51 = .ok (.getfield 719, 3) := by decide +kernel
theorem dX12_touch_54 : decode cX12_touch 54 = .ok (.aload_n 0, 1) := by decide +kernel
theorem dX12_touch_55 : decode cX12_touch 55 = .ok (.getfield 658, 3) := by decide +kernel
theorem dX12_touch_58 : decode cX12_touch 58 = .ok (.lastore, 1) := by decide +kernel
theorem dX12_touch_59 : decode cX12_touch 59 = .ok (.aload_n 0, 1) := by decide +kernel
theorem dX12_touch_60 : decode cX12_touch 60 = .ok (.getfield 120, 3) := by decide +kernel
theorem dX12_touch_63 : decode cX12_touch 63 = .ok (.aload_n 0, 1) := by decide +kernel
theorem dX12_touch_64 : decode cX12_touch 64 = .ok (.getfield 719, 3) := by decide +kernel
theorem dX12_touch_67 : decode cX12_touch 67 = .ok (.aload_n 0, 1) := by decide +kernel
theorem dX12_touch_68 : decode cX12_touch 68 = .ok (.getfield 661, 3) := by decide +kernel
theorem dX12_touch_71 : decode cX12_touch 71 = .ok (.lastore, 1) := by decide +kernel
theorem dX12_touch_72 : decode cX12_touch 72 = .ok (.aload_n 0, 1) := by decide +kernel
theorem dX12_touch_73 : decode cX12_touch 73 = .ok (.getfield 129, 3) := by decide +kernel
theorem dX12_touch_76 : decode cX12_touch 76 = .ok (.sipush 2048, 3) := by decide +kernel
theorem dX12_touch_79 : decode cX12_touch 79 = .ok (.aload_n 0, 1) := by decide +kernel
theorem dX12_touch_80 : decode cX12_touch 80 = .ok (.getfield 719, 3) := by decide +kernel
theorem dX12_touch_83 : decode cX12_touch 83 = .ok (.iadd, 1) := by decide +kernel
theorem dX12_touch_84 : decode cX12_touch 84 = .ok (.sipush 2048, 3) := by decide +kernel
theorem dX12_touch_87 : decode cX12_touch 87 = .ok (.aload_n 0, 1) := by decide +kernel
theorem dX12_touch_88 : decode cX12_touch 88 = .ok (.getfield 719, 3) := by decide +kernel
theorem dX12_touch_91 : decode cX12_touch 91 = .ok (.iadd, 1) := by decide +kernel
theorem dX12_touch_92 : decode cX12_touch 92 = .ok (.iastore, 1) := by decide +kernel
theorem dX12_touch_93 : decode cX12_touch 93 = .ok (.aload_n 0, 1) := by decide +kernel
theorem dX12_touch_94 : decode cX12_touch 94 = .ok (.dup, 1) := by decide +kernel
theorem dX12_touch_95 : decode cX12_touch 95 = .ok (.getfield 719, 3) := by decide +kernel
theorem dX12_touch_98 : decode cX12_touch 98 = .ok (.iconst 1, 1) := by decide +kernel
theorem dX12_touch_99 : decode cX12_touch 99 = .ok (.iadd, 1) := by decide +kernel
theorem dX12_touch_100 : decode cX12_touch 100 = .ok (.putfield 719, 3) := by decide +kernel
theorem dX12_touch_103 : decode cX12_touch 103 = .ok (.aload_n 0, 1) := by decide +kernel
theorem dX12_touch_104 : decode cX12_touch 104 = .ok (.getfield 719, 3) := by decide +kernel
theorem dX12_touch_107 : decode cX12_touch 107 = .ok (.iconst 1, 1) := by decide +kernel
theorem dX12_touch_108 : decode cX12_touch 108 = .ok (.isub, 1) := by decide +kernel
theorem dX12_touch_109 : decode cX12_touch 109 = .ok (.ireturn, 1) := by decide +kernel
theorem dX12_rounds_0 : decode cX12_rounds 0 = .ok (.iconst 0, 1) := by decide +kernel
theorem dX12_rounds_1 : decode cX12_rounds 1 = .ok (.istore_n 3, 1) := by decide +kernel
theorem dX12_rounds_2 : decode cX12_rounds 2 = .ok (.iload_n 3, 1) := by decide +kernel
theorem dX12_rounds_3 : decode cX12_rounds 3 = .ok (.aload_n 0, 1) := by decide +kernel
theorem dX12_rounds_4 : decode cX12_rounds 4 = .ok (.getfield 722, 3) := by decide +kernel
theorem dX12_rounds_7 : decode cX12_rounds 7 = .ok (.if_icmp .ge 31, 3) := by decide +kernel
theorem dX12_rounds_10 : decode cX12_rounds 10 = .ok (.aload_n 0, 1) := by decide +kernel
theorem dX12_rounds_11 : decode cX12_rounds 11 = .ok (.getfield 123, 3) := by decide +kernel
theorem dX12_rounds_14 : decode cX12_rounds 14 = .ok (.iload_n 3, 1) := by decide +kernel
theorem dX12_rounds_15 : decode cX12_rounds 15 = .ok (.iaload, 1) := by decide +kernel
theorem dX12_rounds_16 : decode cX12_rounds 16 = .ok (.iload_n 1, 1) := by decide +kernel
theorem dX12_rounds_17 : decode cX12_rounds 17 = .ok (.if_icmp .ne 15, 3) := by decide +kernel
theorem dX12_rounds_20 : decode cX12_rounds 20 = .ok (.aload_n 0, 1) := by decide +kernel
theorem dX12_rounds_21 : decode cX12_rounds 21 = .ok (.getfield 126, 3) := by decide +kernel
theorem dX12_rounds_24 : decode cX12_rounds 24 = .ok (.iload_n 3, 1) := by decide +kernel
theorem dX12_rounds_25 : decode cX12_rounds 25 = .ok (.iaload, 1) := by decide +kernel
theorem dX12_rounds_26 : decode cX12_rounds 26 = .ok (.iload_n 2, 1) := by decide +kernel
theorem dX12_rounds_27 : decode cX12_rounds 27 = .ok (.if_icmp .ne 5, 3) := by decide +kernel
theorem dX12_rounds_30 : decode cX12_rounds 30 = .ok (.iconst 0, 1) := by decide +kernel
theorem dX12_rounds_31 : decode cX12_rounds 31 = .ok (.ireturn, 1) := by decide +kernel
theorem dX12_rounds_32 : decode cX12_rounds 32 = .ok (.iinc 3 1, 3) := by decide +kernel
theorem dX12_rounds_35 : decode cX12_rounds 35 = .ok (.goto (-33), 3) := by decide +kernel
theorem dX12_rounds_38 : decode cX12_rounds 38 = .ok (.aload_n 0, 1) := by decide +kernel
theorem dX12_rounds_39 : decode cX12_rounds 39 = .ok (.getfield 123, 3) := by decide +kernel
theorem dX12_rounds_42 : decode cX12_rounds 42 = .ok (.aload_n 0, 1) := by decide +kernel
theorem dX12_rounds_43 : decode cX12_rounds 43 = .ok (.getfield 722, 3) := by decide +kernel
theorem dX12_rounds_46 : decode cX12_rounds 46 = .ok (.iload_n 1, 1) := by decide +kernel
theorem dX12_rounds_47 : decode cX12_rounds 47 = .ok (.iastore, 1) := by decide +kernel
theorem dX12_rounds_48 : decode cX12_rounds 48 = .ok (.aload_n 0, 1) := by decide +kernel
theorem dX12_rounds_49 : decode cX12_rounds 49 = .ok (.getfield 126, 3) := by decide +kernel
theorem dX12_rounds_52 : decode cX12_rounds 52 = .ok (.aload_n 0, 1) := by decide +kernel
theorem dX12_rounds_53 : decode cX12_rounds 53 = .ok (.getfield 722, 3) := by decide +kernel
theorem dX12_rounds_56 : decode cX12_rounds 56 = .ok (.iload_n 2, 1) := by decide +kernel
theorem dX12_rounds_57 : decode cX12_rounds 57 = .ok (.iastore, 1) := by decide +kernel
theorem dX12_rounds_58 : decode cX12_rounds 58 = .ok (.aload_n 0, 1) := by decide +kernel
theorem dX12_rounds_59 : decode cX12_rounds 59 = .ok (.dup, 1) := by decide +kernel
theorem dX12_rounds_60 : decode cX12_rounds 60 = .ok (.getfield 722, 3) := by decide +kernel
theorem dX12_rounds_63 : decode cX12_rounds 63 = .ok (.iconst 1, 1) := by decide +kernel
theorem dX12_rounds_64 : decode cX12_rounds 64 = .ok (.iadd, 1) := by decide +kernel
theorem dX12_rounds_65 : decode cX12_rounds 65 = .ok (.putfield 722, 3) := by decide +kernel
theorem dX12_rounds_68 : decode cX12_rounds 68 = .ok (.aload_n 0, 1) := by decide +kernel
theorem dX12_rounds_69 : decode cX12_rounds 69 = .ok (.iload_n 1, 1) := by decide +kernel
theorem dX12_rounds_70 : decode cX12_rounds 70 = .ok (.invokevirtual 725, 3) := by decide +kernel
theorem dX12_rounds_73 : decode cX12_rounds 73 = .ok (.istore_n 3, 1) := by decide +kernel
theorem dX12_rounds_74 : decode cX12_rounds 74 = .ok (.aload_n 0, 1) := by decide +kernel
theorem dX12_rounds_75 : decode cX12_rounds 75 = .ok (.sipush 2048, 3) := by decide +kernel
theorem dX12_rounds_78 : decode cX12_rounds 78 = .ok (.iload_n 2, 1) := by decide +kernel
theorem dX12_rounds_79 : decode cX12_rounds 79 = .ok (.iadd, 1) := by decide +kernel
theorem dX12_rounds_80 : decode cX12_rounds 80 = .ok (.invokevirtual 725, 3) := by decide +kernel
theorem dX12_rounds_83 : decode cX12_rounds 83 = .ok (.istore 4, 2) := by decide +kernel
theorem dX12_rounds_85 : decode cX12_rounds 85 = .ok (.aload_n 0, 1) := by decide +kernel
theorem dX12_rounds_86 : decode cX12_rounds 86 = .ok (.getfield 129, 3) := by decide +kernel
theorem dX12_rounds_89 : decode cX12_rounds 89 = .ok (.iload_n 3, 1) := by decide +kernel
theorem dX12_rounds_90 : decode cX12_rounds 90 = .ok (.iload 4, 2) := by decide +kernel
theorem dX12_rounds_92 : decode cX12_rounds 92 = .ok (.iastore, 1) := by decide +kernel
theorem dX12_rounds_93 : decode cX12_rounds 93 = .ok (.iload_n 3, 1) := by decide +kernel
theorem dX12_rounds_94 : decode cX12_rounds 94 = .ok (.iload 4, 2) := by decide +kernel
theorem dX12_rounds_96 : decode cX12_rounds 96 = .ok (.if_icmp .ne 7, 3) := by decide +kernel
theorem dX12_rounds_99 : decode cX12_rounds 99 = .ok (.iconst 1, 1) := by decide +kernel
theorem dX12_rounds_100 : decode cX12_rounds 100 = .ok (.goto 4, 3) := by decide +kernel
theorem dX12_rounds_103 : decode cX12_rounds 103 = .ok (.iconst 0, 1) := by decide +kernel
theorem dX12_rounds_104 : decode cX12_rounds 104 = .ok (.ireturn, 1) := by decide +kernel
theorem dX12_isSplit_0 : decode cX12_isSplit 0 = .ok (.aload_n 0, 1) := by decide +kernel
theorem dX12_isSplit_1 : decode cX12_isSplit 1 = .ok (.iconst 0, 1) := by decide +kernel
theorem dX12_isSplit_2 : decode cX12_isSplit 2 = .ok (.putfield 719, 3) := by decide +kernel
theorem dX12_isSplit_5 : decode cX12_isSplit 5 = .ok (.aload_n 0, 1) := by decide +kernel
theorem dX12_isSplit_6 : decode cX12_isSplit 6 = .ok (.iconst 0, 1) := by decide +kernel
theorem dX12_isSplit_7 : decode cX12_isSplit 7 = .ok (.putfield 722, 3) := by decide +kernel
theorem dX12_isSplit_10 : decode cX12_isSplit 10 = .ok (.iconst 0, 1) := by decide +kernel
theorem dX12_isSplit_11 : decode cX12_isSplit 11 = .ok (.istore_n 3, 1) := by decide +kernel
theorem dX12_isSplit_12 : decode cX12_isSplit 12 = .ok (.iload_n 3, 1) := by decide +kernel
theorem dX12_isSplit_13 : decode cX12_isSplit 13 = .ok (.aload_n 0, 1) := by decide +kernel
theorem dX12_isSplit_14 : decode cX12_isSplit 14 = .ok (.getfield 678, 3) := by decide +kernel
theorem dX12_isSplit_17 : decode cX12_isSplit 17 = .ok (.if_icmp .ge 16, 3) := by decide +kernel
theorem dX12_isSplit_20 : decode cX12_isSplit 20 = .ok (.aload_n 0, 1) := by decide +kernel
theorem dX12_isSplit_21 : decode cX12_isSplit 21 = .ok (.getfield 129, 3) := by decide +kernel
theorem dX12_isSplit_24 : decode cX12_isSplit 24 = .ok (.iload_n 3, 1) := by decide +kernel
theorem dX12_isSplit_25 : decode cX12_isSplit 25 = .ok (.iload_n 3, 1) := by decide +kernel
theorem dX12_isSplit_26 : decode cX12_isSplit 26 = .ok (.iastore, 1) := by decide +kernel
theorem dX12_isSplit_27 : decode cX12_isSplit 27 = .ok (.iinc 3 1, 3) := by decide +kernel
theorem dX12_isSplit_30 : decode cX12_isSplit 30 = .ok (.goto (-18), 3) := by decide +kernel
theorem dX12_isSplit_33 : decode cX12_isSplit 33 = .ok (.iload_n 1, 1) := by decide +kernel
theorem dX12_isSplit_34 : decode cX12_isSplit 34 = .ok (.istore_n 3, 1) := by decide +kernel
theorem dX12_isSplit_35 : decode cX12_isSplit 35 = .ok (.iload_n 3, 1) := by decide +kernel
theorem dX12_isSplit_36 : decode cX12_isSplit 36 = .ok (.iload_n 2, 1) := by decide +kernel
theorem dX12_isSplit_37 : decode cX12_isSplit 37 = .ok (.if_icmp .ge 98, 3) := by decide +kernel
theorem dX12_isSplit_40 : decode cX12_isSplit 40 = .ok (.iload_n 3, 1) := by decide +kernel
theorem dX12_isSplit_41 : decode cX12_isSplit 41 = .ok (.iconst 1, 1) := by decide +kernel
theorem dX12_isSplit_42 : decode cX12_isSplit 42 = .ok (.iadd, 1) := by decide +kernel
theorem dX12_isSplit_43 : decode cX12_isSplit 43 = .ok (.istore 4, 2) := by decide +kernel
theorem dX12_isSplit_45 : decode cX12_isSplit 45 = .ok (.iload 4, 2) := by decide +kernel
theorem dX12_isSplit_47 : decode cX12_isSplit 47 = .ok (.iload_n 2, 1) := by decide +kernel
theorem dX12_isSplit_48 : decode cX12_isSplit 48 = .ok (.if_icmp .ge 81, 3) := by decide +kernel
theorem dX12_isSplit_51 : decode cX12_isSplit 51 = .ok (.aload_n 0, 1) := by decide +kernel
theorem dX12_isSplit_52 : decode cX12_isSplit 52 = .ok (.getfield 90, 3) := by decide +kernel
theorem dX12_isSplit_55 : decode cX12_isSplit 55 = .ok (.iload_n 3, 1) := by decide +kernel
theorem dX12_isSplit_56 : decode cX12_isSplit 56 = .ok (.iaload, 1) := by decide +kernel
theorem dX12_isSplit_57 : decode cX12_isSplit 57 = .ok (.aload_n 0, 1) := by decide +kernel
theorem dX12_isSplit_58 : decode cX12_isSplit 58 = .ok (.getfield 90, 3) := by decide +kernel
theorem dX12_isSplit_61 : decode cX12_isSplit 61 = .ok (.iload 4, 2) := by decide +kernel
theorem dX12_isSplit_63 : decode cX12_isSplit 63 = .ok (.iaload, 1) := by decide +kernel
theorem dX12_isSplit_64 : decode cX12_isSplit 64 = .ok (.if_icmp .eq 59, 3) := by decide +kernel
theorem dX12_isSplit_67 : decode cX12_isSplit 67 = .ok (.aload_n 0, 1) := by decide +kernel
theorem dX12_isSplit_68 : decode cX12_isSplit 68 = .ok (.iload_n 3, 1) := by decide +kernel
theorem dX12_isSplit_69 : decode cX12_isSplit 69 = .ok (.iload 4, 2) := by decide +kernel
theorem dX12_isSplit_71 : decode cX12_isSplit 71 = .ok (.invokevirtual 698, 3) := by decide +kernel
theorem dX12_isSplit_74 : decode cX12_isSplit 74 = .ok (.ifCond .ne 6, 3) := by decide +kernel
theorem dX12_isSplit_77 : decode cX12_isSplit 77 = .ok (.goto 46, 3) := by decide +kernel
theorem dX12_isSplit_80 : decode cX12_isSplit 80 = .ok (.aload_n 0, 1) := by decide +kernel
theorem dX12_isSplit_81 : decode cX12_isSplit 81 = .ok (.invokevirtual 728, 3) := by decide +kernel
theorem dX12_isSplit_84 : decode cX12_isSplit 84 = .ok (.istore 5, 2) := by decide +kernel
theorem dX12_isSplit_86 : decode cX12_isSplit 86 = .ok (.aload_n 0, 1) := by decide +kernel
theorem dX12_isSplit_87 : decode cX12_isSplit 87 = .ok (.aload_n 0, 1) := by decide +kernel
theorem dX12_isSplit_88 : decode cX12_isSplit 88 = .ok (.getfield 90, 3) := by decide +kernel
theorem dX12_isSplit_91 : decode cX12_isSplit 91 = .ok (.iload_n 3, 1) := by decide +kernel
theorem dX12_isSplit_92 : decode cX12_isSplit 92 = .ok (.iaload, 1) := by decide +kernel
theorem dX12_isSplit_93 : decode cX12_isSplit 93 = .ok (.iload 5, 2) := by decide +kernel
theorem dX12_isSplit_95 : decode cX12_isSplit 95 = .ok (.invokevirtual 731, 3) := by decide +kernel
theorem dX12_isSplit_98 : decode cX12_isSplit 98 = .ok (.istore 6, 2) := by decide +kernel
theorem dX12_isSplit_100 : decode cX12_isSplit 100 = .ok (.aload_n 0, 1) := by decide +kernel
theorem dX12_isSplit_101 : decode cX12_isSplit 101 = .ok (.aload_n 0, 1) := by decide +kernel
theorem dX12_isSplit_102 : decode cX12_isSplit 102 = .ok (.getfield 90, 3) := by decide +kernel
theorem dX12_isSplit_105 : decode cX12_isSplit 105 = .ok (.iload 4, 2) := by decide +kernel
theorem dX12_isSplit_107 : decode cX12_isSplit 107 = .ok (.iaload, 1) := by decide +kernel
theorem dX12_isSplit_108 : decode cX12_isSplit 108 = .ok (.iload 5, 2) := by decide +kernel
theorem dX12_isSplit_110 : decode cX12_isSplit 110 = .ok (.invokevirtual 731, 3) := by decide +kernel
theorem dX12_isSplit_113 : decode cX12_isSplit 113 = .ok (.ifCond .ne 8, 3) := by decide +kernel
theorem dX12_isSplit_116 : decode cX12_isSplit 116 = .ok (.iload 6, 2) := by decide +kernel
theorem dX12_isSplit_118 : decode cX12_isSplit 118 = .ok (.ifCond .eq 5, 3) := by decide +kernel
theorem dX12_isSplit_121 : decode cX12_isSplit 121 = .ok (.iconst 1, 1) := by decide +kernel
theorem dX12_isSplit_122 : decode cX12_isSplit 122 = .ok (.ireturn, 1) := by decide +kernel
theorem dX12_isSplit_123 : decode cX12_isSplit 123 = .ok (.iinc 4 1, 3) := by decide +kernel
theorem dX12_isSplit_126 : decode cX12_isSplit 126 = .ok (.goto (-81), 3) := by decide +kernel
theorem dX12_isSplit_129 : decode cX12_isSplit 129 = .ok (.iinc 3 1, 3) := by decide +kernel
theorem dX12_isSplit_132 : decode cX12_isSplit 132 = .ok (.goto (-97), 3) := by decide +kernel
theorem dX12_isSplit_135 : decode cX12_isSplit 135 = .ok (.iconst 0, 1) := by decide +kernel
theorem dX12_isSplit_136 : decode cX12_isSplit 136 = .ok (.ireturn, 1) := by decide +kernel
theorem dX12_judgePart_0 : decode cX12_judgePart 0 = .ok (.aload_n 0, 1) := by decide +kernel
theorem dX12_judgePart_1 : decode cX12_judgePart 1 = .ok (.getfield 114, 3) := by decide +kernel
theorem dX12_judgePart_4 : decode cX12_judgePart 4 = .ok (.iload_n 1, 1) := by decide +kernel
theorem dX12_judgePart_5 : decode cX12_judgePart 5 = .ok (.iaload, 1) := by decide +kernel
theorem dX12_judgePart_6 : decode cX12_judgePart 6 = .ok (.istore_n 2, 1) := by decide +kernel
theorem dX12_judgePart_7 : decode cX12_judgePart 7 = .ok (.aload_n 0, 1) := by decide +kernel
theorem dX12_judgePart_8 : decode cX12_judgePart 8 = .ok (.getfield 114, 3) := by decide +kernel
theorem dX12_judgePart_11 : decode cX12_judgePart 11 = .ok (.iload_n 1, 1) := by decide +kernel
theorem dX12_judgePart_12 : decode cX12_judgePart 12 = .ok (.iconst 1, 1) := by decide +kernel
theorem dX12_judgePart_13 : decode cX12_judgePart 13 = .ok (.iadd, 1) := by decide +kernel
theorem dX12_judgePart_14 : decode cX12_judgePart 14 = .ok (.iaload, 1) := by decide +kernel
theorem dX12_judgePart_15 : decode cX12_judgePart 15 = .ok (.istore_n 3, 1) := by decide +kernel
theorem dX12_judgePart_16 : decode cX12_judgePart 16 = .ok (.iload_n 2, 1) := by decide +kernel
theorem dX12_judgePart_17 : decode cX12_judgePart 17 = .ok (.istore 4, 2) := by decide +kernel
theorem dX12_judgePart_19 : decode cX12_judgePart 19 = .ok (.iload 4, 2) := by decide +kernel
theorem dX12_judgePart_21 : decode cX12_judgePart 21 = .ok (.iload_n 3, 1) := by decide +kernel
theorem dX12_judgePart_22 : decode cX12_judgePart 22 = .ok (.if_icmp .ge 82, 3) := by decide +kernel
theorem dX12_judgePart_25 : decode cX12_judgePart 25 = .ok (.aload_n 0, 1) := by decide +kernel
theorem dX12_judgePart_26 : decode cX12_judgePart 26 = .ok (.getfield 99, 3) := by decide +kernel
theorem dX12_judgePart_29 : decode cX12_judgePart 29 = .ok (.iload 4, 2) := by decide +kernel
theorem dX12_judgePart_31 : decode cX12_judgePart 31 = .ok (.iaload, 1) := by decide +kernel
theorem dX12_judgePart_32 : decode cX12_judgePart 32 = .ok (.istore 5, 2) := by decide +kernel
theorem dX12_judgePart_34 : decode cX12_judgePart 34 = .ok (.aload_n 0, 1) := by decide +kernel
theorem dX12_judgePart_35 : decode cX12_judgePart 35 = .ok (.getfield 102, 3) := by decide +kernel
theorem dX12_judgePart_38 : decode cX12_judgePart 38 = .ok (.iload 4, 2) := by decide +kernel
theorem dX12_judgePart_40 : decode cX12_judgePart 40 = .ok (.iaload, 1) := by decide +kernel
theorem dX12_judgePart_41 : decode cX12_judgePart 41 = .ok (.ifCond .eq 24, 3) := by decide +kernel
theorem dX12_judgePart_44 : decode cX12_judgePart 44 = .ok (.aload_n 0, 1) := by decide +kernel
theorem dX12_judgePart_45 : decode cX12_judgePart 45 = .ok (.iload 5, 2) := by decide +kernel
theorem dX12_judgePart_47 : decode cX12_judgePart 47 = .ok (.iload 5, 2) := by decide +kernel
theorem dX12_judgePart_49 : decode cX12_judgePart 49 = .ok (.aload_n 0, 1) := by decide +kernel
theorem dX12_judgePart_50 : decode cX12_judgePart 50 = .ok (.getfield 102, 3) := by decide +kernel
theorem dX12_judgePart_53 : decode cX12_judgePart 53 = .ok (.iload 4, 2) := by decide +kernel
theorem dX12_judgePart_55 : decode cX12_judgePart 55 = .ok (.iaload, 1) := by decide +kernel
theorem dX12_judgePart_56 : decode cX12_judgePart 56 = .ok (.iadd, 1) := by decide +kernel
theorem dX12_judgePart_57 : decode cX12_judgePart 57 = .ok (.iconst 1, 1) := by decide +kernel
theorem dX12_judgePart_58 : decode cX12_judgePart 58 = .ok (.isub, 1) := by decide +kernel
theorem dX12_judgePart_59 : decode cX12_judgePart 59 = .ok (.invokevirtual 688, 3) := by decide +kernel
theorem dX12_judgePart_62 : decode cX12_judgePart 62 = .ok (.ifCond .ne 11, 3) := by decide +kernel
theorem dX12_judgePart_65 : decode cX12_judgePart 65 = .ok (.aload_n 0, 1) := by decide +kernel
theorem dX12_judgePart_66 : decode cX12_judgePart 66 = .ok (.iconst 1, 1) := by decide +kernel
theorem dX12_judgePart_67 : decode cX12_judgePart 67 = .ok (.iload 4, 2) := by decide +kernel
theorem dX12_judgePart_69 : decode cX12_judgePart 69 = .ok (.invokevirtual 734, 3) := by decide +kernel
theorem dX12_judgePart_72 : decode cX12_judgePart 72 = .ok (.ireturn, 1) := by decide +kernel
theorem dX12_judgePart_73 : decode cX12_judgePart 73 = .ok (.aload_n 0, 1) := by decide +kernel
theorem dX12_judgePart_74 : decode cX12_judgePart 74 = .ok (.iload 5, 2) := by decide +kernel
theorem dX12_judgePart_76 : decode cX12_judgePart 76 = .ok (.aload_n 0, 1) := by decide +kernel
theorem dX12_judgePart_77 : decode cX12_judgePart 77 = .ok (.getfield 102, 3) := by decide +kernel
theorem dX12_judgePart_80 : decode cX12_judgePart 80 = .ok (.iload 4, 2) := by decide +kernel
theorem dX12_judgePart_82 : decode cX12_judgePart 82 = .ok (.iaload, 1) := by decide +kernel
theorem dX12_judgePart_83 : decode cX12_judgePart 83 = .ok (.invokevirtual 737, 3) := by decide +kernel
theorem dX12_judgePart_86 : decode cX12_judgePart 86 = .ok (.iconst 3, 1) := by decide +kernel
theorem dX12_judgePart_87 : decode cX12_judgePart 87 = .ok (.if_icmp .ge 11, 3) := by decide +kernel
theorem dX12_judgePart_90 : decode cX12_judgePart 90 = .ok (.aload_n 0, 1) := by decide +kernel
theorem dX12_judgePart_91 : decode cX12_judgePart 91 = .ok (.iconst 2, 1) := by decide +kernel
theorem dX12_judgePart_92 : decode cX12_judgePart 92 = .ok (.iload 4, 2) := by decide +kernel
theorem dX12_judgePart_94 : decode cX12_judgePart 94 = .ok (.invokevirtual 734, 3) := by decide +kernel
theorem dX12_judgePart_97 : decode cX12_judgePart 97 = .ok (.ireturn, 1) := by decide +kernel
theorem dX12_judgePart_98 : decode cX12_judgePart 98 = .ok (.iinc 4 1, 3) := by decide +kernel
theorem dX12_judgePart_101 : decode cX12_judgePart 101 = .ok (.goto (-82), 3) := by decide +kernel
theorem dX12_judgePart_104 : decode cX12_judgePart 104 = .ok (.aload_n 0, 1) := by decide +kernel
theorem dX12_judgePart_105 : decode cX12_judgePart 105 = .ok (.getfield 111, 3) := by decide +kernel
theorem dX12_judgePart_108 : decode cX12_judgePart 108 = .ok (.iload_n 2, 1) := by decide +kernel
theorem dX12_judgePart_109 : decode cX12_judgePart 109 = .ok (.iaload, 1) := by decide +kernel
theorem dX12_judgePart_110 : decode cX12_judgePart 110 = .ok (.istore 4, 2) := by decide +kernel
theorem dX12_judgePart_112 : decode cX12_judgePart 112 = .ok (.aload_n 0, 1) := by decide +kernel
theorem dX12_judgePart_113 : decode cX12_judgePart 113 = .ok (.getfield 111, 3) := by decide +kernel
theorem dX12_judgePart_116 : decode cX12_judgePart 116 = .ok (.iload_n 3, 1) := by decide +kernel
theorem dX12_judgePart_117 : decode cX12_judgePart 117 = .ok (.iaload, 1) := by decide +kernel
theorem dX12_judgePart_118 : decode cX12_judgePart 118 = .ok (.istore 5, 2) := by decide +kernel
theorem dX12_judgePart_120 : decode cX12_judgePart 120 = .ok (.iload 4, 2) := by decide +kernel
theorem dX12_judgePart_122 : decode cX12_judgePart 122 = .ok (.istore 6, 2) := by decide +kernel
theorem dX12_judgePart_124 : decode cX12_judgePart 124 = .ok (.iload 6, 2) := by decide +kernel
theorem dX12_judgePart_126 : decode cX12_judgePart 126 = .ok (.iload 5, 2) := by decide +kernel
theorem dX12_judgePart_128 : decode cX12_judgePart 128 = .ok (.if_icmp .ge 54, 3) := by decide +kernel
theorem dX12_judgePart_131 : decode cX12_judgePart 131 = .ok (.iload 6, 2) := by decide +kernel
theorem dX12_judgePart_133 : decode cX12_judgePart 133 = .ok (.iconst 1, 1) := by decide +kernel
theorem dX12_judgePart_134 : decode cX12_judgePart 134 = .ok (.iadd, 1) := by decide +kernel
theorem dX12_judgePart_135 : decode cX12_judgePart 135 = .ok (.istore 7, 2) := by decide +kernel
theorem dX12_judgePart_137 : decode cX12_judgePart 137 = .ok (.iload 7, 2) := by decide +kernel
theorem dX12_judgePart_139 : decode cX12_judgePart 139 = .ok (.iload 5, 2) := by decide +kernel
theorem dX12_judgePart_141 : decode cX12_judgePart 141 = .ok (.if_icmp .ge 35, 3) := by decide +kernel
theorem dX12_judgePart_144 : decode cX12_judgePart 144 = .ok (.aload_n 0, 1) := by decide +kernel
theorem dX12_judgePart_145 : decode cX12_judgePart 145 = .ok (.iload 6, 2) := by decide +kernel
theorem dX12_judgePart_147 : decode cX12_judgePart 147 = .ok (.iload 7, 2) := by decide +kernel
theorem dX12_judgePart_149 : decode cX12_judgePart 149 = .ok (.invokevirtual 740, 3) := by decide +kernel
theorem dX12_judgePart_152 : decode cX12_judgePart 152 = .ok (.istore 8, 2) := by decide +kernel
theorem dX12_judgePart_154 : decode cX12_judgePart 154 = .ok (.iload 8, 2) := by decide +kernel
theorem dX12_judgePart_156 : decode cX12_judgePart 156 = .ok (.ifCond .le 14, 3) := by decide +kernel
theorem dX12_judgePart_159 : decode cX12_judgePart 159 = .ok (.aload_n 0, 1) := by decide +kernel
theorem dX12_judgePart_160 : decode cX12_judgePart 160 = .ok (.iload 8, 2) := by decide +kernel
theorem dX12_judgePart_162 : decode cX12_judgePart 162 = .ok (.iload 6, 2) := by decide +kernel
theorem dX12_judgePart_164 : decode cX12_judgePart 164 = .ok (.iload 7, 2) := by decide +kernel
theorem dX12_judgePart_166 : decode cX12_judgePart 166 = .ok (.invokevirtual 743, 3) := by decide +kernel
theorem dX12_judgePart_169 : decode cX12_judgePart 169 = .ok (.ireturn, 1) := by decide +kernel
theorem dX12_judgePart_170 : decode cX12_judgePart 170 = .ok (.iinc 7 1, 3) := by decide +kernel
theorem dX12_judgePart_173 : decode cX12_judgePart 173 = .ok (.goto (-36), 3) := by decide +kernel
theorem dX12_judgePart_176 : decode cX12_judgePart 176 = .ok (.iinc 6 1, 3) := by decide +kernel
theorem dX12_judgePart_179 : decode cX12_judgePart 179 = .ok (.goto (-55), 3) := by decide +kernel
theorem dX12_judgePart_182 : decode cX12_judgePart 182 = .ok (.iload_n 2, 1) := by decide +kernel
theorem dX12_judgePart_183 : decode cX12_judgePart 183 = .ok (.iconst 1, 1) := by decide +kernel
theorem dX12_judgePart_184 : decode cX12_judgePart 184 = .ok (.iadd, 1) := by decide +kernel
theorem dX12_judgePart_185 : decode cX12_judgePart 185 = .ok (.istore 6, 2) := by decide +kernel
theorem dX12_judgePart_187 : decode cX12_judgePart 187 = .ok (.iload 6, 2) := by decide +kernel
theorem dX12_judgePart_189 : decode cX12_judgePart 189 = .ok (.iload_n 3, 1) := by decide +kernel
theorem dX12_judgePart_190 : decode cX12_judgePart 190 = .ok (.if_icmp .ge 28, 3) := by decide +kernel
theorem dX12_judgePart_193 : decode cX12_judgePart 193 = .ok (.aload_n 0, 1) := by decide +kernel
theorem dX12_judgePart_194 : decode cX12_judgePart 194 = .ok (.iload 6, 2) := by decide +kernel
theorem dX12_judgePart_196 : decode cX12_judgePart 196 = .ok (.iload_n 2, 1) := by decide +kernel
theorem dX12_judgePart_197 : decode cX12_judgePart 197 = .ok (.invokevirtual 747, 3) := by decide +kernel
theorem dX12_judgePart_200 : decode cX12_judgePart 200 = .ok (.ifCond .ne 12, 3) := by decide +kernel
theorem dX12_judgePart_203 : decode cX12_judgePart 203 = .ok (.aload_n 0, 1) := by decide +kernel
theorem dX12_judgePart_204 : decode cX12_judgePart 204 = .ok (.bipush 6, 2) := by decide +kernel
theorem dX12_judgePart_206 : decode cX12_judgePart 206 = .ok (.iload 6, 2) := by decide +kernel
theorem dX12_judgePart_208 : decode cX12_judgePart 208 = .ok (.invokevirtual 734, 3) := by decide +kernel
theorem dX12_judgePart_211 : decode cX12_judgePart 211 = .ok (.ireturn, 1) := by decide +kernel
theorem dX12_judgePart_212 : decode cX12_judgePart 212 = .ok (.iinc 6 1, 3) := by decide +kernel
theorem dX12_judgePart_215 : decode cX12_judgePart 215 = .ok (.goto (-28), 3) := by decide +kernel
theorem dX12_judgePart_218 : decode cX12_judgePart 218 = .ok (.iload_n 2, 1) := by decide +kernel
theorem dX12_judgePart_219 : decode cX12_judgePart 219 = .ok (.iconst 1, 1) := by decide +kernel
theorem dX12_judgePart_220 : decode cX12_judgePart 220 = .ok (.iadd, 1) := by decide +kernel
theorem dX12_judgePart_221 : decode cX12_judgePart 221 = .ok (.istore 6, 2) := by decide +kernel
theorem dX12_judgePart_223 : decode cX12_judgePart 223 = .ok (.iload 6, 2) := by decide +kernel
theorem dX12_judgePart_225 : decode cX12_judgePart 225 = .ok (.iload_n 3, 1) := by decide +kernel
theorem dX12_judgePart_226 : decode cX12_judgePart 226 = .ok (.if_icmp .ge 81, 3) := by decide +kernel
theorem dX12_judgePart_229 : decode cX12_judgePart 229 = .ok (.iload 6, 2) := by decide +kernel
theorem dX12_judgePart_231 : decode cX12_judgePart 231 = .ok (.iconst 1, 1) := by decide +kernel
theorem dX12_judgePart_232 : decode cX12_judgePart 232 = .ok (.iadd, 1) := by decide +kernel
theorem dX12_judgePart_233 : decode cX12_judgePart 233 = .ok (.istore 7, 2) := by decide +kernel
theorem dX12_judgePart_235 : decode cX12_judgePart 235 = .ok (.iload 7, 2) := by decide +kernel
theorem dX12_judgePart_237 : decode cX12_judgePart 237 = .ok (.iload_n 3, 1) := by decide +kernel
theorem dX12_judgePart_238 : decode cX12_judgePart 238 = .ok (.if_icmp .ge 63, 3) := by decide +kernel
theorem dX12_judgePart_241 : decode cX12_judgePart 241 = .ok (.aload_n 0, 1) := by decide +kernel
theorem dX12_judgePart_242 : decode cX12_judgePart 242 = .ok (.iload 6, 2) := by decide +kernel
theorem dX12_judgePart_244 : decode cX12_judgePart 244 = .ok (.iload 7, 2) := by decide +kernel
theorem dX12_judgePart_246 : decode cX12_judgePart 246 = .ok (.invokevirtual 747, 3) := by decide +kernel
theorem dX12_judgePart_249 : decode cX12_judgePart 249 = .ok (.ifCond .ne 17, 3) := by decide +kernel
theorem dX12_judgePart_252 : decode cX12_judgePart 252 = .ok (.aload_n 0, 1) := by decide +kernel
theorem dX12_judgePart_253 : decode cX12_judgePart 253 = .ok (.iload 7, 2) := by decide +kernel
theorem dX12_judgePart_255 : decode cX12_judgePart 255 = .ok (.iload 6, 2) := by decide +kernel
theorem dX12_judgePart_257 : decode cX12_judgePart 257 = .ok (.invokevirtual 747, 3) := by decide +kernel
theorem dX12_judgePart_260 : decode cX12_judgePart 260 = .ok (.ifCond .ne 6, 3) := by decide +kernel
theorem dX12_judgePart_263 : decode cX12_judgePart 263 = .ok (.goto 32, 3) := by decide +kernel
theorem dX12_judgePart_266 : decode cX12_judgePart 266 = .ok (.aload_n 0, 1) := by decide +kernel
theorem dX12_judgePart_267 : decode cX12_judgePart 267 = .ok (.getfield 35, 3) := by decide +kernel
theorem dX12_judgePart_270 : decode cX12_judgePart 270 = .ok (.iconst 4, 1) := by decide +kernel
theorem dX12_judgePart_271 : decode cX12_judgePart 271 = .ok (.iload_n 1, 1) := by decide +kernel
theorem dX12_judgePart_272 : decode cX12_judgePart 272 = .ok (.iastore, 1) := by decide +kernel
theorem dX12_judgePart_273 : decode cX12_judgePart 273 = .ok (.aload_n 0, 1) := by decide +kernel
theorem dX12_judgePart_274 : decode cX12_judgePart 274 = .ok (.getfield 35, 3) := by decide +kernel
theorem dX12_judgePart_277 : decode cX12_judgePart 277 = .ok (.iconst 5, 1) := by decide +kernel
theorem dX12_judgePart_278 : decode cX12_judgePart 278 = .ok (.aload_n 0, 1) := by decide +kernel
theorem dX12_judgePart_279 : decode cX12_judgePart 279 = .ok (.getfield 108, 3) := by decide +kernel
theorem dX12_judgePart_282 : decode cX12_judgePart 282 = .ok (.iload 7, 2) := by decide +kernel
theorem dX12_judgePart_284 : decode cX12_judgePart 284 = .ok (.iaload, 1) := by decide +kernel
theorem dX12_judgePart_285 : decode cX12_judgePart 285 = .ok (.iastore, 1) := by decide +kernel
theorem dX12_judgePart_286 : decode cX12_judgePart 286 = .ok (.aload_n 0, 1) := by decide +kernel
theorem dX12_judgePart_287 : decode cX12_judgePart 287 = .ok (.bipush 7, 2) := by decide +kernel
theorem dX12_judgePart_289 : decode cX12_judgePart 289 = .ok (.iload 6, 2) := by decide +kernel
theorem dX12_judgePart_291 : decode cX12_judgePart 291 = .ok (.invokevirtual 734, 3) := by decide +kernel
theorem dX12_judgePart_294 : decode cX12_judgePart 294 = .ok (.ireturn, 1) := by decide +kernel
theorem dX12_judgePart_295 : decode cX12_judgePart 295 = .ok (.iinc 7 1, 3) := by decide +kernel
theorem dX12_judgePart_298 : decode cX12_judgePart 298 = .ok (.goto (-63), 3) := by decide +kernel
theorem dX12_judgePart_301 : decode cX12_judgePart 301 = .ok (.iinc 6 1, 3) := by decide +kernel
theorem dX12_judgePart_304 : decode cX12_judgePart 304 = .ok (.goto (-81), 3) := by decide +kernel
theorem dX12_judgePart_307 : decode cX12_judgePart 307 = .ok (.aload_n 0, 1) := by decide +kernel
theorem dX12_judgePart_308 : decode cX12_judgePart 308 = .ok (.iload 4, 2) := by decide +kernel
theorem dX12_judgePart_310 : decode cX12_judgePart 310 = .ok (.iload 5, 2) := by decide +kernel
theorem dX12_judgePart_312 : decode cX12_judgePart 312 = .ok (.invokevirtual 750, 3) := by decide +kernel
theorem dX12_judgePart_315 : decode cX12_judgePart 315 = .ok (.ifCond .ne 5, 3) := by decide +kernel
theorem dX12_judgePart_318 : decode cX12_judgePart 318 = .ok (.iconst 0, 1) := by decide +kernel
theorem dX12_judgePart_319 : decode cX12_judgePart 319 = .ok (.ireturn, 1) := by decide +kernel
theorem dX12_judgePart_320 : decode cX12_judgePart 320 = .ok (.aload_n 0, 1) := by decide +kernel
theorem dX12_judgePart_321 : decode cX12_judgePart 321 = .ok (.getfield 35, 3) := by decide +kernel
theorem dX12_judgePart_324 : decode cX12_judgePart 324 = .ok (.iconst 1, 1) := by decide +kernel
theorem dX12_judgePart_325 : decode cX12_judgePart 325 = .ok (.iload_n 1, 1) := by decide +kernel
theorem dX12_judgePart_326 : decode cX12_judgePart 326 = .ok (.iastore, 1) := by decide +kernel
theorem dX12_judgePart_327 : decode cX12_judgePart 327 = .ok (.bipush 8, 2) := by decide +kernel
theorem dX12_judgePart_329 : decode cX12_judgePart 329 = .ok (.ireturn, 1) := by decide +kernel
theorem dX12_isInside_0 : decode cX12_isInside 0 = .ok (.aload_n 0, 1) := by decide +kernel
theorem dX12_isInside_1 : decode cX12_isInside 1 = .ok (.getfield 114, 3) := by decide +kernel
theorem dX12_isInside_4 : decode cX12_isInside 4 = .ok (.iload_n 1, 1) := by decide +kernel
theorem dX12_isInside_5 : decode cX12_isInside 5 = .ok (.iaload, 1) := by decide +kernel
theorem dX12_isInside_6 : decode cX12_isInside 6 = .ok (.istore_n 3, 1) := by decide +kernel
theorem dX12_isInside_7 : decode cX12_isInside 7 = .ok (.aload_n 0, 1) := by decide +kernel
theorem dX12_isInside_8 : decode cX12_isInside 8 = .ok (.getfield 114, 3) := by decide +kernel
theorem dX12_isInside_11 : decode cX12_isInside 11 = .ok (.iload_n 2, 1) := by decide +kernel
theorem dX12_isInside_12 : decode cX12_isInside 12 = .ok (.iaload, 1) := by decide +kernel
theorem dX12_isInside_13 : decode cX12_isInside 13 = .ok (.istore 4, 2) := by decide +kernel
theorem dX12_isInside_15 : decode cX12_isInside 15 = .ok (.iload_n 3, 1) := by decide +kernel
theorem dX12_isInside_16 : decode cX12_isInside 16 = .ok (.aload_n 0, 1) := by decide +kernel
theorem dX12_isInside_17 : decode cX12_isInside 17 = .ok (.getfield 114, 3) := by decide +kernel
theorem dX12_isInside_20 : decode cX12_isInside 20 = .ok (.iload_n 1, 1) := by decide +kernel
theorem dX12_isInside_21 : decode cX12_isInside 21 = .ok (.iconst 1, 1) := by decide +kernel
theorem dX12_isInside_22 : decode cX12_isInside 22 = .ok (.iadd, 1) := by decide +kernel
theorem dX12_isInside_23 : decode cX12_isInside 23 = .ok (.iaload, 1) := by decide +kernel
theorem dX12_isInside_24 : decode cX12_isInside 24 = .ok (.if_icmp .eq 26, 3) := by decide +kernel
theorem dX12_isInside_27 : decode cX12_isInside 27 = .ok (.iload 4, 2) := by decide +kernel
theorem dX12_isInside_29 : decode cX12_isInside 29 = .ok (.aload_n 0, 1) := by decide +kernel
theorem dX12_isInside_30 : decode cX12_isInside 30 = .ok (.getfield 114, 3) := by decide +kernel
theorem dX12_isInside_33 : decode cX12_isInside 33 = .ok (.iload_n 2, 1) := by decide +kernel
theorem dX12_isInside_34 : decode cX12_isInside 34 = .ok (.iconst 1, 1) := by decide +kernel
theorem dX12_isInside_35 : decode cX12_isInside 35 = .ok (.iadd, 1) := by decide +kernel
theorem dX12_isInside_36 : decode cX12_isInside 36 = .ok (.iaload, 1) := by decide +kernel
theorem dX12_isInside_37 : decode cX12_isInside 37 = .ok (.if_icmp .eq 13, 3) := by decide +kernel
theorem dX12_isInside_40 : decode cX12_isInside 40 = .ok (.aload_n 0, 1) := by decide +kernel
theorem dX12_isInside_41 : decode cX12_isInside 41 = .ok (.iload_n 3, 1) := by decide +kernel
theorem dX12_isInside_42 : decode cX12_isInside 42 = .ok (.iload 4, 2) := by decide +kernel
theorem dX12_isInside_44 : decode cX12_isInside 44 = .ok (.invokevirtual 747, 3) := by decide +kernel
theorem dX12_isInside_47 : decode cX12_isInside 47 = .ok (.ifCond .ne 5, 3) := by decide +kernel
theorem dX12_isInside_50 : decode cX12_isInside 50 = .ok (.iconst 0, 1) := by decide +kernel
theorem dX12_isInside_51 : decode cX12_isInside 51 = .ok (.ireturn, 1) := by decide +kernel
theorem dX12_isInside_52 : decode cX12_isInside 52 = .ok (.iload 4, 2) := by decide +kernel
theorem dX12_isInside_54 : decode cX12_isInside 54 = .ok (.iconst 1, 1) := by decide +kernel
theorem dX12_isInside_55 : decode cX12_isInside 55 = .ok (.iadd, 1) := by decide +kernel
theorem dX12_isInside_56 : decode cX12_isInside 56 = .ok (.istore 5, 2) := by decide +kernel
theorem dX12_isInside_58 : decode cX12_isInside 58 = .ok (.iload 5, 2) := by decide +kernel
theorem dX12_isInside_60 : decode cX12_isInside 60 = .ok (.aload_n 0, 1) := by decide +kernel
theorem dX12_isInside_61 : decode cX12_isInside 61 = .ok (.getfield 114, 3) := by decide +kernel
theorem dX12_isInside_64 : decode cX12_isInside 64 = .ok (.iload_n 2, 1) := by decide +kernel
theorem dX12_isInside_65 : decode cX12_isInside 65 = .ok (.iconst 1, 1) := by decide +kernel
theorem dX12_isInside_66 : decode cX12_isInside 66 = .ok (.iadd, 1) := by decide +kernel
theorem dX12_isInside_67 : decode cX12_isInside 67 = .ok (.iaload, 1) := by decide +kernel
theorem dX12_isInside_68 : decode cX12_isInside 68 = .ok (.if_icmp .ge 21, 3) := by decide +kernel
theorem dX12_isInside_71 : decode cX12_isInside 71 = .ok (.aload_n 0, 1) := by decide +kernel
theorem dX12_isInside_72 : decode cX12_isInside 72 = .ok (.iload_n 3, 1) := by decide +kernel
theorem dX12_isInside_73 : decode cX12_isInside 73 = .ok (.iload 5, 2) := by decide +kernel
theorem dX12_isInside_75 : decode cX12_isInside 75 = .ok (.invokevirtual 747, 3) := by decide +kernel
theorem dX12_isInside_78 : decode cX12_isInside 78 = .ok (.ifCond .eq 5, 3) := by decide +kernel
theorem dX12_isInside_81 : decode cX12_isInside 81 = .ok (.iconst 0, 1) := by decide +kernel
theorem dX12_isInside_82 : decode cX12_isInside 82 = .ok (.ireturn, 1) := by decide +kernel
theorem dX12_isInside_83 : decode cX12_isInside 83 = .ok (.iinc 5 1, 3) := by decide +kernel
theorem dX12_isInside_86 : decode cX12_isInside 86 = .ok (.goto (-28), 3) := by decide +kernel
theorem dX12_isInside_89 : decode cX12_isInside 89 = .ok (.iconst 1, 1) := by decide +kernel
theorem dX12_isInside_90 : decode cX12_isInside 90 = .ok (.ireturn, 1) := by decide +kernel
theorem dX12_judgeParts_0 : decode cX12_judgeParts 0 = .ok (.iconst 0, 1) := by decide +kernel
theorem dX12_judgeParts_1 : decode cX12_judgeParts 1 = .ok (.istore_n 1, 1) := by decide +kernel
theorem dX12_judgeParts_2 : decode cX12_judgeParts 2 = .ok (.iload_n 1, 1) := by decide +kernel
theorem dX12_judgeParts_3 : decode cX12_judgeParts 3 = .ok (.aload_n 0, 1) := by decide +kernel
theorem dX12_judgeParts_4 : decode cX12_judgeParts 4 = .ok (.getfield 681, 3) := by decide +kernel
theorem dX12_judgeParts_7 : decode cX12_judgeParts 7 = .ok (.if_icmp .ge 21, 3) := by decide +kernel
theorem dX12_judgeParts_10 : decode cX12_judgeParts 10 = .ok (.aload_n 0, 1) := by decide +kernel
theorem dX12_judgeParts_11 : decode cX12_judgeParts 11 = .ok (.iload_n 1, 1) := by decide +kernel
theorem dX12_judgeParts_12 : decode cX12_judgeParts 12 = .ok (.invokevirtual 753, 3) := by decide +kernel
theorem dX12_judgeParts_15 : decode cX12_judgeParts 15 = .ok (.istore_n 2, 1) := by decide +kernel
theorem dX12_judgeParts_16 : decode cX12_judgeParts 16 = .ok (.iload_n 2, 1) := by decide +kernel
theorem dX12_judgeParts_17 : decode cX12_judgeParts 17 = .ok (.ifCond .le 5, 3) := by decide +kernel
theorem dX12_judgeParts_20 : decode cX12_judgeParts 20 = .ok (.iload_n 2, 1) := by decide +kernel
theorem dX12_judgeParts_21 : decode cX12_judgeParts 21 = .ok (.ireturn, 1) := by decide +kernel
theorem dX12_judgeParts_22 : decode cX12_judgeParts 22 = .ok (.iinc 1 1, 3) := by decide +kernel
theorem dX12_judgeParts_25 : decode cX12_judgeParts 25 = .ok (.goto (-23), 3) := by decide +kernel
theorem dX12_judgeParts_28 : decode cX12_judgeParts 28 = .ok (.iconst 0, 1) := by decide +kernel
theorem dX12_judgeParts_29 : decode cX12_judgeParts 29 = .ok (.istore_n 1, 1) := by decide +kernel
theorem dX12_judgeParts_30 : decode cX12_judgeParts 30 = .ok (.iload_n 1, 1) := by decide +kernel
theorem dX12_judgeParts_31 : decode cX12_judgeParts 31 = .ok (.aload_n 0, 1) := by decide +kernel
theorem dX12_judgeParts_32 : decode cX12_judgeParts 32 = .ok (.getfield 652, 3) := by decide +kernel
theorem dX12_judgeParts_35 : decode cX12_judgeParts 35 = .ok (.if_icmp .ge 77, 3) := by decide +kernel
theorem dX12_judgeParts_38 : decode cX12_judgeParts 38 = .ok (.iload_n 1, 1) := by decide +kernel
theorem dX12_judgeParts_39 : decode cX12_judgeParts 39 = .ok (.iconst 1, 1) := by decide +kernel
theorem dX12_judgeParts_40 : decode cX12_judgeParts 40 = .ok (.iadd, 1) := by decide +kernel
theorem dX12_judgeParts_41 : decode cX12_judgeParts 41 = .ok (.istore_n 2, 1) := by decide +kernel
theorem dX12_judgeParts_42 : decode cX12_judgeParts 42 = .ok (.iload_n 2, 1) := by decide +kernel
theorem dX12_judgeParts_43 : decode cX12_judgeParts 43 = .ok (.aload_n 0, 1) := by decide +kernel
theorem dX12_judgeParts_44 : decode cX12_judgeParts 44 = .ok (.getfield 652, 3) := by decide +kernel
theorem dX12_judgeParts_47 : decode cX12_judgeParts 47 = .ok (.if_icmp .ge 59, 3) := by decide +kernel
theorem dX12_judgeParts_50 : decode cX12_judgeParts 50 = .ok (.aload_n 0, 1) := by decide +kernel
theorem dX12_judgeParts_51 : decode cX12_judgeParts 51 = .ok (.getfield 105, 3) := by decide +kernel
theorem dX12_judgeParts_54 : decode cX12_judgeParts 54 = .ok (.aload_n 0, 1) := by decide +kernel
theorem dX12_judgeParts_55 : decode cX12_judgeParts 55 = .ok (.getfield 90, 3) := by decide +kernel
theorem dX12_judgeParts_58 : decode cX12_judgeParts 58 = .ok (.iload_n 1, 1) := by decide +kernel
theorem dX12_judgeParts_59 : decode cX12_judgeParts 59 = .ok (.iaload, 1) := by decide +kernel
theorem dX12_judgeParts_60 : decode cX12_judgeParts 60 = .ok (.iaload, 1) := by decide +kernel
theorem dX12_judgeParts_61 : decode cX12_judgeParts 61 = .ok (.aload_n 0, 1) := by decide +kernel
theorem dX12_judgeParts_62 : decode cX12_judgeParts 62 = .ok (.getfield 105, 3) := by decide +kernel
theorem dX12_judgeParts_65 : decode cX12_judgeParts 65 = .ok (.aload_n 0, 1) := by decide +kernel
theorem dX12_judgeParts_66 : decode cX12_judgeParts 66 = .ok (.getfield 90, 3) := by decide +kernel
theorem dX12_judgeParts_69 : decode cX12_judgeParts 69 = .ok (.iload_n 2, 1) := by decide +kernel
theorem dX12_judgeParts_70 : decode cX12_judgeParts 70 = .ok (.iaload, 1) := by decide +kernel
theorem dX12_judgeParts_71 : decode cX12_judgeParts 71 = .ok (.iaload, 1) := by decide +kernel
theorem dX12_judgeParts_72 : decode cX12_judgeParts 72 = .ok (.if_icmp .ne 6, 3) := by decide +kernel
theorem dX12_judgeParts_75 : decode cX12_judgeParts 75 = .ok (.goto 25, 3) := by decide +kernel
theorem dX12_judgeParts_78 : decode cX12_judgeParts 78 = .ok (.aload_n 0, 1) := by decide +kernel
theorem dX12_judgeParts_79 : decode cX12_judgeParts 79 = .ok (.iload_n 1, 1) := by decide +kernel
theorem dX12_judgeParts_80 : decode cX12_judgeParts 80 = .ok (.iload_n 2, 1) := by decide +kernel
theorem dX12_judgeParts_81 : decode cX12_judgeParts 81 = .ok (.invokevirtual 740, 3) := by decide +kernel
theorem dX12_judgeParts_84 : decode cX12_judgeParts 84 = .ok (.istore_n 3, 1) := by decide +kernel
theorem dX12_judgeParts_85 : decode cX12_judgeParts 85 = .ok (.iload_n 3, 1) := by decide +kernel
theorem dX12_judgeParts_86 : decode cX12_judgeParts 86 = .ok (.ifCond .le 14, 3) := by decide +kernel
theorem dX12_judgeParts_89 : decode cX12_judgeParts 89 = .ok (.aload_n 0, 1) := by decide +kernel
theorem dX12_judgeParts_90 : decode cX12_judgeParts 90 = .ok (.iload_n 3, 1) := by decide +kernel
theorem dX12_judgeParts_91 : decode cX12_judgeParts 91 = .ok (.bipush 6, 2) := by decide +kernel
theorem dX12_judgeParts_93 : decode cX12_judgeParts 93 = .ok (.iadd, 1) := by decide +kernel
theorem dX12_judgeParts_94 : decode cX12_judgeParts 94 = .ok (.iload_n 1, 1) := by decide +kernel
theorem dX12_judgeParts_95 : decode cX12_judgeParts 95 = .ok (.iload_n 2, 1) := by decide +kernel
theorem dX12_judgeParts_96 : decode cX12_judgeParts 96 = .ok (.invokevirtual 743, 3) := by decide +kernel
theorem dX12_judgeParts_99 : decode cX12_judgeParts 99 = .ok (.ireturn, 1) := by decide +kernel
theorem dX12_judgeParts_100 : decode cX12_judgeParts 100 = .ok (.iinc 2 1, 3) := by decide +kernel
theorem dX12_judgeParts_103 : decode cX12_judgeParts 103 = .ok (.goto (-61), 3) := by decide +kernel
theorem dX12_judgeParts_106 : decode cX12_judgeParts 106 = .ok (.iinc 1 1, 3) := by decide +kernel
theorem dX12_judgeParts_109 : decode cX12_judgeParts 109 = .ok (.goto (-79), 3) := by decide +kernel
theorem dX12_judgeParts_112 : decode cX12_judgeParts 112 = .ok (.iconst 0, 1) := by decide +kernel
theorem dX12_judgeParts_113 : decode cX12_judgeParts 113 = .ok (.istore_n 1, 1) := by decide +kernel
theorem dX12_judgeParts_114 : decode cX12_judgeParts 114 = .ok (.iload_n 1, 1) := by decide +kernel
theorem dX12_judgeParts_115 : decode cX12_judgeParts 115 = .ok (.aload_n 0, 1) := by decide +kernel
theorem dX12_judgeParts_116 : decode cX12_judgeParts 116 = .ok (.getfield 681, 3) := by decide +kernel
theorem dX12_judgeParts_119 : decode cX12_judgeParts 119 = .ok (.if_icmp .ge 65, 3) := by decide +kernel
theorem dX12_judgeParts_122 : decode cX12_judgeParts 122 = .ok (.iload_n 1, 1) := by decide +kernel
theorem dX12_judgeParts_123 : decode cX12_judgeParts 123 = .ok (.iconst 1, 1) := by decide +kernel
theorem dX12_judgeParts_124 : decode cX12_judgeParts 124 = .ok (.iadd, 1) := by decide +kernel
theorem dX12_judgeParts_125 : decode cX12_judgeParts 125 = .ok (.istore_n 2, 1) := by decide +kernel
theorem dX12_judgeParts_126 : decode cX12_judgeParts 126 = .ok (.iload_n 2, 1) := by decide +kernel
theorem dX12_judgeParts_127 : decode cX12_judgeParts 127 = .ok (.aload_n 0, 1) := by decide +kernel
theorem dX12_judgeParts_128 : decode cX12_judgeParts 128 = .ok (.getfield 681, 3) := by decide +kernel
theorem dX12_judgeParts_131 : decode cX12_judgeParts 131 = .ok (.if_icmp .ge 47, 3) := by decide +kernel
theorem dX12_judgeParts_134 : decode cX12_judgeParts 134 = .ok (.aload_n 0, 1) := by decide +kernel
theorem dX12_judgeParts_135 : decode cX12_judgeParts 135 = .ok (.iload_n 1, 1) := by decide +kernel
theorem dX12_judgeParts_136 : decode cX12_judgeParts 136 = .ok (.iload_n 2, 1) := by decide +kernel
theorem dX12_judgeParts_137 : decode cX12_judgeParts 137 = .ok (.invokevirtual 756, 3) := by decide +kernel
theorem dX12_judgeParts_140 : decode cX12_judgeParts 140 = .ok (.ifCond .ne 15, 3) := by decide +kernel
theorem dX12_judgeParts_143 : decode cX12_judgeParts 143 = .ok (.aload_n 0, 1) := by decide +kernel
theorem dX12_judgeParts_144 : decode cX12_judgeParts 144 = .ok (.iload_n 2, 1) := by decide +kernel
theorem dX12_judgeParts_145 : decode cX12_judgeParts 145 = .ok (.iload_n 1, 1) := by decide +kernel
theorem dX12_judgeParts_146 : decode cX12_judgeParts 146 = .ok (.invokevirtual 756, 3) := by decide +kernel
theorem dX12_judgeParts_149 : decode cX12_judgeParts 149 = .ok (.ifCond .ne 6, 3) := by decide +kernel
theorem dX12_judgeParts_152 : decode cX12_judgeParts 152 = .ok (.goto 20, 3) := by decide +kernel
theorem dX12_judgeParts_155 : decode cX12_judgeParts 155 = .ok (.aload_n 0, 1) := by decide +kernel
theorem dX12_judgeParts_156 : decode cX12_judgeParts 156 = .ok (.getfield 35, 3) := by decide +kernel
theorem dX12_judgeParts_159 : decode cX12_judgeParts 159 = .ok (.iconst 1, 1) := by decide +kernel
theorem dX12_judgeParts_160 : decode cX12_judgeParts 160 = .ok (.iload_n 1, 1) := by decide +kernel
theorem dX12_judgeParts_161 : decode cX12_judgeParts 161 = .ok (.iastore, 1) := by decide +kernel
theorem dX12_judgeParts_162 : decode cX12_judgeParts 162 = .ok (.aload_n 0, 1) := by decide +kernel
theorem dX12_judgeParts_163 : decode cX12_judgeParts 163 = .ok (.getfield 35, 3) := by decide +kernel
theorem dX12_judgeParts_166 : decode cX12_judgeParts 166 = .ok (.iconst 4, 1) := by decide +kernel
theorem dX12_judgeParts_167 : decode cX12_judgeParts 167 = .ok (.iload_n 2, 1) := by decide +kernel
theorem dX12_judgeParts_168 : decode cX12_judgeParts 168 = .ok (.iastore, 1) := by decide +kernel
theorem dX12_judgeParts_169 : decode cX12_judgeParts 169 = .ok (.bipush 11, 2) := by decide +kernel
theorem dX12_judgeParts_171 : decode cX12_judgeParts 171 = .ok (.ireturn, 1) := by decide +kernel
theorem dX12_judgeParts_172 : decode cX12_judgeParts 172 = .ok (.iinc 2 1, 3) := by decide +kernel
theorem dX12_judgeParts_175 : decode cX12_judgeParts 175 = .ok (.goto (-49), 3) := by decide +kernel
theorem dX12_judgeParts_178 : decode cX12_judgeParts 178 = .ok (.iinc 1 1, 3) := by decide +kernel
theorem dX12_judgeParts_181 : decode cX12_judgeParts 181 = .ok (.goto (-67), 3) := by decide +kernel
theorem dX12_judgeParts_184 : decode cX12_judgeParts 184 = .ok (.iconst 0, 1) := by decide +kernel
theorem dX12_judgeParts_185 : decode cX12_judgeParts 185 = .ok (.ireturn, 1) := by decide +kernel
theorem dX12_judge_0 : decode cX12_judge 0 = .ok (.aload_n 0, 1) := by decide +kernel
theorem dX12_judge_1 : decode cX12_judge 1 = .ok (.iconst 0, 1) := by decide +kernel
theorem dX12_judge_2 : decode cX12_judge 2 = .ok (.putfield 271, 3) := by decide +kernel
theorem dX12_judge_5 : decode cX12_judge 5 = .ok (.aload_n 0, 1) := by decide +kernel
theorem dX12_judge_6 : decode cX12_judge 6 = .ok (.iload_n 1, 1) := by decide +kernel
theorem dX12_judge_7 : decode cX12_judge 7 = .ok (.invokestatic 440, 3) := by decide +kernel
theorem dX12_judge_10 : decode cX12_judge 10 = .ok (.ifCond .ne 7, 3) := by decide +kernel
theorem dX12_judge_13 : decode cX12_judge 13 = .ok (.iconst 1, 1) := by decide +kernel
theorem dX12_judge_14 : decode cX12_judge 14 = .ok (.goto 4, 3) := by decide +kernel
theorem dX12_judge_17 : decode cX12_judge 17 = .ok (.iconst 0, 1) := by decide +kernel
theorem dX12_judge_18 : decode cX12_judge 18 = .ok (.iconst 1, 1) := by decide +kernel
theorem dX12_judge_19 : decode cX12_judge 19 = .ok (.invokevirtual 277, 3) := by decide +kernel
theorem dX12_judge_22 : decode cX12_judge 22 = .ok (.ifCond .ne 24, 3) := by decide +kernel
theorem dX12_judge_25 : decode cX12_judge 25 = .ok (.aload_n 0, 1) := by decide +kernel
theorem dX12_judge_26 : decode cX12_judge 26 = .ok (.aload_n 0, 1) := by decide +kernel
theorem dX12_judge_27 : decode cX12_judge 27 = .ok (.iload_n 1, 1) := by decide +kernel
theorem dX12_judge_28 : decode cX12_judge 28 = .ok (.invokevirtual 545, 3) := by decide +kernel
theorem dX12_judge_31 : decode cX12_judge 31 = .ok (.ifCond .ne 7, 3) := by decide +kernel
theorem dX12_judge_34 : decode cX12_judge 34 = .ok (.iconst 1, 1) := by decide +kernel
theorem dX12_judge_35 : decode cX12_judge 35 = .ok (.goto 4, 3) := by decide +kernel
theorem dX12_judge_38 : decode cX12_judge 38 = .ok (.iconst 0, 1) := by decide +kernel
theorem dX12_judge_39 : decode cX12_judge 39 = .ok (.iconst 2, 1) := by decide +kernel
theorem dX12_judge_40 : decode cX12_judge 40 = .ok (.invokevirtual 277, 3) := by decide +kernel
theorem dX12_judge_43 : decode cX12_judge 43 = .ok (.ifCond .eq 5, 3) := by decide +kernel
theorem dX12_judge_46 : decode cX12_judge 46 = .ok (.iconst 0, 1) := by decide +kernel
theorem dX12_judge_47 : decode cX12_judge 47 = .ok (.ireturn, 1) := by decide +kernel
theorem dX12_judge_48 : decode cX12_judge 48 = .ok (.aload_n 0, 1) := by decide +kernel
theorem dX12_judge_49 : decode cX12_judge 49 = .ok (.invokevirtual 759, 3) := by decide +kernel
theorem dX12_judge_52 : decode cX12_judge 52 = .ok (.sipush 2048, 3) := by decide +kernel
theorem dX12_judge_55 : decode cX12_judge 55 = .ok (.iload_n 1, 1) := by decide +kernel
theorem dX12_judge_56 : decode cX12_judge 56 = .ok (.imul, 1) := by decide +kernel
theorem dX12_judge_57 : decode cX12_judge 57 = .ok (.istore_n 2, 1) := by decide +kernel
theorem dX12_judge_58 : decode cX12_judge 58 = .ok (.iload_n 2, 1) := by decide +kernel
theorem dX12_judge_59 : decode cX12_judge 59 = .ok (.aload_n 0, 1) := by decide +kernel
theorem dX12_judge_60 : decode cX12_judge 60 = .ok (.getfield 18, 3) := by decide +kernel
theorem dX12_judge_63 : decode cX12_judge 63 = .ok (.iload_n 1, 1) := by decide +kernel
theorem dX12_judge_64 : decode cX12_judge 64 = .ok (.iaload, 1) := by decide +kernel
theorem dX12_judge_65 : decode cX12_judge 65 = .ok (.iadd, 1) := by decide +kernel
theorem dX12_judge_66 : decode cX12_judge 66 = .ok (.istore_n 3, 1) := by decide +kernel
theorem dX12_judge_67 : decode cX12_judge 67 = .ok (.sipush 2048, 3) := by decide +kernel
theorem dX12_judge_70 : decode cX12_judge 70 = .ok (.iload_n 1, 1) := by decide +kernel
theorem dX12_judge_71 : decode cX12_judge 71 = .ok (.imul, 1) := by decide +kernel
theorem dX12_judge_72 : decode cX12_judge 72 = .ok (.istore 4, 2) := by decide +kernel
theorem dX12_judge_74 : decode cX12_judge 74 = .ok (.iconst 0, 1) := by decide +kernel
theorem dX12_judge_75 : decode cX12_judge 75 = .ok (.istore 5, 2) := by decide +kernel
theorem dX12_judge_77 : decode cX12_judge 77 = .ok (.iload_n 2, 1) := by decide +kernel
theorem dX12_judge_78 : decode cX12_judge 78 = .ok (.iload_n 3, 1) := by decide +kernel
theorem dX12_judge_79 : decode cX12_judge 79 = .ok (.if_icmp .ge 219, 3) := by decide +kernel
theorem dX12_judge_82 : decode cX12_judge 82 = .ok (.aload_n 0, 1) := by decide +kernel
theorem dX12_judge_83 : decode cX12_judge 83 = .ok (.getfield 23, 3) := by decide +kernel
theorem dX12_judge_86 : decode cX12_judge 86 = .ok (.iload_n 2, 1) := by decide +kernel
theorem dX12_judge_87 : decode cX12_judge 87 = .ok (.iaload, 1) := by decide +kernel
theorem dX12_judge_88 : decode cX12_judge 88 = .ok (.istore 6, 2) := by decide +kernel
theorem dX12_judge_90 : decode cX12_judge 90 = .ok (.aload_n 0, 1) := by decide +kernel
theorem dX12_judge_91 : decode cX12_judge 91 = .ok (.getfield 23, 3) := by decide +kernel
theorem dX12_judge_94 : decode cX12_judge 94 = .ok (.iload_n 2, 1) := by decide +kernel
theorem dX12_judge_95 : decode cX12_judge 95 = .ok (.iconst 1, 1) := by decide +kernel
theorem dX12_judge_96 : decode cX12_judge 96 = .ok (.iadd, 1) := by decide +kernel
theorem dX12_judge_97 : decode cX12_judge 97 = .ok (.iaload, 1) := by decide +kernel
theorem dX12_judge_98 : decode cX12_judge 98 = .ok (.istore 7, 2) := by decide +kernel
theorem dX12_judge_100 : decode cX12_judge 100 = .ok (.iconst 0, 1) := by decide +kernel
theorem dX12_judge_101 : decode cX12_judge 101 = .ok (.istore 8, 2) := by decide +kernel
theorem dX12_judge_103 : decode cX12_judge 103 = .ok (.iload_n 2, 1) := by decide +kernel
theorem dX12_judge_104 : decode cX12_judge 104 = .ok (.istore 9, 2) := by decide +kernel
theorem dX12_judge_106 : decode cX12_judge 106 = .ok (.iinc 2 2, 3) := by decide +kernel
theorem dX12_judge_109 : decode cX12_judge 109 = .ok (.aload_n 0, 1) := by decide +kernel
theorem dX12_judge_110 : decode cX12_judge 110 = .ok (.iconst 0, 1) := by decide +kernel
theorem dX12_judge_111 : decode cX12_judge 111 = .ok (.putfield 678, 3) := by decide +kernel
theorem dX12_judge_114 : decode cX12_judge 114 = .ok (.aload_n 0, 1) := by decide +kernel
theorem dX12_judge_115 : decode cX12_judge 115 = .ok (.iconst 0, 1) := by decide +kernel
theorem dX12_judge_116 : decode cX12_judge 116 = .ok (.putfield 681, 3) := by decide +kernel
theorem dX12_judge_119 : decode cX12_judge 119 = .ok (.iload 6, 2) := by decide +kernel
theorem dX12_judge_121 : decode cX12_judge 121 = .ok (.iconst 3, 1) := by decide +kernel
theorem dX12_judge_122 : decode cX12_judge 122 = .ok (.if_icmp .ne 23, 3) := by decide +kernel
theorem dX12_judge_125 : decode cX12_judge 125 = .ok (.aload_n 0, 1) := by decide +kernel
theorem dX12_judge_126 : decode cX12_judge 126 = .ok (.iload_n 1, 1) := by decide +kernel
theorem dX12_judge_127 : decode cX12_judge 127 = .ok (.iload 9, 2) := by decide +kernel
theorem dX12_judge_129 : decode cX12_judge 129 = .ok (.iload 4, 2) := by decide +kernel
theorem dX12_judge_131 : decode cX12_judge 131 = .ok (.iconst 0, 1) := by decide +kernel
theorem dX12_judge_132 : decode cX12_judge 132 = .ok (.invokevirtual 762, 3) := by decide +kernel
theorem dX12_judge_135 : decode cX12_judge 135 = .ok (.istore 4, 2) := by decide +kernel
theorem dX12_judge_137 : decode cX12_judge 137 = .ok (.iload_n 2, 1) := by decide +kernel
theorem dX12_judge_138 : decode cX12_judge 138 = .ok (.iload 7, 2) := by decide +kernel
theorem dX12_judge_140 : decode cX12_judge 140 = .ok (.iadd, 1) := by decide +kernel
theorem dX12_judge_141 : decode cX12_judge 141 = .ok (.istore_n 2, 1) := by decide +kernel
theorem dX12_judge_142 : decode cX12_judge 142 = .ok (.goto 97, 3) := by decide +kernel
theorem dX12_judge_145 : decode cX12_judge 145 = .ok (.iload 6, 2) := by decide +kernel
theorem dX12_judge_147 : decode cX12_judge 147 = .ok (.bipush 6, 2) := by decide +kernel
theorem dX12_judge_149 : decode cX12_judge 149 = .ok (.if_icmp .ne 47, 3) := by decide +kernel
theorem dX12_judge_152 : decode cX12_judge 152 = .ok (.iconst 0, 1) := by decide +kernel
theorem dX12_judge_153 : decode cX12_judge 153 = .ok (.istore 10, 2) := by decide +kernel
theorem dX12_judge_155 : decode cX12_judge 155 = .ok (.iload 10, 2) := by decide +kernel
theorem dX12_judge_157 : decode cX12_judge 157 = .ok (.iload 7, 2) := by decide +kernel
theorem dX12_judge_159 : decode cX12_judge 159 = .ok (.if_icmp .ge 34, 3) := by decide +kernel
theorem dX12_judge_162 : decode cX12_judge 162 = .ok (.aload_n 0, 1) := by decide +kernel
theorem dX12_judge_163 : decode cX12_judge 163 = .ok (.iload_n 1, 1) := by decide +kernel
theorem dX12_judge_164 : decode cX12_judge 164 = .ok (.iload_n 2, 1) := by decide +kernel
theorem dX12_judge_165 : decode cX12_judge 165 = .ok (.iload 4, 2) := by decide +kernel
theorem dX12_judge_167 : decode cX12_judge 167 = .ok (.iload 10, 2) := by decide +kernel
theorem dX12_judge_169 : decode cX12_judge 169 = .ok (.invokevirtual 762, 3) := by decide +kernel
theorem dX12_judge_172 : decode cX12_judge 172 = .ok (.istore 4, 2) := by decide +kernel
theorem dX12_judge_174 : decode cX12_judge 174 = .ok (.iload_n 2, 1) := by decide +kernel
theorem dX12_judge_175 : decode cX12_judge 175 = .ok (.iconst 2, 1) := by decide +kernel
theorem dX12_judge_176 : decode cX12_judge 176 = .ok (.aload_n 0, 1) := by decide +kernel
theorem dX12_judge_177 : decode cX12_judge 177 = .ok (.getfield 23, 3) := by decide +kernel
theorem dX12_judge_180 : decode cX12_judge 180 = .ok (.iload_n 2, 1) := by decide +kernel
theorem dX12_judge_181 : decode cX12_judge 181 = .ok (.iconst 1, 1) := by decide +kernel
theorem dX12_judge_182 : decode cX12_judge 182 = .ok (.iadd, 1) := by decide +kernel
theorem dX12_judge_183 : decode cX12_judge 183 = .ok (.iaload, 1) := by decide +kernel
theorem dX12_judge_184 : decode cX12_judge 184 = .ok (.iadd, 1) := by decide +kernel
theorem dX12_judge_185 : decode cX12_judge 185 = .ok (.iadd, 1) := by decide +kernel
theorem dX12_judge_186 : decode cX12_judge 186 = .ok (.istore_n 2, 1) := by decide +kernel
theorem dX12_judge_187 : decode cX12_judge 187 = .ok (.iinc 10 1, 3) := by decide +kernel
theorem dX12_judge_190 : decode cX12_judge 190 = .ok (.goto (-35), 3) := by decide +kernel
theorem dX12_judge_193 : decode cX12_judge 193 = .ok (.goto 46, 3) := by decide +kernel
theorem dX12_judge_196 : decode cX12_judge 196 = .ok (.iload 6, 2) := by decide +kernel
theorem dX12_judge_198 : decode cX12_judge 198 = .ok (.iconst 3, 1) := by decide +kernel
theorem dX12_judge_199 : decode cX12_judge 199 = .ok (.if_icmp .ge 40, 3) := by decide +kernel
theorem dX12_judge_202 : decode cX12_judge 202 = .ok (.iload 6, 2) := by decide +kernel
theorem dX12_judge_204 : decode cX12_judge 204 = .ok (.iconst 2, 1) := by decide +kernel
theorem dX12_judge_205 : decode cX12_judge 205 = .ok (.if_icmp .ne 24, 3) := by decide +kernel
theorem dX12_judge_208 : decode cX12_judge 208 = .ok (.iload 7, 2) := by decide +kernel
theorem dX12_judge_210 : decode cX12_judge 210 = .ok (.ifCond .le 19, 3) := by decide +kernel
theorem dX12_judge_213 : decode cX12_judge 213 = .ok (.aload_n 0, 1) := by decide +kernel
theorem dX12_judge_214 : decode cX12_judge 214 = .ok (.iload 4, 2) := by decide +kernel
theorem dX12_judge_216 : decode cX12_judge 216 = .ok (.iload 7, 2) := by decide +kernel
theorem dX12_judge_218 : decode cX12_judge 218 = .ok (.invokevirtual 737, 3) := by decide +kernel
theorem dX12_judge_221 : decode cX12_judge 221 = .ok (.iconst 2, 1) := by decide +kernel
theorem dX12_judge_222 : decode cX12_judge 222 = .ok (.if_icmp .ge 7, 3) := by decide +kernel
theorem dX12_judge_225 : decode cX12_judge 225 = .ok (.iconst 2, 1) := by decide +kernel
theorem dX12_judge_226 : decode cX12_judge 226 = .ok (.goto 4, 3) := by decide +kernel
theorem dX12_judge_229 : decode cX12_judge 229 = .ok (.iconst 0, 1) := by decide +kernel
theorem dX12_judge_230 : decode cX12_judge 230 = .ok (.istore 8, 2) := by decide +kernel
theorem dX12_judge_232 : decode cX12_judge 232 = .ok (.iload 4, 2) := by decide +kernel
theorem dX12_judge_234 : decode cX12_judge 234 = .ok (.iload 7, 2) := by decide +kernel
theorem dX12_judge_236 : decode cX12_judge 236 = .ok (.iadd, 1) := by decide +kernel
theorem dX12_judge_237 : decode cX12_judge 237 = .ok (.istore 4, 2) := by decide +kernel
theorem dX12_judge_239 : decode cX12_judge 239 = .ok (.aload_n 0, 1) := by decide +kernel
theorem dX12_judge_240 : decode cX12_judge 240 = .ok (.invokevirtual 766, 3) := by decide +kernel
theorem dX12_judge_243 : decode cX12_judge 243 = .ok (.iload 8, 2) := by decide +kernel
theorem dX12_judge_245 : decode cX12_judge 245 = .ok (.ifCond .ne 10, 3) := by decide +kernel
theorem dX12_judge_248 : decode cX12_judge 248 = .ok (.aload_n 0, 1) := by decide +kernel
theorem dX12_judge_249 : decode cX12_judge 249 = .ok (.invokevirtual 769, 3) := by decide +kernel
theorem dX12_judge_252 : decode cX12_judge 252 = .ok (.goto 5, 3) := by decide +kernel
theorem dX12_judge_255 : decode cX12_judge 255 = .ok (.iload 8, 2) := by decide +kernel
theorem dX12_judge_257 : decode cX12_judge 257 = .ok (.istore 8, 2) := by decide +kernel
theorem dX12_judge_259 : decode cX12_judge 259 = .ok (.iload 8, 2) := by decide +kernel
theorem dX12_judge_261 : decode cX12_judge 261 = .ok (.ifCond .le 14, 3) := by decide +kernel
theorem dX12_judge_264 : decode cX12_judge 264 = .ok (.aload_n 0, 1) := by decide +kernel
theorem dX12_judge_265 : decode cX12_judge 265 = .ok (.getfield 35, 3) := by decide +kernel
theorem dX12_judge_268 : decode cX12_judge 268 = .ok (.iconst 0, 1) := by decide +kernel
theorem dX12_judge_269 : decode cX12_judge 269 = .ok (.iload 5, 2) := by decide +kernel
theorem dX12_judge_271 : decode cX12_judge 271 = .ok (.iastore, 1) := by decide +kernel
theorem dX12_judge_272 : decode cX12_judge 272 = .ok (.iload 8, 2) := by decide +kernel
theorem dX12_judge_274 : decode cX12_judge 274 = .ok (.ireturn, 1) := by decide +kernel
theorem dX12_judge_275 : decode cX12_judge 275 = .ok (.iload 5, 2) := by decide +kernel
theorem dX12_judge_277 : decode cX12_judge 277 = .ok (.iload 6, 2) := by decide +kernel
theorem dX12_judge_279 : decode cX12_judge 279 = .ok (.bipush 6, 2) := by decide +kernel
theorem dX12_judge_281 : decode cX12_judge 281 = .ok (.if_icmp .ne 10, 3) := by decide +kernel
theorem dX12_judge_284 : decode cX12_judge 284 = .ok (.iconst 1, 1) := by decide +kernel
theorem dX12_judge_285 : decode cX12_judge 285 = .ok (.iload 7, 2) := by decide +kernel
theorem dX12_judge_287 : decode cX12_judge 287 = .ok (.iadd, 1) := by decide +kernel
theorem dX12_judge_288 : decode cX12_judge 288 = .ok (.goto 4, 3) := by decide +kernel
theorem dX12_judge_291 : decode cX12_judge 291 = .ok (.iconst 1, 1) := by decide +kernel
theorem dX12_judge_292 : decode cX12_judge 292 = .ok (.iadd, 1) := by decide +kernel
theorem dX12_judge_293 : decode cX12_judge 293 = .ok (.istore 5, 2) := by decide +kernel
theorem dX12_judge_295 : decode cX12_judge 295 = .ok (.goto (-218), 3) := by decide +kernel
theorem dX12_judge_298 : decode cX12_judge 298 = .ok (.iconst 0, 1) := by decide +kernel
theorem dX12_judge_299 : decode cX12_judge 299 = .ok (.ireturn, 1) := by decide +kernel
theorem dX12_place_0 : decode cX12_place 0 = .ok (.aload_n 0, 1) := by decide +kernel
theorem dX12_place_1 : decode cX12_place 1 = .ok (.iconst 0, 1) := by decide +kernel
theorem dX12_place_2 : decode cX12_place 2 = .ok (.putfield 271, 3) := by decide +kernel
theorem dX12_place_5 : decode cX12_place 5 = .ok (.aload_n 0, 1) := by decide +kernel
theorem dX12_place_6 : decode cX12_place 6 = .ok (.iload_n 1, 1) := by decide +kernel
theorem dX12_place_7 : decode cX12_place 7 = .ok (.i2l, 1) := by decide +kernel
theorem dX12_place_8 : decode cX12_place 8 = .ok (.lconst 0, 1) := by decide +kernel
theorem dX12_place_9 : decode cX12_place 9 = .ok (.ldc2_w 772, 3) := by decide +kernel
theorem dX12_place_12 : decode cX12_place 12 = .ok (.invokestatic 287, 3) := by decide +kernel
theorem dX12_place_15 : decode cX12_place 15 = .ok (.ifCond .ne 7, 3) := by decide +kernel
theorem dX12_place_18 : decode cX12_place 18 = .ok (.iconst 1, 1) := by decide +kernel
theorem dX12_place_19 : decode cX12_place 19 = .ok (.goto 4, 3) := by decide +kernel
theorem dX12_place_22 : decode cX12_place 22 = .ok (.iconst 0, 1) := by decide +kernel
theorem dX12_place_23 : decode cX12_place 23 = .ok (.iconst 1, 1) := by decide +kernel
theorem dX12_place_24 : decode cX12_place 24 = .ok (.invokevirtual 277, 3) := by decide +kernel
theorem dX12_place_27 : decode cX12_place 27 = .ok (.ifCond .eq 5, 3) := by decide +kernel
theorem dX12_place_30 : decode cX12_place 30 = .ok (.iconst 0, 1) := by decide +kernel
theorem dX12_place_31 : decode cX12_place 31 = .ok (.ireturn, 1) := by decide +kernel
theorem dX12_place_32 : decode cX12_place 32 = .ok (.aload_n 0, 1) := by decide +kernel
theorem dX12_place_33 : decode cX12_place 33 = .ok (.getfield 35, 3) := by decide +kernel
theorem dX12_place_36 : decode cX12_place 36 = .ok (.iload_n 1, 1) := by decide +kernel
theorem dX12_place_37 : decode cX12_place 37 = .ok (.iaload, 1) := by decide +kernel
theorem dX12_place_38 : decode cX12_place 38 = .ok (.ireturn, 1) := by decide +kernel
theorem dX12_around_0 : decode cX12_around 0 = .ok (.lconst 0, 1) := by decide +kernel
theorem dX12_around_1 : decode cX12_around 1 = .ok (.lstore_n 3, 1) := by decide +kernel
theorem dX12_around_2 : decode cX12_around 2 = .ok (.iconst 0, 1) := by decide +kernel
theorem dX12_around_3 : decode cX12_around 3 = .ok (.istore 5, 2) := by decide +kernel
theorem dX12_around_5 : decode cX12_around 5 = .ok (.iload 5, 2) := by decide +kernel
theorem dX12_around_7 : decode cX12_around 7 = .ok (.iload_n 2, 1) := by decide +kernel
theorem dX12_around_8 : decode cX12_around 8 = .ok (.if_icmp .ge 61, 3) := by decide +kernel
theorem dX12_around_11 : decode cX12_around 11 = .ok (.iload_n 1, 1) := by decide +kernel
theorem dX12_around_12 : decode cX12_around 12 = .ok (.iload 5, 2) := by decide +kernel
theorem dX12_around_14 : decode cX12_around 14 = .ok (.iconst 1, 1) := by decide +kernel
theorem dX12_around_15 : decode cX12_around 15 = .ok (.iadd, 1) := by decide +kernel
theorem dX12_around_16 : decode cX12_around 16 = .ok (.iload_n 2, 1) := by decide +kernel
theorem dX12_around_17 : decode cX12_around 17 = .ok (.irem, 1) := by decide +kernel
theorem dX12_around_18 : decode cX12_around 18 = .ok (.iadd, 1) := by decide +kernel
theorem dX12_around_19 : decode cX12_around 19 = .ok (.istore 6, 2) := by decide +kernel
theorem dX12_around_21 : decode cX12_around 21 = .ok (.lload_n 3, 1) := by decide +kernel
theorem dX12_around_22 : decode cX12_around 22 = .ok (.aload_n 0, 1) := by decide +kernel
theorem dX12_around_23 : decode cX12_around 23 = .ok (.getfield 29, 3) := by decide +kernel
theorem dX12_around_26 : decode cX12_around 26 = .ok (.iload_n 1, 1) := by decide +kernel
theorem dX12_around_27 : decode cX12_around 27 = .ok (.iload 5, 2) := by decide +kernel
theorem dX12_around_29 : decode cX12_around 29 = .ok (.iadd, 1) := by decide +kernel
theorem dX12_around_30 : decode cX12_around 30 = .ok (.iaload, 1) := by decide +kernel
theorem dX12_around_31 : decode cX12_around 31 = .ok (.i2l, 1) := by decide +kernel
theorem dX12_around_32 : decode cX12_around 32 = .ok (.aload_n 0, 1) := by decide +kernel
theorem dX12_around_33 : decode cX12_around 33 = .ok (.getfield 32, 3) := by decide +kernel
theorem dX12_around_36 : decode cX12_around 36 = .ok (.iload 6, 2) := by decide +kernel
theorem dX12_around_38 : decode cX12_around 38 = .ok (.iaload, 1) := by decide +kernel
theorem dX12_around_39 : decode cX12_around 39 = .ok (.i2l, 1) := by decide +kernel
theorem dX12_around_40 : decode cX12_around 40 = .ok (.lmul, 1) := by decide +kernel
theorem dX12_around_41 : decode cX12_around 41 = .ok (.aload_n 0, 1) := by decide +kernel
theorem dX12_around_42 : decode cX12_around 42 = .ok (.getfield 29, 3) := by decide +kernel
theorem dX12_around_45 : decode cX12_around 45 = .ok (.iload 6, 2) := by decide +kernel
theorem dX12_around_47 : decode cX12_around 47 = .ok (.iaload, 1) := by decide +kernel
theorem dX12_around_48 : decode cX12_around 48 = .ok (.i2l, 1) := by decide +kernel
theorem dX12_around_49 : decode cX12_around 49 = .ok (.aload_n 0, 1) := by decide +kernel
theorem dX12_around_50 : decode cX12_around 50 = .ok (.getfield 32, 3) := by decide +kernel
theorem dX12_around_53 : decode cX12_around 53 = .ok (.iload_n 1, 1) := by decide +kernel
theorem dX12_around_54 : decode cX12_around 54 = .ok (.iload 5, 2) := by decide +kernel
theorem dX12_around_56 : decode cX12_around 56 = .ok (.iadd, 1) := by decide +kernel
theorem dX12_around_57 : decode cX12_around 57 = .ok (.iaload, 1) := by decide +kernel
theorem dX12_around_58 : decode cX12_around 58 = .ok (.i2l, 1) := by decide +kernel
theorem dX12_around_59 : decode cX12_around 59 = .ok (.lmul, 1) := by decide +kernel
theorem dX12_around_60 : decode cX12_around 60 = .ok (.lsub, 1) := by decide +kernel
theorem dX12_around_61 : decode cX12_around 61 = .ok (.ladd, 1) := by decide +kernel
theorem dX12_around_62 : decode cX12_around 62 = .ok (.lstore_n 3, 1) := by decide +kernel
theorem dX12_around_63 : decode cX12_around 63 = .ok (.iinc 5 1, 3) := by decide +kernel
theorem dX12_around_66 : decode cX12_around 66 = .ok (.goto (-61), 3) := by decide +kernel
theorem dX12_around_69 : decode cX12_around 69 = .ok (.lload_n 3, 1) := by decide +kernel
theorem dX12_around_70 : decode cX12_around 70 = .ok (.lconst 0, 1) := by decide +kernel
theorem dX12_around_71 : decode cX12_around 71 = .ok (.lcmp, 1) := by decide +kernel
theorem dX12_around_72 : decode cX12_around 72 = .ok (.ifCond .ge 8, 3) := by decide +kernel
theorem dX12_around_75 : decode cX12_around 75 = .ok (.lload_n 3, 1) := by decide +kernel
theorem dX12_around_76 : decode cX12_around 76 = .ok (.lneg, 1) := by decide +kernel
theorem dX12_around_77 : decode cX12_around 77 = .ok (.goto 4, 3) := by decide +kernel
theorem dX12_around_80 : decode cX12_around 80 = .ok (.lload_n 3, 1) := by decide +kernel
theorem dX12_around_81 : decode cX12_around 81 = .ok (.lreturn, 1) := by decide +kernel
theorem dX12_area_0 : decode cX12_area 0 = .ok (.aload_n 0, 1) := by decide +kernel
theorem dX12_area_1 : decode cX12_area 1 = .ok (.iconst 0, 1) := by decide +kernel
theorem dX12_area_2 : decode cX12_area 2 = .ok (.putfield 271, 3) := by decide +kernel
theorem dX12_area_5 : decode cX12_area 5 = .ok (.aload_n 0, 1) := by decide +kernel
theorem dX12_area_6 : decode cX12_area 6 = .ok (.iload_n 1, 1) := by decide +kernel
theorem dX12_area_7 : decode cX12_area 7 = .ok (.invokestatic 440, 3) := by decide +kernel
theorem dX12_area_10 : decode cX12_area 10 = .ok (.ifCond .ne 7, 3) := by decide +kernel
theorem dX12_area_13 : decode cX12_area 13 = .ok (.iconst 1, 1) := by decide +kernel
theorem dX12_area_14 : decode cX12_area 14 = .ok (.goto 4, 3) := by decide +kernel
theorem dX12_area_17 : decode cX12_area 17 = .ok (.iconst 0, 1) := by decide +kernel
theorem dX12_area_18 : decode cX12_area 18 = .ok (.iconst 1, 1) := by decide +kernel
theorem dX12_area_19 : decode cX12_area 19 = .ok (.invokevirtual 277, 3) := by decide +kernel
theorem dX12_area_22 : decode cX12_area 22 = .ok (.ifCond .ne 24, 3) := by decide +kernel
theorem dX12_area_25 : decode cX12_area 25 = .ok (.aload_n 0, 1) := by decide +kernel
theorem dX12_area_26 : decode cX12_area 26 = .ok (.aload_n 0, 1) := by decide +kernel
theorem dX12_area_27 : decode cX12_area 27 = .ok (.iload_n 1, 1) := by decide +kernel
theorem dX12_area_28 : decode cX12_area 28 = .ok (.invokevirtual 545, 3) := by decide +kernel
theorem dX12_area_31 : decode cX12_area 31 = .ok (.ifCond .ne 7, 3) := by decide +kernel
theorem dX12_area_34 : decode cX12_area 34 = .ok (.iconst 1, 1) := by decide +kernel
theorem dX12_area_35 : decode cX12_area 35 = .ok (.goto 4, 3) := by decide +kernel
theorem dX12_area_38 : decode cX12_area 38 = .ok (.iconst 0, 1) := by decide +kernel
theorem dX12_area_39 : decode cX12_area 39 = .ok (.iconst 2, 1) := by decide +kernel
theorem dX12_area_40 : decode cX12_area 40 = .ok (.invokevirtual 277, 3) := by decide +kernel
theorem dX12_area_43 : decode cX12_area 43 = .ok (.ifCond .eq 5, 3) := by decide +kernel
theorem dX12_area_46 : decode cX12_area 46 = .ok (.lconst 0, 1) := by decide +kernel
theorem dX12_area_47 : decode cX12_area 47 = .ok (.lreturn, 1) := by decide +kernel
theorem dX12_area_48 : decode cX12_area 48 = .ok (.lconst 0, 1) := by decide +kernel
theorem dX12_area_49 : decode cX12_area 49 = .ok (.lstore_n 2, 1) := by decide +kernel
theorem dX12_area_50 : decode cX12_area 50 = .ok (.sipush 2048, 3) := by decide +kernel
theorem dX12_area_53 : decode cX12_area 53 = .ok (.iload_n 1, 1) := by decide +kernel
theorem dX12_area_54 : decode cX12_area 54 = .ok (.imul, 1) := by decide +kernel
theorem dX12_area_55 : decode cX12_area 55 = .ok (.istore 4, 2) := by decide +kernel
theorem dX12_area_57 : decode cX12_area 57 = .ok (.iload 4, 2) := by decide +kernel
theorem dX12_area_59 : decode cX12_area 59 = .ok (.aload_n 0, 1) := by decide +kernel
theorem dX12_area_60 : decode cX12_area 60 = .ok (.getfield 18, 3) := by decide +kernel
theorem dX12_area_63 : decode cX12_area 63 = .ok (.iload_n 1, 1) := by decide +kernel
theorem dX12_area_64 : decode cX12_area 64 = .ok (.iaload, 1) := by decide +kernel
theorem dX12_area_65 : decode cX12_area 65 = .ok (.iadd, 1) := by decide +kernel
theorem dX12_area_66 : decode cX12_area 66 = .ok (.istore 5, 2) := by decide +kernel
theorem dX12_area_68 : decode cX12_area 68 = .ok (.sipush 2048, 3) := by decide +kernel
theorem dX12_area_71 : decode cX12_area 71 = .ok (.iload_n 1, 1) := by decide +kernel
theorem dX12_area_72 : decode cX12_area 72 = .ok (.imul, 1) := by decide +kernel
theorem dX12_area_73 : decode cX12_area 73 = .ok (.istore 6, 2) := by decide +kernel
theorem dX12_area_75 : decode cX12_area 75 = .ok (.iload 4, 2) := by decide +kernel
theorem dX12_area_77 : decode cX12_area 77 = .ok (.iload 5, 2) := by decide +kernel
theorem dX12_area_79 : decode cX12_area 79 = .ok (.if_icmp .ge 114, 3) := by decide +kernel
theorem dX12_area_82 : decode cX12_area 82 = .ok (.aload_n 0, 1) := by decide +kernel
theorem dX12_area_83 : decode cX12_area 83 = .ok (.getfield 23, 3) := by decide +kernel
theorem dX12_area_86 : decode cX12_area 86 = .ok (.iload 4, 2) := by decide +kernel
theorem dX12_area_88 : decode cX12_area 88 = .ok (.iaload, 1) := by decide +kernel
theorem dX12_area_89 : decode cX12_area 89 = .ok (.istore 7, 2) := by decide +kernel
theorem dX12_area_91 : decode cX12_area 91 = .ok (.aload_n 0, 1) := by decide +kernel
theorem dX12_area_92 : decode cX12_area 92 = .ok (.getfield 23, 3) := by decide +kernel
theorem dX12_area_95 : decode cX12_area 95 = .ok (.iload 4, 2) := by decide +kernel
theorem dX12_area_97 : decode cX12_area 97 = .ok (.iconst 1, 1) := by decide +kernel
theorem dX12_area_98 : decode cX12_area 98 = .ok (.iadd, 1) := by decide +kernel
theorem dX12_area_99 : decode cX12_area 99 = .ok (.iaload, 1) := by decide +kernel
theorem dX12_area_100 : decode cX12_area 100 = .ok (.istore 8, 2) := by decide +kernel
theorem dX12_area_102 : decode cX12_area 102 = .ok (.iinc 4 2, 3) := by decide +kernel
theorem dX12_area_105 : decode cX12_area 105 = .ok (.iload 6, 2) := by decide +kernel
theorem dX12_area_107 : decode cX12_area 107 = .ok (.iload 7, 2) := by decide +kernel
theorem dX12_area_109 : decode cX12_area 109 = .ok (.iconst 3, 1) := by decide +kernel
theorem dX12_area_110 : decode cX12_area 110 = .ok (.if_icmp .ge 8, 3) := by decide +kernel
theorem dX12_area_113 : decode cX12_area 113 = .ok (.iload 8, 2) := by decide +kernel
theorem dX12_area_115 : decode cX12_area 115 = .ok (.goto 4, 3) := by decide +kernel
theorem dX12_area_118 : decode cX12_area 118 = .ok (.iconst 0, 1) := by decide +kernel
theorem dX12_area_119 : decode cX12_area 119 = .ok (.iadd, 1) := by decide +kernel
theorem dX12_area_120 : decode cX12_area 120 = .ok (.istore 6, 2) := by decide +kernel
theorem dX12_area_122 : decode cX12_area 122 = .ok (.iconst 0, 1) := by decide +kernel
theorem dX12_area_123 : decode cX12_area 123 = .ok (.istore 9, 2) := by decide +kernel
theorem dX12_area_125 : decode cX12_area 125 = .ok (.iload 7, 2) := by decide +kernel
theorem dX12_area_127 : decode cX12_area 127 = .ok (.iconst 3, 1) := by decide +kernel
theorem dX12_area_128 : decode cX12_area 128 = .ok (.if_icmp .ne 62, 3) := by decide +kernel
theorem dX12_area_131 : decode cX12_area 131 = .ok (.iload 9, 2) := by decide +kernel
theorem dX12_area_133 : decode cX12_area 133 = .ok (.iload 8, 2) := by decide +kernel
theorem dX12_area_135 : decode cX12_area 135 = .ok (.if_icmp .ge 55, 3) := by decide +kernel
theorem dX12_area_138 : decode cX12_area 138 = .ok (.aload_n 0, 1) := by decide +kernel
theorem dX12_area_139 : decode cX12_area 139 = .ok (.iload 6, 2) := by decide +kernel
theorem dX12_area_141 : decode cX12_area 141 = .ok (.aload_n 0, 1) := by decide +kernel
theorem dX12_area_142 : decode cX12_area 142 = .ok (.getfield 23, 3) := by decide +kernel
theorem dX12_area_145 : decode cX12_area 145 = .ok (.iload 4, 2) := by decide +kernel
theorem dX12_area_147 : decode cX12_area 147 = .ok (.iaload, 1) := by decide +kernel
theorem dX12_area_148 : decode cX12_area 148 = .ok (.invokevirtual 774, 3) := by decide +kernel
theorem dX12_area_151 : decode cX12_area 151 = .ok (.lstore 10, 2) := by decide +kernel
theorem dX12_area_153 : decode cX12_area 153 = .ok (.lload_n 2, 1) := by decide +kernel
theorem dX12_area_154 : decode cX12_area 154 = .ok (.iload 9, 2) := by decide +kernel
theorem dX12_area_156 : decode cX12_area 156 = .ok (.ifCond .ne 8, 3) := by decide +kernel
theorem dX12_area_159 : decode cX12_area 159 = .ok (.lload 10, 2) := by decide +kernel
theorem dX12_area_161 : decode cX12_area 161 = .ok (.goto 6, 3) := by decide +kernel
theorem dX12_area_164 : decode cX12_area 164 = .ok (.lload 10, 2) := by decide +kernel
theorem dX12_area_166 : decode cX12_area 166 = .ok (.lneg, 1) := by decide +kernel
theorem dX12_area_167 : decode cX12_area 167 = .ok (.ladd, 1) := by decide +kernel
theorem dX12_area_168 : decode cX12_area 168 = .ok (.lstore_n 2, 1) := by decide +kernel
theorem dX12_area_169 : decode cX12_area 169 = .ok (.iload 6, 2) := by decide +kernel
theorem dX12_area_171 : decode cX12_area 171 = .ok (.aload_n 0, 1) := by decide +kernel
theorem dX12_area_172 : decode cX12_area 172 = .ok (.getfield 23, 3) := by decide +kernel
theorem dX12_area_175 : decode cX12_area 175 = .ok (.iload 4, 2) := by decide +kernel
theorem dX12_area_177 : decode cX12_area 177 = .ok (.iaload, 1) := by decide +kernel
theorem dX12_area_178 : decode cX12_area 178 = .ok (.iadd, 1) := by decide +kernel
theorem dX12_area_179 : decode cX12_area 179 = .ok (.istore 6, 2) := by decide +kernel
theorem dX12_area_181 : decode cX12_area 181 = .ok (.iinc 4 1, 3) := by decide +kernel
theorem dX12_area_184 : decode cX12_area 184 = .ok (.iinc 9 1, 3) := by decide +kernel
theorem dX12_area_187 : decode cX12_area 187 = .ok (.goto (-62), 3) := by decide +kernel
theorem dX12_area_190 : decode cX12_area 190 = .ok (.goto (-115), 3) := by decide +kernel
theorem dX12_area_193 : decode cX12_area 193 = .ok (.lload_n 2, 1) := by decide +kernel
theorem dX12_area_194 : decode cX12_area 194 = .ok (.lreturn, 1) := by decide +kernel
