theorem dX3_isCovered_0 : decode cX3_isCovered 0 = .ok (.aload_n 0, 1) := by decide +kernel
theorem dX3_isCovered_1 : decode cX3_isCovered 1 = .ok (.iload_n 1, 1) := by decide +kernel
theorem dX3_isCovered_2 : decode cX3_isCovered 2 = .ok (.invokevirtual 227, 3) := by decide +kernel
theorem dX3_isCovered_5 : decode cX3_isCovered 5 = .ok (.lconst 0, 1) := by decide +kernel
theorem dX3_isCovered_6 : decode cX3_isCovered 6 = .ok (.lcmp, 1) := by decide +kernel
theorem dX3_isCovered_7 : decode cX3_isCovered 7 = .ok (.ifCond .eq 7, 3) := by decide +kernel
theorem dX3_isCovered_10 : decode cX3_isCovered 10 = .ok (.iconst 1, 1) := by decide +kernel
theorem dX3_isCovered_11 : decode cX3_isCovered 11 = .ok (.goto 4, 3) := by decide +kernel
theorem dX3_isCovered_14 : decode cX3_isCovered 14 = .ok (.iconst 0, 1) := by decide +kernel
theorem dX3_isCovered_15 : decode cX3_isCovered 15 = .ok (.istore 7, 2) := by decide +kernel
theorem dX3_isCovered_17 : decode cX3_isCovered 17 = .ok (.iload 7, 2) := by decide +kernel
theorem dX3_isCovered_19 : decode cX3_isCovered 19 = .ok (.ifCond .eq 11, 3) := by decide +kernel
theorem dX3_isCovered_22 : decode cX3_isCovered 22 = .ok (.aload_n 0, 1) := by decide +kernel
theorem dX3_isCovered_23 : decode cX3_isCovered 23 = .ok (.iload_n 1, 1) := by decide +kernel
theorem dX3_isCovered_24 : decode cX3_isCovered 24 = .ok (.invokevirtual 227, 3) := by decide +kernel
theorem dX3_isCovered_27 : decode cX3_isCovered 27 = .ok (.goto 8, 3) := by decide +kernel
theorem dX3_isCovered_30 : decode cX3_isCovered 30 = .ok (.aload_n 0, 1) := by decide +kernel
theorem dX3_isCovered_31 : decode cX3_isCovered 31 = .ok (.iload_n 1, 1) := by decide +kernel
theorem dX3_isCovered_32 : decode cX3_isCovered 32 = .ok (.invokevirtual 231, 3) := by decide +kernel
theorem dX3_isCovered_35 : decode cX3_isCovered 35 = .ok (.lstore 8, 2) := by decide +kernel
theorem dX3_isCovered_37 : decode cX3_isCovered 37 = .ok (.iload 7, 2) := by decide +kernel
theorem dX3_isCovered_39 : decode cX3_isCovered 39 = .ok (.ifCond .eq 28, 3) := by decide +kernel
theorem dX3_isCovered_42 : decode cX3_isCovered 42 = .ok (.aload_n 0, 1) := by decide +kernel
theorem dX3_isCovered_43 : decode cX3_isCovered 43 = .ok (.getfield 16, 3) := by decide +kernel
theorem dX3_isCovered_46 : decode cX3_isCovered 46 = .ok (.getfield 215, 3) := by decide +kernel
theorem dX3_isCovered_49 : decode cX3_isCovered 49 = .ok (.iload 6, 2) := by decide +kernel
theorem dX3_isCovered_51 : decode cX3_isCovered 51 = .ok (.iaload, 1) := by decide +kernel
theorem dX3_isCovered_52 : decode cX3_isCovered 52 = .ok (.i2l, 1) := by decide +kernel
theorem dX3_isCovered_53 : decode cX3_isCovered 53 = .ok (.aload_n 0, 1) := by decide +kernel
theorem dX3_isCovered_54 : decode cX3_isCovered 54 = .ok (.getfield 16, 3) := by decide +kernel
theorem dX3_isCovered_57 : decode cX3_isCovered 57 = .ok (.getfield 215, 3) := by decide +kernel
theorem dX3_isCovered_60 : decode cX3_isCovered 60 = .ok (.iload_n 1, 1) := by decide +kernel
theorem dX3_isCovered_61 : decode cX3_isCovered 61 = .ok (.iaload, 1) := by decide +kernel
theorem dX3_isCovered_62 : decode cX3_isCovered 62 = .ok (.i2l, 1) := by decide +kernel
theorem dX3_isCovered_63 : decode cX3_isCovered 63 = .ok (.lsub, 1) := by decide +kernel
theorem dX3_isCovered_64 : decode cX3_isCovered 64 = .ok (.goto 25, 3) := by decide +kernel
theorem dX3_isCovered_67 : decode cX3_isCovered 67 = .ok (.aload_n 0, 1) := by decide +kernel
theorem dX3_isCovered_68 : decode cX3_isCovered 68 = .ok (.getfield 16, 3) := by decide +kernel
theorem dX3_isCovered_71 : decode cX3_isCovered 71 = .ok (.getfield 218, 3) := by decide +kernel
theorem dX3_isCovered_74 : decode cX3_isCovered 74 = .ok (.iload 6, 2) := by decide +kernel
theorem dX3_isCovered_76 : decode cX3_isCovered 76 = .ok (.iaload, 1) := by decide +kernel
theorem dX3_isCovered_77 : decode cX3_isCovered 77 = .ok (.i2l, 1) := by decide +kernel
theorem dX3_isCovered_78 : decode cX3_isCovered 78 = .ok (.aload_n 0, 1) := by decide +kernel
theorem dX3_isCovered_79 : decode cX3_isCovered 79 = .ok (.getfield 16, 3) := by decide +kernel
theorem dX3_isCovered_82 : decode cX3_isCovered 82 = .ok (.getfield 218, 3) := by decide +kernel
theorem dX3_isCovered_85 : decode cX3_isCovered 85 = .ok (.iload_n 1, 1) := by decide +kernel
theorem dX3_isCovered_86 : decode cX3_isCovered 86 = .ok (.iaload, 1) := by decide +kernel
theorem dX3_isCovered_87 : decode cX3_isCovered 87 = .ok (.i2l, 1) := by decide +kernel
theorem dX3_isCovered_88 : decode cX3_isCovered 88 = .ok (.lsub, 1) := by decide +kernel
theorem dX3_isCovered_89 : decode cX3_isCovered 89 = .ok (.lstore 10, 2) := by decide +kernel
theorem dX3_isCovered_91 : decode cX3_isCovered 91 = .ok (.iload 7, 2) := by decide +kernel
theorem dX3_isCovered_93 : decode cX3_isCovered 93 = .ok (.ifCond .eq 28, 3) := by decide +kernel
theorem dX3_isCovered_96 : decode cX3_isCovered 96 = .ok (.aload_n 0, 1) := by decide +kernel
theorem dX3_isCovered_97 : decode cX3_isCovered 97 = .ok (.getfield 16, 3) := by decide +kernel
theorem dX3_isCovered_100 : decode cX3_isCovered 100 = .ok (.getfield 221, 3) := by decide +kernel
theorem dX3_isCovered_103 : decode cX3_isCovered 103 = .ok (.iload 6, 2) := by decide +kernel
theorem dX3_isCovered_105 : decode cX3_isCovered 105 = .ok (.iaload, 1) := by decide +kernel
theorem dX3_isCovered_106 : decode cX3_isCovered 106 = .ok (.i2l, 1) := by decide +kernel
theorem dX3_isCovered_107 : decode cX3_isCovered 107 = .ok (.aload_n 0, 1) := by decide +kernel
theorem dX3_isCovered_108 : decode cX3_isCovered 108 = .ok (.getfield 16, 3) := by decide +kernel
theorem dX3_isCovered_111 : decode cX3_isCovered 111 = .ok (.getfield 215, 3) := by decide +kernel
theorem dX3_isCovered_114 : decode cX3_isCovered 114 = .ok (.iload_n 1, 1) := by decide +kernel
theorem dX3_isCovered_115 : decode cX3_isCovered 115 = .ok (.iaload, 1) := by decide +kernel
theorem dX3_isCovered_116 : decode cX3_isCovered 116 = .ok (.i2l, 1) := by decide +kernel
theorem dX3_isCovered_117 : decode cX3_isCovered 117 = .ok (.lsub, 1) := by decide +kernel
theorem dX3_isCovered_118 : decode cX3_isCovered 118 = .ok (.goto 25, 3) := by decide +kernel
theorem dX3_isCovered_121 : decode cX3_isCovered 121 = .ok (.aload_n 0, 1) := by decide +kernel
theorem dX3_isCovered_122 : decode cX3_isCovered 122 = .ok (.getfield 16, 3) := by decide +kernel
theorem dX3_isCovered_125 : decode cX3_isCovered 125 = .ok (.getfield 224, 3) := by decide +kernel
theorem dX3_isCovered_128 : decode cX3_isCovered 128 = .ok (.iload 6, 2) := by decide +kernel
theorem dX3_isCovered_130 : decode cX3_isCovered 130 = .ok (.iaload, 1) := by decide +kernel
theorem dX3_isCovered_131 : decode cX3_isCovered 131 = .ok (.i2l, 1) := by decide +kernel
theorem dX3_isCovered_132 : decode cX3_isCovered 132 = .ok (.aload_n 0, 1) := by decide +kernel
theorem dX3_isCovered_133 : decode cX3_isCovered 133 = .ok (.getfield 16, 3) := by decide +kernel
theorem dX3_isCovered_136 : decode cX3_isCovered 136 = .ok (.getfield 218, 3) := by decide +kernel
theorem dX3_isCovered_139 : decode cX3_isCovered 139 = .ok (.iload_n 1, 1) := by decide +kernel
theorem dX3_isCovered_140 : decode cX3_isCovered 140 = .ok (.iaload, 1) := by decide +kernel
theorem dX3_isCovered_141 : decode cX3_isCovered 141 = .ok (.i2l, 1) := by decide +kernel
theorem dX3_isCovered_142 : decode cX3_isCovered 142 = .ok (.lsub, 1) := by decide +kernel
theorem dX3_isCovered_143 : decode cX3_isCovered 143 = .ok (.lstore 12, 2) := by decide +kernel
theorem dX3_isCovered_145 : decode cX3_isCovered 145 = .ok (.lload 8, 2) := by decide +kernel
theorem dX3_isCovered_147 : decode cX3_isCovered 147 = .ok (.lconst 0, 1) := by decide +kernel
theorem dX3_isCovered_148 : decode cX3_isCovered 148 = .ok (.lcmp, 1) := by decide +kernel
theorem dX3_isCovered_149 : decode cX3_isCovered 149 = .ok (.ifCond .le 13, 3) := by decide +kernel
theorem dX3_isCovered_152 : decode cX3_isCovered 152 = .ok (.lload 10, 2) := by decide +kernel
theorem dX3_isCovered_154 : decode cX3_isCovered 154 = .ok (.lload 12, 2) := by decide +kernel
theorem dX3_isCovered_156 : decode cX3_isCovered 156 = .ok (.invokestatic 287, 3) := by decide +kernel
theorem dX3_isCovered_159 : decode cX3_isCovered 159 = .ok (.goto 11, 3) := by decide +kernel
theorem dX3_isCovered_162 : decode cX3_isCovered 162 = .ok (.lload 10, 2) := by decide +kernel
theorem dX3_isCovered_164 : decode cX3_isCovered 164 = .ok (.lload 12, 2) := by decide +kernel
theorem dX3_isCovered_166 : decode cX3_isCovered 166 = .ok (.invokestatic 291, 3) := by decide +kernel
theorem dX3_isCovered_169 : decode cX3_isCovered 169 = .ok (.lneg, 1) := by decide +kernel
theorem dX3_isCovered_170 : decode cX3_isCovered 170 = .ok (.lstore 14, 2) := by decide +kernel
theorem dX3_isCovered_172 : decode cX3_isCovered 172 = .ok (.lload 8, 2) := by decide +kernel
theorem dX3_isCovered_174 : decode cX3_isCovered 174 = .ok (.lconst 0, 1) := by decide +kernel
theorem dX3_isCovered_175 : decode cX3_isCovered 175 = .ok (.lcmp, 1) := by decide +kernel
theorem dX3_isCovered_176 : decode cX3_isCovered 176 = .ok (.ifCond .le 13, 3) := by decide +kernel
theorem dX3_isCovered_179 : decode cX3_isCovered 179 = .ok (.lload 10, 2) := by decide +kernel
theorem dX3_isCovered_181 : decode cX3_isCovered 181 = .ok (.lload 12, 2) := by decide +kernel
theorem dX3_isCovered_183 : decode cX3_isCovered 183 = .ok (.invokestatic 291, 3) := by decide +kernel
theorem dX3_isCovered_186 : decode cX3_isCovered 186 = .ok (.goto 11, 3) := by decide +kernel
theorem dX3_isCovered_189 : decode cX3_isCovered 189 = .ok (.lload 10, 2) := by decide +kernel
theorem dX3_isCovered_191 : decode cX3_isCovered 191 = .ok (.lload 12, 2) := by decide +kernel
theorem dX3_isCovered_193 : decode cX3_isCovered 193 = .ok (.invokestatic 287, 3) := by decide +kernel
theorem dX3_isCovered_196 : decode cX3_isCovered 196 = .ok (.lneg, 1) := by decide +kernel
theorem dX3_isCovered_197 : decode cX3_isCovered 197 = .ok (.lstore 16, 2) := by decide +kernel
theorem dX3_isCovered_199 : decode cX3_isCovered 199 = .ok (.lload 14, 2) := by decide +kernel
theorem dX3_isCovered_201 : decode cX3_isCovered 201 = .ok (.lload 4, 2) := by decide +kernel
theorem dX3_isCovered_203 : decode cX3_isCovered 203 = .ok (.lload_n 2, 1) := by decide +kernel
theorem dX3_isCovered_204 : decode cX3_isCovered 204 = .ok (.lneg, 1) := by decide +kernel
theorem dX3_isCovered_205 : decode cX3_isCovered 205 = .ok (.lload 8, 2) := by decide +kernel
theorem dX3_isCovered_207 : decode cX3_isCovered 207 = .ok (.invokestatic 234, 3) := by decide +kernel
theorem dX3_isCovered_210 : decode cX3_isCovered 210 = .ok (.lconst 0, 1) := by decide +kernel
theorem dX3_isCovered_211 : decode cX3_isCovered 211 = .ok (.lconst 0, 1) := by decide +kernel
theorem dX3_isCovered_212 : decode cX3_isCovered 212 = .ok (.invokestatic 198, 3) := by decide +kernel
theorem dX3_isCovered_215 : decode cX3_isCovered 215 = .ok (.ifCond .gt 26, 3) := by decide +kernel
theorem dX3_isCovered_218 : decode cX3_isCovered 218 = .ok (.lload 16, 2) := by decide +kernel
theorem dX3_isCovered_220 : decode cX3_isCovered 220 = .ok (.lload 4, 2) := by decide +kernel
theorem dX3_isCovered_222 : decode cX3_isCovered 222 = .ok (.lload_n 2, 1) := by decide +kernel
theorem dX3_isCovered_223 : decode cX3_isCovered 223 = .ok (.lneg, 1) := by decide +kernel
theorem dX3_isCovered_224 : decode cX3_isCovered 224 = .ok (.lload 8, 2) := by decide +kernel
theorem dX3_isCovered_226 : decode cX3_isCovered 226 = .ok (.invokestatic 234, 3) := by decide +kernel
theorem dX3_isCovered_229 : decode cX3_isCovered 229 = .ok (.lconst 0, 1) := by decide +kernel
theorem dX3_isCovered_230 : decode cX3_isCovered 230 = .ok (.lconst 0, 1) := by decide +kernel
theorem dX3_isCovered_231 : decode cX3_isCovered 231 = .ok (.invokestatic 198, 3) := by decide +kernel
theorem dX3_isCovered_234 : decode cX3_isCovered 234 = .ok (.ifCond .le 7, 3) := by decide +kernel
theorem dX3_isCovered_237 : decode cX3_isCovered 237 = .ok (.iconst 1, 1) := by decide +kernel
theorem dX3_isCovered_238 : decode cX3_isCovered 238 = .ok (.goto 4, 3) := by decide +kernel
theorem dX3_isCovered_241 : decode cX3_isCovered 241 = .ok (.iconst 0, 1) := by decide +kernel
theorem dX3_isCovered_242 : decode cX3_isCovered 242 = .ok (.ireturn, 1) := by decide +kernel
theorem dX3_addMeetings_0 : decode cX3_addMeetings 0 = .ok (.aload_n 1, 1) := by decide +kernel
theorem dX3_addMeetings_1 : decode cX3_addMeetings 1 = .ok (.invokestatic 74, 3) := by decide +kernel
theorem dX3_addMeetings_4 : decode cX3_addMeetings 4 = .ok (.ifCond .eq 7, 3) := by decide +kernel
theorem dX3_addMeetings_7 : decode cX3_addMeetings 7 = .ok (.iconst 1, 1) := by decide +kernel
theorem dX3_addMeetings_8 : decode cX3_addMeetings 8 = .ok (.goto 4, 3) := by decide +kernel
theorem dX3_addMeetings_11 : decode cX3_addMeetings 11 = .ok (.iconst 0, 1) := by decide +kernel
theorem dX3_addMeetings_12 : decode cX3_addMeetings 12 = .ok (.istore_n 3, 1) := by decide +kernel
theorem dX3_addMeetings_13 : decode cX3_addMeetings 13 = .ok (.aload_n 2, 1) := by decide +kernel
theorem dX3_addMeetings_14 : decode cX3_addMeetings 14 = .ok (.invokestatic 74, 3) := by decide +kernel
theorem dX3_addMeetings_17 : decode cX3_addMeetings 17 = .ok (.ifCond .eq 7, 3) := by decide +kernel
theorem dX3_addMeetings_20 : decode cX3_addMeetings 20 = .ok (.iconst 1, 1) := by decide +kernel
theorem dX3_addMeetings_21 : decode cX3_addMeetings 21 = .ok (.goto 4, 3) := by decide +kernel
theorem dX3_addMeetings_24 : decode cX3_addMeetings 24 = .ok (.iconst 0, 1) := by decide +kernel
theorem dX3_addMeetings_25 : decode cX3_addMeetings 25 = .ok (.istore 4, 2) := by decide +kernel
theorem dX3_addMeetings_27 : decode cX3_addMeetings 27 = .ok (.iconst 0, 1) := by decide +kernel
theorem dX3_addMeetings_28 : decode cX3_addMeetings 28 = .ok (.istore 5, 2) := by decide +kernel
theorem dX3_addMeetings_30 : decode cX3_addMeetings 30 = .ok (.iload 5, 2) := by decide +kernel
theorem dX3_addMeetings_32 : decode cX3_addMeetings 32 = .ok (.aload_n 0, 1) := by decide +kernel
theorem dX3_addMeetings_33 : decode cX3_addMeetings 33 = .ok (.getfield 16, 3) := by decide +kernel
theorem dX3_addMeetings_36 : decode cX3_addMeetings 36 = .ok (.getfield 105, 3) := by decide +kernel
theorem dX3_addMeetings_39 : decode cX3_addMeetings 39 = .ok (.if_icmp .ge 116, 3) := by decide +kernel
theorem dX3_addMeetings_42 : decode cX3_addMeetings 42 = .ok (.aload_n 0, 1) := by decide +kernel
theorem dX3_addMeetings_43 : decode cX3_addMeetings 43 = .ok (.getfield 20, 3) := by decide +kernel
theorem dX3_addMeetings_46 : decode cX3_addMeetings 46 = .ok (.iconst 3, 1) := by decide +kernel
theorem dX3_addMeetings_47 : decode cX3_addMeetings 47 = .ok (.iload_n 3, 1) := by decide +kernel
theorem dX3_addMeetings_48 : decode cX3_addMeetings 48 = .ok (.imul, 1) := by decide +kernel
theorem dX3_addMeetings_49 : decode cX3_addMeetings 49 = .ok (.iload 4, 2) := by decide +kernel
theorem dX3_addMeetings_51 : decode cX3_addMeetings 51 = .ok (.iadd, 1) := by decide +kernel
theorem dX3_addMeetings_52 : decode cX3_addMeetings 52 = .ok (.iaload, 1) := by decide +kernel
theorem dX3_addMeetings_53 : decode cX3_addMeetings 53 = .ok (.ifCond .ge 102, 3) := by decide +kernel
theorem dX3_addMeetings_56 : decode cX3_addMeetings 56 = .ok (.iload 5, 2) := by decide +kernel
theorem dX3_addMeetings_58 : decode cX3_addMeetings 58 = .ok (.iconst 1, 1) := by decide +kernel
theorem dX3_addMeetings_59 : decode cX3_addMeetings 59 = .ok (.iadd, 1) := by decide +kernel
theorem dX3_addMeetings_60 : decode cX3_addMeetings 60 = .ok (.istore 6, 2) := by decide +kernel
theorem dX3_addMeetings_62 : decode cX3_addMeetings 62 = .ok (.iload 6, 2) := by decide +kernel
theorem dX3_addMeetings_64 : decode cX3_addMeetings 64 = .ok (.aload_n 0, 1) := by decide +kernel
theorem dX3_addMeetings_65 : decode cX3_addMeetings 65 = .ok (.getfield 16, 3) := by decide +kernel
theorem dX3_addMeetings_68 : decode cX3_addMeetings 68 = .ok (.getfield 105, 3) := by decide +kernel
theorem dX3_addMeetings_71 : decode cX3_addMeetings 71 = .ok (.if_icmp .ge 78, 3) := by decide +kernel
theorem dX3_addMeetings_74 : decode cX3_addMeetings 74 = .ok (.aload_n 0, 1) := by decide +kernel
theorem dX3_addMeetings_75 : decode cX3_addMeetings 75 = .ok (.getfield 16, 3) := by decide +kernel
theorem dX3_addMeetings_78 : decode cX3_addMeetings 78 = .ok (.getfield 270, 3) := by decide +kernel
theorem dX3_addMeetings_81 : decode cX3_addMeetings 81 = .ok (.iload 5, 2) := by decide +kernel
theorem dX3_addMeetings_83 : decode cX3_addMeetings 83 = .ok (.iaload, 1) := by decide +kernel
theorem dX3_addMeetings_84 : decode cX3_addMeetings 84 = .ok (.aload_n 0, 1) := by decide +kernel
theorem dX3_addMeetings_85 : decode cX3_addMeetings 85 = .ok (.getfield 16, 3) := by decide +kernel
theorem dX3_addMeetings_88 : decode cX3_addMeetings 88 = .ok (.getfield 270, 3) := by decide +kernel
theorem dX3_addMeetings_91 : decode cX3_addMeetings 91 = .ok (.iload 6, 2) := by decide +kernel
theorem dX3_addMeetings_93 : decode cX3_addMeetings 93 = .ok (.iaload, 1) := by decide +kernel
theorem dX3_addMeetings_94 : decode cX3_addMeetings 94 = .ok (.if_icmp .ne 6, 3) := by decide +kernel
theorem dX3_addMeetings_97 : decode cX3_addMeetings 97 = .ok (.goto 46, 3) := by decide +kernel
theorem dX3_addMeetings_100 : decode cX3_addMeetings 100 = .ok (.aload_n 0, 1) := by decide +kernel
theorem dX3_addMeetings_101 : decode cX3_addMeetings 101 = .ok (.getfield 16, 3) := by decide +kernel
theorem dX3_addMeetings_104 : decode cX3_addMeetings 104 = .ok (.iload 5, 2) := by decide +kernel
theorem dX3_addMeetings_106 : decode cX3_addMeetings 106 = .ok (.iload 6, 2) := by decide +kernel
theorem dX3_addMeetings_108 : decode cX3_addMeetings 108 = .ok (.invokevirtual 163, 3) := by decide +kernel
theorem dX3_addMeetings_111 : decode cX3_addMeetings 111 = .ok (.istore 7, 2) := by decide +kernel
theorem dX3_addMeetings_113 : decode cX3_addMeetings 113 = .ok (.iload 7, 2) := by decide +kernel
theorem dX3_addMeetings_115 : decode cX3_addMeetings 115 = .ok (.ifCond .eq 28, 3) := by decide +kernel
theorem dX3_addMeetings_118 : decode cX3_addMeetings 118 = .ok (.iload 7, 2) := by decide +kernel
theorem dX3_addMeetings_120 : decode cX3_addMeetings 120 = .ok (.iconst 3, 1) := by decide +kernel
theorem dX3_addMeetings_121 : decode cX3_addMeetings 121 = .ok (.if_icmp .eq 22, 3) := by decide +kernel
theorem dX3_addMeetings_124 : decode cX3_addMeetings 124 = .ok (.aload_n 0, 1) := by decide +kernel
theorem dX3_addMeetings_125 : decode cX3_addMeetings 125 = .ok (.iload 5, 2) := by decide +kernel
theorem dX3_addMeetings_127 : decode cX3_addMeetings 127 = .ok (.iload 6, 2) := by decide +kernel
theorem dX3_addMeetings_129 : decode cX3_addMeetings 129 = .ok (.invokevirtual 293, 3) := by decide +kernel
theorem dX3_addMeetings_132 : decode cX3_addMeetings 132 = .ok (.ifCond .ne 11, 3) := by decide +kernel
theorem dX3_addMeetings_135 : decode cX3_addMeetings 135 = .ok (.aload_n 0, 1) := by decide +kernel
theorem dX3_addMeetings_136 : decode cX3_addMeetings 136 = .ok (.iload_n 3, 1) := by decide +kernel
theorem dX3_addMeetings_137 : decode cX3_addMeetings 137 = .ok (.iload 4, 2) := by decide +kernel
theorem dX3_addMeetings_139 : decode cX3_addMeetings 139 = .ok (.iconst 0, 1) := by decide +kernel
theorem dX3_addMeetings_140 : decode cX3_addMeetings 140 = .ok (.invokevirtual 147, 3) := by decide +kernel
theorem dX3_addMeetings_143 : decode cX3_addMeetings 143 = .ok (.iinc 6 1, 3) := by decide +kernel
theorem dX3_addMeetings_146 : decode cX3_addMeetings 146 = .ok (.goto (-84), 3) := by decide +kernel
theorem dX3_addMeetings_149 : decode cX3_addMeetings 149 = .ok (.iinc 5 1, 3) := by decide +kernel
theorem dX3_addMeetings_152 : decode cX3_addMeetings 152 = .ok (.goto (-122), 3) := by decide +kernel
theorem dX3_addMeetings_155 : decode cX3_addMeetings 155 = .ok (.return_, 1) := by decide +kernel
theorem dX3_isRimOfBoth_0 : decode cX3_isRimOfBoth 0 = .ok (.iconst 0, 1) := by decide +kernel
theorem dX3_isRimOfBoth_1 : decode cX3_isRimOfBoth 1 = .ok (.istore_n 3, 1) := by decide +kernel
theorem dX3_isRimOfBoth_2 : decode cX3_isRimOfBoth 2 = .ok (.iload_n 3, 1) := by decide +kernel
theorem dX3_isRimOfBoth_3 : decode cX3_isRimOfBoth 3 = .ok (.aload_n 0, 1) := by decide +kernel
theorem dX3_isRimOfBoth_4 : decode cX3_isRimOfBoth 4 = .ok (.getfield 128, 3) := by decide +kernel
theorem dX3_isRimOfBoth_7 : decode cX3_isRimOfBoth 7 = .ok (.if_icmp .ge 57, 3) := by decide +kernel
theorem dX3_isRimOfBoth_10 : decode cX3_isRimOfBoth 10 = .ok (.aload_n 0, 1) := by decide +kernel
theorem dX3_isRimOfBoth_11 : decode cX3_isRimOfBoth 11 = .ok (.getfield 16, 3) := by decide +kernel
theorem dX3_isRimOfBoth_14 : decode cX3_isRimOfBoth 14 = .ok (.iload_n 1, 1) := by decide +kernel
theorem dX3_isRimOfBoth_15 : decode cX3_isRimOfBoth 15 = .ok (.aload_n 0, 1) := by decide +kernel
theorem dX3_isRimOfBoth_16 : decode cX3_isRimOfBoth 16 = .ok (.getfield 28, 3) := by decide +kernel
theorem dX3_isRimOfBoth_19 : decode cX3_isRimOfBoth 19 = .ok (.iload_n 3, 1) := by decide +kernel
theorem dX3_isRimOfBoth_20 : decode cX3_isRimOfBoth 20 = .ok (.iaload, 1) := by decide +kernel
theorem dX3_isRimOfBoth_21 : decode cX3_isRimOfBoth 21 = .ok (.aload_n 0, 1) := by decide +kernel
theorem dX3_isRimOfBoth_22 : decode cX3_isRimOfBoth 22 = .ok (.getfield 31, 3) := by decide +kernel
theorem dX3_isRimOfBoth_25 : decode cX3_isRimOfBoth 25 = .ok (.iload_n 3, 1) := by decide +kernel
theorem dX3_isRimOfBoth_26 : decode cX3_isRimOfBoth 26 = .ok (.iaload, 1) := by decide +kernel
theorem dX3_isRimOfBoth_27 : decode cX3_isRimOfBoth 27 = .ok (.invokevirtual 238, 3) := by decide +kernel
theorem dX3_isRimOfBoth_30 : decode cX3_isRimOfBoth 30 = .ok (.ifCond .eq 28, 3) := by decide +kernel
theorem dX3_isRimOfBoth_33 : decode cX3_isRimOfBoth 33 = .ok (.aload_n 0, 1) := by decide +kernel
theorem dX3_isRimOfBoth_34 : decode cX3_isRimOfBoth 34 = .ok (.getfield 16, 3) := by decide +kernel
theorem dX3_isRimOfBoth_37 : decode cX3_isRimOfBoth 37 = .ok (.iload_n 2, 1) := by decide +kernel
theorem dX3_isRimOfBoth_38 : decode cX3_isRimOfBoth 38 = .ok (.aload_n 0, 1) := by decide +kernel
theorem dX3_isRimOfBoth_39 : decode cX3_isRimOfBoth 39 = .ok (.getfield 28, 3) := by decide +kernel
theorem dX3_isRimOfBoth_42 : decode cX3_isRimOfBoth 42 = .ok (.iload_n 3, 1) := by decide +kernel
theorem dX3_isRimOfBoth_43 : decode cX3_isRimOfBoth 43 = .ok (.iaload, 1) := by decide +kernel
theorem dX3_isRimOfBoth_44 : decode cX3_isRimOfBoth 44 = .ok (.aload_n 0, 1) := by decide +kernel
theorem dX3_isRimOfBoth_45 : decode cX3_isRimOfBoth 45 = .ok (.getfield 31, 3) := by decide +kernel
theorem dX3_isRimOfBoth_48 : decode cX3_isRimOfBoth 48 = .ok (.iload_n 3, 1) := by decide +kernel
theorem dX3_isRimOfBoth_49 : decode cX3_isRimOfBoth 49 = .ok (.iaload, 1) := by decide +kernel
theorem dX3_isRimOfBoth_50 : decode cX3_isRimOfBoth 50 = .ok (.invokevirtual 238, 3) := by decide +kernel
theorem dX3_isRimOfBoth_53 : decode cX3_isRimOfBoth 53 = .ok (.ifCond .eq 5, 3) := by decide +kernel
theorem dX3_isRimOfBoth_56 : decode cX3_isRimOfBoth 56 = .ok (.iconst 1, 1) := by decide +kernel
theorem dX3_isRimOfBoth_57 : decode cX3_isRimOfBoth 57 = .ok (.ireturn, 1) := by decide +kernel
theorem dX3_isRimOfBoth_58 : decode cX3_isRimOfBoth 58 = .ok (.iinc 3 1, 3) := by decide +kernel
theorem dX3_isRimOfBoth_61 : decode cX3_isRimOfBoth 61 = .ok (.goto (-59), 3) := by decide +kernel
theorem dX3_isRimOfBoth_64 : decode cX3_isRimOfBoth 64 = .ok (.iconst 0, 1) := by decide +kernel
theorem dX3_isRimOfBoth_65 : decode cX3_isRimOfBoth 65 = .ok (.ireturn, 1) := by decide +kernel
theorem dX3_addPoints_0 : decode cX3_addPoints 0 = .ok (.iconst 0, 1) := by decide +kernel
theorem dX3_addPoints_1 : decode cX3_addPoints 1 = .ok (.istore_n 3, 1) := by decide +kernel
theorem dX3_addPoints_2 : decode cX3_addPoints 2 = .ok (.iload_n 3, 1) := by decide +kernel
theorem dX3_addPoints_3 : decode cX3_addPoints 3 = .ok (.aload_n 1, 1) := by decide +kernel
theorem dX3_addPoints_4 : decode cX3_addPoints 4 = .ok (.getfield 102, 3) := by decide +kernel
theorem dX3_addPoints_7 : decode cX3_addPoints 7 = .ok (.if_icmp .ge 38, 3) := by decide +kernel
theorem dX3_addPoints_10 : decode cX3_addPoints 10 = .ok (.aload_n 1, 1) := by decide +kernel
theorem dX3_addPoints_11 : decode cX3_addPoints 11 = .ok (.invokestatic 55, 3) := by decide +kernel
theorem dX3_addPoints_14 : decode cX3_addPoints 14 = .ok (.ifCond .eq 31, 3) := by decide +kernel
theorem dX3_addPoints_17 : decode cX3_addPoints 17 = .ok (.aload_n 0, 1) := by decide +kernel
theorem dX3_addPoints_18 : decode cX3_addPoints 18 = .ok (.iconst 0, 1) := by decide +kernel
theorem dX3_addPoints_19 : decode cX3_addPoints 19 = .ok (.aload_n 2, 1) := by decide +kernel
theorem dX3_addPoints_20 : decode cX3_addPoints 20 = .ok (.aload_n 1, 1) := by decide +kernel
theorem dX3_addPoints_21 : decode cX3_addPoints 21 = .ok (.getfield 89, 3) := by decide +kernel
theorem dX3_addPoints_24 : decode cX3_addPoints 24 = .ok (.iload_n 3, 1) := by decide +kernel
theorem dX3_addPoints_25 : decode cX3_addPoints 25 = .ok (.iaload, 1) := by decide +kernel
theorem dX3_addPoints_26 : decode cX3_addPoints 26 = .ok (.aload_n 1, 1) := by decide +kernel
theorem dX3_addPoints_27 : decode cX3_addPoints 27 = .ok (.getfield 92, 3) := by decide +kernel
theorem dX3_addPoints_30 : decode cX3_addPoints 30 = .ok (.iload_n 3, 1) := by decide +kernel
theorem dX3_addPoints_31 : decode cX3_addPoints 31 = .ok (.iaload, 1) := by decide +kernel
theorem dX3_addPoints_32 : decode cX3_addPoints 32 = .ok (.invokestatic 143, 3) := by decide +kernel
theorem dX3_addPoints_35 : decode cX3_addPoints 35 = .ok (.iconst 0, 1) := by decide +kernel
theorem dX3_addPoints_36 : decode cX3_addPoints 36 = .ok (.invokevirtual 147, 3) := by decide +kernel
theorem dX3_addPoints_39 : decode cX3_addPoints 39 = .ok (.iinc 3 1, 3) := by decide +kernel
theorem dX3_addPoints_42 : decode cX3_addPoints 42 = .ok (.goto (-40), 3) := by decide +kernel
theorem dX3_addPoints_45 : decode cX3_addPoints 45 = .ok (.iconst 0, 1) := by decide +kernel
theorem dX3_addPoints_46 : decode cX3_addPoints 46 = .ok (.istore_n 3, 1) := by decide +kernel
theorem dX3_addPoints_47 : decode cX3_addPoints 47 = .ok (.iload_n 3, 1) := by decide +kernel
theorem dX3_addPoints_48 : decode cX3_addPoints 48 = .ok (.aload_n 2, 1) := by decide +kernel
theorem dX3_addPoints_49 : decode cX3_addPoints 49 = .ok (.getfield 102, 3) := by decide +kernel
theorem dX3_addPoints_52 : decode cX3_addPoints 52 = .ok (.if_icmp .ge 38, 3) := by decide +kernel
theorem dX3_addPoints_55 : decode cX3_addPoints 55 = .ok (.aload_n 2, 1) := by decide +kernel
theorem dX3_addPoints_56 : decode cX3_addPoints 56 = .ok (.invokestatic 55, 3) := by decide +kernel
theorem dX3_addPoints_59 : decode cX3_addPoints 59 = .ok (.ifCond .eq 31, 3) := by decide +kernel
theorem dX3_addPoints_62 : decode cX3_addPoints 62 = .ok (.aload_n 0, 1) := by decide +kernel
theorem dX3_addPoints_63 : decode cX3_addPoints 63 = .ok (.aload_n 1, 1) := by decide +kernel
theorem dX3_addPoints_64 : decode cX3_addPoints 64 = .ok (.aload_n 2, 1) := by decide +kernel
theorem dX3_addPoints_65 : decode cX3_addPoints 65 = .ok (.getfield 89, 3) := by decide +kernel
theorem dX3_addPoints_68 : decode cX3_addPoints 68 = .ok (.iload_n 3, 1) := by decide +kernel
theorem dX3_addPoints_69 : decode cX3_addPoints 69 = .ok (.iaload, 1) := by decide +kernel
theorem dX3_addPoints_70 : decode cX3_addPoints 70 = .ok (.aload_n 2, 1) := by decide +kernel
theorem dX3_addPoints_71 : decode cX3_addPoints 71 = .ok (.getfield 92, 3) := by decide +kernel
theorem dX3_addPoints_74 : decode cX3_addPoints 74 = .ok (.iload_n 3, 1) := by decide +kernel
theorem dX3_addPoints_75 : decode cX3_addPoints 75 = .ok (.iaload, 1) := by decide +kernel
theorem dX3_addPoints_76 : decode cX3_addPoints 76 = .ok (.invokestatic 143, 3) := by decide +kernel
theorem dX3_addPoints_79 : decode cX3_addPoints 79 = .ok (.iconst 0, 1) := by decide +kernel
theorem dX3_addPoints_80 : decode cX3_addPoints 80 = .ok (.iconst 0, 1) := by decide +kernel
theorem dX3_addPoints_81 : decode cX3_addPoints 81 = .ok (.invokevirtual 147, 3) := by decide +kernel
theorem dX3_addPoints_84 : decode cX3_addPoints 84 = .ok (.iinc 3 1, 3) := by decide +kernel
theorem dX3_addPoints_87 : decode cX3_addPoints 87 = .ok (.goto (-40), 3) := by decide +kernel
theorem dX3_addPoints_90 : decode cX3_addPoints 90 = .ok (.return_, 1) := by decide +kernel
theorem dX3_matrixNumber_0 : decode cX3_matrixNumber 0 = .ok (.iconst 0, 1) := by decide +kernel
theorem dX3_matrixNumber_1 : decode cX3_matrixNumber 1 = .ok (.istore_n 1, 1) := by decide +kernel
theorem dX3_matrixNumber_2 : decode cX3_matrixNumber 2 = .ok (.iconst 0, 1) := by decide +kernel
theorem dX3_matrixNumber_3 : decode cX3_matrixNumber 3 = .ok (.istore_n 2, 1) := by decide +kernel
theorem dX3_matrixNumber_4 : decode cX3_matrixNumber 4 = .ok (.iload_n 2, 1) := by decide +kernel
theorem dX3_matrixNumber_5 : decode cX3_matrixNumber 5 = .ok (.aload_n 0, 1) := by decide +kernel
theorem dX3_matrixNumber_6 : decode cX3_matrixNumber 6 = .ok (.getfield 20, 3) := by decide +kernel
theorem dX3_matrixNumber_9 : decode cX3_matrixNumber 9 = .ok (.arraylength, 1) := by decide +kernel
theorem dX3_matrixNumber_10 : decode cX3_matrixNumber 10 = .ok (.if_icmp .ge 22, 3) := by decide +kernel
theorem dX3_matrixNumber_13 : decode cX3_matrixNumber 13 = .ok (.iconst 4, 1) := by decide +kernel
theorem dX3_matrixNumber_14 : decode cX3_matrixNumber 14 = .ok (.iload_n 1, 1) := by decide +kernel
theorem dX3_matrixNumber_15 : decode cX3_matrixNumber 15 = .ok (.imul, 1) := by decide +kernel
theorem dX3_matrixNumber_16 : decode cX3_matrixNumber 16 = .ok (.aload_n 0, 1) := by decide +kernel
theorem dX3_matrixNumber_17 : decode cX3_matrixNumber 17 = .ok (.getfield 20, 3) := by decide +kernel
theorem dX3_matrixNumber_20 : decode cX3_matrixNumber 20 = .ok (.iload_n 2, 1) := by decide +kernel
theorem dX3_matrixNumber_21 : decode cX3_matrixNumber 21 = .ok (.iaload, 1) := by decide +kernel
theorem dX3_matrixNumber_22 : decode cX3_matrixNumber 22 = .ok (.iadd, 1) := by decide +kernel
theorem dX3_matrixNumber_23 : decode cX3_matrixNumber 23 = .ok (.iconst 1, 1) := by decide +kernel
theorem dX3_matrixNumber_24 : decode cX3_matrixNumber 24 = .ok (.iadd, 1) := by decide +kernel
theorem dX3_matrixNumber_25 : decode cX3_matrixNumber 25 = .ok (.istore_n 1, 1) := by decide +kernel
theorem dX3_matrixNumber_26 : decode cX3_matrixNumber 26 = .ok (.iinc 2 1, 3) := by decide +kernel
theorem dX3_matrixNumber_29 : decode cX3_matrixNumber 29 = .ok (.goto (-25), 3) := by decide +kernel
theorem dX3_matrixNumber_32 : decode cX3_matrixNumber 32 = .ok (.iload_n 1, 1) := by decide +kernel
theorem dX3_matrixNumber_33 : decode cX3_matrixNumber 33 = .ok (.ireturn, 1) := by decide +kernel
theorem dX3_has_0 : decode cX3_has 0 = .ok (.aload_n 0, 1) := by decide +kernel
theorem dX3_has_1 : decode cX3_has 1 = .ok (.getfield 20, 3) := by decide +kernel
theorem dX3_has_4 : decode cX3_has 4 = .ok (.iconst 3, 1) := by decide +kernel
theorem dX3_has_5 : decode cX3_has 5 = .ok (.iload_n 1, 1) := by decide +kernel
theorem dX3_has_6 : decode cX3_has 6 = .ok (.imul, 1) := by decide +kernel
theorem dX3_has_7 : decode cX3_has 7 = .ok (.iload_n 2, 1) := by decide +kernel
theorem dX3_has_8 : decode cX3_has 8 = .ok (.iadd, 1) := by decide +kernel
theorem dX3_has_9 : decode cX3_has 9 = .ok (.iaload, 1) := by decide +kernel
theorem dX3_has_10 : decode cX3_has 10 = .ok (.ifCond .lt 7, 3) := by decide +kernel
theorem dX3_has_13 : decode cX3_has 13 = .ok (.iconst 1, 1) := by decide +kernel
theorem dX3_has_14 : decode cX3_has 14 = .ok (.goto 4, 3) := by decide +kernel
theorem dX3_has_17 : decode cX3_has 17 = .ok (.iconst 0, 1) := by decide +kernel
theorem dX3_has_18 : decode cX3_has 18 = .ok (.ireturn, 1) := by decide +kernel
theorem dX3_haveCommonPlace_0 : decode cX3_haveCommonPlace 0 = .ok (.aload_n 0, 1) := by decide +kernel
theorem dX3_haveCommonPlace_1 : decode cX3_haveCommonPlace 1 = .ok (.iconst 0, 1) := by decide +kernel
theorem dX3_haveCommonPlace_2 : decode cX3_haveCommonPlace 2 = .ok (.iconst 0, 1) := by decide +kernel
theorem dX3_haveCommonPlace_3 : decode cX3_haveCommonPlace 3 = .ok (.invokevirtual 296, 3) := by decide +kernel
theorem dX3_haveCommonPlace_6 : decode cX3_haveCommonPlace 6 = .ok (.ifCond .ne 30, 3) := by decide +kernel
theorem dX3_haveCommonPlace_9 : decode cX3_haveCommonPlace 9 = .ok (.aload_n 0, 1) := by decide +kernel
theorem dX3_haveCommonPlace_10 : decode cX3_haveCommonPlace 10 = .ok (.iconst 0, 1) := by decide +kernel
theorem dX3_haveCommonPlace_11 : decode cX3_haveCommonPlace 11 = .ok (.iconst 1, 1) := by decide +kernel
theorem dX3_haveCommonPlace_12 : decode cX3_haveCommonPlace 12 = .ok (.invokevirtual 296, 3) := by decide +kernel
theorem dX3_haveCommonPlace_15 : decode cX3_haveCommonPlace 15 = .ok (.ifCond .ne 21, 3) := by decide +kernel
theorem dX3_haveCommonPlace_18 : decode cX3_haveCommonPlace 18 = .ok (.aload_n 0, 1) := by decide +kernel
theorem dX3_haveCommonPlace_19 : decode cX3_haveCommonPlace 19 = .ok (.iconst 1, 1) := by decide +kernel
theorem dX3_haveCommonPlace_20 : decode cX3_haveCommonPlace 20 = .ok (.iconst 0, 1) := by decide +kernel
theorem dX3_haveCommonPlace_21 : decode cX3_haveCommonPlace 21 = .ok (.invokevirtual 296, 3) := by decide +kernel
theorem dX3_haveCommonPlace_24 : decode cX3_haveCommonPlace 24 = .ok (.ifCond .ne 12, 3) := by decide +kernel
theorem dX3_haveCommonPlace_27 : decode cX3_haveCommonPlace 27 = .ok (.aload_n 0, 1) := by decide +kernel
theorem dX3_haveCommonPlace_28 : decode cX3_haveCommonPlace 28 = .ok (.iconst 1, 1) := by decide +kernel
theorem dX3_haveCommonPlace_29 : decode cX3_haveCommonPlace 29 = .ok (.iconst 1, 1) := by decide +kernel
theorem dX3_haveCommonPlace_30 : decode cX3_haveCommonPlace 30 = .ok (.invokevirtual 296, 3) := by decide +kernel
theorem dX3_haveCommonPlace_33 : decode cX3_haveCommonPlace 33 = .ok (.ifCond .eq 7, 3) := by decide +kernel
theorem dX3_haveCommonPlace_36 : decode cX3_haveCommonPlace 36 = .ok (.iconst 1, 1) := by decide +kernel
theorem dX3_haveCommonPlace_37 : decode cX3_haveCommonPlace 37 = .ok (.goto 4, 3) := by decide +kernel
theorem dX3_haveCommonPlace_40 : decode cX3_haveCommonPlace 40 = .ok (.iconst 0, 1) := by decide +kernel
theorem dX3_haveCommonPlace_41 : decode cX3_haveCommonPlace 41 = .ok (.ireturn, 1) := by decide +kernel
theorem dX3_isFirstOutside_0 : decode cX3_isFirstOutside 0 = .ok (.aload_n 0, 1) := by decide +kernel
theorem dX3_isFirstOutside_1 : decode cX3_isFirstOutside 1 = .ok (.iconst 0, 1) := by decide +kernel
theorem dX3_isFirstOutside_2 : decode cX3_isFirstOutside 2 = .ok (.iconst 2, 1) := by decide +kernel
theorem dX3_isFirstOutside_3 : decode cX3_isFirstOutside 3 = .ok (.invokevirtual 296, 3) := by decide +kernel
theorem dX3_isFirstOutside_6 : decode cX3_isFirstOutside 6 = .ok (.ifCond .ne 12, 3) := by decide +kernel
theorem dX3_isFirstOutside_9 : decode cX3_isFirstOutside 9 = .ok (.aload_n 0, 1) := by decide +kernel
theorem dX3_isFirstOutside_10 : decode cX3_isFirstOutside 10 = .ok (.iconst 1, 1) := by decide +kernel
theorem dX3_isFirstOutside_11 : decode cX3_isFirstOutside 11 = .ok (.iconst 2, 1) := by decide +kernel
theorem dX3_isFirstOutside_12 : decode cX3_isFirstOutside 12 = .ok (.invokevirtual 296, 3) := by decide +kernel
theorem dX3_isFirstOutside_15 : decode cX3_isFirstOutside 15 = .ok (.ifCond .eq 7, 3) := by decide +kernel
theorem dX3_isFirstOutside_18 : decode cX3_isFirstOutside 18 = .ok (.iconst 1, 1) := by decide +kernel
theorem dX3_isFirstOutside_19 : decode cX3_isFirstOutside 19 = .ok (.goto 4, 3) := by decide +kernel
theorem dX3_isFirstOutside_22 : decode cX3_isFirstOutside 22 = .ok (.iconst 0, 1) := by decide +kernel
theorem dX3_isFirstOutside_23 : decode cX3_isFirstOutside 23 = .ok (.ireturn, 1) := by decide +kernel
theorem dX3_isSecondOutside_0 : decode cX3_isSecondOutside 0 = .ok (.aload_n 0, 1) := by decide +kernel
theorem dX3_isSecondOutside_1 : decode cX3_isSecondOutside 1 = .ok (.iconst 2, 1) := by decide +kernel
theorem dX3_isSecondOutside_2 : decode cX3_isSecondOutside 2 = .ok (.iconst 0, 1) := by decide +kernel
theorem dX3_isSecondOutside_3 : decode cX3_isSecondOutside 3 = .ok (.invokevirtual 296, 3) := by decide +kernel
theorem dX3_isSecondOutside_6 : decode cX3_isSecondOutside 6 = .ok (.ifCond .ne 12, 3) := by decide +kernel
theorem dX3_isSecondOutside_9 : decode cX3_isSecondOutside 9 = .ok (.aload_n 0, 1) := by decide +kernel
theorem dX3_isSecondOutside_10 : decode cX3_isSecondOutside 10 = .ok (.iconst 2, 1) := by decide +kernel
theorem dX3_isSecondOutside_11 : decode cX3_isSecondOutside 11 = .ok (.iconst 1, 1) := by decide +kernel
theorem dX3_isSecondOutside_12 : decode cX3_isSecondOutside 12 = .ok (.invokevirtual 296, 3) := by decide +kernel
theorem dX3_isSecondOutside_15 : decode cX3_isSecondOutside 15 = .ok (.ifCond .eq 7, 3) := by decide +kernel
theorem dX3_isSecondOutside_18 : decode cX3_isSecondOutside 18 = .ok (.iconst 1, 1) := by decide +kernel
theorem dX3_isSecondOutside_19 : decode cX3_isSecondOutside 19 = .ok (.goto 4, 3) := by decide +kernel
theorem dX3_isSecondOutside_22 : decode cX3_isSecondOutside 22 = .ok (.iconst 0, 1) := by decide +kernel
theorem dX3_isSecondOutside_23 : decode cX3_isSecondOutside 23 = .ok (.ireturn, 1) := by decide +kernel
theorem dX3_lieSo_0 : decode cX3_lieSo 0 = .ok (.aload_n 0, 1) := by decide +kernel
theorem dX3_lieSo_1 : decode cX3_lieSo 1 = .ok (.getfield 20, 3) := by decide +kernel
theorem dX3_lieSo_4 : decode cX3_lieSo 4 = .ok (.iconst 0, 1) := by decide +kernel
theorem dX3_lieSo_5 : decode cX3_lieSo 5 = .ok (.iaload, 1) := by decide +kernel
theorem dX3_lieSo_6 : decode cX3_lieSo 6 = .ok (.aload_n 0, 1) := by decide +kernel
theorem dX3_lieSo_7 : decode cX3_lieSo 7 = .ok (.getfield 20, 3) := by decide +kernel
theorem dX3_lieSo_10 : decode cX3_lieSo 10 = .ok (.iconst 1, 1) := by decide +kernel
theorem dX3_lieSo_11 : decode cX3_lieSo 11 = .ok (.iaload, 1) := by decide +kernel
theorem dX3_lieSo_12 : decode cX3_lieSo 12 = .ok (.aload_n 0, 1) := by decide +kernel
theorem dX3_lieSo_13 : decode cX3_lieSo 13 = .ok (.getfield 20, 3) := by decide +kernel
theorem dX3_lieSo_16 : decode cX3_lieSo 16 = .ok (.iconst 2, 1) := by decide +kernel
theorem dX3_lieSo_17 : decode cX3_lieSo 17 = .ok (.iaload, 1) := by decide +kernel
theorem dX3_lieSo_18 : decode cX3_lieSo 18 = .ok (.invokestatic 154, 3) := by decide +kernel
theorem dX3_lieSo_21 : decode cX3_lieSo 21 = .ok (.invokestatic 154, 3) := by decide +kernel
theorem dX3_lieSo_24 : decode cX3_lieSo 24 = .ok (.istore_n 2, 1) := by decide +kernel
theorem dX3_lieSo_25 : decode cX3_lieSo 25 = .ok (.aload_n 0, 1) := by decide +kernel
theorem dX3_lieSo_26 : decode cX3_lieSo 26 = .ok (.getfield 20, 3) := by decide +kernel
theorem dX3_lieSo_29 : decode cX3_lieSo 29 = .ok (.iconst 0, 1) := by decide +kernel
theorem dX3_lieSo_30 : decode cX3_lieSo 30 = .ok (.iaload, 1) := by decide +kernel
theorem dX3_lieSo_31 : decode cX3_lieSo 31 = .ok (.aload_n 0, 1) := by decide +kernel
theorem dX3_lieSo_32 : decode cX3_lieSo 32 = .ok (.getfield 20, 3) := by decide +kernel
theorem dX3_lieSo_35 : decode cX3_lieSo 35 = .ok (.iconst 3, 1) := by decide +kernel
theorem dX3_lieSo_36 : decode cX3_lieSo 36 = .ok (.iaload, 1) := by decide +kernel
theorem dX3_lieSo_37 : decode cX3_lieSo 37 = .ok (.aload_n 0, 1) := by decide +kernel
theorem dX3_lieSo_38 : decode cX3_lieSo 38 = .ok (.getfield 20, 3) := by decide +kernel
theorem dX3_lieSo_41 : decode cX3_lieSo 41 = .ok (.bipush 6, 2) := by decide +kernel
theorem dX3_lieSo_43 : decode cX3_lieSo 43 = .ok (.iaload, 1) := by decide +kernel
theorem dX3_lieSo_44 : decode cX3_lieSo 44 = .ok (.invokestatic 154, 3) := by decide +kernel
theorem dX3_lieSo_47 : decode cX3_lieSo 47 = .ok (.invokestatic 154, 3) := by decide +kernel
theorem dX3_lieSo_50 : decode cX3_lieSo 50 = .ok (.istore_n 3, 1) := by decide +kernel
theorem dX3_lieSo_51 : decode cX3_lieSo 51 = .ok (.iload_n 1, 1) := by decide +kernel
theorem dX3_lieSo_52 : decode cX3_lieSo 52 = .ok (.tableswitch 234 0 7 #[48, 85, 98, 120, 127, 149, 171, 214], 48) := by decide +kernel
theorem dX3_lieSo_100 : decode cX3_lieSo 100 = .ok (.iload_n 2, 1) := by decide +kernel
theorem dX3_lieSo_101 : decode cX3_lieSo 101 = .ok (.ifCond .ge 7, 3) := by decide +kernel
theorem dX3_lieSo_104 : decode cX3_lieSo 104 = .ok (.iload_n 3, 1) := by decide +kernel
theorem dX3_lieSo_105 : decode cX3_lieSo 105 = .ok (.ifCond .lt 26, 3) := by decide +kernel
theorem dX3_lieSo_108 : decode cX3_lieSo 108 = .ok (.aload_n 0, 1) := by decide +kernel
theorem dX3_lieSo_109 : decode cX3_lieSo 109 = .ok (.iconst 0, 1) := by decide +kernel
theorem dX3_lieSo_110 : decode cX3_lieSo 110 = .ok (.iconst 0, 1) := by decide +kernel
theorem dX3_lieSo_111 : decode cX3_lieSo 111 = .ok (.invokevirtual 296, 3) := by decide +kernel
theorem dX3_lieSo_114 : decode cX3_lieSo 114 = .ok (.ifCond .eq 21, 3) := by decide +kernel
theorem dX3_lieSo_117 : decode cX3_lieSo 117 = .ok (.aload_n 0, 1) := by decide +kernel
theorem dX3_lieSo_118 : decode cX3_lieSo 118 = .ok (.invokevirtual 299, 3) := by decide +kernel
theorem dX3_lieSo_121 : decode cX3_lieSo 121 = .ok (.ifCond .ne 14, 3) := by decide +kernel
theorem dX3_lieSo_124 : decode cX3_lieSo 124 = .ok (.aload_n 0, 1) := by decide +kernel
theorem dX3_lieSo_125 : decode cX3_lieSo 125 = .ok (.invokevirtual 302, 3) := by decide +kernel
theorem dX3_lieSo_128 : decode cX3_lieSo 128 = .ok (.ifCond .ne 7, 3) := by decide +kernel
theorem dX3_lieSo_131 : decode cX3_lieSo 131 = .ok (.iconst 1, 1) := by decide +kernel
theorem dX3_lieSo_132 : decode cX3_lieSo 132 = .ok (.goto 4, 3) := by decide +kernel
theorem dX3_lieSo_135 : decode cX3_lieSo 135 = .ok (.iconst 0, 1) := by decide +kernel
theorem dX3_lieSo_136 : decode cX3_lieSo 136 = .ok (.ireturn, 1) := by decide +kernel
theorem dX3_lieSo_137 : decode cX3_lieSo 137 = .ok (.aload_n 0, 1) := by decide +kernel
theorem dX3_lieSo_138 : decode cX3_lieSo 138 = .ok (.invokevirtual 305, 3) := by decide +kernel
theorem dX3_lieSo_141 : decode cX3_lieSo 141 = .ok (.ifCond .ne 7, 3) := by decide +kernel
theorem dX3_lieSo_144 : decode cX3_lieSo 144 = .ok (.iconst 1, 1) := by decide +kernel
theorem dX3_lieSo_145 : decode cX3_lieSo 145 = .ok (.goto 4, 3) := by decide +kernel
theorem dX3_lieSo_148 : decode cX3_lieSo 148 = .ok (.iconst 0, 1) := by decide +kernel
theorem dX3_lieSo_149 : decode cX3_lieSo 149 = .ok (.ireturn, 1) := by decide +kernel
theorem dX3_lieSo_150 : decode cX3_lieSo 150 = .ok (.aload_n 0, 1) := by decide +kernel
theorem dX3_lieSo_151 : decode cX3_lieSo 151 = .ok (.iconst 0, 1) := by decide +kernel
theorem dX3_lieSo_152 : decode cX3_lieSo 152 = .ok (.iconst 0, 1) := by decide +kernel
theorem dX3_lieSo_153 : decode cX3_lieSo 153 = .ok (.invokevirtual 296, 3) := by decide +kernel
theorem dX3_lieSo_156 : decode cX3_lieSo 156 = .ok (.ifCond .ne 14, 3) := by decide +kernel
theorem dX3_lieSo_159 : decode cX3_lieSo 159 = .ok (.aload_n 0, 1) := by decide +kernel
theorem dX3_lieSo_160 : decode cX3_lieSo 160 = .ok (.invokevirtual 305, 3) := by decide +kernel
theorem dX3_lieSo_163 : decode cX3_lieSo 163 = .ok (.ifCond .eq 7, 3) := by decide +kernel
theorem dX3_lieSo_166 : decode cX3_lieSo 166 = .ok (.iconst 1, 1) := by decide +kernel
theorem dX3_lieSo_167 : decode cX3_lieSo 167 = .ok (.goto 4, 3) := by decide +kernel
theorem dX3_lieSo_170 : decode cX3_lieSo 170 = .ok (.iconst 0, 1) := by decide +kernel
theorem dX3_lieSo_171 : decode cX3_lieSo 171 = .ok (.ireturn, 1) := by decide +kernel
theorem dX3_lieSo_172 : decode cX3_lieSo 172 = .ok (.aload_n 0, 1) := by decide +kernel
theorem dX3_lieSo_173 : decode cX3_lieSo 173 = .ok (.iload_n 2, 1) := by decide +kernel
theorem dX3_lieSo_174 : decode cX3_lieSo 174 = .ok (.iload_n 3, 1) := by decide +kernel
theorem dX3_lieSo_175 : decode cX3_lieSo 175 = .ok (.invokevirtual 308, 3) := by decide +kernel
theorem dX3_lieSo_178 : decode cX3_lieSo 178 = .ok (.ireturn, 1) := by decide +kernel
theorem dX3_lieSo_179 : decode cX3_lieSo 179 = .ok (.aload_n 0, 1) := by decide +kernel
theorem dX3_lieSo_180 : decode cX3_lieSo 180 = .ok (.iconst 0, 1) := by decide +kernel
theorem dX3_lieSo_181 : decode cX3_lieSo 181 = .ok (.iconst 0, 1) := by decide +kernel
theorem dX3_lieSo_182 : decode cX3_lieSo 182 = .ok (.invokevirtual 296, 3) := by decide +kernel
theorem dX3_lieSo_185 : decode cX3_lieSo 185 = .ok (.ifCond .eq 14, 3) := by decide +kernel
theorem dX3_lieSo_188 : decode cX3_lieSo 188 = .ok (.aload_n 0, 1) := by decide +kernel
theorem dX3_lieSo_189 : decode cX3_lieSo 189 = .ok (.invokevirtual 299, 3) := by decide +kernel
theorem dX3_lieSo_192 : decode cX3_lieSo 192 = .ok (.ifCond .ne 7, 3) := by decide +kernel
theorem dX3_lieSo_195 : decode cX3_lieSo 195 = .ok (.iconst 1, 1) := by decide +kernel
theorem dX3_lieSo_196 : decode cX3_lieSo 196 = .ok (.goto 4, 3) := by decide +kernel
theorem dX3_lieSo_199 : decode cX3_lieSo 199 = .ok (.iconst 0, 1) := by decide +kernel
theorem dX3_lieSo_200 : decode cX3_lieSo 200 = .ok (.ireturn, 1) := by decide +kernel
theorem dX3_lieSo_201 : decode cX3_lieSo 201 = .ok (.aload_n 0, 1) := by decide +kernel
theorem dX3_lieSo_202 : decode cX3_lieSo 202 = .ok (.iconst 0, 1) := by decide +kernel
theorem dX3_lieSo_203 : decode cX3_lieSo 203 = .ok (.iconst 0, 1) := by decide +kernel
theorem dX3_lieSo_204 : decode cX3_lieSo 204 = .ok (.invokevirtual 296, 3) := by decide +kernel
theorem dX3_lieSo_207 : decode cX3_lieSo 207 = .ok (.ifCond .eq 14, 3) := by decide +kernel
theorem dX3_lieSo_210 : decode cX3_lieSo 210 = .ok (.aload_n 0, 1) := by decide +kernel
theorem dX3_lieSo_211 : decode cX3_lieSo 211 = .ok (.invokevirtual 302, 3) := by decide +kernel
theorem dX3_lieSo_214 : decode cX3_lieSo 214 = .ok (.ifCond .ne 7, 3) := by decide +kernel
theorem dX3_lieSo_217 : decode cX3_lieSo 217 = .ok (.iconst 1, 1) := by decide +kernel
theorem dX3_lieSo_218 : decode cX3_lieSo 218 = .ok (.goto 4, 3) := by decide +kernel
theorem dX3_lieSo_221 : decode cX3_lieSo 221 = .ok (.iconst 0, 1) := by decide +kernel
theorem dX3_lieSo_222 : decode cX3_lieSo 222 = .ok (.ireturn, 1) := by decide +kernel
theorem dX3_lieSo_223 : decode cX3_lieSo 223 = .ok (.iload_n 2, 1) := by decide +kernel
theorem dX3_lieSo_224 : decode cX3_lieSo 224 = .ok (.iload_n 3, 1) := by decide +kernel
theorem dX3_lieSo_225 : decode cX3_lieSo 225 = .ok (.if_icmp .ne 39, 3) := by decide +kernel
theorem dX3_lieSo_228 : decode cX3_lieSo 228 = .ok (.iload_n 2, 1) := by decide +kernel
theorem dX3_lieSo_229 : decode cX3_lieSo 229 = .ok (.ifCond .lt 35, 3) := by decide +kernel
theorem dX3_lieSo_232 : decode cX3_lieSo 232 = .ok (.aload_n 0, 1) := by decide +kernel
theorem dX3_lieSo_233 : decode cX3_lieSo 233 = .ok (.getfield 20, 3) := by decide +kernel
theorem dX3_lieSo_236 : decode cX3_lieSo 236 = .ok (.iconst 0, 1) := by decide +kernel
theorem dX3_lieSo_237 : decode cX3_lieSo 237 = .ok (.iaload, 1) := by decide +kernel
theorem dX3_lieSo_238 : decode cX3_lieSo 238 = .ok (.iload_n 2, 1) := by decide +kernel
theorem dX3_lieSo_239 : decode cX3_lieSo 239 = .ok (.if_icmp .ne 25, 3) := by decide +kernel
theorem dX3_lieSo_242 : decode cX3_lieSo 242 = .ok (.aload_n 0, 1) := by decide +kernel
theorem dX3_lieSo_243 : decode cX3_lieSo 243 = .ok (.iconst 0, 1) := by decide +kernel
theorem dX3_lieSo_244 : decode cX3_lieSo 244 = .ok (.iconst 2, 1) := by decide +kernel
theorem dX3_lieSo_245 : decode cX3_lieSo 245 = .ok (.invokevirtual 296, 3) := by decide +kernel
theorem dX3_lieSo_248 : decode cX3_lieSo 248 = .ok (.ifCond .eq 16, 3) := by decide +kernel
theorem dX3_lieSo_251 : decode cX3_lieSo 251 = .ok (.aload_n 0, 1) := by decide +kernel
theorem dX3_lieSo_252 : decode cX3_lieSo 252 = .ok (.iconst 2, 1) := by decide +kernel
theorem dX3_lieSo_253 : decode cX3_lieSo 253 = .ok (.iconst 0, 1) := by decide +kernel
theorem dX3_lieSo_254 : decode cX3_lieSo 254 = .ok (.invokevirtual 296, 3) := by decide +kernel
theorem dX3_lieSo_257 : decode cX3_lieSo 257 = .ok (.ifCond .eq 7, 3) := by decide +kernel
theorem dX3_lieSo_260 : decode cX3_lieSo 260 = .ok (.iconst 1, 1) := by decide +kernel
theorem dX3_lieSo_261 : decode cX3_lieSo 261 = .ok (.goto 4, 3) := by decide +kernel
theorem dX3_lieSo_264 : decode cX3_lieSo 264 = .ok (.iconst 0, 1) := by decide +kernel
theorem dX3_lieSo_265 : decode cX3_lieSo 265 = .ok (.ireturn, 1) := by decide +kernel
theorem dX3_lieSo_266 : decode cX3_lieSo 266 = .ok (.aload_n 0, 1) := by decide +kernel
theorem dX3_lieSo_267 : decode cX3_lieSo 267 = .ok (.invokevirtual 305, 3) := by decide +kernel
theorem dX3_lieSo_270 : decode cX3_lieSo 270 = .ok (.ifCond .eq 14, 3) := by decide +kernel
theorem dX3_lieSo_273 : decode cX3_lieSo 273 = .ok (.aload_n 0, 1) := by decide +kernel
theorem dX3_lieSo_274 : decode cX3_lieSo 274 = .ok (.invokevirtual 299, 3) := by decide +kernel
theorem dX3_lieSo_277 : decode cX3_lieSo 277 = .ok (.ifCond .ne 7, 3) := by decide +kernel
theorem dX3_lieSo_280 : decode cX3_lieSo 280 = .ok (.iconst 1, 1) := by decide +kernel
theorem dX3_lieSo_281 : decode cX3_lieSo 281 = .ok (.goto 4, 3) := by decide +kernel
theorem dX3_lieSo_284 : decode cX3_lieSo 284 = .ok (.iconst 0, 1) := by decide +kernel
theorem dX3_lieSo_285 : decode cX3_lieSo 285 = .ok (.ireturn, 1) := by decide +kernel
theorem dX3_lieSo_286 : decode cX3_lieSo 286 = .ok (.aload_n 0, 1) := by decide +kernel
theorem dX3_lieSo_287 : decode cX3_lieSo 287 = .ok (.invokevirtual 305, 3) := by decide +kernel
theorem dX3_lieSo_290 : decode cX3_lieSo 290 = .ok (.ifCond .eq 14, 3) := by decide +kernel
theorem dX3_lieSo_293 : decode cX3_lieSo 293 = .ok (.aload_n 0, 1) := by decide +kernel
theorem dX3_lieSo_294 : decode cX3_lieSo 294 = .ok (.invokevirtual 302, 3) := by decide +kernel
theorem dX3_lieSo_297 : decode cX3_lieSo 297 = .ok (.ifCond .ne 7, 3) := by decide +kernel
theorem dX3_lieSo_300 : decode cX3_lieSo 300 = .ok (.iconst 1, 1) := by decide +kernel
theorem dX3_lieSo_301 : decode cX3_lieSo 301 = .ok (.goto 4, 3) := by decide +kernel
theorem dX3_lieSo_304 : decode cX3_lieSo 304 = .ok (.iconst 0, 1) := by decide +kernel
theorem dX3_lieSo_305 : decode cX3_lieSo 305 = .ok (.ireturn, 1) := by decide +kernel
theorem dX3_lieAcross_0 : decode cX3_lieAcross 0 = .ok (.iload_n 1, 1) := by decide +kernel
theorem dX3_lieAcross_1 : decode cX3_lieAcross 1 = .ok (.iload_n 2, 1) := by decide +kernel
theorem dX3_lieAcross_2 : decode cX3_lieAcross 2 = .ok (.if_icmp .ge 27, 3) := by decide +kernel
theorem dX3_lieAcross_5 : decode cX3_lieAcross 5 = .ok (.aload_n 0, 1) := by decide +kernel
theorem dX3_lieAcross_6 : decode cX3_lieAcross 6 = .ok (.iconst 0, 1) := by decide +kernel
theorem dX3_lieAcross_7 : decode cX3_lieAcross 7 = .ok (.iconst 0, 1) := by decide +kernel
theorem dX3_lieAcross_8 : decode cX3_lieAcross 8 = .ok (.invokevirtual 296, 3) := by decide +kernel
theorem dX3_lieAcross_11 : decode cX3_lieAcross 11 = .ok (.ifCond .eq 16, 3) := by decide +kernel
theorem dX3_lieAcross_14 : decode cX3_lieAcross 14 = .ok (.aload_n 0, 1) := by decide +kernel
theorem dX3_lieAcross_15 : decode cX3_lieAcross 15 = .ok (.iconst 0, 1) := by decide +kernel
theorem dX3_lieAcross_16 : decode cX3_lieAcross 16 = .ok (.iconst 2, 1) := by decide +kernel
theorem dX3_lieAcross_17 : decode cX3_lieAcross 17 = .ok (.invokevirtual 296, 3) := by decide +kernel
theorem dX3_lieAcross_20 : decode cX3_lieAcross 20 = .ok (.ifCond .eq 7, 3) := by decide +kernel
theorem dX3_lieAcross_23 : decode cX3_lieAcross 23 = .ok (.iconst 1, 1) := by decide +kernel
theorem dX3_lieAcross_24 : decode cX3_lieAcross 24 = .ok (.goto 4, 3) := by decide +kernel
theorem dX3_lieAcross_27 : decode cX3_lieAcross 27 = .ok (.iconst 0, 1) := by decide +kernel
theorem dX3_lieAcross_28 : decode cX3_lieAcross 28 = .ok (.ireturn, 1) := by decide +kernel
theorem dX3_lieAcross_29 : decode cX3_lieAcross 29 = .ok (.iload_n 1, 1) := by decide +kernel
theorem dX3_lieAcross_30 : decode cX3_lieAcross 30 = .ok (.iload_n 2, 1) := by decide +kernel
theorem dX3_lieAcross_31 : decode cX3_lieAcross 31 = .ok (.if_icmp .le 27, 3) := by decide +kernel
theorem dX3_lieAcross_34 : decode cX3_lieAcross 34 = .ok (.aload_n 0, 1) := by decide +kernel
theorem dX3_lieAcross_35 : decode cX3_lieAcross 35 = .ok (.iconst 0, 1) := by decide +kernel
theorem dX3_lieAcross_36 : decode cX3_lieAcross 36 = .ok (.iconst 0, 1) := by decide +kernel
theorem dX3_lieAcross_37 : decode cX3_lieAcross 37 = .ok (.invokevirtual 296, 3) := by decide +kernel
theorem dX3_lieAcross_40 : decode cX3_lieAcross 40 = .ok (.ifCond .eq 16, 3) := by decide +kernel
theorem dX3_lieAcross_43 : decode cX3_lieAcross 43 = .ok (.aload_n 0, 1) := by decide +kernel
theorem dX3_lieAcross_44 : decode cX3_lieAcross 44 = .ok (.iconst 2, 1) := by decide +kernel
theorem dX3_lieAcross_45 : decode cX3_lieAcross 45 = .ok (.iconst 0, 1) := by decide +kernel
theorem dX3_lieAcross_46 : decode cX3_lieAcross 46 = .ok (.invokevirtual 296, 3) := by decide +kernel
theorem dX3_lieAcross_49 : decode cX3_lieAcross 49 = .ok (.ifCond .eq 7, 3) := by decide +kernel
theorem dX3_lieAcross_52 : decode cX3_lieAcross 52 = .ok (.iconst 1, 1) := by decide +kernel
theorem dX3_lieAcross_53 : decode cX3_lieAcross 53 = .ok (.goto 4, 3) := by decide +kernel
theorem dX3_lieAcross_56 : decode cX3_lieAcross 56 = .ok (.iconst 0, 1) := by decide +kernel
theorem dX3_lieAcross_57 : decode cX3_lieAcross 57 = .ok (.ireturn, 1) := by decide +kernel
theorem dX3_lieAcross_58 : decode cX3_lieAcross 58 = .ok (.iload_n 1, 1) := by decide +kernel
theorem dX3_lieAcross_59 : decode cX3_lieAcross 59 = .ok (.iconst 1, 1) := by decide +kernel
theorem dX3_lieAcross_60 : decode cX3_lieAcross 60 = .ok (.if_icmp .ne 16, 3) := by decide +kernel
theorem dX3_lieAcross_63 : decode cX3_lieAcross 63 = .ok (.aload_n 0, 1) := by decide +kernel
theorem dX3_lieAcross_64 : decode cX3_lieAcross 64 = .ok (.getfield 20, 3) := by decide +kernel
theorem dX3_lieAcross_67 : decode cX3_lieAcross 67 = .ok (.iconst 0, 1) := by decide +kernel
theorem dX3_lieAcross_68 : decode cX3_lieAcross 68 = .ok (.iaload, 1) := by decide +kernel
theorem dX3_lieAcross_69 : decode cX3_lieAcross 69 = .ok (.ifCond .ne 7, 3) := by decide +kernel
theorem dX3_lieAcross_72 : decode cX3_lieAcross 72 = .ok (.iconst 1, 1) := by decide +kernel
theorem dX3_lieAcross_73 : decode cX3_lieAcross 73 = .ok (.goto 4, 3) := by decide +kernel
theorem dX3_lieAcross_76 : decode cX3_lieAcross 76 = .ok (.iconst 0, 1) := by decide +kernel
theorem dX3_lieAcross_77 : decode cX3_lieAcross 77 = .ok (.ireturn, 1) := by decide +kernel
theorem dX2_gather_0 : decode cX2_gather 0 = .ok (.iconst 0, 1) := by decide +kernel
theorem dX2_gather_1 : decode cX2_gather 1 = .ok (.istore_n 2, 1) := by decide +kernel
theorem dX2_gather_2 : decode cX2_gather 2 = .ok (.iload_n 2, 1) := by decide +kernel
theorem dX2_gather_3 : decode cX2_gather 3 = .ok (.aload_n 1, 1) := by decide +kernel
theorem dX2_gather_4 : decode cX2_gather 4 = .ok (.getfield 55, 3) := by decide +kernel
theorem dX2_gather_7 : decode cX2_gather 7 = .ok (.if_icmp .ge 30, 3) := by decide +kernel
theorem dX2_gather_10 : decode cX2_gather 10 = .ok (.aload_n 0, 1) := by decide +kernel
theorem dX2_gather_11 : decode cX2_gather 11 = .ok (.getfield 13, 3) := by decide +kernel
theorem dX2_gather_14 : decode cX2_gather 14 = .ok (.iload_n 2, 1) := by decide +kernel
theorem dX2_gather_15 : decode cX2_gather 15 = .ok (.aload_n 1, 1) := by decide +kernel
theorem dX2_gather_16 : decode cX2_gather 16 = .ok (.getfield 59, 3) := by decide +kernel
theorem dX2_gather_19 : decode cX2_gather 19 = .ok (.iload_n 2, 1) := by decide +kernel
theorem dX2_gather_20 : decode cX2_gather 20 = .ok (.iaload, 1) := by decide +kernel
theorem dX2_gather_21 : decode cX2_gather 21 = .ok (.aload_n 1, 1) := by decide +kernel
theorem dX2_gather_22 : decode cX2_gather 22 = .ok (.getfield 62, 3) := by decide +kernel
theorem dX2_gather_25 : decode cX2_gather 25 = .ok (.iload_n 2, 1) := by decide +kernel
theorem dX2_gather_26 : decode cX2_gather 26 = .ok (.iaload, 1) := by decide +kernel
theorem dX2_gather_27 : decode cX2_gather 27 = .ok (.invokestatic 65, 3) := by decide +kernel
theorem dX2_gather_30 : decode cX2_gather 30 = .ok (.lastore, 1) := by decide +kernel
theorem dX2_gather_31 : decode cX2_gather 31 = .ok (.iinc 2 1, 3) := by decide +kernel
theorem dX2_gather_34 : decode cX2_gather 34 = .ok (.goto (-32), 3) := by decide +kernel
theorem dX2_gather_37 : decode cX2_gather 37 = .ok (.aload_n 0, 1) := by decide +kernel
theorem dX2_gather_38 : decode cX2_gather 38 = .ok (.getfield 13, 3) := by decide +kernel
theorem dX2_gather_41 : decode cX2_gather 41 = .ok (.aload_n 1, 1) := by decide +kernel
theorem dX2_gather_42 : decode cX2_gather 42 = .ok (.getfield 55, 3) := by decide +kernel
theorem dX2_gather_45 : decode cX2_gather 45 = .ok (.invokestatic 69, 3) := by decide +kernel
theorem dX2_gather_48 : decode cX2_gather 48 = .ok (.aload_n 0, 1) := by decide +kernel
theorem dX2_gather_49 : decode cX2_gather 49 = .ok (.getfield 13, 3) := by decide +kernel
theorem dX2_gather_52 : decode cX2_gather 52 = .ok (.aload_n 1, 1) := by decide +kernel
theorem dX2_gather_53 : decode cX2_gather 53 = .ok (.getfield 55, 3) := by decide +kernel
theorem dX2_gather_56 : decode cX2_gather 56 = .ok (.invokestatic 73, 3) := by decide +kernel
theorem dX2_gather_59 : decode cX2_gather 59 = .ok (.istore_n 2, 1) := by decide +kernel
theorem dX2_gather_60 : decode cX2_gather 60 = .ok (.iload_n 2, 1) := by decide +kernel
theorem dX2_gather_61 : decode cX2_gather 61 = .ok (.sipush 1024, 3) := by decide +kernel
theorem dX2_gather_64 : decode cX2_gather 64 = .ok (.if_icmp .le 5, 3) := by decide +kernel
theorem dX2_gather_67 : decode cX2_gather 67 = .ok (.iconst 0, 1) := by decide +kernel
theorem dX2_gather_68 : decode cX2_gather 68 = .ok (.ireturn, 1) := by decide +kernel
theorem dX2_gather_69 : decode cX2_gather 69 = .ok (.aload_n 0, 1) := by decide +kernel
theorem dX2_gather_70 : decode cX2_gather 70 = .ok (.iload_n 2, 1) := by decide +kernel
theorem dX2_gather_71 : decode cX2_gather 71 = .ok (.putfield 77, 3) := by decide +kernel
theorem dX2_gather_74 : decode cX2_gather 74 = .ok (.iconst 0, 1) := by decide +kernel
theorem dX2_gather_75 : decode cX2_gather 75 = .ok (.istore_n 3, 1) := by decide +kernel
theorem dX2_gather_76 : decode cX2_gather 76 = .ok (.iload_n 3, 1) := by decide +kernel
theorem dX2_gather_77 : decode cX2_gather 77 = .ok (.aload_n 0, 1) := by decide +kernel
theorem dX2_gather_78 : decode cX2_gather 78 = .ok (.getfield 77, 3) := by decide +kernel
theorem dX2_gather_81 : decode cX2_gather 81 = .ok (.if_icmp .ge 39, 3) := by decide +kernel
theorem dX2_gather_84 : decode cX2_gather 84 = .ok (.aload_n 0, 1) := by decide +kernel
theorem dX2_gather_85 : decode cX2_gather 85 = .ok (.getfield 17, 3) := by decide +kernel
theorem dX2_gather_88 : decode cX2_gather 88 = .ok (.iload_n 3, 1) := by decide +kernel
theorem dX2_gather_89 : decode cX2_gather 89 = .ok (.aload_n 0, 1) := by decide +kernel
theorem dX2_gather_90 : decode cX2_gather 90 = .ok (.getfield 13, 3) := by decide +kernel
theorem dX2_gather_93 : decode cX2_gather 93 = .ok (.iload_n 3, 1) := by decide +kernel
theorem dX2_gather_94 : decode cX2_gather 94 = .ok (.laload, 1) := by decide +kernel
theorem dX2_gather_95 : decode cX2_gather 95 = .ok (.invokestatic 80, 3) := by decide +kernel
theorem dX2_gather_98 : decode cX2_gather 98 = .ok (.iastore, 1) := by decide +kernel
theorem dX2_gather_99 : decode cX2_gather 99 = .ok (.aload_n 0, 1) := by decide +kernel
theorem dX2_gather_100 : decode cX2_gather 100 = .ok (.getfield 21, 3) := by decide +kernel
theorem dX2_gather_103 : decode cX2_gather 103 = .ok (.iload_n 3, 1) := by decide +kernel
theorem dX2_gather_104 : decode cX2_gather 104 = .ok (.aload_n 0, 1) := by decide +kernel
theorem dX2_gather_105 : decode cX2_gather 105 = .ok (.getfield 13, 3) := by decide +kernel
theorem dX2_gather_108 : decode cX2_gather 108 = .ok (.iload_n 3, 1) := by decide +kernel
theorem dX2_gather_109 : decode cX2_gather 109 = .ok (.laload, 1) := by decide +kernel
theorem dX2_gather_110 : decode cX2_gather 110 = .ok (.invokestatic 84, 3) := by decide +kernel
theorem dX2_gather_113 : decode cX2_gather 113 = .ok (.iastore, 1) := by decide +kernel
theorem dX2_gather_114 : decode cX2_gather 114 = .ok (.iinc 3 1, 3) := by decide +kernel
theorem dX2_gather_117 : decode cX2_gather 117 = .ok (.goto (-41), 3) := by decide +kernel
theorem dX2_gather_120 : decode cX2_gather 120 = .ok (.aload_n 0, 1) := by decide +kernel
theorem dX2_gather_121 : decode cX2_gather 121 = .ok (.aload_n 1, 1) := by decide +kernel
theorem dX2_gather_122 : decode cX2_gather 122 = .ok (.invokevirtual 87, 3) := by decide +kernel
theorem dX2_gather_125 : decode cX2_gather 125 = .ok (.iconst 1, 1) := by decide +kernel
theorem dX2_gather_126 : decode cX2_gather 126 = .ok (.ireturn, 1) := by decide +kernel
theorem dX2_numberPlaces_0 : decode cX2_numberPlaces 0 = .ok (.aload_n 0, 1) := by decide +kernel
theorem dX2_numberPlaces_1 : decode cX2_numberPlaces 1 = .ok (.getfield 24, 3) := by decide +kernel
theorem dX2_numberPlaces_4 : decode cX2_numberPlaces 4 = .ok (.iconst 0, 1) := by decide +kernel
theorem dX2_numberPlaces_5 : decode cX2_numberPlaces 5 = .ok (.aload_n 0, 1) := by decide +kernel
theorem dX2_numberPlaces_6 : decode cX2_numberPlaces 6 = .ok (.getfield 77, 3) := by decide +kernel
theorem dX2_numberPlaces_9 : decode cX2_numberPlaces 9 = .ok (.iconst (-1), 1) := by decide +kernel
theorem dX2_numberPlaces_10 : decode cX2_numberPlaces 10 = .ok (.invokestatic 91, 3) := by decide +kernel
theorem dX2_numberPlaces_13 : decode cX2_numberPlaces 13 = .ok (.iconst 0, 1) := by decide +kernel
theorem dX2_numberPlaces_14 : decode cX2_numberPlaces 14 = .ok (.istore_n 2, 1) := by decide +kernel
theorem dX2_numberPlaces_15 : decode cX2_numberPlaces 15 = .ok (.iconst 0, 1) := by decide +kernel
theorem dX2_numberPlaces_16 : decode cX2_numberPlaces 16 = .ok (.istore_n 3, 1) := by decide +kernel
theorem dX2_numberPlaces_17 : decode cX2_numberPlaces 17 = .ok (.iload_n 3, 1) := by decide +kernel
theorem dX2_numberPlaces_18 : decode cX2_numberPlaces 18 = .ok (.aload_n 1, 1) := by decide +kernel
theorem dX2_numberPlaces_19 : decode cX2_numberPlaces 19 = .ok (.getfield 55, 3) := by decide +kernel
theorem dX2_numberPlaces_22 : decode cX2_numberPlaces 22 = .ok (.if_icmp .ge 60, 3) := by decide +kernel
theorem dX2_numberPlaces_25 : decode cX2_numberPlaces 25 = .ok (.aload_n 0, 1) := by decide +kernel
theorem dX2_numberPlaces_26 : decode cX2_numberPlaces 26 = .ok (.aload_n 1, 1) := by decide +kernel
theorem dX2_numberPlaces_27 : decode cX2_numberPlaces 27 = .ok (.getfield 59, 3) := by decide +kernel
theorem dX2_numberPlaces_30 : decode cX2_numberPlaces 30 = .ok (.iload_n 3, 1) := by decide +kernel
theorem dX2_numberPlaces_31 : decode cX2_numberPlaces 31 = .ok (.iaload, 1) := by decide +kernel
theorem dX2_numberPlaces_32 : decode cX2_numberPlaces 32 = .ok (.aload_n 1, 1) := by decide +kernel
theorem dX2_numberPlaces_33 : decode cX2_numberPlaces 33 = .ok (.getfield 62, 3) := by decide +kernel
theorem dX2_numberPlaces_36 : decode cX2_numberPlaces 36 = .ok (.iload_n 3, 1) := by decide +kernel
theorem dX2_numberPlaces_37 : decode cX2_numberPlaces 37 = .ok (.iaload, 1) := by decide +kernel
theorem dX2_numberPlaces_38 : decode cX2_numberPlaces 38 = .ok (.invokestatic 65, 3) := by decide +kernel
theorem dX2_numberPlaces_41 : decode cX2_numberPlaces 41 = .ok (.invokevirtual 97, 3) := by decide +kernel
theorem dX2_numberPlaces_44 : decode cX2_numberPlaces 44 = .ok (.istore 4, 2) := by decide +kernel
theorem dX2_numberPlaces_46 : decode cX2_numberPlaces 46 = .ok (.aload_n 0, 1) := by decide +kernel
theorem dX2_numberPlaces_47 : decode cX2_numberPlaces 47 = .ok (.getfield 24, 3) := by decide +kernel
theorem dX2_numberPlaces_50 : decode cX2_numberPlaces 50 = .ok (.iload 4, 2) := by decide +kernel
theorem dX2_numberPlaces_52 : decode cX2_numberPlaces 52 = .ok (.iaload, 1) := by decide +kernel
theorem dX2_numberPlaces_53 : decode cX2_numberPlaces 53 = .ok (.iconst (-1), 1) := by decide +kernel
theorem dX2_numberPlaces_54 : decode cX2_numberPlaces 54 = .ok (.if_icmp .ne 22, 3) := by decide +kernel
theorem dX2_numberPlaces_57 : decode cX2_numberPlaces 57 = .ok (.aload_n 0, 1) := by decide +kernel
theorem dX2_numberPlaces_58 : decode cX2_numberPlaces 58 = .ok (.getfield 24, 3) := by decide +kernel
theorem dX2_numberPlaces_61 : decode cX2_numberPlaces 61 = .ok (.iload 4, 2) := by decide +kernel
theorem dX2_numberPlaces_63 : decode cX2_numberPlaces 63 = .ok (.iload_n 2, 1) := by decide +kernel
theorem dX2_numberPlaces_64 : decode cX2_numberPlaces 64 = .ok (.iastore, 1) := by decide +kernel
theorem dX2_numberPlaces_65 : decode cX2_numberPlaces 65 = .ok (.aload_n 0, 1) := by decide +kernel
theorem dX2_numberPlaces_66 : decode cX2_numberPlaces 66 = .ok (.getfield 27, 3) := by decide +kernel
theorem dX2_numberPlaces_69 : decode cX2_numberPlaces 69 = .ok (.iload_n 2, 1) := by decide +kernel
theorem dX2_numberPlaces_70 : decode cX2_numberPlaces 70 = .ok (.iload 4, 2) := by decide +kernel
theorem dX2_numberPlaces_72 : decode cX2_numberPlaces 72 = .ok (.iastore, 1) := by decide +kernel
theorem dX2_numberPlaces_73 : decode cX2_numberPlaces 73 = .ok (.iinc 2 1, 3) := by decide +kernel
theorem dX2_numberPlaces_76 : decode cX2_numberPlaces 76 = .ok (.iinc 3 1, 3) := by decide +kernel
theorem dX2_numberPlaces_79 : decode cX2_numberPlaces 79 = .ok (.goto (-62), 3) := by decide +kernel
theorem dX2_numberPlaces_82 : decode cX2_numberPlaces 82 = .ok (.return_, 1) := by decide +kernel
theorem dX2_placeAt_0 : decode cX2_placeAt 0 = .ok (.iconst 0, 1) := by decide +kernel
theorem dX2_placeAt_1 : decode cX2_placeAt 1 = .ok (.istore_n 3, 1) := by decide +kernel
theorem dX2_placeAt_2 : decode cX2_placeAt 2 = .ok (.aload_n 0, 1) := by decide +kernel
theorem dX2_placeAt_3 : decode cX2_placeAt 3 = .ok (.getfield 77, 3) := by decide +kernel
theorem dX2_placeAt_6 : decode cX2_placeAt 6 = .ok (.iconst 1, 1) := by decide +kernel
theorem dX2_placeAt_7 : decode cX2_placeAt 7 = .ok (.isub, 1) := by decide +kernel
theorem dX2_placeAt_8 : decode cX2_placeAt 8 = .ok (.istore 4, 2) := by decide +kernel
theorem dX2_placeAt_10 : decode cX2_placeAt 10 = .ok (.iload_n 3, 1) := by decide +kernel
theorem dX2_placeAt_11 : decode cX2_placeAt 11 = .ok (.iload 4, 2) := by decide +kernel
theorem dX2_placeAt_13 : decode cX2_placeAt 13 = .ok (.if_icmp .ge 40, 3) := by decide +kernel
theorem dX2_placeAt_16 : decode cX2_placeAt 16 = .ok (.iload_n 3, 1) := by decide +kernel
theorem dX2_placeAt_17 : decode cX2_placeAt 17 = .ok (.iload 4, 2) := by decide +kernel
theorem dX2_placeAt_19 : decode cX2_placeAt 19 = .ok (.iload_n 3, 1) := by decide +kernel
theorem dX2_placeAt_20 : decode cX2_placeAt 20 = .ok (.isub, 1) := by decide +kernel
theorem dX2_placeAt_21 : decode cX2_placeAt 21 = .ok (.iconst 2, 1) := by decide +kernel
theorem dX2_placeAt_22 : decode cX2_placeAt 22 = .ok (.idiv, 1) := by decide +kernel
theorem dX2_placeAt_23 : decode cX2_placeAt 23 = .ok (.iadd, 1) := by decide +kernel
theorem dX2_placeAt_24 : decode cX2_placeAt 24 = .ok (.istore 5, 2) := by decide +kernel
theorem dX2_placeAt_26 : decode cX2_placeAt 26 = .ok (.aload_n 0, 1) := by decide +kernel
theorem dX2_placeAt_27 : decode cX2_placeAt 27 = .ok (.getfield 13, 3) := by decide +kernel
theorem dX2_placeAt_30 : decode cX2_placeAt 30 = .ok (.iload 5, 2) := by decide +kernel
theorem dX2_placeAt_32 : decode cX2_placeAt 32 = .ok (.laload, 1) := by decide +kernel
theorem dX2_placeAt_33 : decode cX2_placeAt 33 = .ok (.lload_n 1, 1) := by decide +kernel
theorem dX2_placeAt_34 : decode cX2_placeAt 34 = .ok (.lcmp, 1) := by decide +kernel
theorem dX2_placeAt_35 : decode cX2_placeAt 35 = .ok (.ifCond .ge 11, 3) := by decide +kernel
theorem dX2_placeAt_38 : decode cX2_placeAt 38 = .ok (.iload 5, 2) := by decide +kernel
theorem dX2_placeAt_40 : decode cX2_placeAt 40 = .ok (.iconst 1, 1) := by decide +kernel
theorem dX2_placeAt_41 : decode cX2_placeAt 41 = .ok (.iadd, 1) := by decide +kernel
theorem dX2_placeAt_42 : decode cX2_placeAt 42 = .ok (.istore_n 3, 1) := by decide +kernel
theorem dX2_placeAt_43 : decode cX2_placeAt 43 = .ok (.goto 7, 3) := by decide +kernel
theorem dX2_placeAt_46 : decode cX2_placeAt 46 = .ok (.iload 5, 2) := by decide +kernel
theorem dX2_placeAt_48 : decode cX2_placeAt 48 = .ok (.istore 4, 2) := by decide +kernel
theorem dX2_placeAt_50 : decode cX2_placeAt 50 = .ok (.goto (-40), 3) := by decide +kernel
theorem dX2_placeAt_53 : decode cX2_placeAt 53 = .ok (.iload_n 3, 1) := by decide +kernel
theorem dX2_placeAt_54 : decode cX2_placeAt 54 = .ok (.ireturn, 1) := by decide +kernel
theorem dX2_turnAt_0 : decode cX2_turnAt 0 = .ok (.aload_n 0, 1) := by decide +kernel
theorem dX2_turnAt_1 : decode cX2_turnAt 1 = .ok (.getfield 17, 3) := by decide +kernel
theorem dX2_turnAt_4 : decode cX2_turnAt 4 = .ok (.iload_n 1, 1) := by decide +kernel
theorem dX2_turnAt_5 : decode cX2_turnAt 5 = .ok (.iaload, 1) := by decide +kernel
theorem dX2_turnAt_6 : decode cX2_turnAt 6 = .ok (.i2l, 1) := by decide +kernel
theorem dX2_turnAt_7 : decode cX2_turnAt 7 = .ok (.aload_n 0, 1) := by decide +kernel
theorem dX2_turnAt_8 : decode cX2_turnAt 8 = .ok (.getfield 21, 3) := by decide +kernel
theorem dX2_turnAt_11 : decode cX2_turnAt 11 = .ok (.iload_n 1, 1) := by decide +kernel
theorem dX2_turnAt_12 : decode cX2_turnAt 12 = .ok (.iaload, 1) := by decide +kernel
theorem dX2_turnAt_13 : decode cX2_turnAt 13 = .ok (.i2l, 1) := by decide +kernel
theorem dX2_turnAt_14 : decode cX2_turnAt 14 = .ok (.aload_n 0, 1) := by decide +kernel
theorem dX2_turnAt_15 : decode cX2_turnAt 15 = .ok (.getfield 17, 3) := by decide +kernel
theorem dX2_turnAt_18 : decode cX2_turnAt 18 = .ok (.iload_n 2, 1) := by decide +kernel
theorem dX2_turnAt_19 : decode cX2_turnAt 19 = .ok (.iaload, 1) := by decide +kernel
theorem dX2_turnAt_20 : decode cX2_turnAt 20 = .ok (.i2l, 1) := by decide +kernel
theorem dX2_turnAt_21 : decode cX2_turnAt 21 = .ok (.aload_n 0, 1) := by decide +kernel
theorem dX2_turnAt_22 : decode cX2_turnAt 22 = .ok (.getfield 21, 3) := by decide +kernel
theorem dX2_turnAt_25 : decode cX2_turnAt 25 = .ok (.iload_n 2, 1) := by decide +kernel
theorem dX2_turnAt_26 : decode cX2_turnAt 26 = .ok (.iaload, 1) := by decide +kernel
theorem dX2_turnAt_27 : decode cX2_turnAt 27 = .ok (.i2l, 1) := by decide +kernel
theorem dX2_turnAt_28 : decode cX2_turnAt 28 = .ok (.aload_n 0, 1) := by decide +kernel
theorem dX2_turnAt_29 : decode cX2_turnAt 29 = .ok (.getfield 17, 3) := by decide +kernel
theorem dX2_turnAt_32 : decode cX2_turnAt 32 = .ok (.iload_n 3, 1) := by decide +kernel
theorem dX2_turnAt_33 : decode cX2_turnAt 33 = .ok (.iaload, 1) := by decide +kernel
theorem dX2_turnAt_34 : decode cX2_turnAt 34 = .ok (.i2l, 1) := by decide +kernel
theorem dX2_turnAt_35 : decode cX2_turnAt 35 = .ok (.aload_n 0, 1) := by decide +kernel
theorem dX2_turnAt_36 : decode cX2_turnAt 36 = .ok (.getfield 21, 3) := by decide +kernel
theorem dX2_turnAt_39 : decode cX2_turnAt 39 = .ok (.iload_n 3, 1) := by decide +kernel
theorem dX2_turnAt_40 : decode cX2_turnAt 40 = .ok (.iaload, 1) := by decide +kernel
theorem dX2_turnAt_41 : decode cX2_turnAt 41 = .ok (.i2l, 1) := by decide +kernel
theorem dX2_turnAt_42 : decode cX2_turnAt 42 = .ok (.invokestatic 100, 3) := by decide +kernel
theorem dX2_turnAt_45 : decode cX2_turnAt 45 = .ok (.ireturn, 1) := by decide +kernel
theorem dX2_findCorners_0 : decode cX2_findCorners 0 = .ok (.iconst 0, 1) := by decide +kernel
theorem dX2_findCorners_1 : decode cX2_findCorners 1 = .ok (.istore_n 1, 1) := by decide +kernel
theorem dX2_findCorners_2 : decode cX2_findCorners 2 = .ok (.iconst 0, 1) := by decide +kernel
theorem dX2_findCorners_3 : decode cX2_findCorners 3 = .ok (.istore_n 2, 1) := by decide +kernel
theorem dX2_findCorners_4 : decode cX2_findCorners 4 = .ok (.iload_n 2, 1) := by decide +kernel
theorem dX2_findCorners_5 : decode cX2_findCorners 5 = .ok (.aload_n 0, 1) := by decide +kernel
theorem dX2_findCorners_6 : decode cX2_findCorners 6 = .ok (.getfield 77, 3) := by decide +kernel
theorem dX2_findCorners_9 : decode cX2_findCorners 9 = .ok (.if_icmp .ge 27, 3) := by decide +kernel
theorem dX2_findCorners_12 : decode cX2_findCorners 12 = .ok (.aload_n 0, 1) := by decide +kernel
theorem dX2_findCorners_13 : decode cX2_findCorners 13 = .ok (.iload_n 2, 1) := by decide +kernel
theorem dX2_findCorners_14 : decode cX2_findCorners 14 = .ok (.iload_n 1, 1) := by decide +kernel
theorem dX2_findCorners_15 : decode cX2_findCorners 15 = .ok (.iconst 2, 1) := by decide +kernel
theorem dX2_findCorners_16 : decode cX2_findCorners 16 = .ok (.invokevirtual 104, 3) := by decide +kernel
theorem dX2_findCorners_19 : decode cX2_findCorners 19 = .ok (.istore_n 1, 1) := by decide +kernel
theorem dX2_findCorners_20 : decode cX2_findCorners 20 = .ok (.aload_n 0, 1) := by decide +kernel
theorem dX2_findCorners_21 : decode cX2_findCorners 21 = .ok (.getfield 30, 3) := by decide +kernel
theorem dX2_findCorners_24 : decode cX2_findCorners 24 = .ok (.iload_n 1, 1) := by decide +kernel
theorem dX2_findCorners_25 : decode cX2_findCorners 25 = .ok (.iload_n 2, 1) := by decide +kernel
theorem dX2_findCorners_26 : decode cX2_findCorners 26 = .ok (.iastore, 1) := by decide +kernel
theorem dX2_findCorners_27 : decode cX2_findCorners 27 = .ok (.iinc 1 1, 3) := by decide +kernel
theorem dX2_findCorners_30 : decode cX2_findCorners 30 = .ok (.iinc 2 1, 3) := by decide +kernel
theorem dX2_findCorners_33 : decode cX2_findCorners 33 = .ok (.goto (-29), 3) := by decide +kernel
theorem dX2_findCorners_36 : decode cX2_findCorners 36 = .ok (.iload_n 1, 1) := by decide +kernel
theorem dX2_findCorners_37 : decode cX2_findCorners 37 = .ok (.iconst 1, 1) := by decide +kernel
theorem dX2_findCorners_38 : decode cX2_findCorners 38 = .ok (.iadd, 1) := by decide +kernel
theorem dX2_findCorners_39 : decode cX2_findCorners 39 = .ok (.istore_n 2, 1) := by decide +kernel
theorem dX2_findCorners_40 : decode cX2_findCorners 40 = .ok (.aload_n 0, 1) := by decide +kernel
theorem dX2_findCorners_41 : decode cX2_findCorners 41 = .ok (.getfield 77, 3) := by decide +kernel
theorem dX2_findCorners_44 : decode cX2_findCorners 44 = .ok (.iconst 2, 1) := by decide +kernel
theorem dX2_findCorners_45 : decode cX2_findCorners 45 = .ok (.isub, 1) := by decide +kernel
theorem dX2_findCorners_46 : decode cX2_findCorners 46 = .ok (.istore_n 3, 1) := by decide +kernel
theorem dX2_findCorners_47 : decode cX2_findCorners 47 = .ok (.iload_n 3, 1) := by decide +kernel
theorem dX2_findCorners_48 : decode cX2_findCorners 48 = .ok (.ifCond .lt 27, 3) := by decide +kernel
theorem dX2_findCorners_51 : decode cX2_findCorners 51 = .ok (.aload_n 0, 1) := by decide +kernel
theorem dX2_findCorners_52 : decode cX2_findCorners 52 = .ok (.iload_n 3, 1) := by decide +kernel
theorem dX2_findCorners_53 : decode cX2_findCorners 53 = .ok (.iload_n 1, 1) := by decide +kernel
theorem dX2_findCorners_54 : decode cX2_findCorners 54 = .ok (.iload_n 2, 1) := by decide +kernel
theorem dX2_findCorners_55 : decode cX2_findCorners 55 = .ok (.invokevirtual 104, 3) := by decide +kernel
theorem dX2_findCorners_58 : decode cX2_findCorners 58 = .ok (.istore_n 1, 1) := by decide +kernel
theorem dX2_findCorners_59 : decode cX2_findCorners 59 = .ok (.aload_n 0, 1) := by decide +kernel
theorem dX2_findCorners_60 : decode cX2_findCorners 60 = .ok (.getfield 30, 3) := by decide +kernel
theorem dX2_findCorners_63 : decode cX2_findCorners 63 = .ok (.iload_n 1, 1) := by decide +kernel
theorem dX2_findCorners_64 : decode cX2_findCorners 64 = .ok (.iload_n 3, 1) := by decide +kernel
theorem dX2_findCorners_65 : decode cX2_findCorners 65 = .ok (.iastore, 1) := by decide +kernel
theorem dX2_findCorners_66 : decode cX2_findCorners 66 = .ok (.iinc 1 1, 3) := by decide +kernel
theorem dX2_findCorners_69 : decode cX2_findCorners 69 = .ok (.iinc 3 (-1), 3) := by decide +kernel
theorem dX2_findCorners_72 : decode cX2_findCorners 72 = .ok (.goto (-25), 3) := by decide +kernel
theorem dX2_findCorners_75 : decode cX2_findCorners 75 = .ok (.aload_n 0, 1) := by decide +kernel
theorem dX2_findCorners_76 : decode cX2_findCorners 76 = .ok (.getfield 77, 3) := by decide +kernel
theorem dX2_findCorners_79 : decode cX2_findCorners 79 = .ok (.iconst 1, 1) := by decide +kernel
theorem dX2_findCorners_80 : decode cX2_findCorners 80 = .ok (.if_icmp .le 9, 3) := by decide +kernel
theorem dX2_findCorners_83 : decode cX2_findCorners 83 = .ok (.iload_n 1, 1) := by decide +kernel
theorem dX2_findCorners_84 : decode cX2_findCorners 84 = .ok (.iconst 1, 1) := by decide +kernel
theorem dX2_findCorners_85 : decode cX2_findCorners 85 = .ok (.isub, 1) := by decide +kernel
theorem dX2_findCorners_86 : decode cX2_findCorners 86 = .ok (.goto 4, 3) := by decide +kernel
theorem dX2_findCorners_89 : decode cX2_findCorners 89 = .ok (.iload_n 1, 1) := by decide +kernel
theorem dX2_findCorners_90 : decode cX2_findCorners 90 = .ok (.ireturn, 1) := by decide +kernel
theorem dX2_cornersBefore_0 : decode cX2_cornersBefore 0 = .ok (.iload_n 2, 1) := by decide +kernel
theorem dX2_cornersBefore_1 : decode cX2_cornersBefore 1 = .ok (.istore 4, 2) := by decide +kernel
theorem dX2_cornersBefore_3 : decode cX2_cornersBefore 3 = .ok (.iload 4, 2) := by decide +kernel
theorem dX2_cornersBefore_5 : decode cX2_cornersBefore 5 = .ok (.iload_n 3, 1) := by decide +kernel
theorem dX2_cornersBefore_6 : decode cX2_cornersBefore 6 = .ok (.if_icmp .lt 35, 3) := by decide +kernel
theorem dX2_cornersBefore_9 : decode cX2_cornersBefore 9 = .ok (.aload_n 0, 1) := by decide +kernel
theorem dX2_cornersBefore_10 : decode cX2_cornersBefore 10 = .ok (.aload_n 0, 1) := by decide +kernel
theorem dX2_cornersBefore_11 : decode cX2_cornersBefore 11 = .ok (.getfield 30, 3) := by decide +kernel
theorem dX2_cornersBefore_14 : decode cX2_cornersBefore 14 = .ok (.iload 4, 2) := by decide +kernel
theorem dX2_cornersBefore_16 : decode cX2_cornersBefore 16 = .ok (.iconst 2, 1) := by decide +kernel
theorem dX2_cornersBefore_17 : decode cX2_cornersBefore 17 = .ok (.isub, 1) := by decide +kernel
theorem dX2_cornersBefore_18 : decode cX2_cornersBefore 18 = .ok (.iaload, 1) := by decide +kernel
theorem dX2_cornersBefore_19 : decode cX2_cornersBefore 19 = .ok (.aload_n 0, 1) := by decide +kernel
theorem dX2_cornersBefore_20 : decode cX2_cornersBefore 20 = .ok (.getfield 30, 3) := by decide +kernel
theorem dX2_cornersBefore_23 : decode cX2_cornersBefore 23 = .ok (.iload 4, 2) := by decide +kernel
theorem dX2_cornersBefore_25 : decode cX2_cornersBefore 25 = .ok (.iconst 1, 1) := by decide +kernel
theorem dX2_cornersBefore_26 : decode cX2_cornersBefore 26 = .ok (.isub, 1) := by decide +kernel
theorem dX2_cornersBefore_27 : decode cX2_cornersBefore 27 = .ok (.iaload, 1) := by decide +kernel
theorem dX2_cornersBefore_28 : decode cX2_cornersBefore 28 = .ok (.iload_n 1, 1) := by decide +kernel
theorem dX2_cornersBefore_29 : decode cX2_cornersBefore 29 = .ok (.invokevirtual 108, 3) := by decide +kernel
theorem dX2_cornersBefore_32 : decode cX2_cornersBefore 32 = .ok (.ifCond .gt 9, 3) := by decide +kernel
theorem dX2_cornersBefore_35 : decode cX2_cornersBefore 35 = .ok (.iinc 4 (-1), 3) := by decide +kernel
theorem dX2_cornersBefore_38 : decode cX2_cornersBefore 38 = .ok (.goto (-35), 3) := by decide +kernel
theorem dX2_cornersBefore_41 : decode cX2_cornersBefore 41 = .ok (.iload 4, 2) := by decide +kernel
theorem dX2_cornersBefore_43 : decode cX2_cornersBefore 43 = .ok (.ireturn, 1) := by decide +kernel
theorem dX2_span_0 : decode cX2_span 0 = .ok (.aload_n 0, 1) := by decide +kernel
theorem dX2_span_1 : decode cX2_span 1 = .ok (.invokevirtual 111, 3) := by decide +kernel
theorem dX2_span_4 : decode cX2_span 4 = .ok (.istore_n 2, 1) := by decide +kernel
theorem dX2_span_5 : decode cX2_span 5 = .ok (.aload_n 1, 1) := by decide +kernel
theorem dX2_span_6 : decode cX2_span 6 = .ok (.invokevirtual 115, 3) := by decide +kernel
theorem dX2_span_9 : decode cX2_span 9 = .ok (.iload_n 2, 1) := by decide +kernel
theorem dX2_span_10 : decode cX2_span 10 = .ok (.ifCond .ne 14, 3) := by decide +kernel
theorem dX2_span_13 : decode cX2_span 13 = .ok (.aload_n 1, 1) := by decide +kernel
theorem dX2_span_14 : decode cX2_span 14 = .ok (.bipush 7, 2) := by decide +kernel
theorem dX2_span_16 : decode cX2_span 16 = .ok (.iconst 0, 1) := by decide +kernel
theorem dX2_span_17 : decode cX2_span 17 = .ok (.invokevirtual 118, 3) := by decide +kernel
theorem dX2_span_20 : decode cX2_span 20 = .ok (.pop, 1) := by decide +kernel
theorem dX2_span_21 : decode cX2_span 21 = .ok (.goto 42, 3) := by decide +kernel
theorem dX2_span_24 : decode cX2_span 24 = .ok (.iload_n 2, 1) := by decide +kernel
theorem dX2_span_25 : decode cX2_span 25 = .ok (.iconst 3, 1) := by decide +kernel
theorem dX2_span_26 : decode cX2_span 26 = .ok (.if_icmp .ge 22, 3) := by decide +kernel
theorem dX2_span_29 : decode cX2_span 29 = .ok (.aload_n 1, 1) := by decide +kernel
theorem dX2_span_30 : decode cX2_span 30 = .ok (.iload_n 2, 1) := by decide +kernel
theorem dX2_span_31 : decode cX2_span 31 = .ok (.iconst 1, 1) := by decide +kernel
theorem dX2_span_32 : decode cX2_span 32 = .ok (.if_icmp .ne 7, 3) := by decide +kernel
theorem dX2_span_35 : decode cX2_span 35 = .ok (.iconst 1, 1) := by decide +kernel
theorem dX2_span_36 : decode cX2_span 36 = .ok (.goto 4, 3) := by decide +kernel
theorem dX2_span_39 : decode cX2_span 39 = .ok (.iconst 2, 1) := by decide +kernel
theorem dX2_span_40 : decode cX2_span 40 = .ok (.iload_n 2, 1) := by decide +kernel
theorem dX2_span_41 : decode cX2_span 41 = .ok (.invokevirtual 118, 3) := by decide +kernel
theorem dX2_span_44 : decode cX2_span 44 = .ok (.pop, 1) := by decide +kernel
theorem dX2_span_45 : decode cX2_span 45 = .ok (.goto 18, 3) := by decide +kernel
theorem dX2_span_48 : decode cX2_span 48 = .ok (.aload_n 1, 1) := by decide +kernel
theorem dX2_span_49 : decode cX2_span 49 = .ok (.iconst 3, 1) := by decide +kernel
theorem dX2_span_50 : decode cX2_span 50 = .ok (.iconst 1, 1) := by decide +kernel
theorem dX2_span_51 : decode cX2_span 51 = .ok (.invokevirtual 118, 3) := by decide +kernel
theorem dX2_span_54 : decode cX2_span 54 = .ok (.pop, 1) := by decide +kernel
theorem dX2_span_55 : decode cX2_span 55 = .ok (.aload_n 1, 1) := by decide +kernel
theorem dX2_span_56 : decode cX2_span 56 = .ok (.iload_n 2, 1) := by decide +kernel
theorem dX2_span_57 : decode cX2_span 57 = .ok (.iconst 1, 1) := by decide +kernel
theorem dX2_span_58 : decode cX2_span 58 = .ok (.iadd, 1) := by decide +kernel
theorem dX2_span_59 : decode cX2_span 59 = .ok (.invokevirtual 122, 3) := by decide +kernel
theorem dX2_span_62 : decode cX2_span 62 = .ok (.pop, 1) := by decide +kernel
theorem dX2_span_63 : decode cX2_span 63 = .ok (.iconst 0, 1) := by decide +kernel
theorem dX2_span_64 : decode cX2_span 64 = .ok (.istore_n 3, 1) := by decide +kernel
theorem dX2_span_65 : decode cX2_span 65 = .ok (.iload_n 3, 1) := by decide +kernel
theorem dX2_span_66 : decode cX2_span 66 = .ok (.iload_n 2, 1) := by decide +kernel
theorem dX2_span_67 : decode cX2_span 67 = .ok (.if_icmp .ge 36, 3) := by decide +kernel
theorem dX2_span_70 : decode cX2_span 70 = .ok (.aload_n 1, 1) := by decide +kernel
theorem dX2_span_71 : decode cX2_span 71 = .ok (.aload_n 0, 1) := by decide +kernel
theorem dX2_span_72 : decode cX2_span 72 = .ok (.getfield 17, 3) := by decide +kernel
theorem dX2_span_75 : decode cX2_span 75 = .ok (.aload_n 0, 1) := by decide +kernel
theorem dX2_span_76 : decode cX2_span 76 = .ok (.getfield 30, 3) := by decide +kernel
theorem dX2_span_79 : decode cX2_span 79 = .ok (.iload_n 3, 1) := by decide +kernel
theorem dX2_span_80 : decode cX2_span 80 = .ok (.iaload, 1) := by decide +kernel
theorem dX2_span_81 : decode cX2_span 81 = .ok (.iaload, 1) := by decide +kernel
theorem dX2_span_82 : decode cX2_span 82 = .ok (.aload_n 0, 1) := by decide +kernel
theorem dX2_span_83 : decode cX2_span 83 = .ok (.getfield 21, 3) := by decide +kernel
theorem dX2_span_86 : decode cX2_span 86 = .ok (.aload_n 0, 1) := by decide +kernel
theorem dX2_span_87 : decode cX2_span 87 = .ok (.getfield 30, 3) := by decide +kernel
theorem dX2_span_90 : decode cX2_span 90 = .ok (.iload_n 3, 1) := by decide +kernel
theorem dX2_span_91 : decode cX2_span 91 = .ok (.iaload, 1) := by decide +kernel
theorem dX2_span_92 : decode cX2_span 92 = .ok (.iaload, 1) := by decide +kernel
theorem dX2_span_93 : decode cX2_span 93 = .ok (.invokevirtual 126, 3) := by decide +kernel
theorem dX2_span_96 : decode cX2_span 96 = .ok (.pop, 1) := by decide +kernel
theorem dX2_span_97 : decode cX2_span 97 = .ok (.iinc 3 1, 3) := by decide +kernel
theorem dX2_span_100 : decode cX2_span 100 = .ok (.goto (-35), 3) := by decide +kernel
theorem dX2_span_103 : decode cX2_span 103 = .ok (.iload_n 2, 1) := by decide +kernel
theorem dX2_span_104 : decode cX2_span 104 = .ok (.iconst 2, 1) := by decide +kernel
theorem dX2_span_105 : decode cX2_span 105 = .ok (.if_icmp .le 30, 3) := by decide +kernel
theorem dX2_span_108 : decode cX2_span 108 = .ok (.aload_n 1, 1) := by decide +kernel
theorem dX2_span_109 : decode cX2_span 109 = .ok (.aload_n 0, 1) := by decide +kernel
theorem dX2_span_110 : decode cX2_span 110 = .ok (.getfield 17, 3) := by decide +kernel
theorem dX2_span_113 : decode cX2_span 113 = .ok (.aload_n 0, 1) := by decide +kernel
theorem dX2_span_114 : decode cX2_span 114 = .ok (.getfield 30, 3) := by decide +kernel
theorem dX2_span_117 : decode cX2_span 117 = .ok (.iconst 0, 1) := by decide +kernel
theorem dX2_span_118 : decode cX2_span 118 = .ok (.iaload, 1) := by decide +kernel
theorem dX2_span_119 : decode cX2_span 119 = .ok (.iaload, 1) := by decide +kernel
theorem dX2_span_120 : decode cX2_span 120 = .ok (.aload_n 0, 1) := by decide +kernel
theorem dX2_span_121 : decode cX2_span 121 = .ok (.getfield 21, 3) := by decide +kernel
theorem dX2_span_124 : decode cX2_span 124 = .ok (.aload_n 0, 1) := by decide +kernel
theorem dX2_span_125 : decode cX2_span 125 = .ok (.getfield 30, 3) := by decide +kernel
theorem dX2_span_128 : decode cX2_span 128 = .ok (.iconst 0, 1) := by decide +kernel
theorem dX2_span_129 : decode cX2_span 129 = .ok (.iaload, 1) := by decide +kernel
theorem dX2_span_130 : decode cX2_span 130 = .ok (.iaload, 1) := by decide +kernel
theorem dX2_span_131 : decode cX2_span 131 = .ok (.invokevirtual 126, 3) := by decide +kernel
theorem dX2_span_134 : decode cX2_span 134 = .ok (.pop, 1) := by decide +kernel
theorem dX2_span_135 : decode cX2_span 135 = .ok (.iload_n 2, 1) := by decide +kernel
theorem dX2_span_136 : decode cX2_span 136 = .ok (.ireturn, 1) := by decide +kernel
theorem dX2_triangulate_0 : decode cX2_triangulate 0 = .ok (.aload_n 0, 1) := by decide +kernel
theorem dX2_triangulate_1 : decode cX2_triangulate 1 = .ok (.iconst 0, 1) := by decide +kernel
theorem dX2_triangulate_2 : decode cX2_triangulate 2 = .ok (.putfield 129, 3) := by decide +kernel
theorem dX2_triangulate_5 : decode cX2_triangulate 5 = .ok (.aload_n 0, 1) := by decide +kernel
theorem dX2_triangulate_6 : decode cX2_triangulate 6 = .ok (.invokevirtual 132, 3) := by decide +kernel
theorem dX2_triangulate_9 : decode cX2_triangulate 9 = .ok (.ifCond .eq 5, 3) := by decide +kernel
theorem dX2_triangulate_12 : decode cX2_triangulate 12 = .ok (.iconst 1, 1) := by decide +kernel
theorem dX2_triangulate_13 : decode cX2_triangulate 13 = .ok (.ireturn, 1) := by decide +kernel
theorem dX2_triangulate_14 : decode cX2_triangulate 14 = .ok (.aload_n 0, 1) := by decide +kernel
theorem dX2_triangulate_15 : decode cX2_triangulate 15 = .ok (.getfield 77, 3) := by decide +kernel
theorem dX2_triangulate_18 : decode cX2_triangulate 18 = .ok (.sipush 514, 3) := by decide +kernel
theorem dX2_triangulate_21 : decode cX2_triangulate 21 = .ok (.if_icmp .le 5, 3) := by decide +kernel
theorem dX2_triangulate_24 : decode cX2_triangulate 24 = .ok (.iconst 0, 1) := by decide +kernel
theorem dX2_triangulate_25 : decode cX2_triangulate 25 = .ok (.ireturn, 1) := by decide +kernel
theorem dX2_triangulate_26 : decode cX2_triangulate 26 = .ok (.aload_n 0, 1) := by decide +kernel
theorem dX2_triangulate_27 : decode cX2_triangulate 27 = .ok (.getfield 33, 3) := by decide +kernel
theorem dX2_triangulate_30 : decode cX2_triangulate 30 = .ok (.iconst 0, 1) := by decide +kernel
theorem dX2_triangulate_31 : decode cX2_triangulate 31 = .ok (.aload_n 0, 1) := by decide +kernel
theorem dX2_triangulate_32 : decode cX2_triangulate 32 = .ok (.getfield 77, 3) := by decide +kernel
theorem dX2_triangulate_35 : decode cX2_triangulate 35 = .ok (.aload_n 0, 1) := by decide +kernel
theorem dX2_triangulate_36 : decode cX2_triangulate 36 = .ok (.getfield 77, 3) := by decide +kernel
theorem dX2_triangulate_39 : decode cX2_triangulate 39 = .ok (.imul, 1) := by decide +kernel
theorem dX2_triangulate_40 : decode cX2_triangulate 40 = .ok (.bipush 64, 2) := by decide +kernel
theorem dX2_triangulate_42 : decode cX2_triangulate 42 = .ok (.idiv, 1) := by decide +kernel
theorem dX2_triangulate_43 : decode cX2_triangulate 43 = .ok (.iconst 1, 1) := by decide +kernel
theorem dX2_triangulate_44 : decode cX2_triangulate 44 = .ok (.iadd, 1) := by decide +kernel
theorem dX2_triangulate_45 : decode cX2_triangulate 45 = .ok (.lconst 0, 1) := by decide +kernel
theorem dX2_triangulate_46 : decode cX2_triangulate 46 = .ok (.invokestatic 136, 3) := by decide +kernel
theorem dX2_triangulate_49 : decode cX2_triangulate 49 = .ok (.aload_n 0, 1) := by decide +kernel
theorem dX2_triangulate_50 : decode cX2_triangulate 50 = .ok (.iconst 0, 1) := by decide +kernel
theorem dX2_triangulate_51 : decode cX2_triangulate 51 = .ok (.putfield 139, 3) := by decide +kernel
theorem dX2_triangulate_54 : decode cX2_triangulate 54 = .ok (.aload_n 0, 1) := by decide +kernel
theorem dX2_triangulate_55 : decode cX2_triangulate 55 = .ok (.iconst 0, 1) := by decide +kernel
theorem dX2_triangulate_56 : decode cX2_triangulate 56 = .ok (.aload_n 0, 1) := by decide +kernel
theorem dX2_triangulate_57 : decode cX2_triangulate 57 = .ok (.invokevirtual 142, 3) := by decide +kernel
theorem dX2_triangulate_60 : decode cX2_triangulate 60 = .ok (.invokevirtual 145, 3) := by decide +kernel
theorem dX2_triangulate_63 : decode cX2_triangulate 63 = .ok (.iconst 0, 1) := by decide +kernel
theorem dX2_triangulate_64 : decode cX2_triangulate 64 = .ok (.istore_n 1, 1) := by decide +kernel
theorem dX2_triangulate_65 : decode cX2_triangulate 65 = .ok (.aload_n 0, 1) := by decide +kernel
theorem dX2_triangulate_66 : decode cX2_triangulate 66 = .ok (.getfield 139, 3) := by decide +kernel
theorem dX2_triangulate_69 : decode cX2_triangulate 69 = .ok (.ifCond .le 72, 3) := by decide +kernel
theorem dX2_triangulate_72 : decode cX2_triangulate 72 = .ok (.iload_n 1, 1) := by decide +kernel
theorem dX2_triangulate_73 : decode cX2_triangulate 73 = .ok (.ldc 149, 2) := by decide +kernel
theorem dX2_triangulate_75 : decode cX2_triangulate 75 = .ok (.if_icmp .ge 66, 3) := by decide +kernel
theorem dX2_triangulate_78 : decode cX2_triangulate 78 = .ok (.aload_n 0, 1) := by decide +kernel
theorem dX2_triangulate_79 : decode cX2_triangulate 79 = .ok (.dup, 1) := by decide +kernel
theorem dX2_triangulate_80 : decode cX2_triangulate 80 = .ok (.getfield 139, 3) := by decide +kernel
theorem dX2_triangulate_83 : decode cX2_triangulate 83 = .ok (.iconst 1, 1) := by decide +kernel
theorem dX2_triangulate_84 : decode cX2_triangulate 84 = .ok (.isub, 1) := by decide +kernel
theorem dX2_triangulate_85 : decode cX2_triangulate 85 = .ok (.putfield 139, 3) := by decide +kernel
theorem dX2_triangulate_88 : decode cX2_triangulate 88 = .ok (.aload_n 0, 1) := by decide +kernel
theorem dX2_triangulate_89 : decode cX2_triangulate 89 = .ok (.getfield 36, 3) := by decide +kernel
theorem dX2_triangulate_92 : decode cX2_triangulate 92 = .ok (.aload_n 0, 1) := by decide +kernel
theorem dX2_triangulate_93 : decode cX2_triangulate 93 = .ok (.getfield 139, 3) := by decide +kernel
theorem dX2_triangulate_96 : decode cX2_triangulate 96 = .ok (.iaload, 1) := by decide +kernel
theorem dX2_triangulate_97 : decode cX2_triangulate 97 = .ok (.istore_n 2, 1) := by decide +kernel
theorem dX2_triangulate_98 : decode cX2_triangulate 98 = .ok (.aload_n 0, 1) := by decide +kernel
theorem dX2_triangulate_99 : decode cX2_triangulate 99 = .ok (.getfield 39, 3) := by decide +kernel
theorem dX2_triangulate_102 : decode cX2_triangulate 102 = .ok (.aload_n 0, 1) := by decide +kernel
theorem dX2_triangulate_103 : decode cX2_triangulate 103 = .ok (.getfield 139, 3) := by decide +kernel
theorem dX2_triangulate_106 : decode cX2_triangulate 106 = .ok (.iaload, 1) := by decide +kernel
theorem dX2_triangulate_107 : decode cX2_triangulate 107 = .ok (.istore_n 3, 1) := by decide +kernel
theorem dX2_triangulate_108 : decode cX2_triangulate 108 = .ok (.aload_n 0, 1) := by decide +kernel
theorem dX2_triangulate_109 : decode cX2_triangulate 109 = .ok (.iload_n 2, 1) := by decide +kernel
theorem dX2_triangulate_110 : decode cX2_triangulate 110 = .ok (.iload_n 3, 1) := by decide +kernel
theorem dX2_triangulate_111 : decode cX2_triangulate 111 = .ok (.invokevirtual 150, 3) := by decide +kernel
theorem dX2_triangulate_114 : decode cX2_triangulate 114 = .ok (.ifCond .ne 21, 3) := by decide +kernel
theorem dX2_triangulate_117 : decode cX2_triangulate 117 = .ok (.aload_n 0, 1) := by decide +kernel
theorem dX2_triangulate_118 : decode cX2_triangulate 118 = .ok (.iload_n 2, 1) := by decide +kernel
theorem dX2_triangulate_119 : decode cX2_triangulate 119 = .ok (.iload_n 3, 1) := by decide +kernel
theorem dX2_triangulate_120 : decode cX2_triangulate 120 = .ok (.invokevirtual 153, 3) := by decide +kernel
theorem dX2_triangulate_123 : decode cX2_triangulate 123 = .ok (.ifCond .eq 12, 3) := by decide +kernel
theorem dX2_triangulate_126 : decode cX2_triangulate 126 = .ok (.aload_n 0, 1) := by decide +kernel
theorem dX2_triangulate_127 : decode cX2_triangulate 127 = .ok (.invokevirtual 156, 3) := by decide +kernel
theorem dX2_triangulate_130 : decode cX2_triangulate 130 = .ok (.ifCond .ne 5, 3) := by decide +kernel
theorem dX2_triangulate_133 : decode cX2_triangulate 133 = .ok (.iconst 0, 1) := by decide +kernel
theorem dX2_triangulate_134 : decode cX2_triangulate 134 = .ok (.ireturn, 1) := by decide +kernel
theorem dX2_triangulate_135 : decode cX2_triangulate 135 = .ok (.iinc 1 1, 3) := by decide +kernel
theorem dX2_triangulate_138 : decode cX2_triangulate 138 = .ok (.goto (-73), 3) := by decide +kernel
theorem dX2_triangulate_141 : decode cX2_triangulate 141 = .ok (.aload_n 0, 1) := by decide +kernel
theorem dX2_triangulate_142 : decode cX2_triangulate 142 = .ok (.getfield 45, 3) := by decide +kernel
theorem dX2_triangulate_145 : decode cX2_triangulate 145 = .ok (.aload_n 0, 1) := by decide +kernel
theorem dX2_triangulate_146 : decode cX2_triangulate 146 = .ok (.getfield 129, 3) := by decide +kernel
theorem dX2_triangulate_149 : decode cX2_triangulate 149 = .ok (.invokestatic 69, 3) := by decide +kernel
theorem dX2_triangulate_152 : decode cX2_triangulate 152 = .ok (.iconst 1, 1) := by decide +kernel
theorem dX2_triangulate_153 : decode cX2_triangulate 153 = .ok (.ireturn, 1) := by decide +kernel
theorem dX2_areOnOneLine_0 : decode cX2_areOnOneLine 0 = .ok (.iconst 2, 1) := by decide +kernel
theorem dX2_areOnOneLine_1 : decode cX2_areOnOneLine 1 = .ok (.istore_n 1, 1) := by decide +kernel
theorem dX2_areOnOneLine_2 : decode cX2_areOnOneLine 2 = .ok (.iload_n 1, 1) := by decide +kernel
theorem dX2_areOnOneLine_3 : decode cX2_areOnOneLine 3 = .ok (.aload_n 0, 1) := by decide +kernel
theorem dX2_areOnOneLine_4 : decode cX2_areOnOneLine 4 = .ok (.getfield 77, 3) := by decide +kernel
theorem dX2_areOnOneLine_7 : decode cX2_areOnOneLine 7 = .ok (.if_icmp .ge 21, 3) := by decide +kernel
theorem dX2_areOnOneLine_10 : decode cX2_areOnOneLine 10 = .ok (.aload_n 0, 1) := by decide +kernel
theorem dX2_areOnOneLine_11 : decode cX2_areOnOneLine 11 = .ok (.iconst 0, 1) := by decide +kernel
theorem dX2_areOnOneLine_12 : decode cX2_areOnOneLine 12 = .ok (.iconst 1, 1) := by decide +kernel
theorem dX2_areOnOneLine_13 : decode cX2_areOnOneLine 13 = .ok (.iload_n 1, 1) := by decide +kernel
theorem dX2_areOnOneLine_14 : decode cX2_areOnOneLine 14 = .ok (.invokevirtual 108, 3) := by decide +kernel
theorem dX2_areOnOneLine_17 : decode cX2_areOnOneLine 17 = .ok (.ifCond .eq 5, 3) := by decide +kernel
theorem dX2_areOnOneLine_20 : decode cX2_areOnOneLine 20 = .ok (.iconst 0, 1) := by decide +kernel
theorem dX2_areOnOneLine_21 : decode cX2_areOnOneLine 21 = .ok (.ireturn, 1) := by decide +kernel
theorem dX2_areOnOneLine_22 : decode cX2_areOnOneLine 22 = .ok (.iinc 1 1, 3) := by decide +kernel
theorem dX2_areOnOneLine_25 : decode cX2_areOnOneLine 25 = .ok (.goto (-23), 3) := by decide +kernel
theorem dX2_areOnOneLine_28 : decode cX2_areOnOneLine 28 = .ok (.iconst 1, 1) := by decide +kernel
theorem dX2_areOnOneLine_29 : decode cX2_areOnOneLine 29 = .ok (.ireturn, 1) := by decide +kernel
theorem dX2_firstNeighbour_0 : decode cX2_firstNeighbour 0 = .ok (.iconst 1, 1) := by decide +kernel
theorem dX2_firstNeighbour_1 : decode cX2_firstNeighbour 1 = .ok (.istore_n 1, 1) := by decide +kernel
theorem dX2_firstNeighbour_2 : decode cX2_firstNeighbour 2 = .ok (.iconst 2, 1) := by decide +kernel
theorem dX2_firstNeighbour_3 : decode cX2_firstNeighbour 3 = .ok (.istore_n 2, 1) := by decide +kernel
theorem dX2_firstNeighbour_4 : decode cX2_firstNeighbour 4 = .ok (.iload_n 2, 1) := by decide +kernel
theorem dX2_firstNeighbour_5 : decode cX2_firstNeighbour 5 = .ok (.aload_n 0, 1) := by decide +kernel
theorem dX2_firstNeighbour_6 : decode cX2_firstNeighbour 6 = .ok (.getfield 77, 3) := by decide +kernel
theorem dX2_firstNeighbour_9 : decode cX2_firstNeighbour 9 = .ok (.if_icmp .ge 21, 3) := by decide +kernel
theorem dX2_firstNeighbour_12 : decode cX2_firstNeighbour 12 = .ok (.aload_n 0, 1) := by decide +kernel
theorem dX2_firstNeighbour_13 : decode cX2_firstNeighbour 13 = .ok (.iconst 0, 1) := by decide +kernel
theorem dX2_firstNeighbour_14 : decode cX2_firstNeighbour 14 = .ok (.iload_n 1, 1) := by decide +kernel
theorem dX2_firstNeighbour_15 : decode cX2_firstNeighbour 15 = .ok (.iload_n 2, 1) := by decide +kernel
theorem dX2_firstNeighbour_16 : decode cX2_firstNeighbour 16 = .ok (.invokevirtual 108, 3) := by decide +kernel
theorem dX2_firstNeighbour_19 : decode cX2_firstNeighbour 19 = .ok (.ifCond .ge 5, 3) := by decide +kernel
theorem dX2_firstNeighbour_22 : decode cX2_firstNeighbour 22 = .ok (.iload_n 2, 1) := by decide +kernel
theorem dX2_firstNeighbour_23 : decode cX2_firstNeighbour 23 = .ok (.istore_n 1, 1) := by decide +kernel
theorem dX2_firstNeighbour_24 : decode cX2_firstNeighbour 24 = .ok (.iinc 2 1, 3) := by decide +kernel
theorem dX2_firstNeighbour_27 : decode cX2_firstNeighbour 27 = .ok (.goto (-23), 3) := by decide +kernel
theorem dX2_firstNeighbour_30 : decode cX2_firstNeighbour 30 = .ok (.iload_n 1, 1) := by decide +kernel
theorem dX2_firstNeighbour_31 : decode cX2_firstNeighbour 31 = .ok (.ireturn, 1) := by decide +kernel
theorem dX2_pushWay_0 : decode cX2_pushWay 0 = .ok (.aload_n 0, 1) := by decide +kernel
theorem dX2_pushWay_1 : decode cX2_pushWay 1 = .ok (.getfield 139, 3) := by decide +kernel
theorem dX2_pushWay_4 : decode cX2_pushWay 4 = .ok (.aload_n 0, 1) := by decide +kernel
theorem dX2_pushWay_5 : decode cX2_pushWay 5 = .ok (.getfield 36, 3) := by decide +kernel
theorem dX2_pushWay_8 : decode cX2_pushWay 8 = .ok (.arraylength, 1) := by decide +kernel
theorem dX2_pushWay_9 : decode cX2_pushWay 9 = .ok (.if_icmp .ge 42, 3) := by decide +kernel
theorem dX2_pushWay_12 : decode cX2_pushWay 12 = .ok (.aload_n 0, 1) := by decide +kernel
theorem dX2_pushWay_13 : decode cX2_pushWay 13 = .ok (.iload_n 1, 1) := by decide +kernel
theorem dX2_pushWay_14 : decode cX2_pushWay 14 = .ok (.iload_n 2, 1) := by decide +kernel
theorem dX2_pushWay_15 : decode cX2_pushWay 15 = .ok (.invokevirtual 150, 3) := by decide +kernel
theorem dX2_pushWay_18 : decode cX2_pushWay 18 = .ok (.ifCond .ne 33, 3) := by decide +kernel
theorem dX2_pushWay_21 : decode cX2_pushWay 21 = .ok (.aload_n 0, 1) := by decide +kernel
theorem dX2_pushWay_22 : decode cX2_pushWay 22 = .ok (.getfield 36, 3) := by decide +kernel
theorem dX2_pushWay_25 : decode cX2_pushWay 25 = .ok (.aload_n 0, 1) := by decide +kernel
theorem dX2_pushWay_26 : decode cX2_pushWay 26 = .ok (.getfield 139, 3) := by decide +kernel
theorem dX2_pushWay_29 : decode cX2_pushWay 29 = .ok (.iload_n 1, 1) := by decide +kernel
theorem dX2_pushWay_30 : decode cX2_pushWay 30 = .ok (.iastore, 1) := by decide +kernel
theorem dX2_pushWay_31 : decode cX2_pushWay 31 = .ok (.aload_n 0, 1) := by decide +kernel
theorem dX2_pushWay_32 : decode cX2_pushWay 32 = .ok (.getfield 39, 3) := by decide +kernel
theorem dX2_pushWay_35 : decode cX2_pushWay 35 = .ok (.aload_n 0, 1) := by decide +kernel
theorem dX2_pushWay_36 : decode cX2_pushWay 36 = .ok (.getfield 139, 3) := by decide +kernel
theorem dX2_pushWay_39 : decode cX2_pushWay 39 = .ok (.iload_n 2, 1) := by decide +kernel
theorem dX2_pushWay_40 : decode cX2_pushWay 40 = .ok (.iastore, 1) := by decide +kernel
theorem dX2_pushWay_41 : decode cX2_pushWay 41 = .ok (.aload_n 0, 1) := by decide +kernel
theorem dX2_pushWay_42 : decode cX2_pushWay 42 = .ok (.dup, 1) := by decide +kernel
theorem dX2_pushWay_43 : decode cX2_pushWay 43 = .ok (.getfield 139, 3) := by decide +kernel
theorem dX2_pushWay_46 : decode cX2_pushWay 46 = .ok (.iconst 1, 1) := by decide +kernel
theorem dX2_pushWay_47 : decode cX2_pushWay 47 = .ok (.iadd, 1) := by decide +kernel
theorem dX2_pushWay_48 : decode cX2_pushWay 48 = .ok (.putfield 139, 3) := by decide +kernel
theorem dX2_pushWay_51 : decode cX2_pushWay 51 = .ok (.return_, 1) := by decide +kernel
theorem dX2_isTold_0 : decode cX2_isTold 0 = .ok (.iload_n 1, 1) := by decide +kernel
theorem dX2_isTold_1 : decode cX2_isTold 1 = .ok (.aload_n 0, 1) := by decide +kernel
theorem dX2_isTold_2 : decode cX2_isTold 2 = .ok (.getfield 77, 3) := by decide +kernel
theorem dX2_isTold_5 : decode cX2_isTold 5 = .ok (.imul, 1) := by decide +kernel
theorem dX2_isTold_6 : decode cX2_isTold 6 = .ok (.iload_n 2, 1) := by decide +kernel
theorem dX2_isTold_7 : decode cX2_isTold 7 = .ok (.iadd, 1) := by decide +kernel
theorem dX2_isTold_8 : decode cX2_isTold 8 = .ok (.istore_n 3, 1) := by decide +kernel
theorem dX2_isTold_9 : decode cX2_isTold 9 = .ok (.aload_n 0, 1) := by decide +kernel
theorem dX2_isTold_10 : decode cX2_isTold 10 = .ok (.getfield 33, 3) := by decide +kernel
theorem dX2_isTold_13 : decode cX2_isTold 13 = .ok (.iload_n 3, 1) := by decide +kernel
theorem dX2_isTold_14 : decode cX2_isTold 14 = .ok (.bipush 6, 2) := by decide +kernel
theorem dX2_isTold_16 : decode cX2_isTold 16 = .ok (.ishr, 1) := by decide +kernel
theorem dX2_isTold_17 : decode cX2_isTold 17 = .ok (.laload, 1) := by decide +kernel
theorem dX2_isTold_18 : decode cX2_isTold 18 = .ok (.iload_n 3, 1) := by decide +kernel
theorem dX2_isTold_19 : decode cX2_isTold 19 = .ok (.bipush 63, 2) := by decide +kernel
theorem dX2_isTold_21 : decode cX2_isTold 21 = .ok (.iand, 1) := by decide +kernel
theorem dX2_isTold_22 : decode cX2_isTold 22 = .ok (.lshr, 1) := by decide +kernel
theorem dX2_isTold_23 : decode cX2_isTold 23 = .ok (.lconst 1, 1) := by decide +kernel
theorem dX2_isTold_24 : decode cX2_isTold 24 = .ok (.land, 1) := by decide +kernel
theorem dX2_isTold_25 : decode cX2_isTold 25 = .ok (.lconst 0, 1) := by decide +kernel
theorem dX2_isTold_26 : decode cX2_isTold 26 = .ok (.lcmp, 1) := by decide +kernel
theorem dX2_isTold_27 : decode cX2_isTold 27 = .ok (.ifCond .eq 7, 3) := by decide +kernel
theorem dX2_isTold_30 : decode cX2_isTold 30 = .ok (.iconst 1, 1) := by decide +kernel
theorem dX2_isTold_31 : decode cX2_isTold 31 = .ok (.goto 4, 3) := by decide +kernel
theorem dX2_isTold_34 : decode cX2_isTold 34 = .ok (.iconst 0, 1) := by decide +kernel
theorem dX2_isTold_35 : decode cX2_isTold 35 = .ok (.ireturn, 1) := by decide +kernel
theorem dX2_setTold_0 : decode cX2_setTold 0 = .ok (.iload_n 1, 1) := by decide +kernel
theorem dX2_setTold_1 : decode cX2_setTold 1 = .ok (.aload_n 0, 1) := by decide +kernel
theorem dX2_setTold_2 : decode cX2_setTold 2 = .ok (.getfield 77, 3) := by decide +kernel
theorem dX2_setTold_5 : decode cX2_setTold 5 = .ok (.imul, 1) := by decide +kernel
theorem dX2_setTold_6 : decode cX2_setTold 6 = .ok (.iload_n 2, 1) := by decide +kernel
theorem dX2_setTold_7 : decode cX2_setTold 7 = .ok (.iadd, 1) := by decide +kernel
theorem dX2_setTold_8 : decode cX2_setTold 8 = .ok (.istore_n 3, 1) := by decide +kernel
theorem dX2_setTold_9 : decode cX2_setTold 9 = .ok (.aload_n 0, 1) := by decide +kernel
theorem dX2_setTold_10 : decode cX2_setTold 10 = .ok (.getfield 33, 3) := by decide +kernel
theorem dX2_setTold_13 : decode cX2_setTold 13 = .ok (.iload_n 3, 1) := by decide +kernel
theorem dX2_setTold_14 : decode cX2_setTold 14 = .ok (.bipush 6, 2) := by decide +kernel
theorem dX2_setTold_16 : decode cX2_setTold 16 = .ok (.ishr, 1) := by decide +kernel
theorem dX2_setTold_17 : decode cX2_setTold 17 = .ok (.dup2, 1) := by decide +kernel
theorem dX2_setTold_18 : decode cX2_setTold 18 = .ok (.laload, 1) := by decide +kernel
theorem dX2_setTold_19 : decode cX2_setTold 19 = .ok (.lconst 1, 1) := by decide +kernel
theorem dX2_setTold_20 : decode cX2_setTold 20 = .ok (.iload_n 3, 1) := by decide +kernel
theorem dX2_setTold_21 : decode cX2_setTold 21 = .ok (.bipush 63, 2) := by decide +kernel
theorem dX2_setTold_23 : decode cX2_setTold 23 = .ok (.iand, 1) := by decide +kernel
theorem dX2_setTold_24 : decode cX2_setTold 24 = .ok (.lshl, 1) := by decide +kernel
theorem dX2_setTold_25 : decode cX2_setTold 25 = .ok (.lor, 1) := by decide +kernel
theorem dX2_setTold_26 : decode cX2_setTold 26 = .ok (.lastore, 1) := by decide +kernel
theorem dX2_setTold_27 : decode cX2_setTold 27 = .ok (.return_, 1) := by decide +kernel
theorem dX2_findRound_0 : decode cX2_findRound 0 = .ok (.aload_n 0, 1) := by decide +kernel
theorem dX2_findRound_1 : decode cX2_findRound 1 = .ok (.getfield 42, 3) := by decide +kernel
theorem dX2_findRound_4 : decode cX2_findRound 4 = .ok (.iconst 0, 1) := by decide +kernel
theorem dX2_findRound_5 : decode cX2_findRound 5 = .ok (.iload_n 1, 1) := by decide +kernel
theorem dX2_findRound_6 : decode cX2_findRound 6 = .ok (.iastore, 1) := by decide +kernel
theorem dX2_findRound_7 : decode cX2_findRound 7 = .ok (.aload_n 0, 1) := by decide +kernel
theorem dX2_findRound_8 : decode cX2_findRound 8 = .ok (.getfield 42, 3) := by decide +kernel
theorem dX2_findRound_11 : decode cX2_findRound 11 = .ok (.iconst 1, 1) := by decide +kernel
theorem dX2_findRound_12 : decode cX2_findRound 12 = .ok (.iload_n 2, 1) := by decide +kernel
theorem dX2_findRound_13 : decode cX2_findRound 13 = .ok (.iastore, 1) := by decide +kernel
theorem dX2_findRound_14 : decode cX2_findRound 14 = .ok (.aload_n 0, 1) := by decide +kernel
theorem dX2_findRound_15 : decode cX2_findRound 15 = .ok (.iconst 2, 1) := by decide +kernel
theorem dX2_findRound_16 : decode cX2_findRound 16 = .ok (.putfield 159, 3) := by decide +kernel
theorem dX2_findRound_19 : decode cX2_findRound 19 = .ok (.iconst 0, 1) := by decide +kernel
theorem dX2_findRound_20 : decode cX2_findRound 20 = .ok (.istore_n 3, 1) := by decide +kernel
theorem dX2_findRound_21 : decode cX2_findRound 21 = .ok (.iload_n 3, 1) := by decide +kernel
theorem dX2_findRound_22 : decode cX2_findRound 22 = .ok (.aload_n 0, 1) := by decide +kernel
theorem dX2_findRound_23 : decode cX2_findRound 23 = .ok (.getfield 77, 3) := by decide +kernel
theorem dX2_findRound_26 : decode cX2_findRound 26 = .ok (.if_icmp .ge 79, 3) := by decide +kernel
theorem dX2_findRound_29 : decode cX2_findRound 29 = .ok (.aload_n 0, 1) := by decide +kernel
theorem dX2_findRound_30 : decode cX2_findRound 30 = .ok (.iload_n 1, 1) := by decide +kernel
theorem dX2_findRound_31 : decode cX2_findRound 31 = .ok (.iload_n 2, 1) := by decide +kernel
theorem dX2_findRound_32 : decode cX2_findRound 32 = .ok (.iload_n 3, 1) := by decide +kernel
theorem dX2_findRound_33 : decode cX2_findRound 33 = .ok (.invokevirtual 108, 3) := by decide +kernel
theorem dX2_findRound_36 : decode cX2_findRound 36 = .ok (.ifCond .gt 6, 3) := by decide +kernel
theorem dX2_findRound_39 : decode cX2_findRound 39 = .ok (.goto 60, 3) := by decide +kernel
theorem dX2_findRound_42 : decode cX2_findRound 42 = .ok (.aload_n 0, 1) := by decide +kernel
theorem dX2_findRound_43 : decode cX2_findRound 43 = .ok (.getfield 159, 3) := by decide +kernel
theorem dX2_findRound_46 : decode cX2_findRound 46 = .ok (.iconst 2, 1) := by decide +kernel
theorem dX2_findRound_47 : decode cX2_findRound 47 = .ok (.if_icmp .ne 7, 3) := by decide +kernel
theorem dX2_findRound_50 : decode cX2_findRound 50 = .ok (.iconst 1, 1) := by decide +kernel
theorem dX2_findRound_51 : decode cX2_findRound 51 = .ok (.goto 16, 3) := by decide +kernel
theorem dX2_findRound_54 : decode cX2_findRound 54 = .ok (.aload_n 0, 1) := by decide +kernel
theorem dX2_findRound_55 : decode cX2_findRound 55 = .ok (.iload_n 1, 1) := by decide +kernel
theorem dX2_findRound_56 : decode cX2_findRound 56 = .ok (.iload_n 2, 1) := by decide +kernel
theorem dX2_findRound_57 : decode cX2_findRound 57 = .ok (.aload_n 0, 1) := by decide +kernel
theorem dX2_findRound_58 : decode cX2_findRound 58 = .ok (.getfield 42, 3) := by decide +kernel
theorem dX2_findRound_61 : decode cX2_findRound 61 = .ok (.iconst 2, 1) := by decide +kernel
theorem dX2_findRound_62 : decode cX2_findRound 62 = .ok (.iaload, 1) := by decide +kernel
theorem dX2_findRound_63 : decode cX2_findRound 63 = .ok (.iload_n 3, 1) := by decide +kernel
theorem dX2_findRound_64 : decode cX2_findRound 64 = .ok (.invokevirtual 162, 3) := by decide +kernel
theorem dX2_findRound_67 : decode cX2_findRound 67 = .ok (.istore 4, 2) := by decide +kernel
theorem dX2_findRound_69 : decode cX2_findRound 69 = .ok (.iload 4, 2) := by decide +kernel
theorem dX2_findRound_71 : decode cX2_findRound 71 = .ok (.ifCond .le 8, 3) := by decide +kernel
theorem dX2_findRound_74 : decode cX2_findRound 74 = .ok (.aload_n 0, 1) := by decide +kernel
theorem dX2_findRound_75 : decode cX2_findRound 75 = .ok (.iconst 2, 1) := by decide +kernel
theorem dX2_findRound_76 : decode cX2_findRound 76 = .ok (.putfield 159, 3) := by decide +kernel
theorem dX2_findRound_79 : decode cX2_findRound 79 = .ok (.iload 4, 2) := by decide +kernel
theorem dX2_findRound_81 : decode cX2_findRound 81 = .ok (.ifCond .lt 18, 3) := by decide +kernel
theorem dX2_findRound_84 : decode cX2_findRound 84 = .ok (.aload_n 0, 1) := by decide +kernel
theorem dX2_findRound_85 : decode cX2_findRound 85 = .ok (.getfield 159, 3) := by decide +kernel
theorem dX2_findRound_88 : decode cX2_findRound 88 = .ok (.sipush 514, 3) := by decide +kernel
theorem dX2_findRound_91 : decode cX2_findRound 91 = .ok (.if_icmp .ge 8, 3) := by decide +kernel
theorem dX2_findRound_94 : decode cX2_findRound 94 = .ok (.aload_n 0, 1) := by decide +kernel
theorem dX2_findRound_95 : decode cX2_findRound 95 = .ok (.iload_n 3, 1) := by decide +kernel
theorem dX2_findRound_96 : decode cX2_findRound 96 = .ok (.invokevirtual 166, 3) := by decide +kernel
theorem dX2_findRound_99 : decode cX2_findRound 99 = .ok (.iinc 3 1, 3) := by decide +kernel
theorem dX2_findRound_102 : decode cX2_findRound 102 = .ok (.goto (-81), 3) := by decide +kernel
theorem dX2_findRound_105 : decode cX2_findRound 105 = .ok (.aload_n 0, 1) := by decide +kernel
theorem dX2_findRound_106 : decode cX2_findRound 106 = .ok (.getfield 159, 3) := by decide +kernel
theorem dX2_findRound_109 : decode cX2_findRound 109 = .ok (.iconst 2, 1) := by decide +kernel
theorem dX2_findRound_110 : decode cX2_findRound 110 = .ok (.if_icmp .le 7, 3) := by decide +kernel
theorem dX2_findRound_113 : decode cX2_findRound 113 = .ok (.iconst 1, 1) := by decide +kernel
theorem dX2_findRound_114 : decode cX2_findRound 114 = .ok (.goto 4, 3) := by decide +kernel
theorem dX2_findRound_117 : decode cX2_findRound 117 = .ok (.iconst 0, 1) := by decide +kernel
theorem dX2_findRound_118 : decode cX2_findRound 118 = .ok (.ireturn, 1) := by decide +kernel
theorem dX2_insertInRound_0 : decode cX2_insertInRound 0 = .ok (.aload_n 0, 1) := by decide +kernel
theorem dX2_insertInRound_1 : decode cX2_insertInRound 1 = .ok (.getfield 159, 3) := by decide +kernel
theorem dX2_insertInRound_4 : decode cX2_insertInRound 4 = .ok (.istore_n 2, 1) := by decide +kernel
theorem dX2_insertInRound_5 : decode cX2_insertInRound 5 = .ok (.iload_n 2, 1) := by decide +kernel
theorem dX2_insertInRound_6 : decode cX2_insertInRound 6 = .ok (.iconst 2, 1) := by decide +kernel
theorem dX2_insertInRound_7 : decode cX2_insertInRound 7 = .ok (.if_icmp .le 45, 3) := by decide +kernel
theorem dX2_insertInRound_10 : decode cX2_insertInRound 10 = .ok (.aload_n 0, 1) := by decide +kernel
theorem dX2_insertInRound_11 : decode cX2_insertInRound 11 = .ok (.aload_n 0, 1) := by decide +kernel
theorem dX2_insertInRound_12 : decode cX2_insertInRound 12 = .ok (.getfield 42, 3) := by decide +kernel
theorem dX2_insertInRound_15 : decode cX2_insertInRound 15 = .ok (.iconst 0, 1) := by decide +kernel
theorem dX2_insertInRound_16 : decode cX2_insertInRound 16 = .ok (.iaload, 1) := by decide +kernel
theorem dX2_insertInRound_17 : decode cX2_insertInRound 17 = .ok (.aload_n 0, 1) := by decide +kernel
theorem dX2_insertInRound_18 : decode cX2_insertInRound 18 = .ok (.getfield 42, 3) := by decide +kernel
theorem dX2_insertInRound_21 : decode cX2_insertInRound 21 = .ok (.iload_n 2, 1) := by decide +kernel
theorem dX2_insertInRound_22 : decode cX2_insertInRound 22 = .ok (.iconst 1, 1) := by decide +kernel
theorem dX2_insertInRound_23 : decode cX2_insertInRound 23 = .ok (.isub, 1) := by decide +kernel
theorem dX2_insertInRound_24 : decode cX2_insertInRound 24 = .ok (.iaload, 1) := by decide +kernel
theorem dX2_insertInRound_25 : decode cX2_insertInRound 25 = .ok (.iload_n 1, 1) := by decide +kernel
theorem dX2_insertInRound_26 : decode cX2_insertInRound 26 = .ok (.invokevirtual 108, 3) := by decide +kernel
theorem dX2_insertInRound_29 : decode cX2_insertInRound 29 = .ok (.ifCond .ge 23, 3) := by decide +kernel
theorem dX2_insertInRound_32 : decode cX2_insertInRound 32 = .ok (.aload_n 0, 1) := by decide +kernel
theorem dX2_insertInRound_33 : decode cX2_insertInRound 33 = .ok (.getfield 42, 3) := by decide +kernel
theorem dX2_insertInRound_36 : decode cX2_insertInRound 36 = .ok (.iload_n 2, 1) := by decide +kernel
theorem dX2_insertInRound_37 : decode cX2_insertInRound 37 = .ok (.aload_n 0, 1) := by decide +kernel
theorem dX2_insertInRound_38 : decode cX2_insertInRound 38 = .ok (.getfield 42, 3) := by decide +kernel
theorem dX2_insertInRound_41 : decode cX2_insertInRound 41 = .ok (.iload_n 2, 1) := by decide +kernel
theorem dX2_insertInRound_42 : decode cX2_insertInRound 42 = .ok (.iconst 1, 1) := by decide +kernel
theorem dX2_insertInRound_43 : decode cX2_insertInRound 43 = .ok (.isub, 1) := by decide +kernel
theorem dX2_insertInRound_44 : decode cX2_insertInRound 44 = .ok (.iaload, 1) := by decide +kernel
theorem dX2_insertInRound_45 : decode cX2_insertInRound 45 = .ok (.iastore, 1) := by decide +kernel
theorem dX2_insertInRound_46 : decode cX2_insertInRound 46 = .ok (.iinc 2 (-1), 3) := by decide +kernel
theorem dX2_insertInRound_49 : decode cX2_insertInRound 49 = .ok (.goto (-44), 3) := by decide +kernel
theorem dX2_insertInRound_52 : decode cX2_insertInRound 52 = .ok (.aload_n 0, 1) := by decide +kernel
theorem dX2_insertInRound_53 : decode cX2_insertInRound 53 = .ok (.getfield 42, 3) := by decide +kernel
theorem dX2_insertInRound_56 : decode cX2_insertInRound 56 = .ok (.iload_n 2, 1) := by decide +kernel
theorem dX2_insertInRound_57 : decode cX2_insertInRound 57 = .ok (.iload_n 1, 1) := by decide +kernel
theorem dX2_insertInRound_58 : decode cX2_insertInRound 58 = .ok (.iastore, 1) := by decide +kernel
theorem dX2_insertInRound_59 : decode cX2_insertInRound 59 = .ok (.aload_n 0, 1) := by decide +kernel
theorem dX2_insertInRound_60 : decode cX2_insertInRound 60 = .ok (.dup, 1) := by decide +kernel
theorem dX2_insertInRound_61 : decode cX2_insertInRound 61 = .ok (.getfield 159, 3) := by decide +kernel
theorem dX2_insertInRound_64 : decode cX2_insertInRound 64 = .ok (.iconst 1, 1) := by decide +kernel
theorem dX2_insertInRound_65 : decode cX2_insertInRound 65 = .ok (.iadd, 1) := by decide +kernel
theorem dX2_insertInRound_66 : decode cX2_insertInRound 66 = .ok (.putfield 159, 3) := by decide +kernel
theorem dX2_insertInRound_69 : decode cX2_insertInRound 69 = .ok (.return_, 1) := by decide +kernel
theorem dX2_circleSign_0 : decode cX2_circleSign 0 = .ok (.aload_n 0, 1) := by decide +kernel
theorem dX2_circleSign_1 : decode cX2_circleSign 1 = .ok (.getfield 17, 3) := by decide +kernel
theorem dX2_circleSign_4 : decode cX2_circleSign 4 = .ok (.iload_n 1, 1) := by decide +kernel
theorem dX2_circleSign_5 : decode cX2_circleSign 5 = .ok (.iaload, 1) := by decide +kernel
theorem dX2_circleSign_6 : decode cX2_circleSign 6 = .ok (.i2l, 1) := by decide +kernel
theorem dX2_circleSign_7 : decode cX2_circleSign 7 = .ok (.aload_n 0, 1) := by decide +kernel
theorem dX2_circleSign_8 : decode cX2_circleSign 8 = .ok (.getfield 17, 3) := by decide +kernel
theorem dX2_circleSign_11 : decode cX2_circleSign 11 = .ok (.iload 4, 2) := by decide +kernel
theorem dX2_circleSign_13 : decode cX2_circleSign 13 = .ok (.iaload, 1) := by decide +kernel
theorem dX2_circleSign_14 : decode cX2_circleSign 14 = .ok (.i2l, 1) := by decide +kernel
theorem dX2_circleSign_15 : decode cX2_circleSign 15 = .ok (.lsub, 1) := by decide +kernel
theorem dX2_circleSign_16 : decode cX2_circleSign 16 = .ok (.lstore 5, 2) := by decide +kernel
theorem dX2_circleSign_18 : decode cX2_circleSign 18 = .ok (.aload_n 0, 1) := by decide +kernel
theorem dX2_circleSign_19 : decode cX2_circleSign 19 = .ok (.getfield 21, 3) := by decide +kernel
theorem dX2_circleSign_22 : decode cX2_circleSign 22 = .ok (.iload_n 1, 1) := by decide +kernel
theorem dX2_circleSign_23 : decode cX2_circleSign 23 = .ok (.iaload, 1) := by decide +kernel
theorem dX2_circleSign_24 : decode cX2_circleSign 24 = .ok (.i2l, 1) := by decide +kernel
theorem dX2_circleSign_25 : decode cX2_circleSign 25 = .ok (.aload_n 0, 1) := by decide +kernel
theorem dX2_circleSign_26 : decode cX2_circleSign 26 = .ok (.getfield 21, 3) := by decide +kernel
theorem dX2_circleSign_29 : decode cX2_circleSign 29 = .ok (.iload 4, 2) := by decide +kernel
theorem dX2_circleSign_31 : decode cX2_circleSign 31 = .ok (.iaload, 1) := by decide +kernel
theorem dX2_circleSign_32 : decode cX2_circleSign 32 = .ok (.i2l, 1) := by decide +kernel
theorem dX2_circleSign_33 : decode cX2_circleSign 33 = .ok (.lsub, 1) := by decide +kernel
theorem dX2_circleSign_34 : decode cX2_circleSign 34 = .ok (.lstore 7, 2) := by decide +kernel
theorem dX2_circleSign_36 : decode cX2_circleSign 36 = .ok (.aload_n 0, 1) := by decide +kernel
theorem dX2_circleSign_37 : decode cX2_circleSign 37 = .ok (.getfield 17, 3) := by decide +kernel
theorem dX2_circleSign_40 : decode cX2_circleSign 40 = .ok (.iload_n 2, 1) := by decide +kernel
theorem dX2_circleSign_41 : decode cX2_circleSign 41 = .ok (.iaload, 1) := by decide +kernel
theorem dX2_circleSign_42 : decode cX2_circleSign 42 = .ok (.i2l, 1) := by decide +kernel
theorem dX2_circleSign_43 : decode cX2_circleSign 43 = .ok (.aload_n 0, 1) := by decide +kernel
theorem dX2_circleSign_44 : decode cX2_circleSign 44 = .ok (.getfield 17, 3) := by decide +kernel
theorem dX2_circleSign_47 : decode cX2_circleSign 47 = .ok (.iload 4, 2) := by decide +kernel
theorem dX2_circleSign_49 : decode cX2_circleSign 49 = .ok (.iaload, 1) := by decide +kernel
theorem dX2_circleSign_50 : decode cX2_circleSign 50 = .ok (.i2l, 1) := by decide +kernel
theorem dX2_circleSign_51 : decode cX2_circleSign 51 = .ok (.lsub, 1) := by decide +kernel
theorem dX2_circleSign_52 : decode cX2_circleSign 52 = .ok (.lstore 9, 2) := by decide +kernel
theorem dX2_circleSign_54 : decode cX2_circleSign 54 = .ok (.aload_n 0, 1) := by decide +kernel
theorem dX2_circleSign_55 : decode cX2_circleSign 55 = .ok (.getfield 21, 3) := by decide +kernel
theorem dX2_circleSign_58 : decode cX2_circleSign 58 = .ok (.iload_n 2, 1) := by decide +kernel
theorem dX2_circleSign_59 : decode cX2_circleSign 59 = .ok (.iaload, 1) := by decide +kernel
theorem dX2_circleSign_60 : decode cX2_circleSign 60 = .ok (.i2l, 1) := by decide +kernel
theorem dX2_circleSign_61 : decode cX2_circleSign 61 = .ok (.aload_n 0, 1) := by decide +kernel
theorem dX2_circleSign_62 : decode cX2_circleSign 62 = .ok (.getfield 21, 3) := by decide +kernel
theorem dX2_circleSign_65 : decode cX2_circleSign 65 = .ok (.iload 4, 2) := by decide +kernel
theorem dX2_circleSign_67 : decode cX2_circleSign 67 = .ok (.iaload, 1) := by decide +kernel
theorem dX2_circleSign_68 : decode cX2_circleSign 68 = .ok (.i2l, 1) := by decide +kernel
theorem dX2_circleSign_69 : decode cX2_circleSign 69 = .ok (.lsub, 1) := by decide +kernel
theorem dX2_circleSign_70 : decode cX2_circleSign 70 = .ok (.lstore 11, 2) := by decide +kernel
theorem dX2_circleSign_72 : decode cX2_circleSign 72 = .ok (.aload_n 0, 1) := by decide +kernel
theorem dX2_circleSign_73 : decode cX2_circleSign 73 = .ok (.getfield 17, 3) := by decide +kernel
theorem dX2_circleSign_76 : decode cX2_circleSign 76 = .ok (.iload_n 3, 1) := by decide +kernel
theorem dX2_circleSign_77 : decode cX2_circleSign 77 = .ok (.iaload, 1) := by decide +kernel
theorem dX2_circleSign_78 : decode cX2_circleSign 78 = .ok (.i2l, 1) := by decide +kernel
theorem dX2_circleSign_79 : decode cX2_circleSign 79 = .ok (.aload_n 0, 1) := by decide +kernel
theorem dX2_circleSign_80 : decode cX2_circleSign 80 = .ok (.getfield 17, 3) := by decide +kernel
theorem dX2_circleSign_83 : decode cX2_circleSign 83 = .ok (.iload 4, 2) := by decide +kernel
theorem dX2_circleSign_85 : decode cX2_circleSign 85 = .ok (.iaload, 1) := by decide +kernel
theorem dX2_circleSign_86 : decode cX2_circleSign 86 = .ok (.i2l, 1) := by decide +kernel
theorem dX2_circleSign_87 : decode cX2_circleSign 87 = .ok (.lsub, 1) := by decide +kernel
theorem dX2_circleSign_88 : decode cX2_circleSign 88 = .ok (.lstore 13, 2) := by decide +kernel
theorem dX2_circleSign_90 : decode cX2_circleSign 90 = .ok (.aload_n 0, 1) := by decide +kernel
theorem dX2_circleSign_91 : decode cX2_circleSign 91 = .ok (.getfield 21, 3) := by decide +kernel
theorem dX2_circleSign_94 : decode cX2_circleSign 94 = .ok (.iload_n 3, 1) := by decide +kernel
theorem dX2_circleSign_95 : decode cX2_circleSign 95 = .ok (.iaload, 1) := by decide +kernel
theorem dX2_circleSign_96 : decode cX2_circleSign 96 = .ok (.i2l, 1) := by decide +kernel
theorem dX2_circleSign_97 : decode cX2_circleSign 97 = .ok (.aload_n 0, 1) := by decide +kernel
theorem dX2_circleSign_98 : decode cX2_circleSign 98 = .ok (.getfield 21, 3) := by decide +kernel
theorem dX2_circleSign_101 : decode cX2_circleSign 101 = .ok (.iload 4, 2) := by decide +kernel
theorem dX2_circleSign_103 : decode cX2_circleSign 103 = .ok (.iaload, 1) := by decide +kernel
theorem dX2_circleSign_104 : decode cX2_circleSign 104 = .ok (.i2l, 1) := by decide +kernel
theorem dX2_circleSign_105 : decode cX2_circleSign 105 = .ok (.lsub, 1) := by decide +kernel
theorem dX2_circleSign_106 : decode cX2_circleSign 106 = .ok (.lstore 15, 2) := by decide +kernel
theorem dX2_circleSign_108 : decode cX2_circleSign 108 = .ok (.lload 5, 2) := by decide +kernel
theorem dX2_circleSign_110 : decode cX2_circleSign 110 = .ok (.lload 5, 2) := by decide +kernel
theorem dX2_circleSign_112 : decode cX2_circleSign 112 = .ok (.lmul, 1) := by decide +kernel
theorem dX2_circleSign_113 : decode cX2_circleSign 113 = .ok (.lload 7, 2) := by decide +kernel
theorem dX2_circleSign_115 : decode cX2_circleSign 115 = .ok (.lload 7, 2) := by decide +kernel
theorem dX2_circleSign_117 : decode cX2_circleSign 117 = .ok (.lmul, 1) := by decide +kernel
theorem dX2_circleSign_118 : decode cX2_circleSign 118 = .ok (.ladd, 1) := by decide +kernel
theorem dX2_circleSign_119 : decode cX2_circleSign 119 = .ok (.lload 9, 2) := by decide +kernel
theorem dX2_circleSign_121 : decode cX2_circleSign 121 = .ok (.lload 15, 2) := by decide +kernel
theorem dX2_circleSign_123 : decode cX2_circleSign 123 = .ok (.lmul, 1) := by decide +kernel
theorem dX2_circleSign_124 : decode cX2_circleSign 124 = .ok (.lload 11, 2) := by decide +kernel
theorem dX2_circleSign_126 : decode cX2_circleSign 126 = .ok (.lload 13, 2) := by decide +kernel
theorem dX2_circleSign_128 : decode cX2_circleSign 128 = .ok (.lmul, 1) := by decide +kernel
theorem dX2_circleSign_129 : decode cX2_circleSign 129 = .ok (.lsub, 1) := by decide +kernel
theorem dX2_circleSign_130 : decode cX2_circleSign 130 = .ok (.lload 9, 2) := by decide +kernel
theorem dX2_circleSign_132 : decode cX2_circleSign 132 = .ok (.lload 9, 2) := by decide +kernel
theorem dX2_circleSign_134 : decode cX2_circleSign 134 = .ok (.lmul, 1) := by decide +kernel
theorem dX2_circleSign_135 : decode cX2_circleSign 135 = .ok (.lload 11, 2) := by decide +kernel
theorem dX2_circleSign_137 : decode cX2_circleSign 137 = .ok (.lload 11, 2) := by decide +kernel
theorem dX2_circleSign_139 : decode cX2_circleSign 139 = .ok (.lmul, 1) := by decide +kernel
theorem dX2_circleSign_140 : decode cX2_circleSign 140 = .ok (.ladd, 1) := by decide +kernel
theorem dX2_circleSign_141 : decode cX2_circleSign 141 = .ok (.lload 13, 2) := by decide +kernel
theorem dX2_circleSign_143 : decode cX2_circleSign 143 = .ok (.lload 7, 2) := by decide +kernel
theorem dX2_circleSign_145 : decode cX2_circleSign 145 = .ok (.lmul, 1) := by decide +kernel
theorem dX2_circleSign_146 : decode cX2_circleSign 146 = .ok (.lload 15, 2) := by decide +kernel
theorem dX2_circleSign_148 : decode cX2_circleSign 148 = .ok (.lload 5, 2) := by decide +kernel
theorem dX2_circleSign_150 : decode cX2_circleSign 150 = .ok (.lmul, 1) := by decide +kernel
theorem dX2_circleSign_151 : decode cX2_circleSign 151 = .ok (.lsub, 1) := by decide +kernel
theorem dX2_circleSign_152 : decode cX2_circleSign 152 = .ok (.lload 13, 2) := by decide +kernel
theorem dX2_circleSign_154 : decode cX2_circleSign 154 = .ok (.lload 13, 2) := by decide +kernel
theorem dX2_circleSign_156 : decode cX2_circleSign 156 = .ok (.lmul, 1) := by decide +kernel
theorem dX2_circleSign_157 : decode cX2_circleSign 157 = .ok (.lload 15, 2) := by decide +kernel
theorem dX2_circleSign_159 : decode cX2_circleSign 159 = .ok (.lload 15, 2) := by decide +kernel
theorem dX2_circleSign_161 : decode cX2_circleSign 161 = .ok (.lmul, 1) := by decide +kernel
theorem dX2_circleSign_162 : decode cX2_circleSign 162 = .ok (.ladd, 1) := by decide +kernel
theorem dX2_circleSign_163 : decode cX2_circleSign 163 = .ok (.lload 5, 2) := by decide +kernel
theorem dX2_circleSign_165 : decode cX2_circleSign 165 = .ok (.lload 11, 2) := by decide +kernel
theorem dX2_circleSign_167 : decode cX2_circleSign 167 = .ok (.lmul, 1) := by decide +kernel
theorem dX2_circleSign_168 : decode cX2_circleSign 168 = .ok (.lload 7, 2) := by decide +kernel
theorem dX2_circleSign_170 : decode cX2_circleSign 170 = .ok (.lload 9, 2) := by decide +kernel
theorem dX2_circleSign_172 : decode cX2_circleSign 172 = .ok (.lmul, 1) := by decide +kernel
theorem dX2_circleSign_173 : decode cX2_circleSign 173 = .ok (.lsub, 1) := by decide +kernel
theorem dX2_circleSign_174 : decode cX2_circleSign 174 = .ok (.invokestatic 170, 3) := by decide +kernel
theorem dX2_circleSign_177 : decode cX2_circleSign 177 = .ok (.ireturn, 1) := by decide +kernel
theorem dX2_tellRound_0 : decode cX2_tellRound 0 = .ok (.iconst 0, 1) := by decide +kernel
theorem dX2_tellRound_1 : decode cX2_tellRound 1 = .ok (.istore_n 1, 1) := by decide +kernel
theorem dX2_tellRound_2 : decode cX2_tellRound 2 = .ok (.iconst 0, 1) := by decide +kernel
theorem dX2_tellRound_3 : decode cX2_tellRound 3 = .ok (.istore_n 2, 1) := by decide +kernel
theorem dX2_tellRound_4 : decode cX2_tellRound 4 = .ok (.iload_n 2, 1) := by decide +kernel
theorem dX2_tellRound_5 : decode cX2_tellRound 5 = .ok (.aload_n 0, 1) := by decide +kernel
theorem dX2_tellRound_6 : decode cX2_tellRound 6 = .ok (.getfield 159, 3) := by decide +kernel
theorem dX2_tellRound_9 : decode cX2_tellRound 9 = .ok (.if_icmp .ge 75, 3) := by decide +kernel
theorem dX2_tellRound_12 : decode cX2_tellRound 12 = .ok (.aload_n 0, 1) := by decide +kernel
theorem dX2_tellRound_13 : decode cX2_tellRound 13 = .ok (.getfield 42, 3) := by decide +kernel
theorem dX2_tellRound_16 : decode cX2_tellRound 16 = .ok (.iload_n 2, 1) := by decide +kernel
theorem dX2_tellRound_17 : decode cX2_tellRound 17 = .ok (.iaload, 1) := by decide +kernel
theorem dX2_tellRound_18 : decode cX2_tellRound 18 = .ok (.aload_n 0, 1) := by decide +kernel
theorem dX2_tellRound_19 : decode cX2_tellRound 19 = .ok (.getfield 42, 3) := by decide +kernel
theorem dX2_tellRound_22 : decode cX2_tellRound 22 = .ok (.iload_n 1, 1) := by decide +kernel
theorem dX2_tellRound_23 : decode cX2_tellRound 23 = .ok (.iaload, 1) := by decide +kernel
theorem dX2_tellRound_24 : decode cX2_tellRound 24 = .ok (.if_icmp .ge 7, 3) := by decide +kernel
theorem dX2_tellRound_27 : decode cX2_tellRound 27 = .ok (.iload_n 2, 1) := by decide +kernel
theorem dX2_tellRound_28 : decode cX2_tellRound 28 = .ok (.goto 4, 3) := by decide +kernel
theorem dX2_tellRound_31 : decode cX2_tellRound 31 = .ok (.iload_n 1, 1) := by decide +kernel
theorem dX2_tellRound_32 : decode cX2_tellRound 32 = .ok (.istore_n 1, 1) := by decide +kernel
theorem dX2_tellRound_33 : decode cX2_tellRound 33 = .ok (.aload_n 0, 1) := by decide +kernel
theorem dX2_tellRound_34 : decode cX2_tellRound 34 = .ok (.getfield 42, 3) := by decide +kernel
theorem dX2_tellRound_37 : decode cX2_tellRound 37 = .ok (.iload_n 2, 1) := by decide +kernel
theorem dX2_tellRound_38 : decode cX2_tellRound 38 = .ok (.iaload, 1) := by decide +kernel
theorem dX2_tellRound_39 : decode cX2_tellRound 39 = .ok (.istore_n 3, 1) := by decide +kernel
theorem dX2_tellRound_40 : decode cX2_tellRound 40 = .ok (.aload_n 0, 1) := by decide +kernel
theorem dX2_tellRound_41 : decode cX2_tellRound 41 = .ok (.getfield 42, 3) := by decide +kernel
theorem dX2_tellRound_44 : decode cX2_tellRound 44 = .ok (.iload_n 2, 1) := by decide +kernel
theorem dX2_tellRound_45 : decode cX2_tellRound 45 = .ok (.iconst 1, 1) := by decide +kernel
theorem dX2_tellRound_46 : decode cX2_tellRound 46 = .ok (.iadd, 1) := by decide +kernel
theorem dX2_tellRound_47 : decode cX2_tellRound 47 = .ok (.aload_n 0, 1) := by decide +kernel
theorem dX2_tellRound_48 : decode cX2_tellRound 48 = .ok (.getfield 159, 3) := by decide +kernel
theorem dX2_tellRound_51 : decode cX2_tellRound 51 = .ok (.if_icmp .ge 9, 3) := by decide +kernel
theorem dX2_tellRound_54 : decode cX2_tellRound 54 = .ok (.iload_n 2, 1) := by decide +kernel
theorem dX2_tellRound_55 : decode cX2_tellRound 55 = .ok (.iconst 1, 1) := by decide +kernel
theorem dX2_tellRound_56 : decode cX2_tellRound 56 = .ok (.iadd, 1) := by decide +kernel
theorem dX2_tellRound_57 : decode cX2_tellRound 57 = .ok (.goto 4, 3) := by decide +kernel
theorem dX2_tellRound_60 : decode cX2_tellRound 60 = .ok (.iconst 0, 1) := by decide +kernel
theorem dX2_tellRound_61 : decode cX2_tellRound 61 = .ok (.iaload, 1) := by decide +kernel
theorem dX2_tellRound_62 : decode cX2_tellRound 62 = .ok (.istore 4, 2) := by decide +kernel
theorem dX2_tellRound_64 : decode cX2_tellRound 64 = .ok (.aload_n 0, 1) := by decide +kernel
theorem dX2_tellRound_65 : decode cX2_tellRound 65 = .ok (.iload_n 3, 1) := by decide +kernel
theorem dX2_tellRound_66 : decode cX2_tellRound 66 = .ok (.iload 4, 2) := by decide +kernel
theorem dX2_tellRound_68 : decode cX2_tellRound 68 = .ok (.invokevirtual 173, 3) := by decide +kernel
theorem dX2_tellRound_71 : decode cX2_tellRound 71 = .ok (.aload_n 0, 1) := by decide +kernel
theorem dX2_tellRound_72 : decode cX2_tellRound 72 = .ok (.iload 4, 2) := by decide +kernel
theorem dX2_tellRound_74 : decode cX2_tellRound 74 = .ok (.iload_n 3, 1) := by decide +kernel
theorem dX2_tellRound_75 : decode cX2_tellRound 75 = .ok (.invokevirtual 145, 3) := by decide +kernel
theorem dX2_tellRound_78 : decode cX2_tellRound 78 = .ok (.iinc 2 1, 3) := by decide +kernel
theorem dX2_tellRound_81 : decode cX2_tellRound 81 = .ok (.goto (-77), 3) := by decide +kernel
theorem dX2_tellRound_84 : decode cX2_tellRound 84 = .ok (.iconst 1, 1) := by decide +kernel
theorem dX2_tellRound_85 : decode cX2_tellRound 85 = .ok (.istore_n 2, 1) := by decide +kernel
theorem dX2_tellRound_86 : decode cX2_tellRound 86 = .ok (.iload_n 2, 1) := by decide +kernel
theorem dX2_tellRound_87 : decode cX2_tellRound 87 = .ok (.iconst 1, 1) := by decide +kernel
theorem dX2_tellRound_88 : decode cX2_tellRound 88 = .ok (.iadd, 1) := by decide +kernel
theorem dX2_tellRound_89 : decode cX2_tellRound 89 = .ok (.aload_n 0, 1) := by decide +kernel
theorem dX2_tellRound_90 : decode cX2_tellRound 90 = .ok (.getfield 159, 3) := by decide +kernel
theorem dX2_tellRound_93 : decode cX2_tellRound 93 = .ok (.if_icmp .ge 95, 3) := by decide +kernel
theorem dX2_tellRound_96 : decode cX2_tellRound 96 = .ok (.aload_n 0, 1) := by decide +kernel
theorem dX2_tellRound_97 : decode cX2_tellRound 97 = .ok (.getfield 129, 3) := by decide +kernel
theorem dX2_tellRound_100 : decode cX2_tellRound 100 = .ok (.sipush 512, 3) := by decide +kernel
theorem dX2_tellRound_103 : decode cX2_tellRound 103 = .ok (.if_icmp .lt 5, 3) := by decide +kernel
theorem dX2_tellRound_106 : decode cX2_tellRound 106 = .ok (.iconst 0, 1) := by decide +kernel
theorem dX2_tellRound_107 : decode cX2_tellRound 107 = .ok (.ireturn, 1) := by decide +kernel
theorem dX2_tellRound_108 : decode cX2_tellRound 108 = .ok (.aload_n 0, 1) := by decide +kernel
theorem dX2_tellRound_109 : decode cX2_tellRound 109 = .ok (.getfield 45, 3) := by decide +kernel
theorem dX2_tellRound_112 : decode cX2_tellRound 112 = .ok (.aload_n 0, 1) := by decide +kernel
theorem dX2_tellRound_113 : decode cX2_tellRound 113 = .ok (.getfield 129, 3) := by decide +kernel
theorem dX2_tellRound_116 : decode cX2_tellRound 116 = .ok (.aload_n 0, 1) := by decide +kernel
theorem dX2_tellRound_117 : decode cX2_tellRound 117 = .ok (.getfield 24, 3) := by decide +kernel
theorem dX2_tellRound_120 : decode cX2_tellRound 120 = .ok (.aload_n 0, 1) := by decide +kernel
theorem dX2_tellRound_121 : decode cX2_tellRound 121 = .ok (.getfield 42, 3) := by decide +kernel
theorem dX2_tellRound_124 : decode cX2_tellRound 124 = .ok (.iload_n 1, 1) := by decide +kernel
theorem dX2_tellRound_125 : decode cX2_tellRound 125 = .ok (.iaload, 1) := by decide +kernel
theorem dX2_tellRound_126 : decode cX2_tellRound 126 = .ok (.iaload, 1) := by decide +kernel
theorem dX2_tellRound_127 : decode cX2_tellRound 127 = .ok (.i2l, 1) := by decide +kernel
theorem dX2_tellRound_128 : decode cX2_tellRound 128 = .ok (.aload_n 0, 1) := by decide +kernel
theorem dX2_tellRound_129 : decode cX2_tellRound 129 = .ok (.getfield 24, 3) := by decide +kernel
theorem dX2_tellRound_132 : decode cX2_tellRound 132 = .ok (.aload_n 0, 1) := by decide +kernel
theorem dX2_tellRound_133 : decode cX2_tellRound 133 = .ok (.getfield 42, 3) := by decide +kernel
theorem dX2_tellRound_136 : decode cX2_tellRound 136 = .ok (.iload_n 1, 1) := by decide +kernel
theorem dX2_tellRound_137 : decode cX2_tellRound 137 = .ok (.iload_n 2, 1) := by decide +kernel
theorem dX2_tellRound_138 : decode cX2_tellRound 138 = .ok (.iadd, 1) := by decide +kernel
theorem dX2_tellRound_139 : decode cX2_tellRound 139 = .ok (.aload_n 0, 1) := by decide +kernel
theorem dX2_tellRound_140 : decode cX2_tellRound 140 = .ok (.getfield 159, 3) := by decide +kernel
theorem dX2_tellRound_143 : decode cX2_tellRound 143 = .ok (.irem, 1) := by decide +kernel
theorem dX2_tellRound_144 : decode cX2_tellRound 144 = .ok (.iaload, 1) := by decide +kernel
theorem dX2_tellRound_145 : decode cX2_tellRound 145 = .ok (.iaload, 1) := by decide +kernel
theorem dX2_tellRound_146 : decode cX2_tellRound 146 = .ok (.i2l, 1) := by decide +kernel
theorem dX2_tellRound_147 : decode cX2_tellRound 147 = .ok (.aload_n 0, 1) := by decide +kernel
theorem dX2_tellRound_148 : decode cX2_tellRound 148 = .ok (.getfield 24, 3) := by decide +kernel
theorem dX2_tellRound_151 : decode cX2_tellRound 151 = .ok (.aload_n 0, 1) := by decide +kernel
theorem dX2_tellRound_152 : decode cX2_tellRound 152 = .ok (.getfield 42, 3) := by decide +kernel
theorem dX2_tellRound_155 : decode cX2_tellRound 155 = .ok (.iload_n 1, 1) := by decide +kernel
theorem dX2_tellRound_156 : decode cX2_tellRound 156 = .ok (.iload_n 2, 1) := by decide +kernel
theorem dX2_tellRound_157 : decode cX2_tellRound 157 = .ok (.iadd, 1) := by decide +kernel
theorem dX2_tellRound_158 : decode cX2_tellRound 158 = .ok (.iconst 1, 1) := by decide +kernel
theorem dX2_tellRound_159 : decode cX2_tellRound 159 = .ok (.iadd, 1) := by decide +kernel
theorem dX2_tellRound_160 : decode cX2_tellRound 160 = .ok (.aload_n 0, 1) := by decide +kernel
theorem dX2_tellRound_161 : decode cX2_tellRound 161 = .ok (.getfield 159, 3) := by decide +kernel
theorem dX2_tellRound_164 : decode cX2_tellRound 164 = .ok (.irem, 1) := by decide +kernel
theorem dX2_tellRound_165 : decode cX2_tellRound 165 = .ok (.iaload, 1) := by decide +kernel
theorem dX2_tellRound_166 : decode cX2_tellRound 166 = .ok (.iaload, 1) := by decide +kernel
theorem dX2_tellRound_167 : decode cX2_tellRound 167 = .ok (.i2l, 1) := by decide +kernel
theorem dX2_tellRound_168 : decode cX2_tellRound 168 = .ok (.invokestatic 176, 3) := by decide +kernel
theorem dX2_tellRound_171 : decode cX2_tellRound 171 = .ok (.lastore, 1) := by decide +kernel
theorem dX2_tellRound_172 : decode cX2_tellRound 172 = .ok (.aload_n 0, 1) := by decide +kernel
theorem dX2_tellRound_173 : decode cX2_tellRound 173 = .ok (.dup, 1) := by decide +kernel
theorem dX2_tellRound_174 : decode cX2_tellRound 174 = .ok (.getfield 129, 3) := by decide +kernel
theorem dX2_tellRound_177 : decode cX2_tellRound 177 = .ok (.iconst 1, 1) := by decide +kernel
theorem dX2_tellRound_178 : decode cX2_tellRound 178 = .ok (.iadd, 1) := by decide +kernel
theorem dX2_tellRound_179 : decode cX2_tellRound 179 = .ok (.putfield 129, 3) := by decide +kernel
theorem dX2_tellRound_182 : decode cX2_tellRound 182 = .ok (.iinc 2 1, 3) := by decide +kernel
theorem dX2_tellRound_185 : decode cX2_tellRound 185 = .ok (.goto (-99), 3) := by decide +kernel
theorem dX2_tellRound_188 : decode cX2_tellRound 188 = .ok (.iconst 1, 1) := by decide +kernel
theorem dX2_tellRound_189 : decode cX2_tellRound 189 = .ok (.ireturn, 1) := by decide +kernel
