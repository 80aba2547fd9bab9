theorem dX12_load_0 : decode cX12_load 0 = .ok (.lload_n 2, 1) := by decide +kernel
theorem dX12_load_1 : decode cX12_load 1 = .ok (.bipush 52, 2) := by decide +kernel
theorem dX12_load_3 : decode cX12_load 3 = .ok (.lushr, 1) := by decide +kernel
theorem dX12_load_4 : decode cX12_load 4 = .ok (.ldc2_w 497, 3) := by decide +kernel
theorem dX12_load_7 : decode cX12_load 7 = .ok (.land, 1) := by decide +kernel
theorem dX12_load_8 : decode cX12_load 8 = .ok (.l2i, 1) := by decide +kernel
theorem dX12_load_9 : decode cX12_load 9 = .ok (.istore 4, 2) := by decide +kernel
theorem dX12_load_11 : decode cX12_load 11 = .ok (.lload_n 2, 1) := by decide +kernel
theorem dX12_load_12 : decode cX12_load 12 = .ok (.ldc2_w 499, 3) := by decide +kernel
theorem dX12_load_15 : decode cX12_load 15 = .ok (.land, 1) := by decide +kernel
theorem dX12_load_16 : decode cX12_load 16 = .ok (.lstore 5, 2) := by decide +kernel
theorem dX12_load_18 : decode cX12_load 18 = .ok (.iload 4, 2) := by decide +kernel
theorem dX12_load_20 : decode cX12_load 20 = .ok (.ifCond .ne 8, 3) := by decide +kernel
theorem dX12_load_23 : decode cX12_load 23 = .ok (.lload 5, 2) := by decide +kernel
theorem dX12_load_25 : decode cX12_load 25 = .ok (.goto 9, 3) := by decide +kernel
theorem dX12_load_28 : decode cX12_load 28 = .ok (.lload 5, 2) := by decide +kernel
theorem dX12_load_30 : decode cX12_load 30 = .ok (.ldc2_w 514, 3) := by decide +kernel
theorem dX12_load_33 : decode cX12_load 33 = .ok (.lor, 1) := by decide +kernel
theorem dX12_load_34 : decode cX12_load 34 = .ok (.lstore 5, 2) := by decide +kernel
theorem dX12_load_36 : decode cX12_load 36 = .ok (.iload 4, 2) := by decide +kernel
theorem dX12_load_38 : decode cX12_load 38 = .ok (.ifCond .ne 7, 3) := by decide +kernel
theorem dX12_load_41 : decode cX12_load 41 = .ok (.iconst 0, 1) := by decide +kernel
theorem dX12_load_42 : decode cX12_load 42 = .ok (.goto 7, 3) := by decide +kernel
theorem dX12_load_45 : decode cX12_load 45 = .ok (.iload 4, 2) := by decide +kernel
theorem dX12_load_47 : decode cX12_load 47 = .ok (.iconst 1, 1) := by decide +kernel
theorem dX12_load_48 : decode cX12_load 48 = .ok (.isub, 1) := by decide +kernel
theorem dX12_load_49 : decode cX12_load 49 = .ok (.istore 7, 2) := by decide +kernel
theorem dX12_load_51 : decode cX12_load 51 = .ok (.iload 7, 2) := by decide +kernel
theorem dX12_load_53 : decode cX12_load 53 = .ok (.bipush 32, 2) := by decide +kernel
theorem dX12_load_55 : decode cX12_load 55 = .ok (.idiv, 1) := by decide +kernel
theorem dX12_load_56 : decode cX12_load 56 = .ok (.istore 8, 2) := by decide +kernel
theorem dX12_load_58 : decode cX12_load 58 = .ok (.iload 7, 2) := by decide +kernel
theorem dX12_load_60 : decode cX12_load 60 = .ok (.bipush 32, 2) := by decide +kernel
theorem dX12_load_62 : decode cX12_load 62 = .ok (.irem, 1) := by decide +kernel
theorem dX12_load_63 : decode cX12_load 63 = .ok (.istore 9, 2) := by decide +kernel
theorem dX12_load_65 : decode cX12_load 65 = .ok (.iconst 0, 1) := by decide +kernel
theorem dX12_load_66 : decode cX12_load 66 = .ok (.istore 10, 2) := by decide +kernel
theorem dX12_load_68 : decode cX12_load 68 = .ok (.iload 10, 2) := by decide +kernel
theorem dX12_load_70 : decode cX12_load 70 = .ok (.iload 8, 2) := by decide +kernel
theorem dX12_load_72 : decode cX12_load 72 = .ok (.if_icmp .ge 23, 3) := by decide +kernel
theorem dX12_load_75 : decode cX12_load 75 = .ok (.aload_n 0, 1) := by decide +kernel
theorem dX12_load_76 : decode cX12_load 76 = .ok (.getfield 63, 3) := by decide +kernel
theorem dX12_load_79 : decode cX12_load 79 = .ok (.sipush 300, 3) := by decide +kernel
theorem dX12_load_82 : decode cX12_load 82 = .ok (.iload_n 1, 1) := by decide +kernel
theorem dX12_load_83 : decode cX12_load 83 = .ok (.imul, 1) := by decide +kernel
theorem dX12_load_84 : decode cX12_load 84 = .ok (.iload 10, 2) := by decide +kernel
theorem dX12_load_86 : decode cX12_load 86 = .ok (.iadd, 1) := by decide +kernel
theorem dX12_load_87 : decode cX12_load 87 = .ok (.lconst 0, 1) := by decide +kernel
theorem dX12_load_88 : decode cX12_load 88 = .ok (.lastore, 1) := by decide +kernel
theorem dX12_load_89 : decode cX12_load 89 = .ok (.iinc 10 1, 3) := by decide +kernel
theorem dX12_load_92 : decode cX12_load 92 = .ok (.goto (-24), 3) := by decide +kernel
theorem dX12_load_95 : decode cX12_load 95 = .ok (.lload 5, 2) := by decide +kernel
theorem dX12_load_97 : decode cX12_load 97 = .ok (.ldc2_w 598, 3) := by decide +kernel
theorem dX12_load_100 : decode cX12_load 100 = .ok (.land, 1) := by decide +kernel
theorem dX12_load_101 : decode cX12_load 101 = .ok (.iload 9, 2) := by decide +kernel
theorem dX12_load_103 : decode cX12_load 103 = .ok (.lshl, 1) := by decide +kernel
theorem dX12_load_104 : decode cX12_load 104 = .ok (.lstore 10, 2) := by decide +kernel
theorem dX12_load_106 : decode cX12_load 106 = .ok (.lload 5, 2) := by decide +kernel
theorem dX12_load_108 : decode cX12_load 108 = .ok (.bipush 32, 2) := by decide +kernel
theorem dX12_load_110 : decode cX12_load 110 = .ok (.lushr, 1) := by decide +kernel
theorem dX12_load_111 : decode cX12_load 111 = .ok (.iload 9, 2) := by decide +kernel
theorem dX12_load_113 : decode cX12_load 113 = .ok (.lshl, 1) := by decide +kernel
theorem dX12_load_114 : decode cX12_load 114 = .ok (.lload 10, 2) := by decide +kernel
theorem dX12_load_116 : decode cX12_load 116 = .ok (.bipush 32, 2) := by decide +kernel
theorem dX12_load_118 : decode cX12_load 118 = .ok (.lushr, 1) := by decide +kernel
theorem dX12_load_119 : decode cX12_load 119 = .ok (.ladd, 1) := by decide +kernel
theorem dX12_load_120 : decode cX12_load 120 = .ok (.lstore 12, 2) := by decide +kernel
theorem dX12_load_122 : decode cX12_load 122 = .ok (.aload_n 0, 1) := by decide +kernel
theorem dX12_load_123 : decode cX12_load 123 = .ok (.getfield 63, 3) := by decide +kernel
theorem dX12_load_126 : decode cX12_load 126 = .ok (.sipush 300, 3) := by decide +kernel
theorem dX12_load_129 : decode cX12_load 129 = .ok (.iload_n 1, 1) := by decide +kernel
theorem dX12_load_130 : decode cX12_load 130 = .ok (.imul, 1) := by decide +kernel
theorem dX12_load_131 : decode cX12_load 131 = .ok (.iload 8, 2) := by decide +kernel
theorem dX12_load_133 : decode cX12_load 133 = .ok (.iadd, 1) := by decide +kernel
theorem dX12_load_134 : decode cX12_load 134 = .ok (.lload 10, 2) := by decide +kernel
theorem dX12_load_136 : decode cX12_load 136 = .ok (.ldc2_w 598, 3) := by decide +kernel
theorem dX12_load_139 : decode cX12_load 139 = .ok (.land, 1) := by decide +kernel
theorem dX12_load_140 : decode cX12_load 140 = .ok (.lastore, 1) := by decide +kernel
theorem dX12_load_141 : decode cX12_load 141 = .ok (.aload_n 0, 1) := by decide +kernel
theorem dX12_load_142 : decode cX12_load 142 = .ok (.getfield 63, 3) := by decide +kernel
theorem dX12_load_145 : decode cX12_load 145 = .ok (.sipush 300, 3) := by decide +kernel
theorem dX12_load_148 : decode cX12_load 148 = .ok (.iload_n 1, 1) := by decide +kernel
theorem dX12_load_149 : decode cX12_load 149 = .ok (.imul, 1) := by decide +kernel
theorem dX12_load_150 : decode cX12_load 150 = .ok (.iload 8, 2) := by decide +kernel
theorem dX12_load_152 : decode cX12_load 152 = .ok (.iadd, 1) := by decide +kernel
theorem dX12_load_153 : decode cX12_load 153 = .ok (.iconst 1, 1) := by decide +kernel
theorem dX12_load_154 : decode cX12_load 154 = .ok (.iadd, 1) := by decide +kernel
theorem dX12_load_155 : decode cX12_load 155 = .ok (.lload 12, 2) := by decide +kernel
theorem dX12_load_157 : decode cX12_load 157 = .ok (.ldc2_w 598, 3) := by decide +kernel
theorem dX12_load_160 : decode cX12_load 160 = .ok (.land, 1) := by decide +kernel
theorem dX12_load_161 : decode cX12_load 161 = .ok (.lastore, 1) := by decide +kernel
theorem dX12_load_162 : decode cX12_load 162 = .ok (.aload_n 0, 1) := by decide +kernel
theorem dX12_load_163 : decode cX12_load 163 = .ok (.getfield 63, 3) := by decide +kernel
theorem dX12_load_166 : decode cX12_load 166 = .ok (.sipush 300, 3) := by decide +kernel
theorem dX12_load_169 : decode cX12_load 169 = .ok (.iload_n 1, 1) := by decide +kernel
theorem dX12_load_170 : decode cX12_load 170 = .ok (.imul, 1) := by decide +kernel
theorem dX12_load_171 : decode cX12_load 171 = .ok (.iload 8, 2) := by decide +kernel
theorem dX12_load_173 : decode cX12_load 173 = .ok (.iadd, 1) := by decide +kernel
theorem dX12_load_174 : decode cX12_load 174 = .ok (.iconst 2, 1) := by decide +kernel
theorem dX12_load_175 : decode cX12_load 175 = .ok (.iadd, 1) := by decide +kernel
theorem dX12_load_176 : decode cX12_load 176 = .ok (.lload 12, 2) := by decide +kernel
theorem dX12_load_178 : decode cX12_load 178 = .ok (.bipush 32, 2) := by decide +kernel
theorem dX12_load_180 : decode cX12_load 180 = .ok (.lushr, 1) := by decide +kernel
theorem dX12_load_181 : decode cX12_load 181 = .ok (.lastore, 1) := by decide +kernel
theorem dX12_load_182 : decode cX12_load 182 = .ok (.aload_n 0, 1) := by decide +kernel
theorem dX12_load_183 : decode cX12_load 183 = .ok (.getfield 66, 3) := by decide +kernel
theorem dX12_load_186 : decode cX12_load 186 = .ok (.iload_n 1, 1) := by decide +kernel
theorem dX12_load_187 : decode cX12_load 187 = .ok (.iload 8, 2) := by decide +kernel
theorem dX12_load_189 : decode cX12_load 189 = .ok (.iconst 3, 1) := by decide +kernel
theorem dX12_load_190 : decode cX12_load 190 = .ok (.iadd, 1) := by decide +kernel
theorem dX12_load_191 : decode cX12_load 191 = .ok (.iastore, 1) := by decide +kernel
theorem dX12_load_192 : decode cX12_load 192 = .ok (.aload_n 0, 1) := by decide +kernel
theorem dX12_load_193 : decode cX12_load 193 = .ok (.getfield 69, 3) := by decide +kernel
theorem dX12_load_196 : decode cX12_load 196 = .ok (.iload_n 1, 1) := by decide +kernel
theorem dX12_load_197 : decode cX12_load 197 = .ok (.lload_n 2, 1) := by decide +kernel
theorem dX12_load_198 : decode cX12_load 198 = .ok (.lconst 0, 1) := by decide +kernel
theorem dX12_load_199 : decode cX12_load 199 = .ok (.lcmp, 1) := by decide +kernel
theorem dX12_load_200 : decode cX12_load 200 = .ok (.ifCond .ge 7, 3) := by decide +kernel
theorem dX12_load_203 : decode cX12_load 203 = .ok (.iconst (-1), 1) := by decide +kernel
theorem dX12_load_204 : decode cX12_load 204 = .ok (.goto 4, 3) := by decide +kernel
theorem dX12_load_207 : decode cX12_load 207 = .ok (.iconst 1, 1) := by decide +kernel
theorem dX12_load_208 : decode cX12_load 208 = .ok (.iastore, 1) := by decide +kernel
theorem dX12_load_209 : decode cX12_load 209 = .ok (.aload_n 0, 1) := by decide +kernel
theorem dX12_load_210 : decode cX12_load 210 = .ok (.iload_n 1, 1) := by decide +kernel
theorem dX12_load_211 : decode cX12_load 211 = .ok (.invokevirtual 600, 3) := by decide +kernel
theorem dX12_load_214 : decode cX12_load 214 = .ok (.return_, 1) := by decide +kernel
theorem dX12_between_0 : decode cX12_between 0 = .ok (.aload_n 0, 1) := by decide +kernel
theorem dX12_between_1 : decode cX12_between 1 = .ok (.bipush 18, 2) := by decide +kernel
theorem dX12_between_3 : decode cX12_between 3 = .ok (.iload_n 2, 1) := by decide +kernel
theorem dX12_between_4 : decode cX12_between 4 = .ok (.ifCond .eq 12, 3) := by decide +kernel
theorem dX12_between_7 : decode cX12_between 7 = .ok (.aload_n 0, 1) := by decide +kernel
theorem dX12_between_8 : decode cX12_between 8 = .ok (.getfield 72, 3) := by decide +kernel
theorem dX12_between_11 : decode cX12_between 11 = .ok (.iload_n 3, 1) := by decide +kernel
theorem dX12_between_12 : decode cX12_between 12 = .ok (.laload, 1) := by decide +kernel
theorem dX12_between_13 : decode cX12_between 13 = .ok (.goto 9, 3) := by decide +kernel
theorem dX12_between_16 : decode cX12_between 16 = .ok (.aload_n 0, 1) := by decide +kernel
theorem dX12_between_17 : decode cX12_between 17 = .ok (.getfield 75, 3) := by decide +kernel
theorem dX12_between_20 : decode cX12_between 20 = .ok (.iload_n 3, 1) := by decide +kernel
theorem dX12_between_21 : decode cX12_between 21 = .ok (.laload, 1) := by decide +kernel
theorem dX12_between_22 : decode cX12_between 22 = .ok (.invokevirtual 617, 3) := by decide +kernel
theorem dX12_between_25 : decode cX12_between 25 = .ok (.aload_n 0, 1) := by decide +kernel
theorem dX12_between_26 : decode cX12_between 26 = .ok (.bipush 19, 2) := by decide +kernel
theorem dX12_between_28 : decode cX12_between 28 = .ok (.iload_n 2, 1) := by decide +kernel
theorem dX12_between_29 : decode cX12_between 29 = .ok (.ifCond .eq 13, 3) := by decide +kernel
theorem dX12_between_32 : decode cX12_between 32 = .ok (.aload_n 0, 1) := by decide +kernel
theorem dX12_between_33 : decode cX12_between 33 = .ok (.getfield 72, 3) := by decide +kernel
theorem dX12_between_36 : decode cX12_between 36 = .ok (.iload 4, 2) := by decide +kernel
theorem dX12_between_38 : decode cX12_between 38 = .ok (.laload, 1) := by decide +kernel
theorem dX12_between_39 : decode cX12_between 39 = .ok (.goto 10, 3) := by decide +kernel
theorem dX12_between_42 : decode cX12_between 42 = .ok (.aload_n 0, 1) := by decide +kernel
theorem dX12_between_43 : decode cX12_between 43 = .ok (.getfield 75, 3) := by decide +kernel
theorem dX12_between_46 : decode cX12_between 46 = .ok (.iload 4, 2) := by decide +kernel
theorem dX12_between_48 : decode cX12_between 48 = .ok (.laload, 1) := by decide +kernel
theorem dX12_between_49 : decode cX12_between 49 = .ok (.invokevirtual 617, 3) := by decide +kernel
theorem dX12_between_52 : decode cX12_between 52 = .ok (.aload_n 0, 1) := by decide +kernel
theorem dX12_between_53 : decode cX12_between 53 = .ok (.iload_n 1, 1) := by decide +kernel
theorem dX12_between_54 : decode cX12_between 54 = .ok (.bipush 18, 2) := by decide +kernel
theorem dX12_between_56 : decode cX12_between 56 = .ok (.bipush 19, 2) := by decide +kernel
theorem dX12_between_58 : decode cX12_between 58 = .ok (.iconst 1, 1) := by decide +kernel
theorem dX12_between_59 : decode cX12_between 59 = .ok (.invokevirtual 621, 3) := by decide +kernel
theorem dX12_between_62 : decode cX12_between 62 = .ok (.return_, 1) := by decide +kernel
theorem dX12_isPoint_0 : decode cX12_isPoint 0 = .ok (.iload_n 0, 1) := by decide +kernel
theorem dX12_isPoint_1 : decode cX12_isPoint 1 = .ok (.ifCond .lt 13, 3) := by decide +kernel
theorem dX12_isPoint_4 : decode cX12_isPoint 4 = .ok (.iload_n 0, 1) := by decide +kernel
theorem dX12_isPoint_5 : decode cX12_isPoint 5 = .ok (.bipush 32, 2) := by decide +kernel
theorem dX12_isPoint_7 : decode cX12_isPoint 7 = .ok (.if_icmp .ge 7, 3) := by decide +kernel
theorem dX12_isPoint_10 : decode cX12_isPoint 10 = .ok (.iconst 1, 1) := by decide +kernel
theorem dX12_isPoint_11 : decode cX12_isPoint 11 = .ok (.goto 4, 3) := by decide +kernel
theorem dX12_isPoint_14 : decode cX12_isPoint 14 = .ok (.iconst 0, 1) := by decide +kernel
theorem dX12_isPoint_15 : decode cX12_isPoint 15 = .ok (.ireturn, 1) := by decide +kernel
theorem dX12_point_0 : decode cX12_point 0 = .ok (.aload_n 0, 1) := by decide +kernel
theorem dX12_point_1 : decode cX12_point 1 = .ok (.iconst 0, 1) := by decide +kernel
theorem dX12_point_2 : decode cX12_point 2 = .ok (.putfield 271, 3) := by decide +kernel
theorem dX12_point_5 : decode cX12_point 5 = .ok (.lload_n 2, 1) := by decide +kernel
theorem dX12_point_6 : decode cX12_point 6 = .ok (.bipush 52, 2) := by decide +kernel
theorem dX12_point_8 : decode cX12_point 8 = .ok (.lushr, 1) := by decide +kernel
theorem dX12_point_9 : decode cX12_point 9 = .ok (.ldc2_w 497, 3) := by decide +kernel
theorem dX12_point_12 : decode cX12_point 12 = .ok (.land, 1) := by decide +kernel
theorem dX12_point_13 : decode cX12_point 13 = .ok (.ldc2_w 497, 3) := by decide +kernel
theorem dX12_point_16 : decode cX12_point 16 = .ok (.lcmp, 1) := by decide +kernel
theorem dX12_point_17 : decode cX12_point 17 = .ok (.ifCond .eq 19, 3) := by decide +kernel
theorem dX12_point_20 : decode cX12_point 20 = .ok (.lload 4, 2) := by decide +kernel
theorem dX12_point_22 : decode cX12_point 22 = .ok (.bipush 52, 2) := by decide +kernel
theorem dX12_point_24 : decode cX12_point 24 = .ok (.lushr, 1) := by decide +kernel
theorem dX12_point_25 : decode cX12_point 25 = .ok (.ldc2_w 497, 3) := by decide +kernel
theorem dX12_point_28 : decode cX12_point 28 = .ok (.land, 1) := by decide +kernel
theorem dX12_point_29 : decode cX12_point 29 = .ok (.ldc2_w 497, 3) := by decide +kernel
theorem dX12_point_32 : decode cX12_point 32 = .ok (.lcmp, 1) := by decide +kernel
theorem dX12_point_33 : decode cX12_point 33 = .ok (.ifCond .ne 7, 3) := by decide +kernel
theorem dX12_point_36 : decode cX12_point 36 = .ok (.iconst 1, 1) := by decide +kernel
theorem dX12_point_37 : decode cX12_point 37 = .ok (.goto 4, 3) := by decide +kernel
theorem dX12_point_40 : decode cX12_point 40 = .ok (.iconst 0, 1) := by decide +kernel
theorem dX12_point_41 : decode cX12_point 41 = .ok (.istore 6, 2) := by decide +kernel
theorem dX12_point_43 : decode cX12_point 43 = .ok (.aload_n 0, 1) := by decide +kernel
theorem dX12_point_44 : decode cX12_point 44 = .ok (.iload_n 1, 1) := by decide +kernel
theorem dX12_point_45 : decode cX12_point 45 = .ok (.invokestatic 625, 3) := by decide +kernel
theorem dX12_point_48 : decode cX12_point 48 = .ok (.ifCond .ne 7, 3) := by decide +kernel
theorem dX12_point_51 : decode cX12_point 51 = .ok (.iconst 1, 1) := by decide +kernel
theorem dX12_point_52 : decode cX12_point 52 = .ok (.goto 4, 3) := by decide +kernel
theorem dX12_point_55 : decode cX12_point 55 = .ok (.iconst 0, 1) := by decide +kernel
theorem dX12_point_56 : decode cX12_point 56 = .ok (.iconst 1, 1) := by decide +kernel
theorem dX12_point_57 : decode cX12_point 57 = .ok (.invokevirtual 277, 3) := by decide +kernel
theorem dX12_point_60 : decode cX12_point 60 = .ok (.ifCond .ne 13, 3) := by decide +kernel
theorem dX12_point_63 : decode cX12_point 63 = .ok (.aload_n 0, 1) := by decide +kernel
theorem dX12_point_64 : decode cX12_point 64 = .ok (.iload 6, 2) := by decide +kernel
theorem dX12_point_66 : decode cX12_point 66 = .ok (.iconst 2, 1) := by decide +kernel
theorem dX12_point_67 : decode cX12_point 67 = .ok (.invokevirtual 277, 3) := by decide +kernel
theorem dX12_point_70 : decode cX12_point 70 = .ok (.ifCond .eq 4, 3) := by decide +kernel
theorem dX12_point_73 : decode cX12_point 73 = .ok (.return_, 1) := by decide +kernel
theorem dX12_point_74 : decode cX12_point 74 = .ok (.aload_n 0, 1) := by decide +kernel
theorem dX12_point_75 : decode cX12_point 75 = .ok (.getfield 72, 3) := by decide +kernel
theorem dX12_point_78 : decode cX12_point 78 = .ok (.iload_n 1, 1) := by decide +kernel
theorem dX12_point_79 : decode cX12_point 79 = .ok (.lload_n 2, 1) := by decide +kernel
theorem dX12_point_80 : decode cX12_point 80 = .ok (.lastore, 1) := by decide +kernel
theorem dX12_point_81 : decode cX12_point 81 = .ok (.aload_n 0, 1) := by decide +kernel
theorem dX12_point_82 : decode cX12_point 82 = .ok (.getfield 75, 3) := by decide +kernel
theorem dX12_point_85 : decode cX12_point 85 = .ok (.iload_n 1, 1) := by decide +kernel
theorem dX12_point_86 : decode cX12_point 86 = .ok (.lload 4, 2) := by decide +kernel
theorem dX12_point_88 : decode cX12_point 88 = .ok (.lastore, 1) := by decide +kernel
theorem dX12_point_89 : decode cX12_point 89 = .ok (.return_, 1) := by decide +kernel
theorem dX12_side_0 : decode cX12_side 0 = .ok (.aload_n 0, 1) := by decide +kernel
theorem dX12_side_1 : decode cX12_side 1 = .ok (.iconst 0, 1) := by decide +kernel
theorem dX12_side_2 : decode cX12_side 2 = .ok (.putfield 271, 3) := by decide +kernel
theorem dX12_side_5 : decode cX12_side 5 = .ok (.aload_n 0, 1) := by decide +kernel
theorem dX12_side_6 : decode cX12_side 6 = .ok (.iload_n 1, 1) := by decide +kernel
theorem dX12_side_7 : decode cX12_side 7 = .ok (.invokestatic 625, 3) := by decide +kernel
theorem dX12_side_10 : decode cX12_side 10 = .ok (.ifCond .eq 17, 3) := by decide +kernel
theorem dX12_side_13 : decode cX12_side 13 = .ok (.iload_n 2, 1) := by decide +kernel
theorem dX12_side_14 : decode cX12_side 14 = .ok (.invokestatic 625, 3) := by decide +kernel
theorem dX12_side_17 : decode cX12_side 17 = .ok (.ifCond .eq 10, 3) := by decide +kernel
theorem dX12_side_20 : decode cX12_side 20 = .ok (.iload_n 3, 1) := by decide +kernel
theorem dX12_side_21 : decode cX12_side 21 = .ok (.invokestatic 625, 3) := by decide +kernel
theorem dX12_side_24 : decode cX12_side 24 = .ok (.ifCond .ne 7, 3) := by decide +kernel
theorem dX12_side_27 : decode cX12_side 27 = .ok (.iconst 1, 1) := by decide +kernel
theorem dX12_side_28 : decode cX12_side 28 = .ok (.goto 4, 3) := by decide +kernel
theorem dX12_side_31 : decode cX12_side 31 = .ok (.iconst 0, 1) := by decide +kernel
theorem dX12_side_32 : decode cX12_side 32 = .ok (.iconst 1, 1) := by decide +kernel
theorem dX12_side_33 : decode cX12_side 33 = .ok (.invokevirtual 277, 3) := by decide +kernel
theorem dX12_side_36 : decode cX12_side 36 = .ok (.ifCond .eq 5, 3) := by decide +kernel
theorem dX12_side_39 : decode cX12_side 39 = .ok (.iconst 0, 1) := by decide +kernel
theorem dX12_side_40 : decode cX12_side 40 = .ok (.ireturn, 1) := by decide +kernel
theorem dX12_side_41 : decode cX12_side 41 = .ok (.aload_n 0, 1) := by decide +kernel
theorem dX12_side_42 : decode cX12_side 42 = .ok (.iconst 0, 1) := by decide +kernel
theorem dX12_side_43 : decode cX12_side 43 = .ok (.iconst 1, 1) := by decide +kernel
theorem dX12_side_44 : decode cX12_side 44 = .ok (.iload_n 2, 1) := by decide +kernel
theorem dX12_side_45 : decode cX12_side 45 = .ok (.iload_n 1, 1) := by decide +kernel
theorem dX12_side_46 : decode cX12_side 46 = .ok (.invokevirtual 628, 3) := by decide +kernel
theorem dX12_side_49 : decode cX12_side 49 = .ok (.aload_n 0, 1) := by decide +kernel
theorem dX12_side_50 : decode cX12_side 50 = .ok (.iconst 1, 1) := by decide +kernel
theorem dX12_side_51 : decode cX12_side 51 = .ok (.iconst 0, 1) := by decide +kernel
theorem dX12_side_52 : decode cX12_side 52 = .ok (.iload_n 3, 1) := by decide +kernel
theorem dX12_side_53 : decode cX12_side 53 = .ok (.iload_n 1, 1) := by decide +kernel
theorem dX12_side_54 : decode cX12_side 54 = .ok (.invokevirtual 628, 3) := by decide +kernel
theorem dX12_side_57 : decode cX12_side 57 = .ok (.aload_n 0, 1) := by decide +kernel
theorem dX12_side_58 : decode cX12_side 58 = .ok (.iconst 2, 1) := by decide +kernel
theorem dX12_side_59 : decode cX12_side 59 = .ok (.iconst 0, 1) := by decide +kernel
theorem dX12_side_60 : decode cX12_side 60 = .ok (.iload_n 2, 1) := by decide +kernel
theorem dX12_side_61 : decode cX12_side 61 = .ok (.iload_n 1, 1) := by decide +kernel
theorem dX12_side_62 : decode cX12_side 62 = .ok (.invokevirtual 628, 3) := by decide +kernel
theorem dX12_side_65 : decode cX12_side 65 = .ok (.aload_n 0, 1) := by decide +kernel
theorem dX12_side_66 : decode cX12_side 66 = .ok (.iconst 3, 1) := by decide +kernel
theorem dX12_side_67 : decode cX12_side 67 = .ok (.iconst 1, 1) := by decide +kernel
theorem dX12_side_68 : decode cX12_side 68 = .ok (.iload_n 3, 1) := by decide +kernel
theorem dX12_side_69 : decode cX12_side 69 = .ok (.iload_n 1, 1) := by decide +kernel
theorem dX12_side_70 : decode cX12_side 70 = .ok (.invokevirtual 628, 3) := by decide +kernel
theorem dX12_side_73 : decode cX12_side 73 = .ok (.aload_n 0, 1) := by decide +kernel
theorem dX12_side_74 : decode cX12_side 74 = .ok (.iconst 4, 1) := by decide +kernel
theorem dX12_side_75 : decode cX12_side 75 = .ok (.iconst 0, 1) := by decide +kernel
theorem dX12_side_76 : decode cX12_side 76 = .ok (.iconst 1, 1) := by decide +kernel
theorem dX12_side_77 : decode cX12_side 77 = .ok (.invokevirtual 632, 3) := by decide +kernel
theorem dX12_side_80 : decode cX12_side 80 = .ok (.aload_n 0, 1) := by decide +kernel
theorem dX12_side_81 : decode cX12_side 81 = .ok (.iconst 5, 1) := by decide +kernel
theorem dX12_side_82 : decode cX12_side 82 = .ok (.iconst 2, 1) := by decide +kernel
theorem dX12_side_83 : decode cX12_side 83 = .ok (.iconst 3, 1) := by decide +kernel
theorem dX12_side_84 : decode cX12_side 84 = .ok (.invokevirtual 632, 3) := by decide +kernel
theorem dX12_side_87 : decode cX12_side 87 = .ok (.aload_n 0, 1) := by decide +kernel
theorem dX12_side_88 : decode cX12_side 88 = .ok (.bipush 6, 2) := by decide +kernel
theorem dX12_side_90 : decode cX12_side 90 = .ok (.iconst 4, 1) := by decide +kernel
theorem dX12_side_91 : decode cX12_side 91 = .ok (.iconst 5, 1) := by decide +kernel
theorem dX12_side_92 : decode cX12_side 92 = .ok (.iconst 1, 1) := by decide +kernel
theorem dX12_side_93 : decode cX12_side 93 = .ok (.invokevirtual 621, 3) := by decide +kernel
theorem dX12_side_96 : decode cX12_side 96 = .ok (.aload_n 0, 1) := by decide +kernel
theorem dX12_side_97 : decode cX12_side 97 = .ok (.getfield 69, 3) := by decide +kernel
theorem dX12_side_100 : decode cX12_side 100 = .ok (.bipush 6, 2) := by decide +kernel
theorem dX12_side_102 : decode cX12_side 102 = .ok (.iaload, 1) := by decide +kernel
theorem dX12_side_103 : decode cX12_side 103 = .ok (.ireturn, 1) := by decide +kernel
theorem dX12_squares_0 : decode cX12_squares 0 = .ok (.aload_n 0, 1) := by decide +kernel
theorem dX12_squares_1 : decode cX12_squares 1 = .ok (.bipush 9, 2) := by decide +kernel
theorem dX12_squares_3 : decode cX12_squares 3 = .ok (.iconst 3, 1) := by decide +kernel
theorem dX12_squares_4 : decode cX12_squares 4 = .ok (.iload_n 1, 1) := by decide +kernel
theorem dX12_squares_5 : decode cX12_squares 5 = .ok (.imul, 1) := by decide +kernel
theorem dX12_squares_6 : decode cX12_squares 6 = .ok (.iconst 3, 1) := by decide +kernel
theorem dX12_squares_7 : decode cX12_squares 7 = .ok (.iload_n 1, 1) := by decide +kernel
theorem dX12_squares_8 : decode cX12_squares 8 = .ok (.imul, 1) := by decide +kernel
theorem dX12_squares_9 : decode cX12_squares 9 = .ok (.invokevirtual 632, 3) := by decide +kernel
theorem dX12_squares_12 : decode cX12_squares 12 = .ok (.aload_n 0, 1) := by decide +kernel
theorem dX12_squares_13 : decode cX12_squares 13 = .ok (.bipush 10, 2) := by decide +kernel
theorem dX12_squares_15 : decode cX12_squares 15 = .ok (.iconst 3, 1) := by decide +kernel
theorem dX12_squares_16 : decode cX12_squares 16 = .ok (.iload_n 1, 1) := by decide +kernel
theorem dX12_squares_17 : decode cX12_squares 17 = .ok (.imul, 1) := by decide +kernel
theorem dX12_squares_18 : decode cX12_squares 18 = .ok (.iconst 1, 1) := by decide +kernel
theorem dX12_squares_19 : decode cX12_squares 19 = .ok (.iadd, 1) := by decide +kernel
theorem dX12_squares_20 : decode cX12_squares 20 = .ok (.iconst 3, 1) := by decide +kernel
theorem dX12_squares_21 : decode cX12_squares 21 = .ok (.iload_n 1, 1) := by decide +kernel
theorem dX12_squares_22 : decode cX12_squares 22 = .ok (.imul, 1) := by decide +kernel
theorem dX12_squares_23 : decode cX12_squares 23 = .ok (.iconst 1, 1) := by decide +kernel
theorem dX12_squares_24 : decode cX12_squares 24 = .ok (.iadd, 1) := by decide +kernel
theorem dX12_squares_25 : decode cX12_squares 25 = .ok (.invokevirtual 632, 3) := by decide +kernel
theorem dX12_squares_28 : decode cX12_squares 28 = .ok (.aload_n 0, 1) := by decide +kernel
theorem dX12_squares_29 : decode cX12_squares 29 = .ok (.iconst 3, 1) := by decide +kernel
theorem dX12_squares_30 : decode cX12_squares 30 = .ok (.iload_n 1, 1) := by decide +kernel
theorem dX12_squares_31 : decode cX12_squares 31 = .ok (.imul, 1) := by decide +kernel
theorem dX12_squares_32 : decode cX12_squares 32 = .ok (.iconst 2, 1) := by decide +kernel
theorem dX12_squares_33 : decode cX12_squares 33 = .ok (.iadd, 1) := by decide +kernel
theorem dX12_squares_34 : decode cX12_squares 34 = .ok (.bipush 9, 2) := by decide +kernel
theorem dX12_squares_36 : decode cX12_squares 36 = .ok (.bipush 10, 2) := by decide +kernel
theorem dX12_squares_38 : decode cX12_squares 38 = .ok (.iconst 0, 1) := by decide +kernel
theorem dX12_squares_39 : decode cX12_squares 39 = .ok (.invokevirtual 621, 3) := by decide +kernel
theorem dX12_squares_42 : decode cX12_squares 42 = .ok (.return_, 1) := by decide +kernel
theorem dX12_determinant_0 : decode cX12_determinant 0 = .ok (.aload_n 0, 1) := by decide +kernel
theorem dX12_determinant_1 : decode cX12_determinant 1 = .ok (.bipush 15, 2) := by decide +kernel
theorem dX12_determinant_3 : decode cX12_determinant 3 = .ok (.lconst 0, 1) := by decide +kernel
theorem dX12_determinant_4 : decode cX12_determinant 4 = .ok (.invokevirtual 635, 3) := by decide +kernel
theorem dX12_determinant_7 : decode cX12_determinant 7 = .ok (.iconst 0, 1) := by decide +kernel
theorem dX12_determinant_8 : decode cX12_determinant 8 = .ok (.istore_n 1, 1) := by decide +kernel
theorem dX12_determinant_9 : decode cX12_determinant 9 = .ok (.iload_n 1, 1) := by decide +kernel
theorem dX12_determinant_10 : decode cX12_determinant 10 = .ok (.iconst 3, 1) := by decide +kernel
theorem dX12_determinant_11 : decode cX12_determinant 11 = .ok (.if_icmp .ge 82, 3) := by decide +kernel
theorem dX12_determinant_14 : decode cX12_determinant 14 = .ok (.iconst 3, 1) := by decide +kernel
theorem dX12_determinant_15 : decode cX12_determinant 15 = .ok (.iload_n 1, 1) := by decide +kernel
theorem dX12_determinant_16 : decode cX12_determinant 16 = .ok (.iconst 1, 1) := by decide +kernel
theorem dX12_determinant_17 : decode cX12_determinant 17 = .ok (.iadd, 1) := by decide +kernel
theorem dX12_determinant_18 : decode cX12_determinant 18 = .ok (.iconst 3, 1) := by decide +kernel
theorem dX12_determinant_19 : decode cX12_determinant 19 = .ok (.irem, 1) := by decide +kernel
theorem dX12_determinant_20 : decode cX12_determinant 20 = .ok (.imul, 1) := by decide +kernel
theorem dX12_determinant_21 : decode cX12_determinant 21 = .ok (.istore_n 2, 1) := by decide +kernel
theorem dX12_determinant_22 : decode cX12_determinant 22 = .ok (.iconst 3, 1) := by decide +kernel
theorem dX12_determinant_23 : decode cX12_determinant 23 = .ok (.iload_n 1, 1) := by decide +kernel
theorem dX12_determinant_24 : decode cX12_determinant 24 = .ok (.iconst 2, 1) := by decide +kernel
theorem dX12_determinant_25 : decode cX12_determinant 25 = .ok (.iadd, 1) := by decide +kernel
theorem dX12_determinant_26 : decode cX12_determinant 26 = .ok (.iconst 3, 1) := by decide +kernel
theorem dX12_determinant_27 : decode cX12_determinant 27 = .ok (.irem, 1) := by decide +kernel
theorem dX12_determinant_28 : decode cX12_determinant 28 = .ok (.imul, 1) := by decide +kernel
theorem dX12_determinant_29 : decode cX12_determinant 29 = .ok (.istore_n 3, 1) := by decide +kernel
theorem dX12_determinant_30 : decode cX12_determinant 30 = .ok (.aload_n 0, 1) := by decide +kernel
theorem dX12_determinant_31 : decode cX12_determinant 31 = .ok (.bipush 9, 2) := by decide +kernel
theorem dX12_determinant_33 : decode cX12_determinant 33 = .ok (.iload_n 2, 1) := by decide +kernel
theorem dX12_determinant_34 : decode cX12_determinant 34 = .ok (.iconst 1, 1) := by decide +kernel
theorem dX12_determinant_35 : decode cX12_determinant 35 = .ok (.iadd, 1) := by decide +kernel
theorem dX12_determinant_36 : decode cX12_determinant 36 = .ok (.iload_n 3, 1) := by decide +kernel
theorem dX12_determinant_37 : decode cX12_determinant 37 = .ok (.iconst 2, 1) := by decide +kernel
theorem dX12_determinant_38 : decode cX12_determinant 38 = .ok (.iadd, 1) := by decide +kernel
theorem dX12_determinant_39 : decode cX12_determinant 39 = .ok (.invokevirtual 632, 3) := by decide +kernel
theorem dX12_determinant_42 : decode cX12_determinant 42 = .ok (.aload_n 0, 1) := by decide +kernel
theorem dX12_determinant_43 : decode cX12_determinant 43 = .ok (.bipush 10, 2) := by decide +kernel
theorem dX12_determinant_45 : decode cX12_determinant 45 = .ok (.iload_n 2, 1) := by decide +kernel
theorem dX12_determinant_46 : decode cX12_determinant 46 = .ok (.iconst 2, 1) := by decide +kernel
theorem dX12_determinant_47 : decode cX12_determinant 47 = .ok (.iadd, 1) := by decide +kernel
theorem dX12_determinant_48 : decode cX12_determinant 48 = .ok (.iload_n 3, 1) := by decide +kernel
theorem dX12_determinant_49 : decode cX12_determinant 49 = .ok (.iconst 1, 1) := by decide +kernel
theorem dX12_determinant_50 : decode cX12_determinant 50 = .ok (.iadd, 1) := by decide +kernel
theorem dX12_determinant_51 : decode cX12_determinant 51 = .ok (.invokevirtual 632, 3) := by decide +kernel
theorem dX12_determinant_54 : decode cX12_determinant 54 = .ok (.aload_n 0, 1) := by decide +kernel
theorem dX12_determinant_55 : decode cX12_determinant 55 = .ok (.bipush 11, 2) := by decide +kernel
theorem dX12_determinant_57 : decode cX12_determinant 57 = .ok (.bipush 9, 2) := by decide +kernel
theorem dX12_determinant_59 : decode cX12_determinant 59 = .ok (.bipush 10, 2) := by decide +kernel
theorem dX12_determinant_61 : decode cX12_determinant 61 = .ok (.iconst 1, 1) := by decide +kernel
theorem dX12_determinant_62 : decode cX12_determinant 62 = .ok (.invokevirtual 621, 3) := by decide +kernel
theorem dX12_determinant_65 : decode cX12_determinant 65 = .ok (.aload_n 0, 1) := by decide +kernel
theorem dX12_determinant_66 : decode cX12_determinant 66 = .ok (.bipush 12, 2) := by decide +kernel
theorem dX12_determinant_68 : decode cX12_determinant 68 = .ok (.iconst 3, 1) := by decide +kernel
theorem dX12_determinant_69 : decode cX12_determinant 69 = .ok (.iload_n 1, 1) := by decide +kernel
theorem dX12_determinant_70 : decode cX12_determinant 70 = .ok (.imul, 1) := by decide +kernel
theorem dX12_determinant_71 : decode cX12_determinant 71 = .ok (.bipush 11, 2) := by decide +kernel
theorem dX12_determinant_73 : decode cX12_determinant 73 = .ok (.invokevirtual 632, 3) := by decide +kernel
theorem dX12_determinant_76 : decode cX12_determinant 76 = .ok (.aload_n 0, 1) := by decide +kernel
theorem dX12_determinant_77 : decode cX12_determinant 77 = .ok (.bipush 15, 2) := by decide +kernel
theorem dX12_determinant_79 : decode cX12_determinant 79 = .ok (.bipush 15, 2) := by decide +kernel
theorem dX12_determinant_81 : decode cX12_determinant 81 = .ok (.bipush 12, 2) := by decide +kernel
theorem dX12_determinant_83 : decode cX12_determinant 83 = .ok (.iconst 0, 1) := by decide +kernel
theorem dX12_determinant_84 : decode cX12_determinant 84 = .ok (.invokevirtual 621, 3) := by decide +kernel
theorem dX12_determinant_87 : decode cX12_determinant 87 = .ok (.iinc 1 1, 3) := by decide +kernel
theorem dX12_determinant_90 : decode cX12_determinant 90 = .ok (.goto (-81), 3) := by decide +kernel
theorem dX12_determinant_93 : decode cX12_determinant 93 = .ok (.aload_n 0, 1) := by decide +kernel
theorem dX12_determinant_94 : decode cX12_determinant 94 = .ok (.getfield 69, 3) := by decide +kernel
theorem dX12_determinant_97 : decode cX12_determinant 97 = .ok (.bipush 15, 2) := by decide +kernel
theorem dX12_determinant_99 : decode cX12_determinant 99 = .ok (.iaload, 1) := by decide +kernel
theorem dX12_determinant_100 : decode cX12_determinant 100 = .ok (.ireturn, 1) := by decide +kernel
theorem dX12_circle_0 : decode cX12_circle 0 = .ok (.aload_n 0, 1) := by decide +kernel
theorem dX12_circle_1 : decode cX12_circle 1 = .ok (.iconst 0, 1) := by decide +kernel
theorem dX12_circle_2 : decode cX12_circle 2 = .ok (.putfield 271, 3) := by decide +kernel
theorem dX12_circle_5 : decode cX12_circle 5 = .ok (.aload_n 0, 1) := by decide +kernel
theorem dX12_circle_6 : decode cX12_circle 6 = .ok (.iload_n 1, 1) := by decide +kernel
theorem dX12_circle_7 : decode cX12_circle 7 = .ok (.invokestatic 625, 3) := by decide +kernel
theorem dX12_circle_10 : decode cX12_circle 10 = .ok (.ifCond .eq 25, 3) := by decide +kernel
theorem dX12_circle_13 : decode cX12_circle 13 = .ok (.iload_n 2, 1) := by decide +kernel
theorem dX12_circle_14 : decode cX12_circle 14 = .ok (.invokestatic 625, 3) := by decide +kernel
theorem dX12_circle_17 : decode cX12_circle 17 = .ok (.ifCond .eq 18, 3) := by decide +kernel
theorem dX12_circle_20 : decode cX12_circle 20 = .ok (.iload_n 3, 1) := by decide +kernel
theorem dX12_circle_21 : decode cX12_circle 21 = .ok (.invokestatic 625, 3) := by decide +kernel
theorem dX12_circle_24 : decode cX12_circle 24 = .ok (.ifCond .eq 11, 3) := by decide +kernel
theorem dX12_circle_27 : decode cX12_circle 27 = .ok (.iload 4, 2) := by decide +kernel
theorem dX12_circle_29 : decode cX12_circle 29 = .ok (.invokestatic 625, 3) := by decide +kernel
theorem dX12_circle_32 : decode cX12_circle 32 = .ok (.ifCond .ne 7, 3) := by decide +kernel
theorem dX12_circle_35 : decode cX12_circle 35 = .ok (.iconst 1, 1) := by decide +kernel
theorem dX12_circle_36 : decode cX12_circle 36 = .ok (.goto 4, 3) := by decide +kernel
theorem dX12_circle_39 : decode cX12_circle 39 = .ok (.iconst 0, 1) := by decide +kernel
theorem dX12_circle_40 : decode cX12_circle 40 = .ok (.iconst 1, 1) := by decide +kernel
theorem dX12_circle_41 : decode cX12_circle 41 = .ok (.invokevirtual 277, 3) := by decide +kernel
theorem dX12_circle_44 : decode cX12_circle 44 = .ok (.ifCond .eq 5, 3) := by decide +kernel
theorem dX12_circle_47 : decode cX12_circle 47 = .ok (.iconst 0, 1) := by decide +kernel
theorem dX12_circle_48 : decode cX12_circle 48 = .ok (.ireturn, 1) := by decide +kernel
theorem dX12_circle_49 : decode cX12_circle 49 = .ok (.aload_n 0, 1) := by decide +kernel
theorem dX12_circle_50 : decode cX12_circle 50 = .ok (.iconst 0, 1) := by decide +kernel
theorem dX12_circle_51 : decode cX12_circle 51 = .ok (.iconst 1, 1) := by decide +kernel
theorem dX12_circle_52 : decode cX12_circle 52 = .ok (.iload_n 1, 1) := by decide +kernel
theorem dX12_circle_53 : decode cX12_circle 53 = .ok (.iload 4, 2) := by decide +kernel
theorem dX12_circle_55 : decode cX12_circle 55 = .ok (.invokevirtual 628, 3) := by decide +kernel
theorem dX12_circle_58 : decode cX12_circle 58 = .ok (.aload_n 0, 1) := by decide +kernel
theorem dX12_circle_59 : decode cX12_circle 59 = .ok (.iconst 1, 1) := by decide +kernel
theorem dX12_circle_60 : decode cX12_circle 60 = .ok (.iconst 0, 1) := by decide +kernel
theorem dX12_circle_61 : decode cX12_circle 61 = .ok (.iload_n 1, 1) := by decide +kernel
theorem dX12_circle_62 : decode cX12_circle 62 = .ok (.iload 4, 2) := by decide +kernel
theorem dX12_circle_64 : decode cX12_circle 64 = .ok (.invokevirtual 628, 3) := by decide +kernel
theorem dX12_circle_67 : decode cX12_circle 67 = .ok (.aload_n 0, 1) := by decide +kernel
theorem dX12_circle_68 : decode cX12_circle 68 = .ok (.iconst 3, 1) := by decide +kernel
theorem dX12_circle_69 : decode cX12_circle 69 = .ok (.iconst 1, 1) := by decide +kernel
theorem dX12_circle_70 : decode cX12_circle 70 = .ok (.iload_n 2, 1) := by decide +kernel
theorem dX12_circle_71 : decode cX12_circle 71 = .ok (.iload 4, 2) := by decide +kernel
theorem dX12_circle_73 : decode cX12_circle 73 = .ok (.invokevirtual 628, 3) := by decide +kernel
theorem dX12_circle_76 : decode cX12_circle 76 = .ok (.aload_n 0, 1) := by decide +kernel
theorem dX12_circle_77 : decode cX12_circle 77 = .ok (.iconst 4, 1) := by decide +kernel
theorem dX12_circle_78 : decode cX12_circle 78 = .ok (.iconst 0, 1) := by decide +kernel
theorem dX12_circle_79 : decode cX12_circle 79 = .ok (.iload_n 2, 1) := by decide +kernel
theorem dX12_circle_80 : decode cX12_circle 80 = .ok (.iload 4, 2) := by decide +kernel
theorem dX12_circle_82 : decode cX12_circle 82 = .ok (.invokevirtual 628, 3) := by decide +kernel
theorem dX12_circle_85 : decode cX12_circle 85 = .ok (.aload_n 0, 1) := by decide +kernel
theorem dX12_circle_86 : decode cX12_circle 86 = .ok (.bipush 6, 2) := by decide +kernel
theorem dX12_circle_88 : decode cX12_circle 88 = .ok (.iconst 1, 1) := by decide +kernel
theorem dX12_circle_89 : decode cX12_circle 89 = .ok (.iload_n 3, 1) := by decide +kernel
theorem dX12_circle_90 : decode cX12_circle 90 = .ok (.iload 4, 2) := by decide +kernel
theorem dX12_circle_92 : decode cX12_circle 92 = .ok (.invokevirtual 628, 3) := by decide +kernel
theorem dX12_circle_95 : decode cX12_circle 95 = .ok (.aload_n 0, 1) := by decide +kernel
theorem dX12_circle_96 : decode cX12_circle 96 = .ok (.bipush 7, 2) := by decide +kernel
theorem dX12_circle_98 : decode cX12_circle 98 = .ok (.iconst 0, 1) := by decide +kernel
theorem dX12_circle_99 : decode cX12_circle 99 = .ok (.iload_n 3, 1) := by decide +kernel
theorem dX12_circle_100 : decode cX12_circle 100 = .ok (.iload 4, 2) := by decide +kernel
theorem dX12_circle_102 : decode cX12_circle 102 = .ok (.invokevirtual 628, 3) := by decide +kernel
theorem dX12_circle_105 : decode cX12_circle 105 = .ok (.iconst 0, 1) := by decide +kernel
theorem dX12_circle_106 : decode cX12_circle 106 = .ok (.istore 5, 2) := by decide +kernel
theorem dX12_circle_108 : decode cX12_circle 108 = .ok (.iload 5, 2) := by decide +kernel
theorem dX12_circle_110 : decode cX12_circle 110 = .ok (.iconst 3, 1) := by decide +kernel
theorem dX12_circle_111 : decode cX12_circle 111 = .ok (.if_icmp .ge 15, 3) := by decide +kernel
theorem dX12_circle_114 : decode cX12_circle 114 = .ok (.aload_n 0, 1) := by decide +kernel
theorem dX12_circle_115 : decode cX12_circle 115 = .ok (.iload 5, 2) := by decide +kernel
theorem dX12_circle_117 : decode cX12_circle 117 = .ok (.invokevirtual 638, 3) := by decide +kernel
theorem dX12_circle_120 : decode cX12_circle 120 = .ok (.iinc 5 1, 3) := by decide +kernel
theorem dX12_circle_123 : decode cX12_circle 123 = .ok (.goto (-15), 3) := by decide +kernel
theorem dX12_circle_126 : decode cX12_circle 126 = .ok (.aload_n 0, 1) := by decide +kernel
theorem dX12_circle_127 : decode cX12_circle 127 = .ok (.invokevirtual 641, 3) := by decide +kernel
theorem dX12_circle_130 : decode cX12_circle 130 = .ok (.ireturn, 1) := by decide +kernel
theorem dX12_cross_0 : decode cX12_cross 0 = .ok (.lload_n 0, 1) := by decide +kernel
theorem dX12_cross_1 : decode cX12_cross 1 = .ok (.lload 6, 2) := by decide +kernel
theorem dX12_cross_3 : decode cX12_cross 3 = .ok (.lmul, 1) := by decide +kernel
theorem dX12_cross_4 : decode cX12_cross 4 = .ok (.lload_n 2, 1) := by decide +kernel
theorem dX12_cross_5 : decode cX12_cross 5 = .ok (.lload 4, 2) := by decide +kernel
theorem dX12_cross_7 : decode cX12_cross 7 = .ok (.lmul, 1) := by decide +kernel
theorem dX12_cross_8 : decode cX12_cross 8 = .ok (.lsub, 1) := by decide +kernel
theorem dX12_cross_9 : decode cX12_cross 9 = .ok (.lreturn, 1) := by decide +kernel
theorem dX12_signOf_0 : decode cX12_signOf 0 = .ok (.lload_n 0, 1) := by decide +kernel
theorem dX12_signOf_1 : decode cX12_signOf 1 = .ok (.lconst 0, 1) := by decide +kernel
theorem dX12_signOf_2 : decode cX12_signOf 2 = .ok (.lcmp, 1) := by decide +kernel
theorem dX12_signOf_3 : decode cX12_signOf 3 = .ok (.ifCond .ge 7, 3) := by decide +kernel
theorem dX12_signOf_6 : decode cX12_signOf 6 = .ok (.iconst (-1), 1) := by decide +kernel
theorem dX12_signOf_7 : decode cX12_signOf 7 = .ok (.goto 14, 3) := by decide +kernel
theorem dX12_signOf_10 : decode cX12_signOf 10 = .ok (.lload_n 0, 1) := by decide +kernel
theorem dX12_signOf_11 : decode cX12_signOf 11 = .ok (.lconst 0, 1) := by decide +kernel
theorem dX12_signOf_12 : decode cX12_signOf 12 = .ok (.lcmp, 1) := by decide +kernel
theorem dX12_signOf_13 : decode cX12_signOf 13 = .ok (.ifCond .le 7, 3) := by decide +kernel
theorem dX12_signOf_16 : decode cX12_signOf 16 = .ok (.iconst 1, 1) := by decide +kernel
theorem dX12_signOf_17 : decode cX12_signOf 17 = .ok (.goto 4, 3) := by decide +kernel
theorem dX12_signOf_20 : decode cX12_signOf 20 = .ok (.iconst 0, 1) := by decide +kernel
theorem dX12_signOf_21 : decode cX12_signOf 21 = .ok (.ireturn, 1) := by decide +kernel
theorem dX12_turn_0 : decode cX12_turn 0 = .ok (.lload 4, 2) := by decide +kernel
theorem dX12_turn_2 : decode cX12_turn 2 = .ok (.lload_n 0, 1) := by decide +kernel
theorem dX12_turn_3 : decode cX12_turn 3 = .ok (.lsub, 1) := by decide +kernel
theorem dX12_turn_4 : decode cX12_turn 4 = .ok (.lload 6, 2) := by decide +kernel
theorem dX12_turn_6 : decode cX12_turn 6 = .ok (.lload_n 2, 1) := by decide +kernel
theorem dX12_turn_7 : decode cX12_turn 7 = .ok (.lsub, 1) := by decide +kernel
theorem dX12_turn_8 : decode cX12_turn 8 = .ok (.lload 8, 2) := by decide +kernel
theorem dX12_turn_10 : decode cX12_turn 10 = .ok (.lload_n 0, 1) := by decide +kernel
theorem dX12_turn_11 : decode cX12_turn 11 = .ok (.lsub, 1) := by decide +kernel
theorem dX12_turn_12 : decode cX12_turn 12 = .ok (.lload 10, 2) := by decide +kernel
theorem dX12_turn_14 : decode cX12_turn 14 = .ok (.lload_n 2, 1) := by decide +kernel
theorem dX12_turn_15 : decode cX12_turn 15 = .ok (.lsub, 1) := by decide +kernel
theorem dX12_turn_16 : decode cX12_turn 16 = .ok (.invokestatic 644, 3) := by decide +kernel
theorem dX12_turn_19 : decode cX12_turn 19 = .ok (.invokestatic 648, 3) := by decide +kernel
theorem dX12_turn_22 : decode cX12_turn 22 = .ok (.ireturn, 1) := by decide +kernel
theorem dX12_segment_0 : decode cX12_segment 0 = .ok (.aload_n 0, 1) := by decide +kernel
theorem dX12_segment_1 : decode cX12_segment 1 = .ok (.getfield 78, 3) := by decide +kernel
theorem dX12_segment_4 : decode cX12_segment 4 = .ok (.aload_n 0, 1) := by decide +kernel
theorem dX12_segment_5 : decode cX12_segment 5 = .ok (.getfield 652, 3) := by decide +kernel
theorem dX12_segment_8 : decode cX12_segment 8 = .ok (.aload_n 0, 1) := by decide +kernel
theorem dX12_segment_9 : decode cX12_segment 9 = .ok (.getfield 29, 3) := by decide +kernel
theorem dX12_segment_12 : decode cX12_segment 12 = .ok (.iload_n 1, 1) := by decide +kernel
theorem dX12_segment_13 : decode cX12_segment 13 = .ok (.iaload, 1) := by decide +kernel
theorem dX12_segment_14 : decode cX12_segment 14 = .ok (.i2l, 1) := by decide +kernel
theorem dX12_segment_15 : decode cX12_segment 15 = .ok (.lastore, 1) := by decide +kernel
theorem dX12_segment_16 : decode cX12_segment 16 = .ok (.aload_n 0, 1) := by decide +kernel
theorem dX12_segment_17 : decode cX12_segment 17 = .ok (.getfield 81, 3) := by decide +kernel
theorem dX12_segment_20 : decode cX12_segment 20 = .ok (.aload_n 0, 1) := by decide +kernel
theorem dX12_segment_21 : decode cX12_segment 21 = .ok (.getfield 652, 3) := by decide +kernel
theorem dX12_segment_24 : decode cX12_segment 24 = .ok (.aload_n 0, 1) := by decide +kernel
theorem dX12_segment_25 : decode cX12_segment 25 = .ok (.getfield 32, 3) := by decide +kernel
theorem dX12_segment_28 : decode cX12_segment 28 = .ok (.iload_n 1, 1) := by decide +kernel
theorem dX12_segment_29 : decode cX12_segment 29 = .ok (.iaload, 1) := by decide +kernel
theorem dX12_segment_30 : decode cX12_segment 30 = .ok (.i2l, 1) := by decide +kernel
theorem dX12_segment_31 : decode cX12_segment 31 = .ok (.lastore, 1) := by decide +kernel
theorem dX12_segment_32 : decode cX12_segment 32 = .ok (.aload_n 0, 1) := by decide +kernel
theorem dX12_segment_33 : decode cX12_segment 33 = .ok (.getfield 84, 3) := by decide +kernel
theorem dX12_segment_36 : decode cX12_segment 36 = .ok (.aload_n 0, 1) := by decide +kernel
theorem dX12_segment_37 : decode cX12_segment 37 = .ok (.getfield 652, 3) := by decide +kernel
theorem dX12_segment_40 : decode cX12_segment 40 = .ok (.aload_n 0, 1) := by decide +kernel
theorem dX12_segment_41 : decode cX12_segment 41 = .ok (.getfield 29, 3) := by decide +kernel
theorem dX12_segment_44 : decode cX12_segment 44 = .ok (.iload_n 2, 1) := by decide +kernel
theorem dX12_segment_45 : decode cX12_segment 45 = .ok (.iaload, 1) := by decide +kernel
theorem dX12_segment_46 : decode cX12_segment 46 = .ok (.i2l, 1) := by decide +kernel
theorem dX12_segment_47 : decode cX12_segment 47 = .ok (.lastore, 1) := by decide +kernel
theorem dX12_segment_48 : decode cX12_segment 48 = .ok (.aload_n 0, 1) := by decide +kernel
theorem dX12_segment_49 : decode cX12_segment 49 = .ok (.getfield 87, 3) := by decide +kernel
theorem dX12_segment_52 : decode cX12_segment 52 = .ok (.aload_n 0, 1) := by decide +kernel
theorem dX12_segment_53 : decode cX12_segment 53 = .ok (.getfield 652, 3) := by decide +kernel
theorem dX12_segment_56 : decode cX12_segment 56 = .ok (.aload_n 0, 1) := by decide +kernel
theorem dX12_segment_57 : decode cX12_segment 57 = .ok (.getfield 32, 3) := by decide +kernel
theorem dX12_segment_60 : decode cX12_segment 60 = .ok (.iload_n 2, 1) := by decide +kernel
theorem dX12_segment_61 : decode cX12_segment 61 = .ok (.iaload, 1) := by decide +kernel
theorem dX12_segment_62 : decode cX12_segment 62 = .ok (.i2l, 1) := by decide +kernel
theorem dX12_segment_63 : decode cX12_segment 63 = .ok (.lastore, 1) := by decide +kernel
theorem dX12_segment_64 : decode cX12_segment 64 = .ok (.aload_n 0, 1) := by decide +kernel
theorem dX12_segment_65 : decode cX12_segment 65 = .ok (.getfield 90, 3) := by decide +kernel
theorem dX12_segment_68 : decode cX12_segment 68 = .ok (.aload_n 0, 1) := by decide +kernel
theorem dX12_segment_69 : decode cX12_segment 69 = .ok (.getfield 652, 3) := by decide +kernel
theorem dX12_segment_72 : decode cX12_segment 72 = .ok (.iload_n 3, 1) := by decide +kernel
theorem dX12_segment_73 : decode cX12_segment 73 = .ok (.iastore, 1) := by decide +kernel
theorem dX12_segment_74 : decode cX12_segment 74 = .ok (.aload_n 0, 1) := by decide +kernel
theorem dX12_segment_75 : decode cX12_segment 75 = .ok (.getfield 93, 3) := by decide +kernel
theorem dX12_segment_78 : decode cX12_segment 78 = .ok (.aload_n 0, 1) := by decide +kernel
theorem dX12_segment_79 : decode cX12_segment 79 = .ok (.getfield 652, 3) := by decide +kernel
theorem dX12_segment_82 : decode cX12_segment 82 = .ok (.iload 4, 2) := by decide +kernel
theorem dX12_segment_84 : decode cX12_segment 84 = .ok (.iastore, 1) := by decide +kernel
theorem dX12_segment_85 : decode cX12_segment 85 = .ok (.aload_n 0, 1) := by decide +kernel
theorem dX12_segment_86 : decode cX12_segment 86 = .ok (.getfield 96, 3) := by decide +kernel
theorem dX12_segment_89 : decode cX12_segment 89 = .ok (.aload_n 0, 1) := by decide +kernel
theorem dX12_segment_90 : decode cX12_segment 90 = .ok (.getfield 652, 3) := by decide +kernel
theorem dX12_segment_93 : decode cX12_segment 93 = .ok (.iload 5, 2) := by decide +kernel
theorem dX12_segment_95 : decode cX12_segment 95 = .ok (.iastore, 1) := by decide +kernel
theorem dX12_segment_96 : decode cX12_segment 96 = .ok (.aload_n 0, 1) := by decide +kernel
theorem dX12_segment_97 : decode cX12_segment 97 = .ok (.dup, 1) := by decide +kernel
theorem dX12_segment_98 : decode cX12_segment 98 = .ok (.getfield 652, 3) := by decide +kernel
theorem dX12_segment_101 : decode cX12_segment 101 = .ok (.iconst 1, 1) := by decide +kernel
theorem dX12_segment_102 : decode cX12_segment 102 = .ok (.iadd, 1) := by decide +kernel
theorem dX12_segment_103 : decode cX12_segment 103 = .ok (.putfield 652, 3) := by decide +kernel
theorem dX12_segment_106 : decode cX12_segment 106 = .ok (.return_, 1) := by decide +kernel
theorem dX12_isAlike_0 : decode cX12_isAlike 0 = .ok (.aload_n 0, 1) := by decide +kernel
theorem dX12_isAlike_1 : decode cX12_isAlike 1 = .ok (.getfield 78, 3) := by decide +kernel
theorem dX12_isAlike_4 : decode cX12_isAlike 4 = .ok (.iload_n 1, 1) := by decide +kernel
theorem dX12_isAlike_5 : decode cX12_isAlike 5 = .ok (.laload, 1) := by decide +kernel
theorem dX12_isAlike_6 : decode cX12_isAlike 6 = .ok (.aload_n 0, 1) := by decide +kernel
theorem dX12_isAlike_7 : decode cX12_isAlike 7 = .ok (.getfield 84, 3) := by decide +kernel
theorem dX12_isAlike_10 : decode cX12_isAlike 10 = .ok (.iload_n 1, 1) := by decide +kernel
theorem dX12_isAlike_11 : decode cX12_isAlike 11 = .ok (.laload, 1) := by decide +kernel
theorem dX12_isAlike_12 : decode cX12_isAlike 12 = .ok (.lcmp, 1) := by decide +kernel
theorem dX12_isAlike_13 : decode cX12_isAlike 13 = .ok (.ifCond .ne 23, 3) := by decide +kernel
theorem dX12_isAlike_16 : decode cX12_isAlike 16 = .ok (.aload_n 0, 1) := by decide +kernel
theorem dX12_isAlike_17 : decode cX12_isAlike 17 = .ok (.getfield 81, 3) := by decide +kernel
theorem dX12_isAlike_20 : decode cX12_isAlike 20 = .ok (.iload_n 1, 1) := by decide +kernel
theorem dX12_isAlike_21 : decode cX12_isAlike 21 = .ok (.laload, 1) := by decide +kernel
theorem dX12_isAlike_22 : decode cX12_isAlike 22 = .ok (.aload_n 0, 1) := by decide +kernel
theorem dX12_isAlike_23 : decode cX12_isAlike 23 = .ok (.getfield 87, 3) := by decide +kernel
theorem dX12_isAlike_26 : decode cX12_isAlike 26 = .ok (.iload_n 1, 1) := by decide +kernel
theorem dX12_isAlike_27 : decode cX12_isAlike 27 = .ok (.laload, 1) := by decide +kernel
theorem dX12_isAlike_28 : decode cX12_isAlike 28 = .ok (.lcmp, 1) := by decide +kernel
theorem dX12_isAlike_29 : decode cX12_isAlike 29 = .ok (.ifCond .ne 7, 3) := by decide +kernel
theorem dX12_isAlike_32 : decode cX12_isAlike 32 = .ok (.iconst 1, 1) := by decide +kernel
theorem dX12_isAlike_33 : decode cX12_isAlike 33 = .ok (.goto 4, 3) := by decide +kernel
theorem dX12_isAlike_36 : decode cX12_isAlike 36 = .ok (.iconst 0, 1) := by decide +kernel
theorem dX12_isAlike_37 : decode cX12_isAlike 37 = .ok (.ireturn, 1) := by decide +kernel
theorem dX12_meetsAt_0 : decode cX12_meetsAt 0 = .ok (.aload_n 0, 1) := by decide +kernel
theorem dX12_meetsAt_1 : decode cX12_meetsAt 1 = .ok (.iconst 0, 1) := by decide +kernel
theorem dX12_meetsAt_2 : decode cX12_meetsAt 2 = .ok (.putfield 655, 3) := by decide +kernel
theorem dX12_meetsAt_5 : decode cX12_meetsAt 5 = .ok (.aload_n 0, 1) := by decide +kernel
theorem dX12_meetsAt_6 : decode cX12_meetsAt 6 = .ok (.lload_n 1, 1) := by decide +kernel
theorem dX12_meetsAt_7 : decode cX12_meetsAt 7 = .ok (.putfield 658, 3) := by decide +kernel
theorem dX12_meetsAt_10 : decode cX12_meetsAt 10 = .ok (.aload_n 0, 1) := by decide +kernel
theorem dX12_meetsAt_11 : decode cX12_meetsAt 11 = .ok (.lload_n 3, 1) := by decide +kernel
theorem dX12_meetsAt_12 : decode cX12_meetsAt 12 = .ok (.putfield 661, 3) := by decide +kernel
theorem dX12_meetsAt_15 : decode cX12_meetsAt 15 = .ok (.return_, 1) := by decide +kernel
theorem dX12_isBefore_0 : decode cX12_isBefore 0 = .ok (.lload_n 0, 1) := by decide +kernel
theorem dX12_isBefore_1 : decode cX12_isBefore 1 = .ok (.lload 4, 2) := by decide +kernel
theorem dX12_isBefore_3 : decode cX12_isBefore 3 = .ok (.lcmp, 1) := by decide +kernel
theorem dX12_isBefore_4 : decode cX12_isBefore 4 = .ok (.ifCond .lt 17, 3) := by decide +kernel
theorem dX12_isBefore_7 : decode cX12_isBefore 7 = .ok (.lload_n 0, 1) := by decide +kernel
theorem dX12_isBefore_8 : decode cX12_isBefore 8 = .ok (.lload 4, 2) := by decide +kernel
theorem dX12_isBefore_10 : decode cX12_isBefore 10 = .ok (.lcmp, 1) := by decide +kernel
theorem dX12_isBefore_11 : decode cX12_isBefore 11 = .ok (.ifCond .ne 14, 3) := by decide +kernel
theorem dX12_isBefore_14 : decode cX12_isBefore 14 = .ok (.lload_n 2, 1) := by decide +kernel
theorem dX12_isBefore_15 : decode cX12_isBefore 15 = .ok (.lload 6, 2) := by decide +kernel
theorem dX12_isBefore_17 : decode cX12_isBefore 17 = .ok (.lcmp, 1) := by decide +kernel
theorem dX12_isBefore_18 : decode cX12_isBefore 18 = .ok (.ifCond .ge 7, 3) := by decide +kernel
theorem dX12_isBefore_21 : decode cX12_isBefore 21 = .ok (.iconst 1, 1) := by decide +kernel
theorem dX12_isBefore_22 : decode cX12_isBefore 22 = .ok (.goto 4, 3) := by decide +kernel
theorem dX12_isBefore_25 : decode cX12_isBefore 25 = .ok (.iconst 0, 1) := by decide +kernel
theorem dX12_isBefore_26 : decode cX12_isBefore 26 = .ok (.ireturn, 1) := by decide +kernel
theorem dX12_meet_0 : decode cX12_meet 0 = .ok (.aload_n 0, 1) := by decide +kernel
theorem dX12_meet_1 : decode cX12_meet 1 = .ok (.getfield 78, 3) := by decide +kernel
theorem dX12_meet_4 : decode cX12_meet 4 = .ok (.iload_n 1, 1) := by decide +kernel
theorem dX12_meet_5 : decode cX12_meet 5 = .ok (.laload, 1) := by decide +kernel
theorem dX12_meet_6 : decode cX12_meet 6 = .ok (.aload_n 0, 1) := by decide +kernel
theorem dX12_meet_7 : decode cX12_meet 7 = .ok (.getfield 81, 3) := by decide +kernel
theorem dX12_meet_10 : decode cX12_meet 10 = .ok (.iload_n 1, 1) := by decide +kernel
theorem dX12_meet_11 : decode cX12_meet 11 = .ok (.laload, 1) := by decide +kernel
theorem dX12_meet_12 : decode cX12_meet 12 = .ok (.aload_n 0, 1) := by decide +kernel
theorem dX12_meet_13 : decode cX12_meet 13 = .ok (.getfield 84, 3) := by decide +kernel
theorem dX12_meet_16 : decode cX12_meet 16 = .ok (.iload_n 1, 1) := by decide +kernel
theorem dX12_meet_17 : decode cX12_meet 17 = .ok (.laload, 1) := by decide +kernel
theorem dX12_meet_18 : decode cX12_meet 18 = .ok (.aload_n 0, 1) := by decide +kernel
theorem dX12_meet_19 : decode cX12_meet 19 = .ok (.getfield 87, 3) := by decide +kernel
theorem dX12_meet_22 : decode cX12_meet 22 = .ok (.iload_n 1, 1) := by decide +kernel
theorem dX12_meet_23 : decode cX12_meet 23 = .ok (.laload, 1) := by decide +kernel
theorem dX12_meet_24 : decode cX12_meet 24 = .ok (.aload_n 0, 1) := by decide +kernel
theorem dX12_meet_25 : decode cX12_meet 25 = .ok (.getfield 78, 3) := by decide +kernel
theorem dX12_meet_28 : decode cX12_meet 28 = .ok (.iload_n 2, 1) := by decide +kernel
theorem dX12_meet_29 : decode cX12_meet 29 = .ok (.laload, 1) := by decide +kernel
theorem dX12_meet_30 : decode cX12_meet 30 = .ok (.aload_n 0, 1) := by decide +kernel
theorem dX12_meet_31 : decode cX12_meet 31 = .ok (.getfield 81, 3) := by decide +kernel
theorem dX12_meet_34 : decode cX12_meet 34 = .ok (.iload_n 2, 1) := by decide +kernel
theorem dX12_meet_35 : decode cX12_meet 35 = .ok (.laload, 1) := by decide +kernel
theorem dX12_meet_36 : decode cX12_meet 36 = .ok (.invokestatic 664, 3) := by decide +kernel
theorem dX12_meet_39 : decode cX12_meet 39 = .ok (.istore_n 3, 1) := by decide +kernel
theorem dX12_meet_40 : decode cX12_meet 40 = .ok (.aload_n 0, 1) := by decide +kernel
theorem dX12_meet_41 : decode cX12_meet 41 = .ok (.getfield 78, 3) := by decide +kernel
theorem dX12_meet_44 : decode cX12_meet 44 = .ok (.iload_n 1, 1) := by decide +kernel
theorem dX12_meet_45 : decode cX12_meet 45 = .ok (.laload, 1) := by decide +kernel
theorem dX12_meet_46 : decode cX12_meet 46 = .ok (.aload_n 0, 1) := by decide +kernel
theorem dX12_meet_47 : decode cX12_meet 47 = .ok (.getfield 81, 3) := by decide +kernel
theorem dX12_meet_50 : decode cX12_meet 50 = .ok (.iload_n 1, 1) := by decide +kernel
theorem dX12_meet_51 : decode cX12_meet 51 = .ok (.laload, 1) := by decide +kernel
theorem dX12_meet_52 : decode cX12_meet 52 = .ok (.aload_n 0, 1) := by decide +kernel
theorem dX12_meet_53 : decode cX12_meet 53 = .ok (.getfield 84, 3) := by decide +kernel
theorem dX12_meet_56 : decode cX12_meet 56 = .ok (.iload_n 1, 1) := by decide +kernel
theorem dX12_meet_57 : decode cX12_meet 57 = .ok (.laload, 1) := by decide +kernel
theorem dX12_meet_58 : decode cX12_meet 58 = .ok (.aload_n 0, 1) := by decide +kernel
theorem dX12_meet_59 : decode cX12_meet 59 = .ok (.getfield 87, 3) := by decide +kernel
theorem dX12_meet_62 : decode cX12_meet 62 = .ok (.iload_n 1, 1) := by decide +kernel
theorem dX12_meet_63 : decode cX12_meet 63 = .ok (.laload, 1) := by decide +kernel
theorem dX12_meet_64 : decode cX12_meet 64 = .ok (.aload_n 0, 1) := by decide +kernel
theorem dX12_meet_65 : decode cX12_meet 65 = .ok (.getfield 84, 3) := by decide +kernel
theorem dX12_meet_68 : decode cX12_meet 68 = .ok (.iload_n 2, 1) := by decide +kernel
theorem dX12_meet_69 : decode cX12_meet 69 = .ok (.laload, 1) := by decide +kernel
theorem dX12_meet_70 : decode cX12_meet 70 = .ok (.aload_n 0, 1) := by decide +kernel
theorem dX12_meet_71 : decode cX12_meet 71 = .ok (.getfield 87, 3) := by decide +kernel
theorem dX12_meet_74 : decode cX12_meet 74 = .ok (.iload_n 2, 1) := by decide +kernel
theorem dX12_meet_75 : decode cX12_meet 75 = .ok (.laload, 1) := by decide +kernel
theorem dX12_meet_76 : decode cX12_meet 76 = .ok (.invokestatic 664, 3) := by decide +kernel
theorem dX12_meet_79 : decode cX12_meet 79 = .ok (.istore 4, 2) := by decide +kernel
theorem dX12_meet_81 : decode cX12_meet 81 = .ok (.aload_n 0, 1) := by decide +kernel
theorem dX12_meet_82 : decode cX12_meet 82 = .ok (.getfield 78, 3) := by decide +kernel
theorem dX12_meet_85 : decode cX12_meet 85 = .ok (.iload_n 2, 1) := by decide +kernel
theorem dX12_meet_86 : decode cX12_meet 86 = .ok (.laload, 1) := by decide +kernel
theorem dX12_meet_87 : decode cX12_meet 87 = .ok (.aload_n 0, 1) := by decide +kernel
theorem dX12_meet_88 : decode cX12_meet 88 = .ok (.getfield 81, 3) := by decide +kernel
theorem dX12_meet_91 : decode cX12_meet 91 = .ok (.iload_n 2, 1) := by decide +kernel
theorem dX12_meet_92 : decode cX12_meet 92 = .ok (.laload, 1) := by decide +kernel
theorem dX12_meet_93 : decode cX12_meet 93 = .ok (.aload_n 0, 1) := by decide +kernel
theorem dX12_meet_94 : decode cX12_meet 94 = .ok (.getfield 84, 3) := by decide +kernel
theorem dX12_meet_97 : decode cX12_meet 97 = .ok (.iload_n 2, 1) := by decide +kernel
theorem dX12_meet_98 : decode cX12_meet 98 = .ok (.laload, 1) := by decide +kernel
theorem dX12_meet_99 : decode cX12_meet 99 = .ok (.aload_n 0, 1) := by decide +kernel
theorem dX12_meet_100 : decode cX12_meet 100 = .ok (.getfield 87, 3) := by decide +kernel
theorem dX12_meet_103 : decode cX12_meet 103 = .ok (.iload_n 2, 1) := by decide +kernel
theorem dX12_meet_104 : decode cX12_meet 104 = .ok (.laload, 1) := by decide +kernel
theorem dX12_meet_105 : decode cX12_meet 105 = .ok (.aload_n 0, 1) := by decide +kernel
theorem dX12_meet_106 : decode cX12_meet 106 = .ok (.getfield 78, 3) := by decide +kernel
theorem dX12_meet_109 : decode cX12_meet 109 = .ok (.iload_n 1, 1) := by decide +kernel
theorem dX12_meet_110 : decode cX12_meet 110 = .ok (.laload, 1) := by decide +kernel
theorem dX12_meet_111 : decode cX12_meet 111 = .ok (.aload_n 0, 1) := by decide +kernel
theorem dX12_meet_112 : decode cX12_meet 112 = .ok (.getfield 81, 3) := by decide +kernel
theorem dX12_meet_115 : decode cX12_meet 115 = .ok (.iload_n 1, 1) := by decide +kernel
theorem dX12_meet_116 : decode cX12_meet 116 = .ok (.laload, 1) := by decide +kernel
theorem dX12_meet_117 : decode cX12_meet 117 = .ok (.invokestatic 664, 3) := by decide +kernel
theorem dX12_meet_120 : decode cX12_meet 120 = .ok (.istore 5, 2) := by decide +kernel
theorem dX12_meet_122 : decode cX12_meet 122 = .ok (.aload_n 0, 1) := by decide +kernel
theorem dX12_meet_123 : decode cX12_meet 123 = .ok (.getfield 78, 3) := by decide +kernel
theorem dX12_meet_126 : decode cX12_meet 126 = .ok (.iload_n 2, 1) := by decide +kernel
theorem dX12_meet_127 : decode cX12_meet 127 = .ok (.laload, 1) := by decide +kernel
theorem dX12_meet_128 : decode cX12_meet 128 = .ok (.aload_n 0, 1) := by decide +kernel
theorem dX12_meet_129 : decode cX12_meet 129 = .ok (.getfield 81, 3) := by decide +kernel
theorem dX12_meet_132 : decode cX12_meet 132 = .ok (.iload_n 2, 1) := by decide +kernel
theorem dX12_meet_133 : decode cX12_meet 133 = .ok (.laload, 1) := by decide +kernel
theorem dX12_meet_134 : decode cX12_meet 134 = .ok (.aload_n 0, 1) := by decide +kernel
theorem dX12_meet_135 : decode cX12_meet 135 = .ok (.getfield 84, 3) := by decide +kernel
theorem dX12_meet_138 : decode cX12_meet 138 = .ok (.iload_n 2, 1) := by decide +kernel
theorem dX12_meet_139 : decode cX12_meet 139 = .ok (.laload, 1) := by decide +kernel
theorem dX12_meet_140 : decode cX12_meet 140 = .ok (.aload_n 0, 1) := by decide +kernel
theorem dX12_meet_141 : decode cX12_meet 141 = .ok (.getfield 87, 3) := by decide +kernel
theorem dX12_meet_144 : decode cX12_meet 144 = .ok (.iload_n 2, 1) := by decide +kernel
theorem dX12_meet_145 : decode cX12_meet 145 = .ok (.laload, 1) := by decide +kernel
theorem dX12_meet_146 : decode cX12_meet 146 = .ok (.aload_n 0, 1) := by decide +kernel
theorem dX12_meet_147 : decode cX12_meet 147 = .ok (.getfield 84, 3) := by decide +kernel
theorem dX12_meet_150 : decode cX12_meet 150 = .ok (.iload_n 1, 1) := by decide +kernel
theorem dX12_meet_151 : decode cX12_meet 151 = .ok (.laload, 1) := by decide +kernel
theorem dX12_meet_152 : decode cX12_meet 152 = .ok (.aload_n 0, 1) := by decide +kernel
theorem dX12_meet_153 : decode cX12_meet 153 = .ok (.getfield 87, 3) := by decide +kernel
theorem dX12_meet_156 : decode cX12_meet 156 = .ok (.iload_n 1, 1) := by decide +kernel
theorem dX12_meet_157 : decode cX12_meet 157 = .ok (.laload, 1) := by decide +kernel
theorem dX12_meet_158 : decode cX12_meet 158 = .ok (.invokestatic 664, 3) := by decide +kernel
theorem dX12_meet_161 : decode cX12_meet 161 = .ok (.istore 6, 2) := by decide +kernel
theorem dX12_meet_163 : decode cX12_meet 163 = .ok (.iload_n 3, 1) := by decide +kernel
theorem dX12_meet_164 : decode cX12_meet 164 = .ok (.ifCond .ne 15, 3) := by decide +kernel
theorem dX12_meet_167 : decode cX12_meet 167 = .ok (.iload 4, 2) := by decide +kernel
theorem dX12_meet_169 : decode cX12_meet 169 = .ok (.ifCond .ne 10, 3) := by decide +kernel
theorem dX12_meet_172 : decode cX12_meet 172 = .ok (.aload_n 0, 1) := by decide +kernel
theorem dX12_meet_173 : decode cX12_meet 173 = .ok (.iload_n 1, 1) := by decide +kernel
theorem dX12_meet_174 : decode cX12_meet 174 = .ok (.iload_n 2, 1) := by decide +kernel
theorem dX12_meet_175 : decode cX12_meet 175 = .ok (.invokevirtual 668, 3) := by decide +kernel
theorem dX12_meet_178 : decode cX12_meet 178 = .ok (.ireturn, 1) := by decide +kernel
theorem dX12_meet_179 : decode cX12_meet 179 = .ok (.iload_n 3, 1) := by decide +kernel
theorem dX12_meet_180 : decode cX12_meet 180 = .ok (.iload 4, 2) := by decide +kernel
theorem dX12_meet_182 : decode cX12_meet 182 = .ok (.imul, 1) := by decide +kernel
theorem dX12_meet_183 : decode cX12_meet 183 = .ok (.ifCond .gt 11, 3) := by decide +kernel
theorem dX12_meet_186 : decode cX12_meet 186 = .ok (.iload 5, 2) := by decide +kernel
theorem dX12_meet_188 : decode cX12_meet 188 = .ok (.iload 6, 2) := by decide +kernel
theorem dX12_meet_190 : decode cX12_meet 190 = .ok (.imul, 1) := by decide +kernel
theorem dX12_meet_191 : decode cX12_meet 191 = .ok (.ifCond .le 5, 3) := by decide +kernel
theorem dX12_meet_194 : decode cX12_meet 194 = .ok (.iconst 0, 1) := by decide +kernel
theorem dX12_meet_195 : decode cX12_meet 195 = .ok (.ireturn, 1) := by decide +kernel
theorem dX12_meet_196 : decode cX12_meet 196 = .ok (.aload_n 0, 1) := by decide +kernel
theorem dX12_meet_197 : decode cX12_meet 197 = .ok (.iconst 1, 1) := by decide +kernel
theorem dX12_meet_198 : decode cX12_meet 198 = .ok (.putfield 655, 3) := by decide +kernel
theorem dX12_meet_201 : decode cX12_meet 201 = .ok (.iload_n 3, 1) := by decide +kernel
theorem dX12_meet_202 : decode cX12_meet 202 = .ok (.ifCond .ne 22, 3) := by decide +kernel
theorem dX12_meet_205 : decode cX12_meet 205 = .ok (.aload_n 0, 1) := by decide +kernel
theorem dX12_meet_206 : decode cX12_meet 206 = .ok (.aload_n 0, 1) := by decide +kernel
theorem dX12_meet_207 : decode cX12_meet 207 = .ok (.getfield 78, 3) := by decide +kernel
theorem dX12_meet_210 : decode cX12_meet 210 = .ok (.iload_n 2, 1) := by decide +kernel
theorem dX12_meet_211 : decode cX12_meet 211 = .ok (.laload, 1) := by decide +kernel
theorem dX12_meet_212 : decode cX12_meet 212 = .ok (.aload_n 0, 1) := by decide +kernel
theorem dX12_meet_213 : decode cX12_meet 213 = .ok (.getfield 81, 3) := by decide +kernel
theorem dX12_meet_216 : decode cX12_meet 216 = .ok (.iload_n 2, 1) := by decide +kernel
theorem dX12_meet_217 : decode cX12_meet 217 = .ok (.laload, 1) := by decide +kernel
theorem dX12_meet_218 : decode cX12_meet 218 = .ok (.invokevirtual 671, 3) := by decide +kernel
theorem dX12_meet_221 : decode cX12_meet 221 = .ok (.goto 72, 3) := by decide +kernel
theorem dX12_meet_224 : decode cX12_meet 224 = .ok (.iload 4, 2) := by decide +kernel
theorem dX12_meet_226 : decode cX12_meet 226 = .ok (.ifCond .ne 22, 3) := by decide +kernel
theorem dX12_meet_229 : decode cX12_meet 229 = .ok (.aload_n 0, 1) := by decide +kernel
theorem dX12_meet_230 : decode cX12_meet 230 = .ok (.aload_n 0, 1) := by decide +kernel
theorem dX12_meet_231 : decode cX12_meet 231 = .ok (.getfield 84, 3) := by decide +kernel
theorem dX12_meet_234 : decode cX12_meet 234 = .ok (.iload_n 2, 1) := by decide +kernel
theorem dX12_meet_235 : decode cX12_meet 235 = .ok (.laload, 1) := by decide +kernel
theorem dX12_meet_236 : decode cX12_meet 236 = .ok (.aload_n 0, 1) := by decide +kernel
theorem dX12_meet_237 : decode cX12_meet 237 = .ok (.getfield 87, 3) := by decide +kernel
theorem dX12_meet_240 : decode cX12_meet 240 = .ok (.iload_n 2, 1) := by decide +kernel
theorem dX12_meet_241 : decode cX12_meet 241 = .ok (.laload, 1) := by decide +kernel
theorem dX12_meet_242 : decode cX12_meet 242 = .ok (.invokevirtual 671, 3) := by decide +kernel
theorem dX12_meet_245 : decode cX12_meet 245 = .ok (.goto 48, 3) := by decide +kernel
theorem dX12_meet_248 : decode cX12_meet 248 = .ok (.iload 5, 2) := by decide +kernel
theorem dX12_meet_250 : decode cX12_meet 250 = .ok (.ifCond .ne 22, 3) := by decide +kernel
theorem dX12_meet_253 : decode cX12_meet 253 = .ok (.aload_n 0, 1) := by decide +kernel
theorem dX12_meet_254 : decode cX12_meet 254 = .ok (.aload_n 0, 1) := by decide +kernel
theorem dX12_meet_255 : decode cX12_meet 255 = .ok (.getfield 78, 3) := by decide +kernel
theorem dX12_meet_258 : decode cX12_meet 258 = .ok (.iload_n 1, 1) := by decide +kernel
theorem dX12_meet_259 : decode cX12_meet 259 = .ok (.laload, 1) := by decide +kernel
theorem dX12_meet_260 : decode cX12_meet 260 = .ok (.aload_n 0, 1) := by decide +kernel
theorem dX12_meet_261 : decode cX12_meet 261 = .ok (.getfield 81, 3) := by decide +kernel
theorem dX12_meet_264 : decode cX12_meet 264 = .ok (.iload_n 1, 1) := by decide +kernel
theorem dX12_meet_265 : decode cX12_meet 265 = .ok (.laload, 1) := by decide +kernel
theorem dX12_meet_266 : decode cX12_meet 266 = .ok (.invokevirtual 671, 3) := by decide +kernel
theorem dX12_meet_269 : decode cX12_meet 269 = .ok (.goto 24, 3) := by decide +kernel
theorem dX12_meet_272 : decode cX12_meet 272 = .ok (.iload 6, 2) := by decide +kernel
theorem dX12_meet_274 : decode cX12_meet 274 = .ok (.ifCond .ne 19, 3) := by decide +kernel
theorem dX12_meet_277 : decode cX12_meet 277 = .ok (.aload_n 0, 1) := by decide +kernel
theorem dX12_meet_278 : decode cX12_meet 278 = .ok (.aload_n 0, 1) := by decide +kernel
theorem dX12_meet_279 : decode cX12_meet 279 = .ok (.getfield 84, 3) := by decide +kernel
theorem dX12_meet_282 : decode cX12_meet 282 = .ok (.iload_n 1, 1) := by decide +kernel
theorem dX12_meet_283 : decode cX12_meet 283 = .ok (.laload, 1) := by decide +kernel
theorem dX12_meet_284 : decode cX12_meet 284 = .ok (.aload_n 0, 1) := by decide +kernel
theorem dX12_meet_285 : decode cX12_meet 285 = .ok (.getfield 87, 3) := by decide +kernel
theorem dX12_meet_288 : decode cX12_meet 288 = .ok (.iload_n 1, 1) := by decide +kernel
theorem dX12_meet_289 : decode cX12_meet 289 = .ok (.laload, 1) := by decide +kernel
theorem dX12_meet_290 : decode cX12_meet 290 = .ok (.invokevirtual 671, 3) := by decide +kernel
theorem dX12_meet_293 : decode cX12_meet 293 = .ok (.iconst 1, 1) := by decide +kernel
theorem dX12_meet_294 : decode cX12_meet 294 = .ok (.ireturn, 1) := by decide +kernel
theorem dX12_along_0 : decode cX12_along 0 = .ok (.aload_n 0, 1) := by decide +kernel
theorem dX12_along_1 : decode cX12_along 1 = .ok (.getfield 84, 3) := by decide +kernel
theorem dX12_along_4 : decode cX12_along 4 = .ok (.iload_n 1, 1) := by decide +kernel
theorem dX12_along_5 : decode cX12_along 5 = .ok (.laload, 1) := by decide +kernel
theorem dX12_along_6 : decode cX12_along 6 = .ok (.aload_n 0, 1) := by decide +kernel
theorem dX12_along_7 : decode cX12_along 7 = .ok (.getfield 87, 3) := by decide +kernel
theorem dX12_along_10 : decode cX12_along 10 = .ok (.iload_n 1, 1) := by decide +kernel
theorem dX12_along_11 : decode cX12_along 11 = .ok (.laload, 1) := by decide +kernel
theorem dX12_along_12 : decode cX12_along 12 = .ok (.aload_n 0, 1) := by decide +kernel
theorem dX12_along_13 : decode cX12_along 13 = .ok (.getfield 78, 3) := by decide +kernel
theorem dX12_along_16 : decode cX12_along 16 = .ok (.iload_n 1, 1) := by decide +kernel
theorem dX12_along_17 : decode cX12_along 17 = .ok (.laload, 1) := by decide +kernel
theorem dX12_along_18 : decode cX12_along 18 = .ok (.aload_n 0, 1) := by decide +kernel
theorem dX12_along_19 : decode cX12_along 19 = .ok (.getfield 81, 3) := by decide +kernel
theorem dX12_along_22 : decode cX12_along 22 = .ok (.iload_n 1, 1) := by decide +kernel
theorem dX12_along_23 : decode cX12_along 23 = .ok (.laload, 1) := by decide +kernel
theorem dX12_along_24 : decode cX12_along 24 = .ok (.invokestatic 674, 3) := by decide +kernel
theorem dX12_along_27 : decode cX12_along 27 = .ok (.istore_n 3, 1) := by decide +kernel
theorem dX12_along_28 : decode cX12_along 28 = .ok (.iload_n 3, 1) := by decide +kernel
theorem dX12_along_29 : decode cX12_along 29 = .ok (.ifCond .eq 12, 3) := by decide +kernel
theorem dX12_along_32 : decode cX12_along 32 = .ok (.aload_n 0, 1) := by decide +kernel
theorem dX12_along_33 : decode cX12_along 33 = .ok (.getfield 84, 3) := by decide +kernel
theorem dX12_along_36 : decode cX12_along 36 = .ok (.iload_n 1, 1) := by decide +kernel
theorem dX12_along_37 : decode cX12_along 37 = .ok (.laload, 1) := by decide +kernel
theorem dX12_along_38 : decode cX12_along 38 = .ok (.goto 9, 3) := by decide +kernel
theorem dX12_along_41 : decode cX12_along 41 = .ok (.aload_n 0, 1) := by decide +kernel
theorem dX12_along_42 : decode cX12_along 42 = .ok (.getfield 78, 3) := by decide +kernel
theorem dX12_along_45 : decode cX12_along 45 = .ok (.iload_n 1, 1) := by decide +kernel
theorem dX12_along_46 : decode cX12_along 46 = .ok (.laload, 1) := by decide +kernel
theorem dX12_along_47 : decode cX12_along 47 = .ok (.lstore 4, 2) := by decide +kernel
theorem dX12_along_49 : decode cX12_along 49 = .ok (.iload_n 3, 1) := by decide +kernel
theorem dX12_along_50 : decode cX12_along 50 = .ok (.ifCond .eq 12, 3) := by decide +kernel
theorem dX12_along_53 : decode cX12_along 53 = .ok (.aload_n 0, 1) := by decide +kernel
theorem dX12_along_54 : decode cX12_along 54 = .ok (.getfield 87, 3) := by decide +kernel
theorem dX12_along_57 : decode cX12_along 57 = .ok (.iload_n 1, 1) := by decide +kernel
theorem dX12_along_58 : decode cX12_along 58 = .ok (.laload, 1) := by decide +kernel
theorem dX12_along_59 : decode cX12_along 59 = .ok (.goto 9, 3) := by decide +kernel
theorem dX12_along_62 : decode cX12_along 62 = .ok (.aload_n 0, 1) := by decide +kernel
theorem dX12_along_63 : decode cX12_along 63 = .ok (.getfield 81, 3) := by decide +kernel
theorem dX12_along_66 : decode cX12_along 66 = .ok (.iload_n 1, 1) := by decide +kernel
theorem dX12_along_67 : decode cX12_along 67 = .ok (.laload, 1) := by decide +kernel
theorem dX12_along_68 : decode cX12_along 68 = .ok (.lstore 6, 2) := by decide +kernel
theorem dX12_along_70 : decode cX12_along 70 = .ok (.iload_n 3, 1) := by decide +kernel
theorem dX12_along_71 : decode cX12_along 71 = .ok (.ifCond .eq 12, 3) := by decide +kernel
theorem dX12_along_74 : decode cX12_along 74 = .ok (.aload_n 0, 1) := by decide +kernel
theorem dX12_along_75 : decode cX12_along 75 = .ok (.getfield 78, 3) := by decide +kernel
theorem dX12_along_78 : decode cX12_along 78 = .ok (.iload_n 1, 1) := by decide +kernel
theorem dX12_along_79 : decode cX12_along 79 = .ok (.laload, 1) := by decide +kernel
theorem dX12_along_80 : decode cX12_along 80 = .ok (.goto 9, 3) := by decide +kernel
theorem dX12_along_83 : decode cX12_along 83 = .ok (.aload_n 0, 1) := by decide +kernel
theorem dX12_along_84 : decode cX12_along 84 = .ok (.getfield 84, 3) := by decide +kernel
theorem dX12_along_87 : decode cX12_along 87 = .ok (.iload_n 1, 1) := by decide +kernel
theorem dX12_along_88 : decode cX12_along 88 = .ok (.laload, 1) := by decide +kernel
theorem dX12_along_89 : decode cX12_along 89 = .ok (.lstore 8, 2) := by decide +kernel
theorem dX12_along_91 : decode cX12_along 91 = .ok (.iload_n 3, 1) := by decide +kernel
theorem dX12_along_92 : decode cX12_along 92 = .ok (.ifCond .eq 12, 3) := by decide +kernel
theorem dX12_along_95 : decode cX12_along 95 = .ok (.aload_n 0, 1) := by decide +kernel
theorem dX12_along_96 : decode cX12_along 96 = .ok (.getfield 81, 3) := by decide +kernel
theorem dX12_along_99 : decode cX12_along 99 = .ok (.iload_n 1, 1) := by decide +kernel
theorem dX12_along_100 : decode cX12_along 100 = .ok (.laload, 1) := by decide +kernel
theorem dX12_along_101 : decode cX12_along 101 = .ok (.goto 9, 3) := by decide +kernel
theorem dX12_along_104 : decode cX12_along 104 = .ok (.aload_n 0, 1) := by decide +kernel
theorem dX12_along_105 : decode cX12_along 105 = .ok (.getfield 87, 3) := by decide +kernel
theorem dX12_along_108 : decode cX12_along 108 = .ok (.iload_n 1, 1) := by decide +kernel
theorem dX12_along_109 : decode cX12_along 109 = .ok (.laload, 1) := by decide +kernel
theorem dX12_along_110 : decode cX12_along 110 = .ok (.lstore 10, 2) := by decide +kernel
theorem dX12_along_112 : decode cX12_along 112 = .ok (.aload_n 0, 1) := by decide +kernel
theorem dX12_along_113 : decode cX12_along 113 = .ok (.getfield 84, 3) := by decide +kernel
theorem dX12_along_116 : decode cX12_along 116 = .ok (.iload_n 2, 1) := by decide +kernel
theorem dX12_along_117 : decode cX12_along 117 = .ok (.laload, 1) := by decide +kernel
theorem dX12_along_118 : decode cX12_along 118 = .ok (.aload_n 0, 1) := by decide +kernel
theorem dX12_along_119 : decode cX12_along 119 = .ok (.getfield 87, 3) := by decide +kernel
theorem dX12_along_122 : decode cX12_along 122 = .ok (.iload_n 2, 1) := by decide +kernel
theorem dX12_along_123 : decode cX12_along 123 = .ok (.laload, 1) := by decide +kernel
theorem dX12_along_124 : decode cX12_along 124 = .ok (.aload_n 0, 1) := by decide +kernel
theorem dX12_along_125 : decode cX12_along 125 = .ok (.getfield 78, 3) := by decide +kernel
theorem dX12_along_128 : decode cX12_along 128 = .ok (.iload_n 2, 1) := by decide +kernel
theorem dX12_along_129 : decode cX12_along 129 = .ok (.laload, 1) := by decide +kernel
theorem dX12_along_130 : decode cX12_along 130 = .ok (.aload_n 0, 1) := by decide +kernel
theorem dX12_along_131 : decode cX12_along 131 = .ok (.getfield 81, 3) := by decide +kernel
theorem dX12_along_134 : decode cX12_along 134 = .ok (.iload_n 2, 1) := by decide +kernel
theorem dX12_along_135 : decode cX12_along 135 = .ok (.laload, 1) := by decide +kernel
theorem dX12_along_136 : decode cX12_along 136 = .ok (.invokestatic 674, 3) := by decide +kernel
theorem dX12_along_139 : decode cX12_along 139 = .ok (.istore 12, 2) := by decide +kernel
theorem dX12_along_141 : decode cX12_along 141 = .ok (.iload 12, 2) := by decide +kernel
theorem dX12_along_143 : decode cX12_along 143 = .ok (.ifCond .eq 12, 3) := by decide +kernel
theorem dX12_along_146 : decode cX12_along 146 = .ok (.aload_n 0, 1) := by decide +kernel
theorem dX12_along_147 : decode cX12_along 147 = .ok (.getfield 84, 3) := by decide +kernel
theorem dX12_along_150 : decode cX12_along 150 = .ok (.iload_n 2, 1) := by decide +kernel
theorem dX12_along_151 : decode cX12_along 151 = .ok (.laload, 1) := by decide +kernel
theorem dX12_along_152 : decode cX12_along 152 = .ok (.goto 9, 3) := by decide +kernel
theorem dX12_along_155 : decode cX12_along 155 = .ok (.aload_n 0, 1) := by decide +kernel
theorem dX12_along_156 : decode cX12_along 156 = .ok (.getfield 78, 3) := by decide +kernel
theorem dX12_along_159 : decode cX12_along 159 = .ok (.iload_n 2, 1) := by decide +kernel
theorem dX12_along_160 : decode cX12_along 160 = .ok (.laload, 1) := by decide +kernel
theorem dX12_along_161 : decode cX12_along 161 = .ok (.lstore 13, 2) := by decide +kernel
theorem dX12_along_163 : decode cX12_along 163 = .ok (.iload 12, 2) := by decide +kernel
theorem dX12_along_165 : decode cX12_along 165 = .ok (.ifCond .eq 12, 3) := by decide +kernel
theorem dX12_along_168 : decode cX12_along 168 = .ok (.aload_n 0, 1) := by decide +kernel
theorem dX12_along_169 : decode cX12_along 169 = .ok (.getfield 87, 3) := by decide +kernel
theorem dX12_along_172 : decode cX12_along 172 = .ok (.iload_n 2, 1) := by decide +kernel
theorem dX12_along_173 : decode cX12_along 173 = .ok (.laload, 1) := by decide +kernel
theorem dX12_along_174 : decode cX12_along 174 = .ok (.goto 9, 3) := by decide +kernel
theorem dX12_along_177 : decode cX12_along 177 = .ok (.aload_n 0, 1) := by decide +kernel
theorem dX12_along_178 : decode cX12_along 178 = .ok (.getfield 81, 3) := by decide +kernel
theorem dX12_along_181 : decode cX12_along 181 = .ok (.iload_n 2, 1) := by decide +kernel
theorem dX12_along_182 : decode cX12_along 182 = .ok (.laload, 1) := by decide +kernel
theorem dX12_along_183 : decode cX12_along 183 = .ok (.lstore 15, 2) := by decide +kernel
theorem dX12_along_185 : decode cX12_along 185 = .ok (.iload 12, 2) := by decide +kernel
theorem dX12_along_187 : decode cX12_along 187 = .ok (.ifCond .eq 12, 3) := by decide +kernel
theorem dX12_along_190 : decode cX12_along 190 = .ok (.aload_n 0, 1) := by decide +kernel
theorem dX12_along_191 : decode cX12_along 191 = .ok (.getfield 78, 3) := by decide +kernel
theorem dX12_along_194 : decode cX12_along 194 = .ok (.iload_n 2, 1) := by decide +kernel
theorem dX12_along_195 : decode cX12_along 195 = .ok (.laload, 1) := by decide +kernel
theorem dX12_along_196 : decode cX12_along 196 = .ok (.goto 9, 3) := by decide +kernel
theorem dX12_along_199 : decode cX12_along 199 = .ok (.aload_n 0, 1) := by decide +kernel
theorem dX12_along_200 : decode cX12_along 200 = .ok (.getfield 84, 3) := by decide +kernel
theorem dX12_along_203 : decode cX12_along 203 = .ok (.iload_n 2, 1) := by decide +kernel
theorem dX12_along_204 : decode cX12_along 204 = .ok (.laload, 1) := by decide +kernel
theorem dX12_along_205 : decode cX12_along 205 = .ok (.lstore 17, 2) := by decide +kernel
theorem dX12_along_207 : decode cX12_along 207 = .ok (.iload 12, 2) := by decide +kernel
theorem dX12_along_209 : decode cX12_along 209 = .ok (.ifCond .eq 12, 3) := by decide +kernel
theorem dX12_along_212 : decode cX12_along 212 = .ok (.aload_n 0, 1) := by decide +kernel
theorem dX12_along_213 : decode cX12_along 213 = .ok (.getfield 81, 3) := by decide +kernel
theorem dX12_along_216 : decode cX12_along 216 = .ok (.iload_n 2, 1) := by decide +kernel
theorem dX12_along_217 : decode cX12_along 217 = .ok (.laload, 1) := by decide +kernel
theorem dX12_along_218 : decode cX12_along 218 = .ok (.goto 9, 3) := by decide +kernel
theorem dX12_along_221 : decode cX12_along 221 = .ok (.aload_n 0, 1) := by decide +kernel
theorem dX12_along_222 : decode cX12_along 222 = .ok (.getfield 87, 3) := by decide +kernel
theorem dX12_along_225 : decode cX12_along 225 = .ok (.iload_n 2, 1) := by decide +kernel
theorem dX12_along_226 : decode cX12_along 226 = .ok (.laload, 1) := by decide +kernel
theorem dX12_along_227 : decode cX12_along 227 = .ok (.lstore 19, 2) := by decide +kernel
theorem dX12_along_229 : decode cX12_along 229 = .ok (.lload 4, 2) := by decide +kernel
theorem dX12_along_231 : decode cX12_along 231 = .ok (.lload 6, 2) := by decide +kernel
theorem dX12_along_233 : decode cX12_along 233 = .ok (.lload 13, 2) := by decide +kernel
theorem dX12_along_235 : decode cX12_along 235 = .ok (.lload 15, 2) := by decide +kernel
theorem dX12_along_237 : decode cX12_along 237 = .ok (.invokestatic 674, 3) := by decide +kernel
theorem dX12_along_240 : decode cX12_along 240 = .ok (.istore 21, 2) := by decide +kernel
theorem dX12_along_242 : decode cX12_along 242 = .ok (.iload 21, 2) := by decide +kernel
theorem dX12_along_244 : decode cX12_along 244 = .ok (.ifCond .eq 8, 3) := by decide +kernel
theorem dX12_along_247 : decode cX12_along 247 = .ok (.lload 13, 2) := by decide +kernel
theorem dX12_along_249 : decode cX12_along 249 = .ok (.goto 5, 3) := by decide +kernel
theorem dX12_along_252 : decode cX12_along 252 = .ok (.lload 4, 2) := by decide +kernel
theorem dX12_along_254 : decode cX12_along 254 = .ok (.lstore 4, 2) := by decide +kernel
theorem dX12_along_256 : decode cX12_along 256 = .ok (.iload 21, 2) := by decide +kernel
theorem dX12_along_258 : decode cX12_along 258 = .ok (.ifCond .eq 8, 3) := by decide +kernel
theorem dX12_along_261 : decode cX12_along 261 = .ok (.lload 15, 2) := by decide +kernel
theorem dX12_along_263 : decode cX12_along 263 = .ok (.goto 5, 3) := by decide +kernel
theorem dX12_along_266 : decode cX12_along 266 = .ok (.lload 6, 2) := by decide +kernel
theorem dX12_along_268 : decode cX12_along 268 = .ok (.lstore 6, 2) := by decide +kernel
theorem dX12_along_270 : decode cX12_along 270 = .ok (.lload 17, 2) := by decide +kernel
theorem dX12_along_272 : decode cX12_along 272 = .ok (.lload 19, 2) := by decide +kernel
theorem dX12_along_274 : decode cX12_along 274 = .ok (.lload 8, 2) := by decide +kernel
theorem dX12_along_276 : decode cX12_along 276 = .ok (.lload 10, 2) := by decide +kernel
theorem dX12_along_278 : decode cX12_along 278 = .ok (.invokestatic 674, 3) := by decide +kernel
theorem dX12_along_281 : decode cX12_along 281 = .ok (.istore 22, 2) := by decide +kernel
theorem dX12_along_283 : decode cX12_along 283 = .ok (.iload 22, 2) := by decide +kernel
theorem dX12_along_285 : decode cX12_along 285 = .ok (.ifCond .eq 8, 3) := by decide +kernel
theorem dX12_along_288 : decode cX12_along 288 = .ok (.lload 17, 2) := by decide +kernel
theorem dX12_along_290 : decode cX12_along 290 = .ok (.goto 5, 3) := by decide +kernel
theorem dX12_along_293 : decode cX12_along 293 = .ok (.lload 8, 2) := by decide +kernel
theorem dX12_along_295 : decode cX12_along 295 = .ok (.lstore 8, 2) := by decide +kernel
theorem dX12_along_297 : decode cX12_along 297 = .ok (.iload 22, 2) := by decide +kernel
theorem dX12_along_299 : decode cX12_along 299 = .ok (.ifCond .eq 8, 3) := by decide +kernel
theorem dX12_along_302 : decode cX12_along 302 = .ok (.lload 19, 2) := by decide +kernel
theorem dX12_along_304 : decode cX12_along 304 = .ok (.goto 5, 3) := by decide +kernel
theorem dX12_along_307 : decode cX12_along 307 = .ok (.lload 10, 2) := by decide +kernel
theorem dX12_along_309 : decode cX12_along 309 = .ok (.lstore 10, 2) := by decide +kernel
theorem dX12_along_311 : decode cX12_along 311 = .ok (.lload 8, 2) := by decide +kernel
theorem dX12_along_313 : decode cX12_along 313 = .ok (.lload 10, 2) := by decide +kernel
theorem dX12_along_315 : decode cX12_along 315 = .ok (.lload 4, 2) := by decide +kernel
theorem dX12_along_317 : decode cX12_along 317 = .ok (.lload 6, 2) := by decide +kernel
theorem dX12_along_319 : decode cX12_along 319 = .ok (.invokestatic 674, 3) := by decide +kernel
theorem dX12_along_322 : decode cX12_along 322 = .ok (.ifCond .eq 5, 3) := by decide +kernel
theorem dX12_along_325 : decode cX12_along 325 = .ok (.iconst 0, 1) := by decide +kernel
theorem dX12_along_326 : decode cX12_along 326 = .ok (.ireturn, 1) := by decide +kernel
theorem dX12_along_327 : decode cX12_along 327 = .ok (.aload_n 0, 1) := by decide +kernel
theorem dX12_along_328 : decode cX12_along 328 = .ok (.lload 4, 2) := by decide +kernel
theorem dX12_along_330 : decode cX12_along 330 = .ok (.lload 6, 2) := by decide +kernel
theorem dX12_along_332 : decode cX12_along 332 = .ok (.invokevirtual 671, 3) := by decide +kernel
theorem dX12_along_335 : decode cX12_along 335 = .ok (.lload 4, 2) := by decide +kernel
theorem dX12_along_337 : decode cX12_along 337 = .ok (.lload 6, 2) := by decide +kernel
theorem dX12_along_339 : decode cX12_along 339 = .ok (.lload 8, 2) := by decide +kernel
theorem dX12_along_341 : decode cX12_along 341 = .ok (.lload 10, 2) := by decide +kernel
theorem dX12_along_343 : decode cX12_along 343 = .ok (.invokestatic 674, 3) := by decide +kernel
theorem dX12_along_346 : decode cX12_along 346 = .ok (.ifCond .eq 7, 3) := by decide +kernel
theorem dX12_along_349 : decode cX12_along 349 = .ok (.iconst 2, 1) := by decide +kernel
theorem dX12_along_350 : decode cX12_along 350 = .ok (.goto 4, 3) := by decide +kernel
theorem dX12_along_353 : decode cX12_along 353 = .ok (.iconst 1, 1) := by decide +kernel
theorem dX12_along_354 : decode cX12_along 354 = .ok (.ireturn, 1) := by decide +kernel
theorem dX12_isOn_0 : decode cX12_isOn 0 = .ok (.aload_n 0, 1) := by decide +kernel
theorem dX12_isOn_1 : decode cX12_isOn 1 = .ok (.getfield 78, 3) := by decide +kernel
theorem dX12_isOn_4 : decode cX12_isOn 4 = .ok (.iload_n 1, 1) := by decide +kernel
theorem dX12_isOn_5 : decode cX12_isOn 5 = .ok (.laload, 1) := by decide +kernel
theorem dX12_isOn_6 : decode cX12_isOn 6 = .ok (.aload_n 0, 1) := by decide +kernel
theorem dX12_isOn_7 : decode cX12_isOn 7 = .ok (.getfield 81, 3) := by decide +kernel
theorem dX12_isOn_10 : decode cX12_isOn 10 = .ok (.iload_n 1, 1) := by decide +kernel
theorem dX12_isOn_11 : decode cX12_isOn 11 = .ok (.laload, 1) := by decide +kernel
theorem dX12_isOn_12 : decode cX12_isOn 12 = .ok (.aload_n 0, 1) := by decide +kernel
theorem dX12_isOn_13 : decode cX12_isOn 13 = .ok (.getfield 84, 3) := by decide +kernel
theorem dX12_isOn_16 : decode cX12_isOn 16 = .ok (.iload_n 1, 1) := by decide +kernel
theorem dX12_isOn_17 : decode cX12_isOn 17 = .ok (.laload, 1) := by decide +kernel
theorem dX12_isOn_18 : decode cX12_isOn 18 = .ok (.aload_n 0, 1) := by decide +kernel
theorem dX12_isOn_19 : decode cX12_isOn 19 = .ok (.getfield 87, 3) := by decide +kernel
theorem dX12_isOn_22 : decode cX12_isOn 22 = .ok (.iload_n 1, 1) := by decide +kernel
theorem dX12_isOn_23 : decode cX12_isOn 23 = .ok (.laload, 1) := by decide +kernel
theorem dX12_isOn_24 : decode cX12_isOn 24 = .ok (.lload_n 2, 1) := by decide +kernel
theorem dX12_isOn_25 : decode cX12_isOn 25 = .ok (.lload 4, 2) := by decide +kernel
theorem dX12_isOn_27 : decode cX12_isOn 27 = .ok (.invokestatic 664, 3) := by decide +kernel
theorem dX12_isOn_30 : decode cX12_isOn 30 = .ok (.ifCond .eq 5, 3) := by decide +kernel
theorem dX12_isOn_33 : decode cX12_isOn 33 = .ok (.iconst 0, 1) := by decide +kernel
theorem dX12_isOn_34 : decode cX12_isOn 34 = .ok (.ireturn, 1) := by decide +kernel
theorem dX12_isOn_35 : decode cX12_isOn 35 = .ok (.aload_n 0, 1) := by decide +kernel
theorem dX12_isOn_36 : decode cX12_isOn 36 = .ok (.getfield 78, 3) := by decide +kernel
theorem dX12_isOn_39 : decode cX12_isOn 39 = .ok (.iload_n 1, 1) := by decide +kernel
theorem dX12_isOn_40 : decode cX12_isOn 40 = .ok (.laload, 1) := by decide +kernel
theorem dX12_isOn_41 : decode cX12_isOn 41 = .ok (.aload_n 0, 1) := by decide +kernel
theorem dX12_isOn_42 : decode cX12_isOn 42 = .ok (.getfield 84, 3) := by decide +kernel
theorem dX12_isOn_45 : decode cX12_isOn 45 = .ok (.iload_n 1, 1) := by decide +kernel
theorem dX12_isOn_46 : decode cX12_isOn 46 = .ok (.laload, 1) := by decide +kernel
theorem dX12_isOn_47 : decode cX12_isOn 47 = .ok (.lcmp, 1) := by decide +kernel
theorem dX12_isOn_48 : decode cX12_isOn 48 = .ok (.ifCond .ge 22, 3) := by decide +kernel
theorem dX12_isOn_51 : decode cX12_isOn 51 = .ok (.lload_n 2, 1) := by decide +kernel
theorem dX12_isOn_52 : decode cX12_isOn 52 = .ok (.aload_n 0, 1) := by decide +kernel
theorem dX12_isOn_53 : decode cX12_isOn 53 = .ok (.getfield 78, 3) := by decide +kernel
theorem dX12_isOn_56 : decode cX12_isOn 56 = .ok (.iload_n 1, 1) := by decide +kernel
theorem dX12_isOn_57 : decode cX12_isOn 57 = .ok (.laload, 1) := by decide +kernel
theorem dX12_isOn_58 : decode cX12_isOn 58 = .ok (.aload_n 0, 1) := by decide +kernel
theorem dX12_isOn_59 : decode cX12_isOn 59 = .ok (.getfield 84, 3) := by decide +kernel
theorem dX12_isOn_62 : decode cX12_isOn 62 = .ok (.iload_n 1, 1) := by decide +kernel
theorem dX12_isOn_63 : decode cX12_isOn 63 = .ok (.laload, 1) := by decide +kernel
theorem dX12_isOn_64 : decode cX12_isOn 64 = .ok (.invokestatic 287, 3) := by decide +kernel
theorem dX12_isOn_67 : decode cX12_isOn 67 = .ok (.goto 19, 3) := by decide +kernel
theorem dX12_isOn_70 : decode cX12_isOn 70 = .ok (.lload_n 2, 1) := by decide +kernel
theorem dX12_isOn_71 : decode cX12_isOn 71 = .ok (.aload_n 0, 1) := by decide +kernel
theorem dX12_isOn_72 : decode cX12_isOn 72 = .ok (.getfield 84, 3) := by decide +kernel
theorem dX12_isOn_75 : decode cX12_isOn 75 = .ok (.iload_n 1, 1) := by decide +kernel
theorem dX12_isOn_76 : decode cX12_isOn 76 = .ok (.laload, 1) := by decide +kernel
theorem dX12_isOn_77 : decode cX12_isOn 77 = .ok (.aload_n 0, 1) := by decide +kernel
theorem dX12_isOn_78 : decode cX12_isOn 78 = .ok (.getfield 78, 3) := by decide +kernel
theorem dX12_isOn_81 : decode cX12_isOn 81 = .ok (.iload_n 1, 1) := by decide +kernel
theorem dX12_isOn_82 : decode cX12_isOn 82 = .ok (.laload, 1) := by decide +kernel
theorem dX12_isOn_83 : decode cX12_isOn 83 = .ok (.invokestatic 287, 3) := by decide +kernel
theorem dX12_isOn_86 : decode cX12_isOn 86 = .ok (.istore 6, 2) := by decide +kernel
theorem dX12_isOn_88 : decode cX12_isOn 88 = .ok (.aload_n 0, 1) := by decide +kernel
theorem dX12_isOn_89 : decode cX12_isOn 89 = .ok (.getfield 81, 3) := by decide +kernel
theorem dX12_isOn_92 : decode cX12_isOn 92 = .ok (.iload_n 1, 1) := by decide +kernel
theorem dX12_isOn_93 : decode cX12_isOn 93 = .ok (.laload, 1) := by decide +kernel
theorem dX12_isOn_94 : decode cX12_isOn 94 = .ok (.aload_n 0, 1) := by decide +kernel
theorem dX12_isOn_95 : decode cX12_isOn 95 = .ok (.getfield 87, 3) := by decide +kernel
theorem dX12_isOn_98 : decode cX12_isOn 98 = .ok (.iload_n 1, 1) := by decide +kernel
theorem dX12_isOn_99 : decode cX12_isOn 99 = .ok (.laload, 1) := by decide +kernel
theorem dX12_isOn_100 : decode cX12_isOn 100 = .ok (.lcmp, 1) := by decide +kernel
theorem dX12_isOn_101 : decode cX12_isOn 101 = .ok (.ifCond .ge 23, 3) := by decide +kernel
theorem dX12_isOn_104 : decode cX12_isOn 104 = .ok (.lload 4, 2) := by decide +kernel
theorem dX12_isOn_106 : decode cX12_isOn 106 = .ok (.aload_n 0, 1) := by decide +kernel
theorem dX12_isOn_107 : decode cX12_isOn 107 = .ok (.getfield 81, 3) := by decide +kernel
theorem dX12_isOn_110 : decode cX12_isOn 110 = .ok (.iload_n 1, 1) := by decide +kernel
theorem dX12_isOn_111 : decode cX12_isOn 111 = .ok (.laload, 1) := by decide +kernel
theorem dX12_isOn_112 : decode cX12_isOn 112 = .ok (.aload_n 0, 1) := by decide +kernel
theorem dX12_isOn_113 : decode cX12_isOn 113 = .ok (.getfield 87, 3) := by decide +kernel
theorem dX12_isOn_116 : decode cX12_isOn 116 = .ok (.iload_n 1, 1) := by decide +kernel
theorem dX12_isOn_117 : decode cX12_isOn 117 = .ok (.laload, 1) := by decide +kernel
theorem dX12_isOn_118 : decode cX12_isOn 118 = .ok (.invokestatic 287, 3) := by decide +kernel
theorem dX12_isOn_121 : decode cX12_isOn 121 = .ok (.goto 20, 3) := by decide +kernel
theorem dX12_isOn_124 : decode cX12_isOn 124 = .ok (.lload 4, 2) := by decide +kernel
theorem dX12_isOn_126 : decode cX12_isOn 126 = .ok (.aload_n 0, 1) := by decide +kernel
theorem dX12_isOn_127 : decode cX12_isOn 127 = .ok (.getfield 87, 3) := by decide +kernel
theorem dX12_isOn_130 : decode cX12_isOn 130 = .ok (.iload_n 1, 1) := by decide +kernel
theorem dX12_isOn_131 : decode cX12_isOn 131 = .ok (.laload, 1) := by decide +kernel
theorem dX12_isOn_132 : decode cX12_isOn 132 = .ok (.aload_n 0, 1) := by decide +kernel
theorem dX12_isOn_133 : decode cX12_isOn 133 = .ok (.getfield 81, 3) := by decide +kernel
theorem dX12_isOn_136 : decode cX12_isOn 136 = .ok (.iload_n 1, 1) := by decide +kernel
theorem dX12_isOn_137 : decode cX12_isOn 137 = .ok (.laload, 1) := by decide +kernel
theorem dX12_isOn_138 : decode cX12_isOn 138 = .ok (.invokestatic 287, 3) := by decide +kernel
theorem dX12_isOn_141 : decode cX12_isOn 141 = .ok (.istore 7, 2) := by decide +kernel
theorem dX12_isOn_143 : decode cX12_isOn 143 = .ok (.iload 6, 2) := by decide +kernel
theorem dX12_isOn_145 : decode cX12_isOn 145 = .ok (.ifCond .eq 12, 3) := by decide +kernel
theorem dX12_isOn_148 : decode cX12_isOn 148 = .ok (.iload 7, 2) := by decide +kernel
theorem dX12_isOn_150 : decode cX12_isOn 150 = .ok (.ifCond .eq 7, 3) := by decide +kernel
theorem dX12_isOn_153 : decode cX12_isOn 153 = .ok (.iconst 1, 1) := by decide +kernel
theorem dX12_isOn_154 : decode cX12_isOn 154 = .ok (.goto 4, 3) := by decide +kernel
theorem dX12_isOn_157 : decode cX12_isOn 157 = .ok (.iconst 0, 1) := by decide +kernel
theorem dX12_isOn_158 : decode cX12_isOn 158 = .ok (.ireturn, 1) := by decide +kernel
theorem dX12_gather_0 : decode cX12_gather 0 = .ok (.aload_n 0, 1) := by decide +kernel
theorem dX12_gather_1 : decode cX12_gather 1 = .ok (.getfield 114, 3) := by decide +kernel
theorem dX12_gather_4 : decode cX12_gather 4 = .ok (.iload 4, 2) := by decide +kernel
theorem dX12_gather_6 : decode cX12_gather 6 = .ok (.aload_n 0, 1) := by decide +kernel
theorem dX12_gather_7 : decode cX12_gather 7 = .ok (.getfield 678, 3) := by decide +kernel
theorem dX12_gather_10 : decode cX12_gather 10 = .ok (.iastore, 1) := by decide +kernel
theorem dX12_gather_11 : decode cX12_gather 11 = .ok (.iload_n 3, 1) := by decide +kernel
theorem dX12_gather_12 : decode cX12_gather 12 = .ok (.istore 5, 2) := by decide +kernel
theorem dX12_gather_14 : decode cX12_gather 14 = .ok (.aload_n 0, 1) := by decide +kernel
theorem dX12_gather_15 : decode cX12_gather 15 = .ok (.getfield 23, 3) := by decide +kernel
theorem dX12_gather_18 : decode cX12_gather 18 = .ok (.iload_n 2, 1) := by decide +kernel
theorem dX12_gather_19 : decode cX12_gather 19 = .ok (.iconst 1, 1) := by decide +kernel
theorem dX12_gather_20 : decode cX12_gather 20 = .ok (.iadd, 1) := by decide +kernel
theorem dX12_gather_21 : decode cX12_gather 21 = .ok (.iaload, 1) := by decide +kernel
theorem dX12_gather_22 : decode cX12_gather 22 = .ok (.istore 6, 2) := by decide +kernel
theorem dX12_gather_24 : decode cX12_gather 24 = .ok (.iconst 0, 1) := by decide +kernel
theorem dX12_gather_25 : decode cX12_gather 25 = .ok (.istore 7, 2) := by decide +kernel
theorem dX12_gather_27 : decode cX12_gather 27 = .ok (.iload 7, 2) := by decide +kernel
theorem dX12_gather_29 : decode cX12_gather 29 = .ok (.iload 6, 2) := by decide +kernel
theorem dX12_gather_31 : decode cX12_gather 31 = .ok (.if_icmp .ge 86, 3) := by decide +kernel
theorem dX12_gather_34 : decode cX12_gather 34 = .ok (.aload_n 0, 1) := by decide +kernel
theorem dX12_gather_35 : decode cX12_gather 35 = .ok (.getfield 99, 3) := by decide +kernel
theorem dX12_gather_38 : decode cX12_gather 38 = .ok (.aload_n 0, 1) := by decide +kernel
theorem dX12_gather_39 : decode cX12_gather 39 = .ok (.getfield 678, 3) := by decide +kernel
theorem dX12_gather_42 : decode cX12_gather 42 = .ok (.iload 5, 2) := by decide +kernel
theorem dX12_gather_44 : decode cX12_gather 44 = .ok (.iastore, 1) := by decide +kernel
theorem dX12_gather_45 : decode cX12_gather 45 = .ok (.aload_n 0, 1) := by decide +kernel
theorem dX12_gather_46 : decode cX12_gather 46 = .ok (.getfield 102, 3) := by decide +kernel
theorem dX12_gather_49 : decode cX12_gather 49 = .ok (.aload_n 0, 1) := by decide +kernel
theorem dX12_gather_50 : decode cX12_gather 50 = .ok (.getfield 678, 3) := by decide +kernel
theorem dX12_gather_53 : decode cX12_gather 53 = .ok (.aload_n 0, 1) := by decide +kernel
theorem dX12_gather_54 : decode cX12_gather 54 = .ok (.getfield 23, 3) := by decide +kernel
theorem dX12_gather_57 : decode cX12_gather 57 = .ok (.iload_n 2, 1) := by decide +kernel
theorem dX12_gather_58 : decode cX12_gather 58 = .ok (.iconst 2, 1) := by decide +kernel
theorem dX12_gather_59 : decode cX12_gather 59 = .ok (.iadd, 1) := by decide +kernel
theorem dX12_gather_60 : decode cX12_gather 60 = .ok (.iload 7, 2) := by decide +kernel
theorem dX12_gather_62 : decode cX12_gather 62 = .ok (.iadd, 1) := by decide +kernel
theorem dX12_gather_63 : decode cX12_gather 63 = .ok (.iaload, 1) := by decide +kernel
theorem dX12_gather_64 : decode cX12_gather 64 = .ok (.iastore, 1) := by decide +kernel
theorem dX12_gather_65 : decode cX12_gather 65 = .ok (.aload_n 0, 1) := by decide +kernel
theorem dX12_gather_66 : decode cX12_gather 66 = .ok (.getfield 105, 3) := by decide +kernel
theorem dX12_gather_69 : decode cX12_gather 69 = .ok (.aload_n 0, 1) := by decide +kernel
theorem dX12_gather_70 : decode cX12_gather 70 = .ok (.getfield 678, 3) := by decide +kernel
theorem dX12_gather_73 : decode cX12_gather 73 = .ok (.iload 4, 2) := by decide +kernel
theorem dX12_gather_75 : decode cX12_gather 75 = .ok (.iastore, 1) := by decide +kernel
theorem dX12_gather_76 : decode cX12_gather 76 = .ok (.aload_n 0, 1) := by decide +kernel
theorem dX12_gather_77 : decode cX12_gather 77 = .ok (.getfield 108, 3) := by decide +kernel
theorem dX12_gather_80 : decode cX12_gather 80 = .ok (.aload_n 0, 1) := by decide +kernel
theorem dX12_gather_81 : decode cX12_gather 81 = .ok (.getfield 678, 3) := by decide +kernel
theorem dX12_gather_84 : decode cX12_gather 84 = .ok (.iload 7, 2) := by decide +kernel
theorem dX12_gather_86 : decode cX12_gather 86 = .ok (.iastore, 1) := by decide +kernel
theorem dX12_gather_87 : decode cX12_gather 87 = .ok (.iload 5, 2) := by decide +kernel
theorem dX12_gather_89 : decode cX12_gather 89 = .ok (.aload_n 0, 1) := by decide +kernel
theorem dX12_gather_90 : decode cX12_gather 90 = .ok (.getfield 102, 3) := by decide +kernel
theorem dX12_gather_93 : decode cX12_gather 93 = .ok (.aload_n 0, 1) := by decide +kernel
theorem dX12_gather_94 : decode cX12_gather 94 = .ok (.getfield 678, 3) := by decide +kernel
theorem dX12_gather_97 : decode cX12_gather 97 = .ok (.iaload, 1) := by decide +kernel
theorem dX12_gather_98 : decode cX12_gather 98 = .ok (.iadd, 1) := by decide +kernel
theorem dX12_gather_99 : decode cX12_gather 99 = .ok (.istore 5, 2) := by decide +kernel
theorem dX12_gather_101 : decode cX12_gather 101 = .ok (.aload_n 0, 1) := by decide +kernel
theorem dX12_gather_102 : decode cX12_gather 102 = .ok (.dup, 1) := by decide +kernel
theorem dX12_gather_103 : decode cX12_gather 103 = .ok (.getfield 678, 3) := by decide +kernel
theorem dX12_gather_106 : decode cX12_gather 106 = .ok (.iconst 1, 1) := by decide +kernel
theorem dX12_gather_107 : decode cX12_gather 107 = .ok (.iadd, 1) := by decide +kernel
theorem dX12_gather_108 : decode cX12_gather 108 = .ok (.putfield 678, 3) := by decide +kernel
theorem dX12_gather_111 : decode cX12_gather 111 = .ok (.iinc 7 1, 3) := by decide +kernel
theorem dX12_gather_114 : decode cX12_gather 114 = .ok (.goto (-87), 3) := by decide +kernel
theorem dX12_gather_117 : decode cX12_gather 117 = .ok (.aload_n 0, 1) := by decide +kernel
theorem dX12_gather_118 : decode cX12_gather 118 = .ok (.iload 4, 2) := by decide +kernel
theorem dX12_gather_120 : decode cX12_gather 120 = .ok (.iconst 1, 1) := by decide +kernel
theorem dX12_gather_121 : decode cX12_gather 121 = .ok (.iadd, 1) := by decide +kernel
theorem dX12_gather_122 : decode cX12_gather 122 = .ok (.putfield 681, 3) := by decide +kernel
theorem dX12_gather_125 : decode cX12_gather 125 = .ok (.aload_n 0, 1) := by decide +kernel
theorem dX12_gather_126 : decode cX12_gather 126 = .ok (.getfield 114, 3) := by decide +kernel
theorem dX12_gather_129 : decode cX12_gather 129 = .ok (.aload_n 0, 1) := by decide +kernel
theorem dX12_gather_130 : decode cX12_gather 130 = .ok (.getfield 681, 3) := by decide +kernel
theorem dX12_gather_133 : decode cX12_gather 133 = .ok (.aload_n 0, 1) := by decide +kernel
theorem dX12_gather_134 : decode cX12_gather 134 = .ok (.getfield 678, 3) := by decide +kernel
theorem dX12_gather_137 : decode cX12_gather 137 = .ok (.iastore, 1) := by decide +kernel
theorem dX12_gather_138 : decode cX12_gather 138 = .ok (.iload 5, 2) := by decide +kernel
theorem dX12_gather_140 : decode cX12_gather 140 = .ok (.ireturn, 1) := by decide +kernel
theorem dX12_segmentsOfRings_0 : decode cX12_segmentsOfRings 0 = .ok (.aload_n 0, 1) := by decide +kernel
theorem dX12_segmentsOfRings_1 : decode cX12_segmentsOfRings 1 = .ok (.iconst 0, 1) := by decide +kernel
theorem dX12_segmentsOfRings_2 : decode cX12_segmentsOfRings 2 = .ok (.putfield 652, 3) := by decide +kernel
theorem dX12_segmentsOfRings_5 : decode cX12_segmentsOfRings 5 = .ok (.iconst 0, 1) := by decide +kernel
theorem dX12_segmentsOfRings_6 : decode cX12_segmentsOfRings 6 = .ok (.istore_n 1, 1) := by decide +kernel
theorem dX12_segmentsOfRings_7 : decode cX12_segmentsOfRings 7 = .ok (.iload_n 1, 1) := by decide +kernel
theorem dX12_segmentsOfRings_8 : decode cX12_segmentsOfRings 8 = .ok (.aload_n 0, 1) := by decide +kernel
theorem dX12_segmentsOfRings_9 : decode cX12_segmentsOfRings 9 = .ok (.getfield 678, 3) := by decide +kernel
theorem dX12_segmentsOfRings_12 : decode cX12_segmentsOfRings 12 = .ok (.if_icmp .ge 93, 3) := by decide +kernel
theorem dX12_segmentsOfRings_15 : decode cX12_segmentsOfRings 15 = .ok (.aload_n 0, 1) := by decide +kernel
theorem dX12_segmentsOfRings_16 : decode cX12_segmentsOfRings 16 = .ok (.getfield 111, 3) := by decide +kernel
theorem dX12_segmentsOfRings_19 : decode cX12_segmentsOfRings 19 = .ok (.iload_n 1, 1) := by decide +kernel
theorem dX12_segmentsOfRings_20 : decode cX12_segmentsOfRings 20 = .ok (.aload_n 0, 1) := by decide +kernel
theorem dX12_segmentsOfRings_21 : decode cX12_segmentsOfRings 21 = .ok (.getfield 652, 3) := by decide +kernel
theorem dX12_segmentsOfRings_24 : decode cX12_segmentsOfRings 24 = .ok (.iastore, 1) := by decide +kernel
theorem dX12_segmentsOfRings_25 : decode cX12_segmentsOfRings 25 = .ok (.iconst 0, 1) := by decide +kernel
theorem dX12_segmentsOfRings_26 : decode cX12_segmentsOfRings 26 = .ok (.istore_n 2, 1) := by decide +kernel
theorem dX12_segmentsOfRings_27 : decode cX12_segmentsOfRings 27 = .ok (.iload_n 2, 1) := by decide +kernel
theorem dX12_segmentsOfRings_28 : decode cX12_segmentsOfRings 28 = .ok (.iconst 1, 1) := by decide +kernel
theorem dX12_segmentsOfRings_29 : decode cX12_segmentsOfRings 29 = .ok (.iadd, 1) := by decide +kernel
theorem dX12_segmentsOfRings_30 : decode cX12_segmentsOfRings 30 = .ok (.aload_n 0, 1) := by decide +kernel
theorem dX12_segmentsOfRings_31 : decode cX12_segmentsOfRings 31 = .ok (.getfield 102, 3) := by decide +kernel
theorem dX12_segmentsOfRings_34 : decode cX12_segmentsOfRings 34 = .ok (.iload_n 1, 1) := by decide +kernel
theorem dX12_segmentsOfRings_35 : decode cX12_segmentsOfRings 35 = .ok (.iaload, 1) := by decide +kernel
theorem dX12_segmentsOfRings_36 : decode cX12_segmentsOfRings 36 = .ok (.if_icmp .ge 63, 3) := by decide +kernel
theorem dX12_segmentsOfRings_39 : decode cX12_segmentsOfRings 39 = .ok (.aload_n 0, 1) := by decide +kernel
theorem dX12_segmentsOfRings_40 : decode cX12_segmentsOfRings 40 = .ok (.getfield 99, 3) := by decide +kernel
theorem dX12_segmentsOfRings_43 : decode cX12_segmentsOfRings 43 = .ok (.iload_n 1, 1) := by decide +kernel
theorem dX12_segmentsOfRings_44 : decode cX12_segmentsOfRings 44 = .ok (.iaload, 1) := by decide +kernel
theorem dX12_segmentsOfRings_45 : decode cX12_segmentsOfRings 45 = .ok (.iload_n 2, 1) := by decide +kernel
theorem dX12_segmentsOfRings_46 : decode cX12_segmentsOfRings 46 = .ok (.iadd, 1) := by decide +kernel
theorem dX12_segmentsOfRings_47 : decode cX12_segmentsOfRings 47 = .ok (.istore_n 3, 1) := by decide +kernel
theorem dX12_segmentsOfRings_48 : decode cX12_segmentsOfRings 48 = .ok (.aload_n 0, 1) := by decide +kernel
theorem dX12_segmentsOfRings_49 : decode cX12_segmentsOfRings 49 = .ok (.getfield 29, 3) := by decide +kernel
theorem dX12_segmentsOfRings_52 : decode cX12_segmentsOfRings 52 = .ok (.iload_n 3, 1) := by decide +kernel
theorem dX12_segmentsOfRings_53 : decode cX12_segmentsOfRings 53 = .ok (.iaload, 1) := by decide +kernel
theorem dX12_segmentsOfRings_54 : decode cX12_segmentsOfRings 54 = .ok (.aload_n 0, 1) := by decide +kernel
theorem dX12_segmentsOfRings_55 : decode cX12_segmentsOfRings 55 = .ok (.getfield 29, 3) := by decide +kernel
theorem dX12_segmentsOfRings_58 : decode cX12_segmentsOfRings 58 = .ok (.iload_n 3, 1) := by decide +kernel
theorem dX12_segmentsOfRings_59 : decode cX12_segmentsOfRings 59 = .ok (.iconst 1, 1) := by decide +kernel
theorem dX12_segmentsOfRings_60 : decode cX12_segmentsOfRings 60 = .ok (.iadd, 1) := by decide +kernel
theorem dX12_segmentsOfRings_61 : decode cX12_segmentsOfRings 61 = .ok (.iaload, 1) := by decide +kernel
theorem dX12_segmentsOfRings_62 : decode cX12_segmentsOfRings 62 = .ok (.if_icmp .ne 20, 3) := by decide +kernel
theorem dX12_segmentsOfRings_65 : decode cX12_segmentsOfRings 65 = .ok (.aload_n 0, 1) := by decide +kernel
theorem dX12_segmentsOfRings_66 : decode cX12_segmentsOfRings 66 = .ok (.getfield 32, 3) := by decide +kernel
theorem dX12_segmentsOfRings_69 : decode cX12_segmentsOfRings 69 = .ok (.iload_n 3, 1) := by decide +kernel
theorem dX12_segmentsOfRings_70 : decode cX12_segmentsOfRings 70 = .ok (.iaload, 1) := by decide +kernel
theorem dX12_segmentsOfRings_71 : decode cX12_segmentsOfRings 71 = .ok (.aload_n 0, 1) := by decide +kernel
theorem dX12_segmentsOfRings_72 : decode cX12_segmentsOfRings 72 = .ok (.getfield 32, 3) := by decide +kernel
theorem dX12_segmentsOfRings_75 : decode cX12_segmentsOfRings 75 = .ok (.iload_n 3, 1) := by decide +kernel
theorem dX12_segmentsOfRings_76 : decode cX12_segmentsOfRings 76 = .ok (.iconst 1, 1) := by decide +kernel
theorem dX12_segmentsOfRings_77 : decode cX12_segmentsOfRings 77 = .ok (.iadd, 1) := by decide +kernel
theorem dX12_segmentsOfRings_78 : decode cX12_segmentsOfRings 78 = .ok (.iaload, 1) := by decide +kernel
theorem dX12_segmentsOfRings_79 : decode cX12_segmentsOfRings 79 = .ok (.if_icmp .eq 14, 3) := by decide +kernel
theorem dX12_segmentsOfRings_82 : decode cX12_segmentsOfRings 82 = .ok (.aload_n 0, 1) := by decide +kernel
theorem dX12_segmentsOfRings_83 : decode cX12_segmentsOfRings 83 = .ok (.iload_n 3, 1) := by decide +kernel
theorem dX12_segmentsOfRings_84 : decode cX12_segmentsOfRings 84 = .ok (.iload_n 3, 1) := by decide +kernel
theorem dX12_segmentsOfRings_85 : decode cX12_segmentsOfRings 85 = .ok (.iconst 1, 1) := by decide +kernel
theorem dX12_segmentsOfRings_86 : decode cX12_segmentsOfRings 86 = .ok (.iadd, 1) := by decide +kernel
theorem dX12_segmentsOfRings_87 : decode cX12_segmentsOfRings 87 = .ok (.iload_n 1, 1) := by decide +kernel
theorem dX12_segmentsOfRings_88 : decode cX12_segmentsOfRings 88 = .ok (.iload_n 2, 1) := by decide +kernel
theorem dX12_segmentsOfRings_89 : decode cX12_segmentsOfRings 89 = .ok (.iconst 0, 1) := by decide +kernel
theorem dX12_segmentsOfRings_90 : decode cX12_segmentsOfRings 90 = .ok (.invokevirtual 684, 3) := by decide +kernel
theorem dX12_segmentsOfRings_93 : decode cX12_segmentsOfRings 93 = .ok (.iinc 2 1, 3) := by decide +kernel
theorem dX12_segmentsOfRings_96 : decode cX12_segmentsOfRings 96 = .ok (.goto (-69), 3) := by decide +kernel
theorem dX12_segmentsOfRings_99 : decode cX12_segmentsOfRings 99 = .ok (.iinc 1 1, 3) := by decide +kernel
theorem dX12_segmentsOfRings_102 : decode cX12_segmentsOfRings 102 = .ok (.goto (-95), 3) := by decide +kernel
theorem dX12_segmentsOfRings_105 : decode cX12_segmentsOfRings 105 = .ok (.aload_n 0, 1) := by decide +kernel
theorem dX12_segmentsOfRings_106 : decode cX12_segmentsOfRings 106 = .ok (.getfield 111, 3) := by decide +kernel
theorem dX12_segmentsOfRings_109 : decode cX12_segmentsOfRings 109 = .ok (.aload_n 0, 1) := by decide +kernel
theorem dX12_segmentsOfRings_110 : decode cX12_segmentsOfRings 110 = .ok (.getfield 678, 3) := by decide +kernel
theorem dX12_segmentsOfRings_113 : decode cX12_segmentsOfRings 113 = .ok (.aload_n 0, 1) := by decide +kernel
theorem dX12_segmentsOfRings_114 : decode cX12_segmentsOfRings 114 = .ok (.getfield 652, 3) := by decide +kernel
theorem dX12_segmentsOfRings_117 : decode cX12_segmentsOfRings 117 = .ok (.iastore, 1) := by decide +kernel
theorem dX12_segmentsOfRings_118 : decode cX12_segmentsOfRings 118 = .ok (.return_, 1) := by decide +kernel
theorem dX12_isSame_0 : decode cX12_isSame 0 = .ok (.aload_n 0, 1) := by decide +kernel
theorem dX12_isSame_1 : decode cX12_isSame 1 = .ok (.getfield 29, 3) := by decide +kernel
theorem dX12_isSame_4 : decode cX12_isSame 4 = .ok (.iload_n 1, 1) := by decide +kernel
theorem dX12_isSame_5 : decode cX12_isSame 5 = .ok (.iaload, 1) := by decide +kernel
theorem dX12_isSame_6 : decode cX12_isSame 6 = .ok (.aload_n 0, 1) := by decide +kernel
theorem dX12_isSame_7 : decode cX12_isSame 7 = .ok (.getfield 29, 3) := by decide +kernel
theorem dX12_isSame_10 : decode cX12_isSame 10 = .ok (.iload_n 2, 1) := by decide +kernel
theorem dX12_isSame_11 : decode cX12_isSame 11 = .ok (.iaload, 1) := by decide +kernel
theorem dX12_isSame_12 : decode cX12_isSame 12 = .ok (.if_icmp .ne 22, 3) := by decide +kernel
theorem dX12_isSame_15 : decode cX12_isSame 15 = .ok (.aload_n 0, 1) := by decide +kernel
theorem dX12_isSame_16 : decode cX12_isSame 16 = .ok (.getfield 32, 3) := by decide +kernel
theorem dX12_isSame_19 : decode cX12_isSame 19 = .ok (.iload_n 1, 1) := by decide +kernel
theorem dX12_isSame_20 : decode cX12_isSame 20 = .ok (.iaload, 1) := by decide +kernel
theorem dX12_isSame_21 : decode cX12_isSame 21 = .ok (.aload_n 0, 1) := by decide +kernel
theorem dX12_isSame_22 : decode cX12_isSame 22 = .ok (.getfield 32, 3) := by decide +kernel
theorem dX12_isSame_25 : decode cX12_isSame 25 = .ok (.iload_n 2, 1) := by decide +kernel
theorem dX12_isSame_26 : decode cX12_isSame 26 = .ok (.iaload, 1) := by decide +kernel
theorem dX12_isSame_27 : decode cX12_isSame 27 = .ok (.if_icmp .ne 7, 3) := by decide +kernel
theorem dX12_isSame_30 : decode cX12_isSame 30 = .ok (.iconst 1, 1) := by decide +kernel
theorem dX12_isSame_31 : decode cX12_isSame 31 = .ok (.goto 4, 3) := by decide +kernel
theorem dX12_isSame_34 : decode cX12_isSame 34 = .ok (.iconst 0, 1) := by decide +kernel
theorem dX12_isSame_35 : decode cX12_isSame 35 = .ok (.ireturn, 1) := by decide +kernel
theorem dX12_different_0 : decode cX12_different 0 = .ok (.iconst (-1), 1) := by decide +kernel
theorem dX12_different_1 : decode cX12_different 1 = .ok (.istore_n 3, 1) := by decide +kernel
theorem dX12_different_2 : decode cX12_different 2 = .ok (.iload_n 1, 1) := by decide +kernel
theorem dX12_different_3 : decode cX12_different 3 = .ok (.istore 4, 2) := by decide +kernel
theorem dX12_different_5 : decode cX12_different 5 = .ok (.iload 4, 2) := by decide +kernel
theorem dX12_different_7 : decode cX12_different 7 = .ok (.iload_n 1, 1) := by decide +kernel
theorem dX12_different_8 : decode cX12_different 8 = .ok (.iload_n 2, 1) := by decide +kernel
theorem dX12_different_9 : decode cX12_different 9 = .ok (.iadd, 1) := by decide +kernel
theorem dX12_different_10 : decode cX12_different 10 = .ok (.if_icmp .ge 45, 3) := by decide +kernel
theorem dX12_different_13 : decode cX12_different 13 = .ok (.aload_n 0, 1) := by decide +kernel
theorem dX12_different_14 : decode cX12_different 14 = .ok (.iload 4, 2) := by decide +kernel
theorem dX12_different_16 : decode cX12_different 16 = .ok (.iload_n 1, 1) := by decide +kernel
theorem dX12_different_17 : decode cX12_different 17 = .ok (.invokevirtual 688, 3) := by decide +kernel
theorem dX12_different_20 : decode cX12_different 20 = .ok (.ifCond .eq 6, 3) := by decide +kernel
theorem dX12_different_23 : decode cX12_different 23 = .ok (.goto 26, 3) := by decide +kernel
theorem dX12_different_26 : decode cX12_different 26 = .ok (.iload_n 3, 1) := by decide +kernel
theorem dX12_different_27 : decode cX12_different 27 = .ok (.iconst (-1), 1) := by decide +kernel
theorem dX12_different_28 : decode cX12_different 28 = .ok (.if_icmp .ne 9, 3) := by decide +kernel
theorem dX12_different_31 : decode cX12_different 31 = .ok (.iload 4, 2) := by decide +kernel
theorem dX12_different_33 : decode cX12_different 33 = .ok (.istore_n 3, 1) := by decide +kernel
theorem dX12_different_34 : decode cX12_different 34 = .ok (.goto 15, 3) := by decide +kernel
theorem dX12_different_37 : decode cX12_different 37 = .ok (.aload_n 0, 1) := by decide +kernel
theorem dX12_different_38 : decode cX12_different 38 = .ok (.iload 4, 2) := by decide +kernel
theorem dX12_different_40 : decode cX12_different 40 = .ok (.iload_n 3, 1) := by decide +kernel
theorem dX12_different_41 : decode cX12_different 41 = .ok (.invokevirtual 688, 3) := by decide +kernel
theorem dX12_different_44 : decode cX12_different 44 = .ok (.ifCond .ne 5, 3) := by decide +kernel
theorem dX12_different_47 : decode cX12_different 47 = .ok (.iconst 3, 1) := by decide +kernel
theorem dX12_different_48 : decode cX12_different 48 = .ok (.ireturn, 1) := by decide +kernel
theorem dX12_different_49 : decode cX12_different 49 = .ok (.iinc 4 1, 3) := by decide +kernel
theorem dX12_different_52 : decode cX12_different 52 = .ok (.goto (-47), 3) := by decide +kernel
theorem dX12_different_55 : decode cX12_different 55 = .ok (.iload_n 2, 1) := by decide +kernel
theorem dX12_different_56 : decode cX12_different 56 = .ok (.ifCond .ne 7, 3) := by decide +kernel
theorem dX12_different_59 : decode cX12_different 59 = .ok (.iconst 0, 1) := by decide +kernel
theorem dX12_different_60 : decode cX12_different 60 = .ok (.goto 13, 3) := by decide +kernel
theorem dX12_different_63 : decode cX12_different 63 = .ok (.iload_n 3, 1) := by decide +kernel
theorem dX12_different_64 : decode cX12_different 64 = .ok (.iconst (-1), 1) := by decide +kernel
theorem dX12_different_65 : decode cX12_different 65 = .ok (.if_icmp .ne 7, 3) := by decide +kernel
theorem dX12_different_68 : decode cX12_different 68 = .ok (.iconst 1, 1) := by decide +kernel
theorem dX12_different_69 : decode cX12_different 69 = .ok (.goto 4, 3) := by decide +kernel
theorem dX12_different_72 : decode cX12_different 72 = .ok (.iconst 2, 1) := by decide +kernel
theorem dX12_different_73 : decode cX12_different 73 = .ok (.ireturn, 1) := by decide +kernel
theorem dX12_following_0 : decode cX12_following 0 = .ok (.aload_n 0, 1) := by decide +kernel
theorem dX12_following_1 : decode cX12_following 1 = .ok (.getfield 90, 3) := by decide +kernel
theorem dX12_following_4 : decode cX12_following 4 = .ok (.iload_n 1, 1) := by decide +kernel
theorem dX12_following_5 : decode cX12_following 5 = .ok (.iaload, 1) := by decide +kernel
theorem dX12_following_6 : decode cX12_following 6 = .ok (.istore_n 2, 1) := by decide +kernel
theorem dX12_following_7 : decode cX12_following 7 = .ok (.iload_n 1, 1) := by decide +kernel
theorem dX12_following_8 : decode cX12_following 8 = .ok (.iconst 1, 1) := by decide +kernel
theorem dX12_following_9 : decode cX12_following 9 = .ok (.iadd, 1) := by decide +kernel
theorem dX12_following_10 : decode cX12_following 10 = .ok (.aload_n 0, 1) := by decide +kernel
theorem dX12_following_11 : decode cX12_following 11 = .ok (.getfield 111, 3) := by decide +kernel
theorem dX12_following_14 : decode cX12_following 14 = .ok (.iload_n 2, 1) := by decide +kernel
theorem dX12_following_15 : decode cX12_following 15 = .ok (.iconst 1, 1) := by decide +kernel
theorem dX12_following_16 : decode cX12_following 16 = .ok (.iadd, 1) := by decide +kernel
theorem dX12_following_17 : decode cX12_following 17 = .ok (.iaload, 1) := by decide +kernel
theorem dX12_following_18 : decode cX12_following 18 = .ok (.if_icmp .ne 12, 3) := by decide +kernel
theorem dX12_following_21 : decode cX12_following 21 = .ok (.aload_n 0, 1) := by decide +kernel
theorem dX12_following_22 : decode cX12_following 22 = .ok (.getfield 111, 3) := by decide +kernel
theorem dX12_following_25 : decode cX12_following 25 = .ok (.iload_n 2, 1) := by decide +kernel
theorem dX12_following_26 : decode cX12_following 26 = .ok (.iaload, 1) := by decide +kernel
theorem dX12_following_27 : decode cX12_following 27 = .ok (.goto 6, 3) := by decide +kernel
theorem dX12_following_30 : decode cX12_following 30 = .ok (.iload_n 1, 1) := by decide +kernel
theorem dX12_following_31 : decode cX12_following 31 = .ok (.iconst 1, 1) := by decide +kernel
theorem dX12_following_32 : decode cX12_following 32 = .ok (.iadd, 1) := by decide +kernel
theorem dX12_following_33 : decode cX12_following 33 = .ok (.ireturn, 1) := by decide +kernel
theorem dX12_isBetween_0 : decode cX12_isBetween 0 = .ok (.lload_n 0, 1) := by decide +kernel
theorem dX12_isBetween_1 : decode cX12_isBetween 1 = .ok (.lload_n 2, 1) := by decide +kernel
theorem dX12_isBetween_2 : decode cX12_isBetween 2 = .ok (.lload 4, 2) := by decide +kernel
theorem dX12_isBetween_4 : decode cX12_isBetween 4 = .ok (.lload 6, 2) := by decide +kernel
theorem dX12_isBetween_6 : decode cX12_isBetween 6 = .ok (.invokestatic 644, 3) := by decide +kernel
theorem dX12_isBetween_9 : decode cX12_isBetween 9 = .ok (.lstore 12, 2) := by decide +kernel
theorem dX12_isBetween_11 : decode cX12_isBetween 11 = .ok (.lload_n 0, 1) := by decide +kernel
theorem dX12_isBetween_12 : decode cX12_isBetween 12 = .ok (.lload_n 2, 1) := by decide +kernel
theorem dX12_isBetween_13 : decode cX12_isBetween 13 = .ok (.lload 8, 2) := by decide +kernel
theorem dX12_isBetween_15 : decode cX12_isBetween 15 = .ok (.lload 10, 2) := by decide +kernel
theorem dX12_isBetween_17 : decode cX12_isBetween 17 = .ok (.invokestatic 644, 3) := by decide +kernel
theorem dX12_isBetween_20 : decode cX12_isBetween 20 = .ok (.lstore 14, 2) := by decide +kernel
theorem dX12_isBetween_22 : decode cX12_isBetween 22 = .ok (.lload 8, 2) := by decide +kernel
theorem dX12_isBetween_24 : decode cX12_isBetween 24 = .ok (.lload 10, 2) := by decide +kernel
theorem dX12_isBetween_26 : decode cX12_isBetween 26 = .ok (.lload 4, 2) := by decide +kernel
theorem dX12_isBetween_28 : decode cX12_isBetween 28 = .ok (.lload 6, 2) := by decide +kernel
theorem dX12_isBetween_30 : decode cX12_isBetween 30 = .ok (.invokestatic 644, 3) := by decide +kernel
theorem dX12_isBetween_33 : decode cX12_isBetween 33 = .ok (.lstore 16, 2) := by decide +kernel
theorem dX12_isBetween_35 : decode cX12_isBetween 35 = .ok (.lload 12, 2) := by decide +kernel
theorem dX12_isBetween_37 : decode cX12_isBetween 37 = .ok (.lconst 0, 1) := by decide +kernel
theorem dX12_isBetween_38 : decode cX12_isBetween 38 = .ok (.lcmp, 1) := by decide +kernel
theorem dX12_isBetween_39 : decode cX12_isBetween 39 = .ok (.ifCond .le 23, 3) := by decide +kernel
theorem dX12_isBetween_42 : decode cX12_isBetween 42 = .ok (.lload 14, 2) := by decide +kernel
theorem dX12_isBetween_44 : decode cX12_isBetween 44 = .ok (.lconst 0, 1) := by decide +kernel
theorem dX12_isBetween_45 : decode cX12_isBetween 45 = .ok (.lcmp, 1) := by decide +kernel
theorem dX12_isBetween_46 : decode cX12_isBetween 46 = .ok (.ifCond .le 14, 3) := by decide +kernel
theorem dX12_isBetween_49 : decode cX12_isBetween 49 = .ok (.lload 16, 2) := by decide +kernel
theorem dX12_isBetween_51 : decode cX12_isBetween 51 = .ok (.lconst 0, 1) := by decide +kernel
theorem dX12_isBetween_52 : decode cX12_isBetween 52 = .ok (.lcmp, 1) := by decide +kernel
theorem dX12_isBetween_53 : decode cX12_isBetween 53 = .ok (.ifCond .le 7, 3) := by decide +kernel
theorem dX12_isBetween_56 : decode cX12_isBetween 56 = .ok (.iconst 1, 1) := by decide +kernel
theorem dX12_isBetween_57 : decode cX12_isBetween 57 = .ok (.goto 4, 3) := by decide +kernel
theorem dX12_isBetween_60 : decode cX12_isBetween 60 = .ok (.iconst 0, 1) := by decide +kernel
theorem dX12_isBetween_61 : decode cX12_isBetween 61 = .ok (.ireturn, 1) := by decide +kernel
theorem dX12_isBetween_62 : decode cX12_isBetween 62 = .ok (.lload 12, 2) := by decide +kernel
theorem dX12_isBetween_64 : decode cX12_isBetween 64 = .ok (.lconst 0, 1) := by decide +kernel
theorem dX12_isBetween_65 : decode cX12_isBetween 65 = .ok (.lcmp, 1) := by decide +kernel
theorem dX12_isBetween_66 : decode cX12_isBetween 66 = .ok (.ifCond .ne 30, 3) := by decide +kernel
theorem dX12_isBetween_69 : decode cX12_isBetween 69 = .ok (.lload_n 0, 1) := by decide +kernel
theorem dX12_isBetween_70 : decode cX12_isBetween 70 = .ok (.lload 4, 2) := by decide +kernel
theorem dX12_isBetween_72 : decode cX12_isBetween 72 = .ok (.lmul, 1) := by decide +kernel
theorem dX12_isBetween_73 : decode cX12_isBetween 73 = .ok (.lload_n 2, 1) := by decide +kernel
theorem dX12_isBetween_74 : decode cX12_isBetween 74 = .ok (.lload 6, 2) := by decide +kernel
theorem dX12_isBetween_76 : decode cX12_isBetween 76 = .ok (.lmul, 1) := by decide +kernel
theorem dX12_isBetween_77 : decode cX12_isBetween 77 = .ok (.ladd, 1) := by decide +kernel
theorem dX12_isBetween_78 : decode cX12_isBetween 78 = .ok (.lconst 0, 1) := by decide +kernel
theorem dX12_isBetween_79 : decode cX12_isBetween 79 = .ok (.lcmp, 1) := by decide +kernel
theorem dX12_isBetween_80 : decode cX12_isBetween 80 = .ok (.ifCond .ge 14, 3) := by decide +kernel
theorem dX12_isBetween_83 : decode cX12_isBetween 83 = .ok (.lload 14, 2) := by decide +kernel
theorem dX12_isBetween_85 : decode cX12_isBetween 85 = .ok (.lconst 0, 1) := by decide +kernel
theorem dX12_isBetween_86 : decode cX12_isBetween 86 = .ok (.lcmp, 1) := by decide +kernel
theorem dX12_isBetween_87 : decode cX12_isBetween 87 = .ok (.ifCond .le 7, 3) := by decide +kernel
theorem dX12_isBetween_90 : decode cX12_isBetween 90 = .ok (.iconst 1, 1) := by decide +kernel
theorem dX12_isBetween_91 : decode cX12_isBetween 91 = .ok (.goto 4, 3) := by decide +kernel
theorem dX12_isBetween_94 : decode cX12_isBetween 94 = .ok (.iconst 0, 1) := by decide +kernel
theorem dX12_isBetween_95 : decode cX12_isBetween 95 = .ok (.ireturn, 1) := by decide +kernel
theorem dX12_isBetween_96 : decode cX12_isBetween 96 = .ok (.lload 14, 2) := by decide +kernel
theorem dX12_isBetween_98 : decode cX12_isBetween 98 = .ok (.lconst 0, 1) := by decide +kernel
theorem dX12_isBetween_99 : decode cX12_isBetween 99 = .ok (.lcmp, 1) := by decide +kernel
theorem dX12_isBetween_100 : decode cX12_isBetween 100 = .ok (.ifCond .gt 10, 3) := by decide +kernel
theorem dX12_isBetween_103 : decode cX12_isBetween 103 = .ok (.lload 16, 2) := by decide +kernel
theorem dX12_isBetween_105 : decode cX12_isBetween 105 = .ok (.lconst 0, 1) := by decide +kernel
theorem dX12_isBetween_106 : decode cX12_isBetween 106 = .ok (.lcmp, 1) := by decide +kernel
theorem dX12_isBetween_107 : decode cX12_isBetween 107 = .ok (.ifCond .le 7, 3) := by decide +kernel
theorem dX12_isBetween_110 : decode cX12_isBetween 110 = .ok (.iconst 1, 1) := by decide +kernel
theorem dX12_isBetween_111 : decode cX12_isBetween 111 = .ok (.goto 4, 3) := by decide +kernel
theorem dX12_isBetween_114 : decode cX12_isBetween 114 = .ok (.iconst 0, 1) := by decide +kernel
theorem dX12_isBetween_115 : decode cX12_isBetween 115 = .ok (.ireturn, 1) := by decide +kernel
