theorem dX12_boundary_0 : decode cX12_boundary 0 = .ok (.aload_n 0, 1) := by decide +kernel
theorem dX12_boundary_1 : decode cX12_boundary 1 = .ok (.iconst 0, 1) := by decide +kernel
theorem dX12_boundary_2 : decode cX12_boundary 2 = .ok (.putfield 846, 3) := by decide +kernel
theorem dX12_boundary_5 : decode cX12_boundary 5 = .ok (.iconst 0, 1) := by decide +kernel
theorem dX12_boundary_6 : decode cX12_boundary 6 = .ok (.istore_n 2, 1) := by decide +kernel
theorem dX12_boundary_7 : decode cX12_boundary 7 = .ok (.iload_n 2, 1) := by decide +kernel
theorem dX12_boundary_8 : decode cX12_boundary 8 = .ok (.aload_n 0, 1) := by decide +kernel
theorem dX12_boundary_9 : decode cX12_boundary 9 = .ok (.getfield 834, 3) := by decide +kernel
theorem dX12_boundary_12 : decode cX12_boundary 12 = .ok (.if_icmp .ge 224, 3) := by decide +kernel
theorem dX12_boundary_15 : decode cX12_boundary 15 = .ok (.aload_n 0, 1) := by decide +kernel
theorem dX12_boundary_16 : decode cX12_boundary 16 = .ok (.getfield 157, 3) := by decide +kernel
theorem dX12_boundary_19 : decode cX12_boundary 19 = .ok (.iload_n 2, 1) := by decide +kernel
theorem dX12_boundary_20 : decode cX12_boundary 20 = .ok (.iaload, 1) := by decide +kernel
theorem dX12_boundary_21 : decode cX12_boundary 21 = .ok (.ifCond .ne 6, 3) := by decide +kernel
theorem dX12_boundary_24 : decode cX12_boundary 24 = .ok (.goto 206, 3) := by decide +kernel
theorem dX12_boundary_27 : decode cX12_boundary 27 = .ok (.aload_n 0, 1) := by decide +kernel
theorem dX12_boundary_28 : decode cX12_boundary 28 = .ok (.getfield 151, 3) := by decide +kernel
theorem dX12_boundary_31 : decode cX12_boundary 31 = .ok (.iload_n 2, 1) := by decide +kernel
theorem dX12_boundary_32 : decode cX12_boundary 32 = .ok (.iaload, 1) := by decide +kernel
theorem dX12_boundary_33 : decode cX12_boundary 33 = .ok (.istore_n 3, 1) := by decide +kernel
theorem dX12_boundary_34 : decode cX12_boundary 34 = .ok (.aload_n 0, 1) := by decide +kernel
theorem dX12_boundary_35 : decode cX12_boundary 35 = .ok (.getfield 154, 3) := by decide +kernel
theorem dX12_boundary_38 : decode cX12_boundary 38 = .ok (.iload_n 2, 1) := by decide +kernel
theorem dX12_boundary_39 : decode cX12_boundary 39 = .ok (.iaload, 1) := by decide +kernel
theorem dX12_boundary_40 : decode cX12_boundary 40 = .ok (.istore 4, 2) := by decide +kernel
theorem dX12_boundary_42 : decode cX12_boundary 42 = .ok (.aload_n 0, 1) := by decide +kernel
theorem dX12_boundary_43 : decode cX12_boundary 43 = .ok (.getfield 135, 3) := by decide +kernel
theorem dX12_boundary_46 : decode cX12_boundary 46 = .ok (.iload_n 3, 1) := by decide +kernel
theorem dX12_boundary_47 : decode cX12_boundary 47 = .ok (.laload, 1) := by decide +kernel
theorem dX12_boundary_48 : decode cX12_boundary 48 = .ok (.aload_n 0, 1) := by decide +kernel
theorem dX12_boundary_49 : decode cX12_boundary 49 = .ok (.getfield 135, 3) := by decide +kernel
theorem dX12_boundary_52 : decode cX12_boundary 52 = .ok (.iload 4, 2) := by decide +kernel
theorem dX12_boundary_54 : decode cX12_boundary 54 = .ok (.laload, 1) := by decide +kernel
theorem dX12_boundary_55 : decode cX12_boundary 55 = .ok (.lcmp, 1) := by decide +kernel
theorem dX12_boundary_56 : decode cX12_boundary 56 = .ok (.ifCond .ne 22, 3) := by decide +kernel
theorem dX12_boundary_59 : decode cX12_boundary 59 = .ok (.aload_n 0, 1) := by decide +kernel
theorem dX12_boundary_60 : decode cX12_boundary 60 = .ok (.iload_n 2, 1) := by decide +kernel
theorem dX12_boundary_61 : decode cX12_boundary 61 = .ok (.iconst 0, 1) := by decide +kernel
theorem dX12_boundary_62 : decode cX12_boundary 62 = .ok (.invokevirtual 849, 3) := by decide +kernel
theorem dX12_boundary_65 : decode cX12_boundary 65 = .ok (.istore 5, 2) := by decide +kernel
theorem dX12_boundary_67 : decode cX12_boundary 67 = .ok (.aload_n 0, 1) := by decide +kernel
theorem dX12_boundary_68 : decode cX12_boundary 68 = .ok (.iload_n 2, 1) := by decide +kernel
theorem dX12_boundary_69 : decode cX12_boundary 69 = .ok (.iconst 1, 1) := by decide +kernel
theorem dX12_boundary_70 : decode cX12_boundary 70 = .ok (.invokevirtual 849, 3) := by decide +kernel
theorem dX12_boundary_73 : decode cX12_boundary 73 = .ok (.istore 6, 2) := by decide +kernel
theorem dX12_boundary_75 : decode cX12_boundary 75 = .ok (.goto 73, 3) := by decide +kernel
theorem dX12_boundary_78 : decode cX12_boundary 78 = .ok (.aload_n 0, 1) := by decide +kernel
theorem dX12_boundary_79 : decode cX12_boundary 79 = .ok (.getfield 135, 3) := by decide +kernel
theorem dX12_boundary_82 : decode cX12_boundary 82 = .ok (.iload_n 3, 1) := by decide +kernel
theorem dX12_boundary_83 : decode cX12_boundary 83 = .ok (.laload, 1) := by decide +kernel
theorem dX12_boundary_84 : decode cX12_boundary 84 = .ok (.aload_n 0, 1) := by decide +kernel
theorem dX12_boundary_85 : decode cX12_boundary 85 = .ok (.getfield 135, 3) := by decide +kernel
theorem dX12_boundary_88 : decode cX12_boundary 88 = .ok (.iload 4, 2) := by decide +kernel
theorem dX12_boundary_90 : decode cX12_boundary 90 = .ok (.laload, 1) := by decide +kernel
theorem dX12_boundary_91 : decode cX12_boundary 91 = .ok (.lcmp, 1) := by decide +kernel
theorem dX12_boundary_92 : decode cX12_boundary 92 = .ok (.ifCond .ge 7, 3) := by decide +kernel
theorem dX12_boundary_95 : decode cX12_boundary 95 = .ok (.iload_n 3, 1) := by decide +kernel
theorem dX12_boundary_96 : decode cX12_boundary 96 = .ok (.goto 5, 3) := by decide +kernel
theorem dX12_boundary_99 : decode cX12_boundary 99 = .ok (.iload 4, 2) := by decide +kernel
theorem dX12_boundary_101 : decode cX12_boundary 101 = .ok (.istore_n 3, 1) := by decide +kernel
theorem dX12_boundary_102 : decode cX12_boundary 102 = .ok (.iload_n 3, 1) := by decide +kernel
theorem dX12_boundary_103 : decode cX12_boundary 103 = .ok (.aload_n 0, 1) := by decide +kernel
theorem dX12_boundary_104 : decode cX12_boundary 104 = .ok (.getfield 151, 3) := by decide +kernel
theorem dX12_boundary_107 : decode cX12_boundary 107 = .ok (.iload_n 2, 1) := by decide +kernel
theorem dX12_boundary_108 : decode cX12_boundary 108 = .ok (.iaload, 1) := by decide +kernel
theorem dX12_boundary_109 : decode cX12_boundary 109 = .ok (.if_icmp .ne 12, 3) := by decide +kernel
theorem dX12_boundary_112 : decode cX12_boundary 112 = .ok (.aload_n 0, 1) := by decide +kernel
theorem dX12_boundary_113 : decode cX12_boundary 113 = .ok (.getfield 154, 3) := by decide +kernel
theorem dX12_boundary_116 : decode cX12_boundary 116 = .ok (.iload_n 2, 1) := by decide +kernel
theorem dX12_boundary_117 : decode cX12_boundary 117 = .ok (.iaload, 1) := by decide +kernel
theorem dX12_boundary_118 : decode cX12_boundary 118 = .ok (.goto 9, 3) := by decide +kernel
theorem dX12_boundary_121 : decode cX12_boundary 121 = .ok (.aload_n 0, 1) := by decide +kernel
theorem dX12_boundary_122 : decode cX12_boundary 122 = .ok (.getfield 151, 3) := by decide +kernel
theorem dX12_boundary_125 : decode cX12_boundary 125 = .ok (.iload_n 2, 1) := by decide +kernel
theorem dX12_boundary_126 : decode cX12_boundary 126 = .ok (.iaload, 1) := by decide +kernel
theorem dX12_boundary_127 : decode cX12_boundary 127 = .ok (.istore 4, 2) := by decide +kernel
theorem dX12_boundary_129 : decode cX12_boundary 129 = .ok (.aload_n 0, 1) := by decide +kernel
theorem dX12_boundary_130 : decode cX12_boundary 130 = .ok (.iload_n 2, 1) := by decide +kernel
theorem dX12_boundary_131 : decode cX12_boundary 131 = .ok (.iconst 0, 1) := by decide +kernel
theorem dX12_boundary_132 : decode cX12_boundary 132 = .ok (.invokevirtual 849, 3) := by decide +kernel
theorem dX12_boundary_135 : decode cX12_boundary 135 = .ok (.istore 6, 2) := by decide +kernel
theorem dX12_boundary_137 : decode cX12_boundary 137 = .ok (.iload 6, 2) := by decide +kernel
theorem dX12_boundary_139 : decode cX12_boundary 139 = .ok (.aload_n 0, 1) := by decide +kernel
theorem dX12_boundary_140 : decode cX12_boundary 140 = .ok (.getfield 157, 3) := by decide +kernel
theorem dX12_boundary_143 : decode cX12_boundary 143 = .ok (.iload_n 2, 1) := by decide +kernel
theorem dX12_boundary_144 : decode cX12_boundary 144 = .ok (.iaload, 1) := by decide +kernel
theorem dX12_boundary_145 : decode cX12_boundary 145 = .ok (.ixor, 1) := by decide +kernel
theorem dX12_boundary_146 : decode cX12_boundary 146 = .ok (.istore 5, 2) := by decide +kernel
theorem dX12_boundary_148 : decode cX12_boundary 148 = .ok (.iload_n 1, 1) := by decide +kernel
theorem dX12_boundary_149 : decode cX12_boundary 149 = .ok (.iload 5, 2) := by decide +kernel
theorem dX12_boundary_151 : decode cX12_boundary 151 = .ok (.invokestatic 852, 3) := by decide +kernel
theorem dX12_boundary_154 : decode cX12_boundary 154 = .ok (.istore 7, 2) := by decide +kernel
theorem dX12_boundary_156 : decode cX12_boundary 156 = .ok (.iload 7, 2) := by decide +kernel
theorem dX12_boundary_158 : decode cX12_boundary 158 = .ok (.iload_n 1, 1) := by decide +kernel
theorem dX12_boundary_159 : decode cX12_boundary 159 = .ok (.iload 6, 2) := by decide +kernel
theorem dX12_boundary_161 : decode cX12_boundary 161 = .ok (.invokestatic 852, 3) := by decide +kernel
theorem dX12_boundary_164 : decode cX12_boundary 164 = .ok (.if_icmp .ne 6, 3) := by decide +kernel
theorem dX12_boundary_167 : decode cX12_boundary 167 = .ok (.goto 63, 3) := by decide +kernel
theorem dX12_boundary_170 : decode cX12_boundary 170 = .ok (.aload_n 0, 1) := by decide +kernel
theorem dX12_boundary_171 : decode cX12_boundary 171 = .ok (.getfield 160, 3) := by decide +kernel
theorem dX12_boundary_174 : decode cX12_boundary 174 = .ok (.aload_n 0, 1) := by decide +kernel
theorem dX12_boundary_175 : decode cX12_boundary 175 = .ok (.getfield 846, 3) := by decide +kernel
theorem dX12_boundary_178 : decode cX12_boundary 178 = .ok (.iload 7, 2) := by decide +kernel
theorem dX12_boundary_180 : decode cX12_boundary 180 = .ok (.ifCond .eq 7, 3) := by decide +kernel
theorem dX12_boundary_183 : decode cX12_boundary 183 = .ok (.iload_n 3, 1) := by decide +kernel
theorem dX12_boundary_184 : decode cX12_boundary 184 = .ok (.goto 5, 3) := by decide +kernel
theorem dX12_boundary_187 : decode cX12_boundary 187 = .ok (.iload 4, 2) := by decide +kernel
theorem dX12_boundary_189 : decode cX12_boundary 189 = .ok (.iastore, 1) := by decide +kernel
theorem dX12_boundary_190 : decode cX12_boundary 190 = .ok (.aload_n 0, 1) := by decide +kernel
theorem dX12_boundary_191 : decode cX12_boundary 191 = .ok (.getfield 163, 3) := by decide +kernel
theorem dX12_boundary_194 : decode cX12_boundary 194 = .ok (.aload_n 0, 1) := by decide +kernel
theorem dX12_boundary_195 : decode cX12_boundary 195 = .ok (.getfield 846, 3) := by decide +kernel
theorem dX12_boundary_198 : decode cX12_boundary 198 = .ok (.iload 7, 2) := by decide +kernel
theorem dX12_boundary_200 : decode cX12_boundary 200 = .ok (.ifCond .eq 8, 3) := by decide +kernel
theorem dX12_boundary_203 : decode cX12_boundary 203 = .ok (.iload 4, 2) := by decide +kernel
theorem dX12_boundary_205 : decode cX12_boundary 205 = .ok (.goto 4, 3) := by decide +kernel
theorem dX12_boundary_208 : decode cX12_boundary 208 = .ok (.iload_n 3, 1) := by decide +kernel
theorem dX12_boundary_209 : decode cX12_boundary 209 = .ok (.iastore, 1) := by decide +kernel
theorem dX12_boundary_210 : decode cX12_boundary 210 = .ok (.aload_n 0, 1) := by decide +kernel
theorem dX12_boundary_211 : decode cX12_boundary 211 = .ok (.getfield 166, 3) := by decide +kernel
theorem dX12_boundary_214 : decode cX12_boundary 214 = .ok (.aload_n 0, 1) := by decide +kernel
theorem dX12_boundary_215 : decode cX12_boundary 215 = .ok (.getfield 846, 3) := by decide +kernel
theorem dX12_boundary_218 : decode cX12_boundary 218 = .ok (.iconst 0, 1) := by decide +kernel
theorem dX12_boundary_219 : decode cX12_boundary 219 = .ok (.bastore, 1) := by decide +kernel
theorem dX12_boundary_220 : decode cX12_boundary 220 = .ok (.aload_n 0, 1) := by decide +kernel
theorem dX12_boundary_221 : decode cX12_boundary 221 = .ok (.dup, 1) := by decide +kernel
theorem dX12_boundary_222 : decode cX12_boundary 222 = .ok (.getfield 846, 3) := by decide +kernel
theorem dX12_boundary_225 : decode cX12_boundary 225 = .ok (.iconst 1, 1) := by decide +kernel
theorem dX12_boundary_226 : decode cX12_boundary 226 = .ok (.iadd, 1) := by decide +kernel
theorem dX12_boundary_227 : decode cX12_boundary 227 = .ok (.putfield 846, 3) := by decide +kernel
theorem dX12_boundary_230 : decode cX12_boundary 230 = .ok (.iinc 2 1, 3) := by decide +kernel
theorem dX12_boundary_233 : decode cX12_boundary 233 = .ok (.goto (-226), 3) := by decide +kernel
theorem dX12_boundary_236 : decode cX12_boundary 236 = .ok (.return_, 1) := by decide +kernel
theorem dX12_isAhead_0 : decode cX12_isAhead 0 = .ok (.lload_n 0, 1) := by decide +kernel
theorem dX12_isAhead_1 : decode cX12_isAhead 1 = .ok (.lload_n 2, 1) := by decide +kernel
theorem dX12_isAhead_2 : decode cX12_isAhead 2 = .ok (.lload 4, 2) := by decide +kernel
theorem dX12_isAhead_4 : decode cX12_isAhead 4 = .ok (.lload 6, 2) := by decide +kernel
theorem dX12_isAhead_6 : decode cX12_isAhead 6 = .ok (.invokestatic 644, 3) := by decide +kernel
theorem dX12_isAhead_9 : decode cX12_isAhead 9 = .ok (.lstore 12, 2) := by decide +kernel
theorem dX12_isAhead_11 : decode cX12_isAhead 11 = .ok (.lload_n 0, 1) := by decide +kernel
theorem dX12_isAhead_12 : decode cX12_isAhead 12 = .ok (.lload_n 2, 1) := by decide +kernel
theorem dX12_isAhead_13 : decode cX12_isAhead 13 = .ok (.lload 8, 2) := by decide +kernel
theorem dX12_isAhead_15 : decode cX12_isAhead 15 = .ok (.lload 10, 2) := by decide +kernel
theorem dX12_isAhead_17 : decode cX12_isAhead 17 = .ok (.invokestatic 644, 3) := by decide +kernel
theorem dX12_isAhead_20 : decode cX12_isAhead 20 = .ok (.lstore 14, 2) := by decide +kernel
theorem dX12_isAhead_22 : decode cX12_isAhead 22 = .ok (.lload 12, 2) := by decide +kernel
theorem dX12_isAhead_24 : decode cX12_isAhead 24 = .ok (.lconst 0, 1) := by decide +kernel
theorem dX12_isAhead_25 : decode cX12_isAhead 25 = .ok (.lcmp, 1) := by decide +kernel
theorem dX12_isAhead_26 : decode cX12_isAhead 26 = .ok (.ifCond .ge 7, 3) := by decide +kernel
theorem dX12_isAhead_29 : decode cX12_isAhead 29 = .ok (.iconst 0, 1) := by decide +kernel
theorem dX12_isAhead_30 : decode cX12_isAhead 30 = .ok (.goto 15, 3) := by decide +kernel
theorem dX12_isAhead_33 : decode cX12_isAhead 33 = .ok (.lload 12, 2) := by decide +kernel
theorem dX12_isAhead_35 : decode cX12_isAhead 35 = .ok (.lconst 0, 1) := by decide +kernel
theorem dX12_isAhead_36 : decode cX12_isAhead 36 = .ok (.lcmp, 1) := by decide +kernel
theorem dX12_isAhead_37 : decode cX12_isAhead 37 = .ok (.ifCond .ne 7, 3) := by decide +kernel
theorem dX12_isAhead_40 : decode cX12_isAhead 40 = .ok (.iconst 1, 1) := by decide +kernel
theorem dX12_isAhead_41 : decode cX12_isAhead 41 = .ok (.goto 4, 3) := by decide +kernel
theorem dX12_isAhead_44 : decode cX12_isAhead 44 = .ok (.iconst 2, 1) := by decide +kernel
theorem dX12_isAhead_45 : decode cX12_isAhead 45 = .ok (.istore 16, 2) := by decide +kernel
theorem dX12_isAhead_47 : decode cX12_isAhead 47 = .ok (.lload 14, 2) := by decide +kernel
theorem dX12_isAhead_49 : decode cX12_isAhead 49 = .ok (.lconst 0, 1) := by decide +kernel
theorem dX12_isAhead_50 : decode cX12_isAhead 50 = .ok (.lcmp, 1) := by decide +kernel
theorem dX12_isAhead_51 : decode cX12_isAhead 51 = .ok (.ifCond .ge 7, 3) := by decide +kernel
theorem dX12_isAhead_54 : decode cX12_isAhead 54 = .ok (.iconst 0, 1) := by decide +kernel
theorem dX12_isAhead_55 : decode cX12_isAhead 55 = .ok (.goto 15, 3) := by decide +kernel
theorem dX12_isAhead_58 : decode cX12_isAhead 58 = .ok (.lload 14, 2) := by decide +kernel
theorem dX12_isAhead_60 : decode cX12_isAhead 60 = .ok (.lconst 0, 1) := by decide +kernel
theorem dX12_isAhead_61 : decode cX12_isAhead 61 = .ok (.lcmp, 1) := by decide +kernel
theorem dX12_isAhead_62 : decode cX12_isAhead 62 = .ok (.ifCond .ne 7, 3) := by decide +kernel
theorem dX12_isAhead_65 : decode cX12_isAhead 65 = .ok (.iconst 1, 1) := by decide +kernel
theorem dX12_isAhead_66 : decode cX12_isAhead 66 = .ok (.goto 4, 3) := by decide +kernel
theorem dX12_isAhead_69 : decode cX12_isAhead 69 = .ok (.iconst 2, 1) := by decide +kernel
theorem dX12_isAhead_70 : decode cX12_isAhead 70 = .ok (.istore 17, 2) := by decide +kernel
theorem dX12_isAhead_72 : decode cX12_isAhead 72 = .ok (.iload 16, 2) := by decide +kernel
theorem dX12_isAhead_74 : decode cX12_isAhead 74 = .ok (.iload 17, 2) := by decide +kernel
theorem dX12_isAhead_76 : decode cX12_isAhead 76 = .ok (.if_icmp .lt 26, 3) := by decide +kernel
theorem dX12_isAhead_79 : decode cX12_isAhead 79 = .ok (.iload 16, 2) := by decide +kernel
theorem dX12_isAhead_81 : decode cX12_isAhead 81 = .ok (.iload 17, 2) := by decide +kernel
theorem dX12_isAhead_83 : decode cX12_isAhead 83 = .ok (.if_icmp .ne 23, 3) := by decide +kernel
theorem dX12_isAhead_86 : decode cX12_isAhead 86 = .ok (.lload 4, 2) := by decide +kernel
theorem dX12_isAhead_88 : decode cX12_isAhead 88 = .ok (.lload 6, 2) := by decide +kernel
theorem dX12_isAhead_90 : decode cX12_isAhead 90 = .ok (.lload 8, 2) := by decide +kernel
theorem dX12_isAhead_92 : decode cX12_isAhead 92 = .ok (.lload 10, 2) := by decide +kernel
theorem dX12_isAhead_94 : decode cX12_isAhead 94 = .ok (.invokestatic 644, 3) := by decide +kernel
theorem dX12_isAhead_97 : decode cX12_isAhead 97 = .ok (.lconst 0, 1) := by decide +kernel
theorem dX12_isAhead_98 : decode cX12_isAhead 98 = .ok (.lcmp, 1) := by decide +kernel
theorem dX12_isAhead_99 : decode cX12_isAhead 99 = .ok (.ifCond .ge 7, 3) := by decide +kernel
theorem dX12_isAhead_102 : decode cX12_isAhead 102 = .ok (.iconst 1, 1) := by decide +kernel
theorem dX12_isAhead_103 : decode cX12_isAhead 103 = .ok (.goto 4, 3) := by decide +kernel
theorem dX12_isAhead_106 : decode cX12_isAhead 106 = .ok (.iconst 0, 1) := by decide +kernel
theorem dX12_isAhead_107 : decode cX12_isAhead 107 = .ok (.ireturn, 1) := by decide +kernel
theorem dX12_edgeBehind_0 : decode cX12_edgeBehind 0 = .ok (.aload_n 0, 1) := by decide +kernel
theorem dX12_edgeBehind_1 : decode cX12_edgeBehind 1 = .ok (.getfield 163, 3) := by decide +kernel
theorem dX12_edgeBehind_4 : decode cX12_edgeBehind 4 = .ok (.iload_n 1, 1) := by decide +kernel
theorem dX12_edgeBehind_5 : decode cX12_edgeBehind 5 = .ok (.iaload, 1) := by decide +kernel
theorem dX12_edgeBehind_6 : decode cX12_edgeBehind 6 = .ok (.istore_n 2, 1) := by decide +kernel
theorem dX12_edgeBehind_7 : decode cX12_edgeBehind 7 = .ok (.aload_n 0, 1) := by decide +kernel
theorem dX12_edgeBehind_8 : decode cX12_edgeBehind 8 = .ok (.getfield 132, 3) := by decide +kernel
theorem dX12_edgeBehind_11 : decode cX12_edgeBehind 11 = .ok (.aload_n 0, 1) := by decide +kernel
theorem dX12_edgeBehind_12 : decode cX12_edgeBehind 12 = .ok (.getfield 160, 3) := by decide +kernel
theorem dX12_edgeBehind_15 : decode cX12_edgeBehind 15 = .ok (.iload_n 1, 1) := by decide +kernel
theorem dX12_edgeBehind_16 : decode cX12_edgeBehind 16 = .ok (.iaload, 1) := by decide +kernel
theorem dX12_edgeBehind_17 : decode cX12_edgeBehind 17 = .ok (.laload, 1) := by decide +kernel
theorem dX12_edgeBehind_18 : decode cX12_edgeBehind 18 = .ok (.aload_n 0, 1) := by decide +kernel
theorem dX12_edgeBehind_19 : decode cX12_edgeBehind 19 = .ok (.getfield 132, 3) := by decide +kernel
theorem dX12_edgeBehind_22 : decode cX12_edgeBehind 22 = .ok (.iload_n 2, 1) := by decide +kernel
theorem dX12_edgeBehind_23 : decode cX12_edgeBehind 23 = .ok (.laload, 1) := by decide +kernel
theorem dX12_edgeBehind_24 : decode cX12_edgeBehind 24 = .ok (.lsub, 1) := by decide +kernel
theorem dX12_edgeBehind_25 : decode cX12_edgeBehind 25 = .ok (.lstore_n 3, 1) := by decide +kernel
theorem dX12_edgeBehind_26 : decode cX12_edgeBehind 26 = .ok (.aload_n 0, 1) := by decide +kernel
theorem dX12_edgeBehind_27 : decode cX12_edgeBehind 27 = .ok (.getfield 135, 3) := by decide +kernel
theorem dX12_edgeBehind_30 : decode cX12_edgeBehind 30 = .ok (.aload_n 0, 1) := by decide +kernel
theorem dX12_edgeBehind_31 : decode cX12_edgeBehind 31 = .ok (.getfield 160, 3) := by decide +kernel
theorem dX12_edgeBehind_34 : decode cX12_edgeBehind 34 = .ok (.iload_n 1, 1) := by decide +kernel
theorem dX12_edgeBehind_35 : decode cX12_edgeBehind 35 = .ok (.iaload, 1) := by decide +kernel
theorem dX12_edgeBehind_36 : decode cX12_edgeBehind 36 = .ok (.laload, 1) := by decide +kernel
theorem dX12_edgeBehind_37 : decode cX12_edgeBehind 37 = .ok (.aload_n 0, 1) := by decide +kernel
theorem dX12_edgeBehind_38 : decode cX12_edgeBehind 38 = .ok (.getfield 135, 3) := by decide +kernel
theorem dX12_edgeBehind_41 : decode cX12_edgeBehind 41 = .ok (.iload_n 2, 1) := by decide +kernel
theorem dX12_edgeBehind_42 : decode cX12_edgeBehind 42 = .ok (.laload, 1) := by decide +kernel
theorem dX12_edgeBehind_43 : decode cX12_edgeBehind 43 = .ok (.lsub, 1) := by decide +kernel
theorem dX12_edgeBehind_44 : decode cX12_edgeBehind 44 = .ok (.lstore 5, 2) := by decide +kernel
theorem dX12_edgeBehind_46 : decode cX12_edgeBehind 46 = .ok (.iconst (-1), 1) := by decide +kernel
theorem dX12_edgeBehind_47 : decode cX12_edgeBehind 47 = .ok (.istore 7, 2) := by decide +kernel
theorem dX12_edgeBehind_49 : decode cX12_edgeBehind 49 = .ok (.lconst 0, 1) := by decide +kernel
theorem dX12_edgeBehind_50 : decode cX12_edgeBehind 50 = .ok (.lstore 8, 2) := by decide +kernel
theorem dX12_edgeBehind_52 : decode cX12_edgeBehind 52 = .ok (.lconst 0, 1) := by decide +kernel
theorem dX12_edgeBehind_53 : decode cX12_edgeBehind 53 = .ok (.lstore 10, 2) := by decide +kernel
theorem dX12_edgeBehind_55 : decode cX12_edgeBehind 55 = .ok (.iconst 0, 1) := by decide +kernel
theorem dX12_edgeBehind_56 : decode cX12_edgeBehind 56 = .ok (.istore 12, 2) := by decide +kernel
theorem dX12_edgeBehind_58 : decode cX12_edgeBehind 58 = .ok (.iload 12, 2) := by decide +kernel
theorem dX12_edgeBehind_60 : decode cX12_edgeBehind 60 = .ok (.aload_n 0, 1) := by decide +kernel
theorem dX12_edgeBehind_61 : decode cX12_edgeBehind 61 = .ok (.getfield 846, 3) := by decide +kernel
theorem dX12_edgeBehind_64 : decode cX12_edgeBehind 64 = .ok (.if_icmp .ge 140, 3) := by decide +kernel
theorem dX12_edgeBehind_67 : decode cX12_edgeBehind 67 = .ok (.iload 12, 2) := by decide +kernel
theorem dX12_edgeBehind_69 : decode cX12_edgeBehind 69 = .ok (.iload_n 1, 1) := by decide +kernel
theorem dX12_edgeBehind_70 : decode cX12_edgeBehind 70 = .ok (.if_icmp .eq 128, 3) := by decide +kernel
theorem dX12_edgeBehind_73 : decode cX12_edgeBehind 73 = .ok (.aload_n 0, 1) := by decide +kernel
theorem dX12_edgeBehind_74 : decode cX12_edgeBehind 74 = .ok (.getfield 160, 3) := by decide +kernel
theorem dX12_edgeBehind_77 : decode cX12_edgeBehind 77 = .ok (.iload 12, 2) := by decide +kernel
theorem dX12_edgeBehind_79 : decode cX12_edgeBehind 79 = .ok (.iaload, 1) := by decide +kernel
theorem dX12_edgeBehind_80 : decode cX12_edgeBehind 80 = .ok (.iload_n 2, 1) := by decide +kernel
theorem dX12_edgeBehind_81 : decode cX12_edgeBehind 81 = .ok (.if_icmp .eq 17, 3) := by decide +kernel
theorem dX12_edgeBehind_84 : decode cX12_edgeBehind 84 = .ok (.aload_n 0, 1) := by decide +kernel
theorem dX12_edgeBehind_85 : decode cX12_edgeBehind 85 = .ok (.getfield 163, 3) := by decide +kernel
theorem dX12_edgeBehind_88 : decode cX12_edgeBehind 88 = .ok (.iload 12, 2) := by decide +kernel
theorem dX12_edgeBehind_90 : decode cX12_edgeBehind 90 = .ok (.iaload, 1) := by decide +kernel
theorem dX12_edgeBehind_91 : decode cX12_edgeBehind 91 = .ok (.iload_n 2, 1) := by decide +kernel
theorem dX12_edgeBehind_92 : decode cX12_edgeBehind 92 = .ok (.if_icmp .eq 6, 3) := by decide +kernel
theorem dX12_edgeBehind_95 : decode cX12_edgeBehind 95 = .ok (.goto 103, 3) := by decide +kernel
theorem dX12_edgeBehind_98 : decode cX12_edgeBehind 98 = .ok (.aload_n 0, 1) := by decide +kernel
theorem dX12_edgeBehind_99 : decode cX12_edgeBehind 99 = .ok (.getfield 160, 3) := by decide +kernel
theorem dX12_edgeBehind_102 : decode cX12_edgeBehind 102 = .ok (.iload 12, 2) := by decide +kernel
theorem dX12_edgeBehind_104 : decode cX12_edgeBehind 104 = .ok (.iaload, 1) := by decide +kernel
theorem dX12_edgeBehind_105 : decode cX12_edgeBehind 105 = .ok (.iload_n 2, 1) := by decide +kernel
theorem dX12_edgeBehind_106 : decode cX12_edgeBehind 106 = .ok (.if_icmp .ne 13, 3) := by decide +kernel
theorem dX12_edgeBehind_109 : decode cX12_edgeBehind 109 = .ok (.aload_n 0, 1) := by decide +kernel
theorem dX12_edgeBehind_110 : decode cX12_edgeBehind 110 = .ok (.getfield 163, 3) := by decide +kernel
theorem dX12_edgeBehind_113 : decode cX12_edgeBehind 113 = .ok (.iload 12, 2) := by decide +kernel
theorem dX12_edgeBehind_115 : decode cX12_edgeBehind 115 = .ok (.iaload, 1) := by decide +kernel
theorem dX12_edgeBehind_116 : decode cX12_edgeBehind 116 = .ok (.goto 10, 3) := by decide +kernel
theorem dX12_edgeBehind_119 : decode cX12_edgeBehind 119 = .ok (.aload_n 0, 1) := by decide +kernel
theorem dX12_edgeBehind_120 : decode cX12_edgeBehind 120 = .ok (.getfield 160, 3) := by decide +kernel
theorem dX12_edgeBehind_123 : decode cX12_edgeBehind 123 = .ok (.iload 12, 2) := by decide +kernel
theorem dX12_edgeBehind_125 : decode cX12_edgeBehind 125 = .ok (.iaload, 1) := by decide +kernel
theorem dX12_edgeBehind_126 : decode cX12_edgeBehind 126 = .ok (.istore 13, 2) := by decide +kernel
theorem dX12_edgeBehind_128 : decode cX12_edgeBehind 128 = .ok (.aload_n 0, 1) := by decide +kernel
theorem dX12_edgeBehind_129 : decode cX12_edgeBehind 129 = .ok (.getfield 132, 3) := by decide +kernel
theorem dX12_edgeBehind_132 : decode cX12_edgeBehind 132 = .ok (.iload 13, 2) := by decide +kernel
theorem dX12_edgeBehind_134 : decode cX12_edgeBehind 134 = .ok (.laload, 1) := by decide +kernel
theorem dX12_edgeBehind_135 : decode cX12_edgeBehind 135 = .ok (.aload_n 0, 1) := by decide +kernel
theorem dX12_edgeBehind_136 : decode cX12_edgeBehind 136 = .ok (.getfield 132, 3) := by decide +kernel
theorem dX12_edgeBehind_139 : decode cX12_edgeBehind 139 = .ok (.iload_n 2, 1) := by decide +kernel
theorem dX12_edgeBehind_140 : decode cX12_edgeBehind 140 = .ok (.laload, 1) := by decide +kernel
theorem dX12_edgeBehind_141 : decode cX12_edgeBehind 141 = .ok (.lsub, 1) := by decide +kernel
theorem dX12_edgeBehind_142 : decode cX12_edgeBehind 142 = .ok (.lstore 14, 2) := by decide +kernel
theorem dX12_edgeBehind_144 : decode cX12_edgeBehind 144 = .ok (.aload_n 0, 1) := by decide +kernel
theorem dX12_edgeBehind_145 : decode cX12_edgeBehind 145 = .ok (.getfield 135, 3) := by decide +kernel
theorem dX12_edgeBehind_148 : decode cX12_edgeBehind 148 = .ok (.iload 13, 2) := by decide +kernel
theorem dX12_edgeBehind_150 : decode cX12_edgeBehind 150 = .ok (.laload, 1) := by decide +kernel
theorem dX12_edgeBehind_151 : decode cX12_edgeBehind 151 = .ok (.aload_n 0, 1) := by decide +kernel
theorem dX12_edgeBehind_152 : decode cX12_edgeBehind 152 = .ok (.getfield 135, 3) := by decide +kernel
theorem dX12_edgeBehind_155 : decode cX12_edgeBehind 155 = .ok (.iload_n 2, 1) := by decide +kernel
theorem dX12_edgeBehind_156 : decode cX12_edgeBehind 156 = .ok (.laload, 1) := by decide +kernel
theorem dX12_edgeBehind_157 : decode cX12_edgeBehind 157 = .ok (.lsub, 1) := by decide +kernel
theorem dX12_edgeBehind_158 : decode cX12_edgeBehind 158 = .ok (.lstore 16, 2) := by decide +kernel
theorem dX12_edgeBehind_160 : decode cX12_edgeBehind 160 = .ok (.iload 7, 2) := by decide +kernel
theorem dX12_edgeBehind_162 : decode cX12_edgeBehind 162 = .ok (.iconst (-1), 1) := by decide +kernel
theorem dX12_edgeBehind_163 : decode cX12_edgeBehind 163 = .ok (.if_icmp .eq 23, 3) := by decide +kernel
theorem dX12_edgeBehind_166 : decode cX12_edgeBehind 166 = .ok (.lload_n 3, 1) := by decide +kernel
theorem dX12_edgeBehind_167 : decode cX12_edgeBehind 167 = .ok (.lload 5, 2) := by decide +kernel
theorem dX12_edgeBehind_169 : decode cX12_edgeBehind 169 = .ok (.lload 14, 2) := by decide +kernel
theorem dX12_edgeBehind_171 : decode cX12_edgeBehind 171 = .ok (.lload 16, 2) := by decide +kernel
theorem dX12_edgeBehind_173 : decode cX12_edgeBehind 173 = .ok (.lload 8, 2) := by decide +kernel
theorem dX12_edgeBehind_175 : decode cX12_edgeBehind 175 = .ok (.lload 10, 2) := by decide +kernel
theorem dX12_edgeBehind_177 : decode cX12_edgeBehind 177 = .ok (.invokestatic 855, 3) := by decide +kernel
theorem dX12_edgeBehind_180 : decode cX12_edgeBehind 180 = .ok (.ifCond .ne 6, 3) := by decide +kernel
theorem dX12_edgeBehind_183 : decode cX12_edgeBehind 183 = .ok (.goto 15, 3) := by decide +kernel
theorem dX12_edgeBehind_186 : decode cX12_edgeBehind 186 = .ok (.iload 12, 2) := by decide +kernel
theorem dX12_edgeBehind_188 : decode cX12_edgeBehind 188 = .ok (.istore 7, 2) := by decide +kernel
theorem dX12_edgeBehind_190 : decode cX12_edgeBehind 190 = .ok (.lload 14, 2) := by decide +kernel
theorem dX12_edgeBehind_192 : decode cX12_edgeBehind 192 = .ok (.lstore 8, 2) := by decide +kernel
theorem dX12_edgeBehind_194 : decode cX12_edgeBehind 194 = .ok (.lload 16, 2) := by decide +kernel
theorem dX12_edgeBehind_196 : decode cX12_edgeBehind 196 = .ok (.lstore 10, 2) := by decide +kernel
theorem dX12_edgeBehind_198 : decode cX12_edgeBehind 198 = .ok (.iinc 12 1, 3) := by decide +kernel
theorem dX12_edgeBehind_201 : decode cX12_edgeBehind 201 = .ok (.goto (-143), 3) := by decide +kernel
theorem dX12_edgeBehind_204 : decode cX12_edgeBehind 204 = .ok (.iload 7, 2) := by decide +kernel
theorem dX12_edgeBehind_206 : decode cX12_edgeBehind 206 = .ok (.ireturn, 1) := by decide +kernel
theorem dX12_isStraight_0 : decode cX12_isStraight 0 = .ok (.aload_n 0, 1) := by decide +kernel
theorem dX12_isStraight_1 : decode cX12_isStraight 1 = .ok (.getfield 132, 3) := by decide +kernel
theorem dX12_isStraight_4 : decode cX12_isStraight 4 = .ok (.iload_n 1, 1) := by decide +kernel
theorem dX12_isStraight_5 : decode cX12_isStraight 5 = .ok (.laload, 1) := by decide +kernel
theorem dX12_isStraight_6 : decode cX12_isStraight 6 = .ok (.aload_n 0, 1) := by decide +kernel
theorem dX12_isStraight_7 : decode cX12_isStraight 7 = .ok (.getfield 135, 3) := by decide +kernel
theorem dX12_isStraight_10 : decode cX12_isStraight 10 = .ok (.iload_n 1, 1) := by decide +kernel
theorem dX12_isStraight_11 : decode cX12_isStraight 11 = .ok (.laload, 1) := by decide +kernel
theorem dX12_isStraight_12 : decode cX12_isStraight 12 = .ok (.aload_n 0, 1) := by decide +kernel
theorem dX12_isStraight_13 : decode cX12_isStraight 13 = .ok (.getfield 132, 3) := by decide +kernel
theorem dX12_isStraight_16 : decode cX12_isStraight 16 = .ok (.iload_n 2, 1) := by decide +kernel
theorem dX12_isStraight_17 : decode cX12_isStraight 17 = .ok (.laload, 1) := by decide +kernel
theorem dX12_isStraight_18 : decode cX12_isStraight 18 = .ok (.aload_n 0, 1) := by decide +kernel
theorem dX12_isStraight_19 : decode cX12_isStraight 19 = .ok (.getfield 135, 3) := by decide +kernel
theorem dX12_isStraight_22 : decode cX12_isStraight 22 = .ok (.iload_n 2, 1) := by decide +kernel
theorem dX12_isStraight_23 : decode cX12_isStraight 23 = .ok (.laload, 1) := by decide +kernel
theorem dX12_isStraight_24 : decode cX12_isStraight 24 = .ok (.aload_n 0, 1) := by decide +kernel
theorem dX12_isStraight_25 : decode cX12_isStraight 25 = .ok (.getfield 132, 3) := by decide +kernel
theorem dX12_isStraight_28 : decode cX12_isStraight 28 = .ok (.iload_n 3, 1) := by decide +kernel
theorem dX12_isStraight_29 : decode cX12_isStraight 29 = .ok (.laload, 1) := by decide +kernel
theorem dX12_isStraight_30 : decode cX12_isStraight 30 = .ok (.aload_n 0, 1) := by decide +kernel
theorem dX12_isStraight_31 : decode cX12_isStraight 31 = .ok (.getfield 135, 3) := by decide +kernel
theorem dX12_isStraight_34 : decode cX12_isStraight 34 = .ok (.iload_n 3, 1) := by decide +kernel
theorem dX12_isStraight_35 : decode cX12_isStraight 35 = .ok (.laload, 1) := by decide +kernel
theorem dX12_isStraight_36 : decode cX12_isStraight 36 = .ok (.invokestatic 664, 3) := by decide +kernel
theorem dX12_isStraight_39 : decode cX12_isStraight 39 = .ok (.ifCond .ne 7, 3) := by decide +kernel
theorem dX12_isStraight_42 : decode cX12_isStraight 42 = .ok (.iconst 1, 1) := by decide +kernel
theorem dX12_isStraight_43 : decode cX12_isStraight 43 = .ok (.goto 4, 3) := by decide +kernel
theorem dX12_isStraight_46 : decode cX12_isStraight 46 = .ok (.iconst 0, 1) := by decide +kernel
theorem dX12_isStraight_47 : decode cX12_isStraight 47 = .ok (.ireturn, 1) := by decide +kernel
theorem dX12_ring_0 : decode cX12_ring 0 = .ok (.aload_n 0, 1) := by decide +kernel
theorem dX12_ring_1 : decode cX12_ring 1 = .ok (.getfield 858, 3) := by decide +kernel
theorem dX12_ring_4 : decode cX12_ring 4 = .ok (.iload_n 1, 1) := by decide +kernel
theorem dX12_ring_5 : decode cX12_ring 5 = .ok (.isub, 1) := by decide +kernel
theorem dX12_ring_6 : decode cX12_ring 6 = .ok (.istore_n 2, 1) := by decide +kernel
theorem dX12_ring_7 : decode cX12_ring 7 = .ok (.iload_n 1, 1) := by decide +kernel
theorem dX12_ring_8 : decode cX12_ring 8 = .ok (.istore_n 3, 1) := by decide +kernel
theorem dX12_ring_9 : decode cX12_ring 9 = .ok (.iload_n 1, 1) := by decide +kernel
theorem dX12_ring_10 : decode cX12_ring 10 = .ok (.istore 4, 2) := by decide +kernel
theorem dX12_ring_12 : decode cX12_ring 12 = .ok (.iload 4, 2) := by decide +kernel
theorem dX12_ring_14 : decode cX12_ring 14 = .ok (.aload_n 0, 1) := by decide +kernel
theorem dX12_ring_15 : decode cX12_ring 15 = .ok (.getfield 858, 3) := by decide +kernel
theorem dX12_ring_18 : decode cX12_ring 18 = .ok (.if_icmp .ge 32, 3) := by decide +kernel
theorem dX12_ring_21 : decode cX12_ring 21 = .ok (.aload_n 0, 1) := by decide +kernel
theorem dX12_ring_22 : decode cX12_ring 22 = .ok (.getfield 169, 3) := by decide +kernel
theorem dX12_ring_25 : decode cX12_ring 25 = .ok (.iload 4, 2) := by decide +kernel
theorem dX12_ring_27 : decode cX12_ring 27 = .ok (.iaload, 1) := by decide +kernel
theorem dX12_ring_28 : decode cX12_ring 28 = .ok (.aload_n 0, 1) := by decide +kernel
theorem dX12_ring_29 : decode cX12_ring 29 = .ok (.getfield 169, 3) := by decide +kernel
theorem dX12_ring_32 : decode cX12_ring 32 = .ok (.iload_n 3, 1) := by decide +kernel
theorem dX12_ring_33 : decode cX12_ring 33 = .ok (.iaload, 1) := by decide +kernel
theorem dX12_ring_34 : decode cX12_ring 34 = .ok (.if_icmp .ge 8, 3) := by decide +kernel
theorem dX12_ring_37 : decode cX12_ring 37 = .ok (.iload 4, 2) := by decide +kernel
theorem dX12_ring_39 : decode cX12_ring 39 = .ok (.goto 4, 3) := by decide +kernel
theorem dX12_ring_42 : decode cX12_ring 42 = .ok (.iload_n 3, 1) := by decide +kernel
theorem dX12_ring_43 : decode cX12_ring 43 = .ok (.istore_n 3, 1) := by decide +kernel
theorem dX12_ring_44 : decode cX12_ring 44 = .ok (.iinc 4 1, 3) := by decide +kernel
theorem dX12_ring_47 : decode cX12_ring 47 = .ok (.goto (-35), 3) := by decide +kernel
theorem dX12_ring_50 : decode cX12_ring 50 = .ok (.aload_n 0, 1) := by decide +kernel
theorem dX12_ring_51 : decode cX12_ring 51 = .ok (.getfield 179, 3) := by decide +kernel
theorem dX12_ring_54 : decode cX12_ring 54 = .ok (.aload_n 0, 1) := by decide +kernel
theorem dX12_ring_55 : decode cX12_ring 55 = .ok (.getfield 861, 3) := by decide +kernel
theorem dX12_ring_58 : decode cX12_ring 58 = .ok (.aload_n 0, 1) := by decide +kernel
theorem dX12_ring_59 : decode cX12_ring 59 = .ok (.getfield 864, 3) := by decide +kernel
theorem dX12_ring_62 : decode cX12_ring 62 = .ok (.iastore, 1) := by decide +kernel
theorem dX12_ring_63 : decode cX12_ring 63 = .ok (.lconst 0, 1) := by decide +kernel
theorem dX12_ring_64 : decode cX12_ring 64 = .ok (.lstore 4, 2) := by decide +kernel
theorem dX12_ring_66 : decode cX12_ring 66 = .ok (.iconst 0, 1) := by decide +kernel
theorem dX12_ring_67 : decode cX12_ring 67 = .ok (.istore 6, 2) := by decide +kernel
theorem dX12_ring_69 : decode cX12_ring 69 = .ok (.iload 6, 2) := by decide +kernel
theorem dX12_ring_71 : decode cX12_ring 71 = .ok (.iload_n 2, 1) := by decide +kernel
theorem dX12_ring_72 : decode cX12_ring 72 = .ok (.if_icmp .ge 160, 3) := by decide +kernel
theorem dX12_ring_75 : decode cX12_ring 75 = .ok (.iload_n 1, 1) := by decide +kernel
theorem dX12_ring_76 : decode cX12_ring 76 = .ok (.iload_n 3, 1) := by decide +kernel
theorem dX12_ring_77 : decode cX12_ring 77 = .ok (.iload_n 1, 1) := by decide +kernel
theorem dX12_ring_78 : decode cX12_ring 78 = .ok (.isub, 1) := by decide +kernel
theorem dX12_ring_79 : decode cX12_ring 79 = .ok (.iload 6, 2) := by decide +kernel
theorem dX12_ring_81 : decode cX12_ring 81 = .ok (.iadd, 1) := by decide +kernel
theorem dX12_ring_82 : decode cX12_ring 82 = .ok (.iload_n 2, 1) := by decide +kernel
theorem dX12_ring_83 : decode cX12_ring 83 = .ok (.irem, 1) := by decide +kernel
theorem dX12_ring_84 : decode cX12_ring 84 = .ok (.iadd, 1) := by decide +kernel
theorem dX12_ring_85 : decode cX12_ring 85 = .ok (.istore 7, 2) := by decide +kernel
theorem dX12_ring_87 : decode cX12_ring 87 = .ok (.iload_n 1, 1) := by decide +kernel
theorem dX12_ring_88 : decode cX12_ring 88 = .ok (.iload 7, 2) := by decide +kernel
theorem dX12_ring_90 : decode cX12_ring 90 = .ok (.iload_n 1, 1) := by decide +kernel
theorem dX12_ring_91 : decode cX12_ring 91 = .ok (.isub, 1) := by decide +kernel
theorem dX12_ring_92 : decode cX12_ring 92 = .ok (.iload_n 2, 1) := by decide +kernel
theorem dX12_ring_93 : decode cX12_ring 93 = .ok (.iadd, 1) := by decide +kernel
theorem dX12_ring_94 : decode cX12_ring 94 = .ok (.iconst 1, 1) := by decide +kernel
theorem dX12_ring_95 : decode cX12_ring 95 = .ok (.isub, 1) := by decide +kernel
theorem dX12_ring_96 : decode cX12_ring 96 = .ok (.iload_n 2, 1) := by decide +kernel
theorem dX12_ring_97 : decode cX12_ring 97 = .ok (.irem, 1) := by decide +kernel
theorem dX12_ring_98 : decode cX12_ring 98 = .ok (.iadd, 1) := by decide +kernel
theorem dX12_ring_99 : decode cX12_ring 99 = .ok (.istore 8, 2) := by decide +kernel
theorem dX12_ring_101 : decode cX12_ring 101 = .ok (.iload_n 1, 1) := by decide +kernel
theorem dX12_ring_102 : decode cX12_ring 102 = .ok (.iload 7, 2) := by decide +kernel
theorem dX12_ring_104 : decode cX12_ring 104 = .ok (.iload_n 1, 1) := by decide +kernel
theorem dX12_ring_105 : decode cX12_ring 105 = .ok (.isub, 1) := by decide +kernel
theorem dX12_ring_106 : decode cX12_ring 106 = .ok (.iconst 1, 1) := by decide +kernel
theorem dX12_ring_107 : decode cX12_ring 107 = .ok (.iadd, 1) := by decide +kernel
theorem dX12_ring_108 : decode cX12_ring 108 = .ok (.iload_n 2, 1) := by decide +kernel
theorem dX12_ring_109 : decode cX12_ring 109 = .ok (.irem, 1) := by decide +kernel
theorem dX12_ring_110 : decode cX12_ring 110 = .ok (.iadd, 1) := by decide +kernel
theorem dX12_ring_111 : decode cX12_ring 111 = .ok (.istore 9, 2) := by decide +kernel
theorem dX12_ring_113 : decode cX12_ring 113 = .ok (.lload 4, 2) := by decide +kernel
theorem dX12_ring_115 : decode cX12_ring 115 = .ok (.aload_n 0, 1) := by decide +kernel
theorem dX12_ring_116 : decode cX12_ring 116 = .ok (.getfield 132, 3) := by decide +kernel
theorem dX12_ring_119 : decode cX12_ring 119 = .ok (.aload_n 0, 1) := by decide +kernel
theorem dX12_ring_120 : decode cX12_ring 120 = .ok (.getfield 169, 3) := by decide +kernel
theorem dX12_ring_123 : decode cX12_ring 123 = .ok (.iload 7, 2) := by decide +kernel
theorem dX12_ring_125 : decode cX12_ring 125 = .ok (.iaload, 1) := by decide +kernel
theorem dX12_ring_126 : decode cX12_ring 126 = .ok (.laload, 1) := by decide +kernel
theorem dX12_ring_127 : decode cX12_ring 127 = .ok (.aload_n 0, 1) := by decide +kernel
theorem dX12_ring_128 : decode cX12_ring 128 = .ok (.getfield 135, 3) := by decide +kernel
theorem dX12_ring_131 : decode cX12_ring 131 = .ok (.aload_n 0, 1) := by decide +kernel
theorem dX12_ring_132 : decode cX12_ring 132 = .ok (.getfield 169, 3) := by decide +kernel
theorem dX12_ring_135 : decode cX12_ring 135 = .ok (.iload 7, 2) := by decide +kernel
theorem dX12_ring_137 : decode cX12_ring 137 = .ok (.iaload, 1) := by decide +kernel
theorem dX12_ring_138 : decode cX12_ring 138 = .ok (.laload, 1) := by decide +kernel
theorem dX12_ring_139 : decode cX12_ring 139 = .ok (.aload_n 0, 1) := by decide +kernel
theorem dX12_ring_140 : decode cX12_ring 140 = .ok (.getfield 132, 3) := by decide +kernel
theorem dX12_ring_143 : decode cX12_ring 143 = .ok (.aload_n 0, 1) := by decide +kernel
theorem dX12_ring_144 : decode cX12_ring 144 = .ok (.getfield 169, 3) := by decide +kernel
theorem dX12_ring_147 : decode cX12_ring 147 = .ok (.iload 9, 2) := by decide +kernel
theorem dX12_ring_149 : decode cX12_ring 149 = .ok (.iaload, 1) := by decide +kernel
theorem dX12_ring_150 : decode cX12_ring 150 = .ok (.laload, 1) := by decide +kernel
theorem dX12_ring_151 : decode cX12_ring 151 = .ok (.aload_n 0, 1) := by decide +kernel
theorem dX12_ring_152 : decode cX12_ring 152 = .ok (.getfield 135, 3) := by decide +kernel
theorem dX12_ring_155 : decode cX12_ring 155 = .ok (.aload_n 0, 1) := by decide +kernel
theorem dX12_ring_156 : decode cX12_ring 156 = .ok (.getfield 169, 3) := by decide +kernel
theorem dX12_ring_159 : decode cX12_ring 159 = .ok (.iload 9, 2) := by decide +kernel
theorem dX12_ring_161 : decode cX12_ring 161 = .ok (.iaload, 1) := by decide +kernel
theorem dX12_ring_162 : decode cX12_ring 162 = .ok (.laload, 1) := by decide +kernel
theorem dX12_ring_163 : decode cX12_ring 163 = .ok (.invokestatic 644, 3) := by decide +kernel
theorem dX12_ring_166 : decode cX12_ring 166 = .ok (.ladd, 1) := by decide +kernel
theorem dX12_ring_167 : decode cX12_ring 167 = .ok (.lstore 4, 2) := by decide +kernel
theorem dX12_ring_169 : decode cX12_ring 169 = .ok (.aload_n 0, 1) := by decide +kernel
theorem dX12_ring_170 : decode cX12_ring 170 = .ok (.aload_n 0, 1) := by decide +kernel
theorem dX12_ring_171 : decode cX12_ring 171 = .ok (.getfield 169, 3) := by decide +kernel
theorem dX12_ring_174 : decode cX12_ring 174 = .ok (.iload 8, 2) := by decide +kernel
theorem dX12_ring_176 : decode cX12_ring 176 = .ok (.iaload, 1) := by decide +kernel
theorem dX12_ring_177 : decode cX12_ring 177 = .ok (.aload_n 0, 1) := by decide +kernel
theorem dX12_ring_178 : decode cX12_ring 178 = .ok (.getfield 169, 3) := by decide +kernel
theorem dX12_ring_181 : decode cX12_ring 181 = .ok (.iload 7, 2) := by decide +kernel
theorem dX12_ring_183 : decode cX12_ring 183 = .ok (.iaload, 1) := by decide +kernel
theorem dX12_ring_184 : decode cX12_ring 184 = .ok (.aload_n 0, 1) := by decide +kernel
theorem dX12_ring_185 : decode cX12_ring 185 = .ok (.getfield 169, 3) := by decide +kernel
theorem dX12_ring_188 : decode cX12_ring 188 = .ok (.iload 9, 2) := by decide +kernel
theorem dX12_ring_190 : decode cX12_ring 190 = .ok (.iaload, 1) := by decide +kernel
theorem dX12_ring_191 : decode cX12_ring 191 = .ok (.invokevirtual 867, 3) := by decide +kernel
theorem dX12_ring_194 : decode cX12_ring 194 = .ok (.ifCond .eq 6, 3) := by decide +kernel
theorem dX12_ring_197 : decode cX12_ring 197 = .ok (.goto 29, 3) := by decide +kernel
theorem dX12_ring_200 : decode cX12_ring 200 = .ok (.aload_n 0, 1) := by decide +kernel
theorem dX12_ring_201 : decode cX12_ring 201 = .ok (.getfield 176, 3) := by decide +kernel
theorem dX12_ring_204 : decode cX12_ring 204 = .ok (.aload_n 0, 1) := by decide +kernel
theorem dX12_ring_205 : decode cX12_ring 205 = .ok (.getfield 864, 3) := by decide +kernel
theorem dX12_ring_208 : decode cX12_ring 208 = .ok (.aload_n 0, 1) := by decide +kernel
theorem dX12_ring_209 : decode cX12_ring 209 = .ok (.getfield 169, 3) := by decide +kernel
theorem dX12_ring_212 : decode cX12_ring 212 = .ok (.iload 7, 2) := by decide +kernel
theorem dX12_ring_214 : decode cX12_ring 214 = .ok (.iaload, 1) := by decide +kernel
theorem dX12_ring_215 : decode cX12_ring 215 = .ok (.iastore, 1) := by decide +kernel
theorem dX12_ring_216 : decode cX12_ring 216 = .ok (.aload_n 0, 1) := by decide +kernel
theorem dX12_ring_217 : decode cX12_ring 217 = .ok (.dup, 1) := by decide +kernel
theorem dX12_ring_218 : decode cX12_ring 218 = .ok (.getfield 864, 3) := by decide +kernel
theorem dX12_ring_221 : decode cX12_ring 221 = .ok (.iconst 1, 1) := by decide +kernel
theorem dX12_ring_222 : decode cX12_ring 222 = .ok (.iadd, 1) := by decide +kernel
theorem dX12_ring_223 : decode cX12_ring 223 = .ok (.putfield 864, 3) := by decide +kernel
theorem dX12_ring_226 : decode cX12_ring 226 = .ok (.iinc 6 1, 3) := by decide +kernel
theorem dX12_ring_229 : decode cX12_ring 229 = .ok (.goto (-160), 3) := by decide +kernel
theorem dX12_ring_232 : decode cX12_ring 232 = .ok (.aload_n 0, 1) := by decide +kernel
theorem dX12_ring_233 : decode cX12_ring 233 = .ok (.getfield 182, 3) := by decide +kernel
theorem dX12_ring_236 : decode cX12_ring 236 = .ok (.aload_n 0, 1) := by decide +kernel
theorem dX12_ring_237 : decode cX12_ring 237 = .ok (.getfield 861, 3) := by decide +kernel
theorem dX12_ring_240 : decode cX12_ring 240 = .ok (.aload_n 0, 1) := by decide +kernel
theorem dX12_ring_241 : decode cX12_ring 241 = .ok (.getfield 864, 3) := by decide +kernel
theorem dX12_ring_244 : decode cX12_ring 244 = .ok (.aload_n 0, 1) := by decide +kernel
theorem dX12_ring_245 : decode cX12_ring 245 = .ok (.getfield 179, 3) := by decide +kernel
theorem dX12_ring_248 : decode cX12_ring 248 = .ok (.aload_n 0, 1) := by decide +kernel
theorem dX12_ring_249 : decode cX12_ring 249 = .ok (.getfield 861, 3) := by decide +kernel
theorem dX12_ring_252 : decode cX12_ring 252 = .ok (.iaload, 1) := by decide +kernel
theorem dX12_ring_253 : decode cX12_ring 253 = .ok (.isub, 1) := by decide +kernel
theorem dX12_ring_254 : decode cX12_ring 254 = .ok (.iastore, 1) := by decide +kernel
theorem dX12_ring_255 : decode cX12_ring 255 = .ok (.aload_n 0, 1) := by decide +kernel
theorem dX12_ring_256 : decode cX12_ring 256 = .ok (.getfield 185, 3) := by decide +kernel
theorem dX12_ring_259 : decode cX12_ring 259 = .ok (.aload_n 0, 1) := by decide +kernel
theorem dX12_ring_260 : decode cX12_ring 260 = .ok (.getfield 861, 3) := by decide +kernel
theorem dX12_ring_263 : decode cX12_ring 263 = .ok (.lload 4, 2) := by decide +kernel
theorem dX12_ring_265 : decode cX12_ring 265 = .ok (.lastore, 1) := by decide +kernel
theorem dX12_ring_266 : decode cX12_ring 266 = .ok (.aload_n 0, 1) := by decide +kernel
theorem dX12_ring_267 : decode cX12_ring 267 = .ok (.dup, 1) := by decide +kernel
theorem dX12_ring_268 : decode cX12_ring 268 = .ok (.getfield 861, 3) := by decide +kernel
theorem dX12_ring_271 : decode cX12_ring 271 = .ok (.iconst 1, 1) := by decide +kernel
theorem dX12_ring_272 : decode cX12_ring 272 = .ok (.iadd, 1) := by decide +kernel
theorem dX12_ring_273 : decode cX12_ring 273 = .ok (.putfield 861, 3) := by decide +kernel
theorem dX12_ring_276 : decode cX12_ring 276 = .ok (.return_, 1) := by decide +kernel
theorem dX12_comes_0 : decode cX12_comes 0 = .ok (.aload_n 0, 1) := by decide +kernel
theorem dX12_comes_1 : decode cX12_comes 1 = .ok (.getfield 172, 3) := by decide +kernel
theorem dX12_comes_4 : decode cX12_comes 4 = .ok (.iload_n 1, 1) := by decide +kernel
theorem dX12_comes_5 : decode cX12_comes 5 = .ok (.iaload, 1) := by decide +kernel
theorem dX12_comes_6 : decode cX12_comes 6 = .ok (.istore_n 2, 1) := by decide +kernel
theorem dX12_comes_7 : decode cX12_comes 7 = .ok (.iload_n 2, 1) := by decide +kernel
theorem dX12_comes_8 : decode cX12_comes 8 = .ok (.iconst (-1), 1) := by decide +kernel
theorem dX12_comes_9 : decode cX12_comes 9 = .ok (.if_icmp .ne 34, 3) := by decide +kernel
theorem dX12_comes_12 : decode cX12_comes 12 = .ok (.aload_n 0, 1) := by decide +kernel
theorem dX12_comes_13 : decode cX12_comes 13 = .ok (.getfield 172, 3) := by decide +kernel
theorem dX12_comes_16 : decode cX12_comes 16 = .ok (.iload_n 1, 1) := by decide +kernel
theorem dX12_comes_17 : decode cX12_comes 17 = .ok (.aload_n 0, 1) := by decide +kernel
theorem dX12_comes_18 : decode cX12_comes 18 = .ok (.getfield 858, 3) := by decide +kernel
theorem dX12_comes_21 : decode cX12_comes 21 = .ok (.iastore, 1) := by decide +kernel
theorem dX12_comes_22 : decode cX12_comes 22 = .ok (.aload_n 0, 1) := by decide +kernel
theorem dX12_comes_23 : decode cX12_comes 23 = .ok (.getfield 169, 3) := by decide +kernel
theorem dX12_comes_26 : decode cX12_comes 26 = .ok (.aload_n 0, 1) := by decide +kernel
theorem dX12_comes_27 : decode cX12_comes 27 = .ok (.getfield 858, 3) := by decide +kernel
theorem dX12_comes_30 : decode cX12_comes 30 = .ok (.iload_n 1, 1) := by decide +kernel
theorem dX12_comes_31 : decode cX12_comes 31 = .ok (.iastore, 1) := by decide +kernel
theorem dX12_comes_32 : decode cX12_comes 32 = .ok (.aload_n 0, 1) := by decide +kernel
theorem dX12_comes_33 : decode cX12_comes 33 = .ok (.dup, 1) := by decide +kernel
theorem dX12_comes_34 : decode cX12_comes 34 = .ok (.getfield 858, 3) := by decide +kernel
theorem dX12_comes_37 : decode cX12_comes 37 = .ok (.iconst 1, 1) := by decide +kernel
theorem dX12_comes_38 : decode cX12_comes 38 = .ok (.iadd, 1) := by decide +kernel
theorem dX12_comes_39 : decode cX12_comes 39 = .ok (.putfield 858, 3) := by decide +kernel
theorem dX12_comes_42 : decode cX12_comes 42 = .ok (.return_, 1) := by decide +kernel
theorem dX12_comes_43 : decode cX12_comes 43 = .ok (.aload_n 0, 1) := by decide +kernel
theorem dX12_comes_44 : decode cX12_comes 44 = .ok (.iload_n 2, 1) := by decide +kernel
theorem dX12_comes_45 : decode cX12_comes 45 = .ok (.invokevirtual 870, 3) := by decide +kernel
theorem dX12_comes_48 : decode cX12_comes 48 = .ok (.aload_n 0, 1) := by decide +kernel
theorem dX12_comes_49 : decode cX12_comes 49 = .ok (.getfield 858, 3) := by decide +kernel
theorem dX12_comes_52 : decode cX12_comes 52 = .ok (.iload_n 2, 1) := by decide +kernel
theorem dX12_comes_53 : decode cX12_comes 53 = .ok (.iconst 1, 1) := by decide +kernel
theorem dX12_comes_54 : decode cX12_comes 54 = .ok (.iadd, 1) := by decide +kernel
theorem dX12_comes_55 : decode cX12_comes 55 = .ok (.if_icmp .le 31, 3) := by decide +kernel
theorem dX12_comes_58 : decode cX12_comes 58 = .ok (.aload_n 0, 1) := by decide +kernel
theorem dX12_comes_59 : decode cX12_comes 59 = .ok (.dup, 1) := by decide +kernel
theorem dX12_comes_60 : decode cX12_comes 60 = .ok (.getfield 858, 3) := by decide +kernel
theorem dX12_comes_63 : decode cX12_comes 63 = .ok (.iconst 1, 1) := by decide +kernel
theorem dX12_comes_64 : decode cX12_comes 64 = .ok (.isub, 1) := by decide +kernel
theorem dX12_comes_65 : decode cX12_comes 65 = .ok (.putfield 858, 3) := by decide +kernel
theorem dX12_comes_68 : decode cX12_comes 68 = .ok (.aload_n 0, 1) := by decide +kernel
theorem dX12_comes_69 : decode cX12_comes 69 = .ok (.getfield 172, 3) := by decide +kernel
theorem dX12_comes_72 : decode cX12_comes 72 = .ok (.aload_n 0, 1) := by decide +kernel
theorem dX12_comes_73 : decode cX12_comes 73 = .ok (.getfield 169, 3) := by decide +kernel
theorem dX12_comes_76 : decode cX12_comes 76 = .ok (.aload_n 0, 1) := by decide +kernel
theorem dX12_comes_77 : decode cX12_comes 77 = .ok (.getfield 858, 3) := by decide +kernel
theorem dX12_comes_80 : decode cX12_comes 80 = .ok (.iaload, 1) := by decide +kernel
theorem dX12_comes_81 : decode cX12_comes 81 = .ok (.iconst (-1), 1) := by decide +kernel
theorem dX12_comes_82 : decode cX12_comes 82 = .ok (.iastore, 1) := by decide +kernel
theorem dX12_comes_83 : decode cX12_comes 83 = .ok (.goto (-35), 3) := by decide +kernel
theorem dX12_comes_86 : decode cX12_comes 86 = .ok (.return_, 1) := by decide +kernel
theorem dX12_goesRound_0 : decode cX12_goesRound 0 = .ok (.aload_n 0, 1) := by decide +kernel
theorem dX12_goesRound_1 : decode cX12_goesRound 1 = .ok (.iconst 0, 1) := by decide +kernel
theorem dX12_goesRound_2 : decode cX12_goesRound 2 = .ok (.putfield 864, 3) := by decide +kernel
theorem dX12_goesRound_5 : decode cX12_goesRound 5 = .ok (.aload_n 0, 1) := by decide +kernel
theorem dX12_goesRound_6 : decode cX12_goesRound 6 = .ok (.iconst 0, 1) := by decide +kernel
theorem dX12_goesRound_7 : decode cX12_goesRound 7 = .ok (.putfield 861, 3) := by decide +kernel
theorem dX12_goesRound_10 : decode cX12_goesRound 10 = .ok (.iconst 0, 1) := by decide +kernel
theorem dX12_goesRound_11 : decode cX12_goesRound 11 = .ok (.istore_n 1, 1) := by decide +kernel
theorem dX12_goesRound_12 : decode cX12_goesRound 12 = .ok (.iload_n 1, 1) := by decide +kernel
theorem dX12_goesRound_13 : decode cX12_goesRound 13 = .ok (.aload_n 0, 1) := by decide +kernel
theorem dX12_goesRound_14 : decode cX12_goesRound 14 = .ok (.getfield 784, 3) := by decide +kernel
theorem dX12_goesRound_17 : decode cX12_goesRound 17 = .ok (.if_icmp .ge 16, 3) := by decide +kernel
theorem dX12_goesRound_20 : decode cX12_goesRound 20 = .ok (.aload_n 0, 1) := by decide +kernel
theorem dX12_goesRound_21 : decode cX12_goesRound 21 = .ok (.getfield 172, 3) := by decide +kernel
theorem dX12_goesRound_24 : decode cX12_goesRound 24 = .ok (.iload_n 1, 1) := by decide +kernel
theorem dX12_goesRound_25 : decode cX12_goesRound 25 = .ok (.iconst (-1), 1) := by decide +kernel
theorem dX12_goesRound_26 : decode cX12_goesRound 26 = .ok (.iastore, 1) := by decide +kernel
theorem dX12_goesRound_27 : decode cX12_goesRound 27 = .ok (.iinc 1 1, 3) := by decide +kernel
theorem dX12_goesRound_30 : decode cX12_goesRound 30 = .ok (.goto (-18), 3) := by decide +kernel
theorem dX12_goesRound_33 : decode cX12_goesRound 33 = .ok (.iconst 0, 1) := by decide +kernel
theorem dX12_goesRound_34 : decode cX12_goesRound 34 = .ok (.istore_n 1, 1) := by decide +kernel
theorem dX12_goesRound_35 : decode cX12_goesRound 35 = .ok (.iload_n 1, 1) := by decide +kernel
theorem dX12_goesRound_36 : decode cX12_goesRound 36 = .ok (.aload_n 0, 1) := by decide +kernel
theorem dX12_goesRound_37 : decode cX12_goesRound 37 = .ok (.getfield 846, 3) := by decide +kernel
theorem dX12_goesRound_40 : decode cX12_goesRound 40 = .ok (.if_icmp .ge 103, 3) := by decide +kernel
theorem dX12_goesRound_43 : decode cX12_goesRound 43 = .ok (.aload_n 0, 1) := by decide +kernel
theorem dX12_goesRound_44 : decode cX12_goesRound 44 = .ok (.getfield 166, 3) := by decide +kernel
theorem dX12_goesRound_47 : decode cX12_goesRound 47 = .ok (.iload_n 1, 1) := by decide +kernel
theorem dX12_goesRound_48 : decode cX12_goesRound 48 = .ok (.baload, 1) := by decide +kernel
theorem dX12_goesRound_49 : decode cX12_goesRound 49 = .ok (.ifCond .eq 6, 3) := by decide +kernel
theorem dX12_goesRound_52 : decode cX12_goesRound 52 = .ok (.goto 85, 3) := by decide +kernel
theorem dX12_goesRound_55 : decode cX12_goesRound 55 = .ok (.aload_n 0, 1) := by decide +kernel
theorem dX12_goesRound_56 : decode cX12_goesRound 56 = .ok (.iconst 0, 1) := by decide +kernel
theorem dX12_goesRound_57 : decode cX12_goesRound 57 = .ok (.putfield 858, 3) := by decide +kernel
theorem dX12_goesRound_60 : decode cX12_goesRound 60 = .ok (.aload_n 0, 1) := by decide +kernel
theorem dX12_goesRound_61 : decode cX12_goesRound 61 = .ok (.aload_n 0, 1) := by decide +kernel
theorem dX12_goesRound_62 : decode cX12_goesRound 62 = .ok (.getfield 160, 3) := by decide +kernel
theorem dX12_goesRound_65 : decode cX12_goesRound 65 = .ok (.iload_n 1, 1) := by decide +kernel
theorem dX12_goesRound_66 : decode cX12_goesRound 66 = .ok (.iaload, 1) := by decide +kernel
theorem dX12_goesRound_67 : decode cX12_goesRound 67 = .ok (.invokevirtual 873, 3) := by decide +kernel
theorem dX12_goesRound_70 : decode cX12_goesRound 70 = .ok (.iload_n 1, 1) := by decide +kernel
theorem dX12_goesRound_71 : decode cX12_goesRound 71 = .ok (.istore_n 2, 1) := by decide +kernel
theorem dX12_goesRound_72 : decode cX12_goesRound 72 = .ok (.aload_n 0, 1) := by decide +kernel
theorem dX12_goesRound_73 : decode cX12_goesRound 73 = .ok (.getfield 166, 3) := by decide +kernel
theorem dX12_goesRound_76 : decode cX12_goesRound 76 = .ok (.iload_n 2, 1) := by decide +kernel
theorem dX12_goesRound_77 : decode cX12_goesRound 77 = .ok (.iconst 1, 1) := by decide +kernel
theorem dX12_goesRound_78 : decode cX12_goesRound 78 = .ok (.bastore, 1) := by decide +kernel
theorem dX12_goesRound_79 : decode cX12_goesRound 79 = .ok (.aload_n 0, 1) := by decide +kernel
theorem dX12_goesRound_80 : decode cX12_goesRound 80 = .ok (.aload_n 0, 1) := by decide +kernel
theorem dX12_goesRound_81 : decode cX12_goesRound 81 = .ok (.getfield 163, 3) := by decide +kernel
theorem dX12_goesRound_84 : decode cX12_goesRound 84 = .ok (.iload_n 2, 1) := by decide +kernel
theorem dX12_goesRound_85 : decode cX12_goesRound 85 = .ok (.iaload, 1) := by decide +kernel
theorem dX12_goesRound_86 : decode cX12_goesRound 86 = .ok (.invokevirtual 873, 3) := by decide +kernel
theorem dX12_goesRound_89 : decode cX12_goesRound 89 = .ok (.aload_n 0, 1) := by decide +kernel
theorem dX12_goesRound_90 : decode cX12_goesRound 90 = .ok (.iload_n 2, 1) := by decide +kernel
theorem dX12_goesRound_91 : decode cX12_goesRound 91 = .ok (.invokevirtual 876, 3) := by decide +kernel
theorem dX12_goesRound_94 : decode cX12_goesRound 94 = .ok (.istore_n 2, 1) := by decide +kernel
theorem dX12_goesRound_95 : decode cX12_goesRound 95 = .ok (.iload_n 2, 1) := by decide +kernel
theorem dX12_goesRound_96 : decode cX12_goesRound 96 = .ok (.iload_n 1, 1) := by decide +kernel
theorem dX12_goesRound_97 : decode cX12_goesRound 97 = .ok (.if_icmp .eq 12, 3) := by decide +kernel
theorem dX12_goesRound_100 : decode cX12_goesRound 100 = .ok (.aload_n 0, 1) := by decide +kernel
theorem dX12_goesRound_101 : decode cX12_goesRound 101 = .ok (.getfield 166, 3) := by decide +kernel
theorem dX12_goesRound_104 : decode cX12_goesRound 104 = .ok (.iload_n 2, 1) := by decide +kernel
theorem dX12_goesRound_105 : decode cX12_goesRound 105 = .ok (.baload, 1) := by decide +kernel
theorem dX12_goesRound_106 : decode cX12_goesRound 106 = .ok (.ifCond .eq (-34), 3) := by decide +kernel
theorem dX12_goesRound_109 : decode cX12_goesRound 109 = .ok (.iconst 0, 1) := by decide +kernel
theorem dX12_goesRound_110 : decode cX12_goesRound 110 = .ok (.istore_n 3, 1) := by decide +kernel
theorem dX12_goesRound_111 : decode cX12_goesRound 111 = .ok (.iload_n 3, 1) := by decide +kernel
theorem dX12_goesRound_112 : decode cX12_goesRound 112 = .ok (.aload_n 0, 1) := by decide +kernel
theorem dX12_goesRound_113 : decode cX12_goesRound 113 = .ok (.getfield 858, 3) := by decide +kernel
theorem dX12_goesRound_116 : decode cX12_goesRound 116 = .ok (.if_icmp .ge 21, 3) := by decide +kernel
theorem dX12_goesRound_119 : decode cX12_goesRound 119 = .ok (.aload_n 0, 1) := by decide +kernel
theorem dX12_goesRound_120 : decode cX12_goesRound 120 = .ok (.getfield 172, 3) := by decide +kernel
theorem dX12_goesRound_123 : decode cX12_goesRound 123 = .ok (.aload_n 0, 1) := by decide +kernel
theorem dX12_goesRound_124 : decode cX12_goesRound 124 = .ok (.getfield 169, 3) := by decide +kernel
theorem dX12_goesRound_127 : decode cX12_goesRound 127 = .ok (.iload_n 3, 1) := by decide +kernel
theorem dX12_goesRound_128 : decode cX12_goesRound 128 = .ok (.iaload, 1) := by decide +kernel
theorem dX12_goesRound_129 : decode cX12_goesRound 129 = .ok (.iconst (-1), 1) := by decide +kernel
theorem dX12_goesRound_130 : decode cX12_goesRound 130 = .ok (.iastore, 1) := by decide +kernel
theorem dX12_goesRound_131 : decode cX12_goesRound 131 = .ok (.iinc 3 1, 3) := by decide +kernel
theorem dX12_goesRound_134 : decode cX12_goesRound 134 = .ok (.goto (-23), 3) := by decide +kernel
theorem dX12_goesRound_137 : decode cX12_goesRound 137 = .ok (.iinc 1 1, 3) := by decide +kernel
theorem dX12_goesRound_140 : decode cX12_goesRound 140 = .ok (.goto (-105), 3) := by decide +kernel
theorem dX12_goesRound_143 : decode cX12_goesRound 143 = .ok (.return_, 1) := by decide +kernel
theorem dX12_whereIn_0 : decode cX12_whereIn 0 = .ok (.aload_n 0, 1) := by decide +kernel
theorem dX12_whereIn_1 : decode cX12_whereIn 1 = .ok (.getfield 132, 3) := by decide +kernel
theorem dX12_whereIn_4 : decode cX12_whereIn 4 = .ok (.iload_n 2, 1) := by decide +kernel
theorem dX12_whereIn_5 : decode cX12_whereIn 5 = .ok (.laload, 1) := by decide +kernel
theorem dX12_whereIn_6 : decode cX12_whereIn 6 = .ok (.lstore_n 3, 1) := by decide +kernel
theorem dX12_whereIn_7 : decode cX12_whereIn 7 = .ok (.aload_n 0, 1) := by decide +kernel
theorem dX12_whereIn_8 : decode cX12_whereIn 8 = .ok (.getfield 135, 3) := by decide +kernel
theorem dX12_whereIn_11 : decode cX12_whereIn 11 = .ok (.iload_n 2, 1) := by decide +kernel
theorem dX12_whereIn_12 : decode cX12_whereIn 12 = .ok (.laload, 1) := by decide +kernel
theorem dX12_whereIn_13 : decode cX12_whereIn 13 = .ok (.lstore 5, 2) := by decide +kernel
theorem dX12_whereIn_15 : decode cX12_whereIn 15 = .ok (.iconst 0, 1) := by decide +kernel
theorem dX12_whereIn_16 : decode cX12_whereIn 16 = .ok (.istore 7, 2) := by decide +kernel
theorem dX12_whereIn_18 : decode cX12_whereIn 18 = .ok (.iconst 0, 1) := by decide +kernel
theorem dX12_whereIn_19 : decode cX12_whereIn 19 = .ok (.istore 8, 2) := by decide +kernel
theorem dX12_whereIn_21 : decode cX12_whereIn 21 = .ok (.iload 8, 2) := by decide +kernel
theorem dX12_whereIn_23 : decode cX12_whereIn 23 = .ok (.aload_n 0, 1) := by decide +kernel
theorem dX12_whereIn_24 : decode cX12_whereIn 24 = .ok (.getfield 182, 3) := by decide +kernel
theorem dX12_whereIn_27 : decode cX12_whereIn 27 = .ok (.iload_n 1, 1) := by decide +kernel
theorem dX12_whereIn_28 : decode cX12_whereIn 28 = .ok (.iaload, 1) := by decide +kernel
theorem dX12_whereIn_29 : decode cX12_whereIn 29 = .ok (.if_icmp .ge 293, 3) := by decide +kernel
theorem dX12_whereIn_32 : decode cX12_whereIn 32 = .ok (.aload_n 0, 1) := by decide +kernel
theorem dX12_whereIn_33 : decode cX12_whereIn 33 = .ok (.getfield 176, 3) := by decide +kernel
theorem dX12_whereIn_36 : decode cX12_whereIn 36 = .ok (.aload_n 0, 1) := by decide +kernel
theorem dX12_whereIn_37 : decode cX12_whereIn 37 = .ok (.getfield 179, 3) := by decide +kernel
theorem dX12_whereIn_40 : decode cX12_whereIn 40 = .ok (.iload_n 1, 1) := by decide +kernel
theorem dX12_whereIn_41 : decode cX12_whereIn 41 = .ok (.iaload, 1) := by decide +kernel
theorem dX12_whereIn_42 : decode cX12_whereIn 42 = .ok (.iload 8, 2) := by decide +kernel
theorem dX12_whereIn_44 : decode cX12_whereIn 44 = .ok (.iadd, 1) := by decide +kernel
theorem dX12_whereIn_45 : decode cX12_whereIn 45 = .ok (.iaload, 1) := by decide +kernel
theorem dX12_whereIn_46 : decode cX12_whereIn 46 = .ok (.istore 9, 2) := by decide +kernel
theorem dX12_whereIn_48 : decode cX12_whereIn 48 = .ok (.aload_n 0, 1) := by decide +kernel
theorem dX12_whereIn_49 : decode cX12_whereIn 49 = .ok (.getfield 176, 3) := by decide +kernel
theorem dX12_whereIn_52 : decode cX12_whereIn 52 = .ok (.aload_n 0, 1) := by decide +kernel
theorem dX12_whereIn_53 : decode cX12_whereIn 53 = .ok (.getfield 179, 3) := by decide +kernel
theorem dX12_whereIn_56 : decode cX12_whereIn 56 = .ok (.iload_n 1, 1) := by decide +kernel
theorem dX12_whereIn_57 : decode cX12_whereIn 57 = .ok (.iaload, 1) := by decide +kernel
theorem dX12_whereIn_58 : decode cX12_whereIn 58 = .ok (.iload 8, 2) := by decide +kernel
theorem dX12_whereIn_60 : decode cX12_whereIn 60 = .ok (.iconst 1, 1) := by decide +kernel
theorem dX12_whereIn_61 : decode cX12_whereIn 61 = .ok (.iadd, 1) := by decide +kernel
theorem dX12_whereIn_62 : decode cX12_whereIn 62 = .ok (.aload_n 0, 1) := by decide +kernel
theorem dX12_whereIn_63 : decode cX12_whereIn 63 = .ok (.getfield 182, 3) := by decide +kernel
theorem dX12_whereIn_66 : decode cX12_whereIn 66 = .ok (.iload_n 1, 1) := by decide +kernel
theorem dX12_whereIn_67 : decode cX12_whereIn 67 = .ok (.iaload, 1) := by decide +kernel
theorem dX12_whereIn_68 : decode cX12_whereIn 68 = .ok (.irem, 1) := by decide +kernel
theorem dX12_whereIn_69 : decode cX12_whereIn 69 = .ok (.iadd, 1) := by decide +kernel
theorem dX12_whereIn_70 : decode cX12_whereIn 70 = .ok (.iaload, 1) := by decide +kernel
theorem dX12_whereIn_71 : decode cX12_whereIn 71 = .ok (.istore 10, 2) := by decide +kernel
theorem dX12_whereIn_73 : decode cX12_whereIn 73 = .ok (.aload_n 0, 1) := by decide +kernel
theorem dX12_whereIn_74 : decode cX12_whereIn 74 = .ok (.getfield 135, 3) := by decide +kernel
theorem dX12_whereIn_77 : decode cX12_whereIn 77 = .ok (.iload 9, 2) := by decide +kernel
theorem dX12_whereIn_79 : decode cX12_whereIn 79 = .ok (.laload, 1) := by decide +kernel
theorem dX12_whereIn_80 : decode cX12_whereIn 80 = .ok (.aload_n 0, 1) := by decide +kernel
theorem dX12_whereIn_81 : decode cX12_whereIn 81 = .ok (.getfield 135, 3) := by decide +kernel
theorem dX12_whereIn_84 : decode cX12_whereIn 84 = .ok (.iload 10, 2) := by decide +kernel
theorem dX12_whereIn_86 : decode cX12_whereIn 86 = .ok (.laload, 1) := by decide +kernel
theorem dX12_whereIn_87 : decode cX12_whereIn 87 = .ok (.lcmp, 1) := by decide +kernel
theorem dX12_whereIn_88 : decode cX12_whereIn 88 = .ok (.ifCond .lt 28, 3) := by decide +kernel
theorem dX12_whereIn_91 : decode cX12_whereIn 91 = .ok (.aload_n 0, 1) := by decide +kernel
theorem dX12_whereIn_92 : decode cX12_whereIn 92 = .ok (.getfield 135, 3) := by decide +kernel
theorem dX12_whereIn_95 : decode cX12_whereIn 95 = .ok (.iload 9, 2) := by decide +kernel
theorem dX12_whereIn_97 : decode cX12_whereIn 97 = .ok (.laload, 1) := by decide +kernel
theorem dX12_whereIn_98 : decode cX12_whereIn 98 = .ok (.aload_n 0, 1) := by decide +kernel
theorem dX12_whereIn_99 : decode cX12_whereIn 99 = .ok (.getfield 135, 3) := by decide +kernel
theorem dX12_whereIn_102 : decode cX12_whereIn 102 = .ok (.iload 10, 2) := by decide +kernel
theorem dX12_whereIn_104 : decode cX12_whereIn 104 = .ok (.laload, 1) := by decide +kernel
theorem dX12_whereIn_105 : decode cX12_whereIn 105 = .ok (.lcmp, 1) := by decide +kernel
theorem dX12_whereIn_106 : decode cX12_whereIn 106 = .ok (.ifCond .ne 15, 3) := by decide +kernel
theorem dX12_whereIn_109 : decode cX12_whereIn 109 = .ok (.iload 9, 2) := by decide +kernel
theorem dX12_whereIn_111 : decode cX12_whereIn 111 = .ok (.iload 10, 2) := by decide +kernel
theorem dX12_whereIn_113 : decode cX12_whereIn 113 = .ok (.if_icmp .ge 8, 3) := by decide +kernel
theorem dX12_whereIn_116 : decode cX12_whereIn 116 = .ok (.iload 9, 2) := by decide +kernel
theorem dX12_whereIn_118 : decode cX12_whereIn 118 = .ok (.goto 5, 3) := by decide +kernel
theorem dX12_whereIn_121 : decode cX12_whereIn 121 = .ok (.iload 10, 2) := by decide +kernel
theorem dX12_whereIn_123 : decode cX12_whereIn 123 = .ok (.istore 11, 2) := by decide +kernel
theorem dX12_whereIn_125 : decode cX12_whereIn 125 = .ok (.iload 11, 2) := by decide +kernel
theorem dX12_whereIn_127 : decode cX12_whereIn 127 = .ok (.iload 9, 2) := by decide +kernel
theorem dX12_whereIn_129 : decode cX12_whereIn 129 = .ok (.if_icmp .ne 8, 3) := by decide +kernel
theorem dX12_whereIn_132 : decode cX12_whereIn 132 = .ok (.iload 10, 2) := by decide +kernel
theorem dX12_whereIn_134 : decode cX12_whereIn 134 = .ok (.goto 5, 3) := by decide +kernel
theorem dX12_whereIn_137 : decode cX12_whereIn 137 = .ok (.iload 9, 2) := by decide +kernel
theorem dX12_whereIn_139 : decode cX12_whereIn 139 = .ok (.istore 12, 2) := by decide +kernel
theorem dX12_whereIn_141 : decode cX12_whereIn 141 = .ok (.aload_n 0, 1) := by decide +kernel
theorem dX12_whereIn_142 : decode cX12_whereIn 142 = .ok (.getfield 132, 3) := by decide +kernel
theorem dX12_whereIn_145 : decode cX12_whereIn 145 = .ok (.iload 11, 2) := by decide +kernel
theorem dX12_whereIn_147 : decode cX12_whereIn 147 = .ok (.laload, 1) := by decide +kernel
theorem dX12_whereIn_148 : decode cX12_whereIn 148 = .ok (.aload_n 0, 1) := by decide +kernel
theorem dX12_whereIn_149 : decode cX12_whereIn 149 = .ok (.getfield 135, 3) := by decide +kernel
theorem dX12_whereIn_152 : decode cX12_whereIn 152 = .ok (.iload 11, 2) := by decide +kernel
theorem dX12_whereIn_154 : decode cX12_whereIn 154 = .ok (.laload, 1) := by decide +kernel
theorem dX12_whereIn_155 : decode cX12_whereIn 155 = .ok (.aload_n 0, 1) := by decide +kernel
theorem dX12_whereIn_156 : decode cX12_whereIn 156 = .ok (.getfield 132, 3) := by decide +kernel
theorem dX12_whereIn_159 : decode cX12_whereIn 159 = .ok (.iload 12, 2) := by decide +kernel
theorem dX12_whereIn_161 : decode cX12_whereIn 161 = .ok (.laload, 1) := by decide +kernel
theorem dX12_whereIn_162 : decode cX12_whereIn 162 = .ok (.aload_n 0, 1) := by decide +kernel
theorem dX12_whereIn_163 : decode cX12_whereIn 163 = .ok (.getfield 135, 3) := by decide +kernel
theorem dX12_whereIn_166 : decode cX12_whereIn 166 = .ok (.iload 12, 2) := by decide +kernel
theorem dX12_whereIn_168 : decode cX12_whereIn 168 = .ok (.laload, 1) := by decide +kernel
theorem dX12_whereIn_169 : decode cX12_whereIn 169 = .ok (.lload_n 3, 1) := by decide +kernel
theorem dX12_whereIn_170 : decode cX12_whereIn 170 = .ok (.lload 5, 2) := by decide +kernel
theorem dX12_whereIn_172 : decode cX12_whereIn 172 = .ok (.invokestatic 664, 3) := by decide +kernel
theorem dX12_whereIn_175 : decode cX12_whereIn 175 = .ok (.istore 13, 2) := by decide +kernel
theorem dX12_whereIn_177 : decode cX12_whereIn 177 = .ok (.aload_n 0, 1) := by decide +kernel
theorem dX12_whereIn_178 : decode cX12_whereIn 178 = .ok (.getfield 135, 3) := by decide +kernel
theorem dX12_whereIn_181 : decode cX12_whereIn 181 = .ok (.iload 11, 2) := by decide +kernel
theorem dX12_whereIn_183 : decode cX12_whereIn 183 = .ok (.laload, 1) := by decide +kernel
theorem dX12_whereIn_184 : decode cX12_whereIn 184 = .ok (.aload_n 0, 1) := by decide +kernel
theorem dX12_whereIn_185 : decode cX12_whereIn 185 = .ok (.getfield 135, 3) := by decide +kernel
theorem dX12_whereIn_188 : decode cX12_whereIn 188 = .ok (.iload 12, 2) := by decide +kernel
theorem dX12_whereIn_190 : decode cX12_whereIn 190 = .ok (.laload, 1) := by decide +kernel
theorem dX12_whereIn_191 : decode cX12_whereIn 191 = .ok (.lcmp, 1) := by decide +kernel
theorem dX12_whereIn_192 : decode cX12_whereIn 192 = .ok (.ifCond .ne 7, 3) := by decide +kernel
theorem dX12_whereIn_195 : decode cX12_whereIn 195 = .ok (.iconst 1, 1) := by decide +kernel
theorem dX12_whereIn_196 : decode cX12_whereIn 196 = .ok (.goto 4, 3) := by decide +kernel
theorem dX12_whereIn_199 : decode cX12_whereIn 199 = .ok (.iconst 0, 1) := by decide +kernel
theorem dX12_whereIn_200 : decode cX12_whereIn 200 = .ok (.istore 14, 2) := by decide +kernel
theorem dX12_whereIn_202 : decode cX12_whereIn 202 = .ok (.iload 13, 2) := by decide +kernel
theorem dX12_whereIn_204 : decode cX12_whereIn 204 = .ok (.ifCond .ne 69, 3) := by decide +kernel
theorem dX12_whereIn_207 : decode cX12_whereIn 207 = .ok (.iload 14, 2) := by decide +kernel
theorem dX12_whereIn_209 : decode cX12_whereIn 209 = .ok (.ifCond .eq 40, 3) := by decide +kernel
theorem dX12_whereIn_212 : decode cX12_whereIn 212 = .ok (.lload 5, 2) := by decide +kernel
theorem dX12_whereIn_214 : decode cX12_whereIn 214 = .ok (.aload_n 0, 1) := by decide +kernel
theorem dX12_whereIn_215 : decode cX12_whereIn 215 = .ok (.getfield 135, 3) := by decide +kernel
theorem dX12_whereIn_218 : decode cX12_whereIn 218 = .ok (.iload 11, 2) := by decide +kernel
theorem dX12_whereIn_220 : decode cX12_whereIn 220 = .ok (.laload, 1) := by decide +kernel
theorem dX12_whereIn_221 : decode cX12_whereIn 221 = .ok (.lcmp, 1) := by decide +kernel
theorem dX12_whereIn_222 : decode cX12_whereIn 222 = .ok (.ifCond .ne 51, 3) := by decide +kernel
theorem dX12_whereIn_225 : decode cX12_whereIn 225 = .ok (.lload_n 3, 1) := by decide +kernel
theorem dX12_whereIn_226 : decode cX12_whereIn 226 = .ok (.aload_n 0, 1) := by decide +kernel
theorem dX12_whereIn_227 : decode cX12_whereIn 227 = .ok (.getfield 132, 3) := by decide +kernel
theorem dX12_whereIn_230 : decode cX12_whereIn 230 = .ok (.iload 11, 2) := by decide +kernel
theorem dX12_whereIn_232 : decode cX12_whereIn 232 = .ok (.laload, 1) := by decide +kernel
theorem dX12_whereIn_233 : decode cX12_whereIn 233 = .ok (.aload_n 0, 1) := by decide +kernel
theorem dX12_whereIn_234 : decode cX12_whereIn 234 = .ok (.getfield 132, 3) := by decide +kernel
theorem dX12_whereIn_237 : decode cX12_whereIn 237 = .ok (.iload 12, 2) := by decide +kernel
theorem dX12_whereIn_239 : decode cX12_whereIn 239 = .ok (.laload, 1) := by decide +kernel
theorem dX12_whereIn_240 : decode cX12_whereIn 240 = .ok (.invokestatic 287, 3) := by decide +kernel
theorem dX12_whereIn_243 : decode cX12_whereIn 243 = .ok (.ifCond .eq 30, 3) := by decide +kernel
theorem dX12_whereIn_246 : decode cX12_whereIn 246 = .ok (.goto 25, 3) := by decide +kernel
theorem dX12_whereIn_249 : decode cX12_whereIn 249 = .ok (.lload 5, 2) := by decide +kernel
theorem dX12_whereIn_251 : decode cX12_whereIn 251 = .ok (.aload_n 0, 1) := by decide +kernel
theorem dX12_whereIn_252 : decode cX12_whereIn 252 = .ok (.getfield 135, 3) := by decide +kernel
theorem dX12_whereIn_255 : decode cX12_whereIn 255 = .ok (.iload 11, 2) := by decide +kernel
theorem dX12_whereIn_257 : decode cX12_whereIn 257 = .ok (.laload, 1) := by decide +kernel
theorem dX12_whereIn_258 : decode cX12_whereIn 258 = .ok (.aload_n 0, 1) := by decide +kernel
theorem dX12_whereIn_259 : decode cX12_whereIn 259 = .ok (.getfield 135, 3) := by decide +kernel
theorem dX12_whereIn_262 : decode cX12_whereIn 262 = .ok (.iload 12, 2) := by decide +kernel
theorem dX12_whereIn_264 : decode cX12_whereIn 264 = .ok (.laload, 1) := by decide +kernel
theorem dX12_whereIn_265 : decode cX12_whereIn 265 = .ok (.invokestatic 287, 3) := by decide +kernel
theorem dX12_whereIn_268 : decode cX12_whereIn 268 = .ok (.ifCond .eq 5, 3) := by decide +kernel
theorem dX12_whereIn_271 : decode cX12_whereIn 271 = .ok (.iconst 0, 1) := by decide +kernel
theorem dX12_whereIn_272 : decode cX12_whereIn 272 = .ok (.ireturn, 1) := by decide +kernel
theorem dX12_whereIn_273 : decode cX12_whereIn 273 = .ok (.iload 13, 2) := by decide +kernel
theorem dX12_whereIn_275 : decode cX12_whereIn 275 = .ok (.ifCond .le 41, 3) := by decide +kernel
theorem dX12_whereIn_278 : decode cX12_whereIn 278 = .ok (.aload_n 0, 1) := by decide +kernel
theorem dX12_whereIn_279 : decode cX12_whereIn 279 = .ok (.getfield 135, 3) := by decide +kernel
theorem dX12_whereIn_282 : decode cX12_whereIn 282 = .ok (.iload 11, 2) := by decide +kernel
theorem dX12_whereIn_284 : decode cX12_whereIn 284 = .ok (.laload, 1) := by decide +kernel
theorem dX12_whereIn_285 : decode cX12_whereIn 285 = .ok (.lload 5, 2) := by decide +kernel
theorem dX12_whereIn_287 : decode cX12_whereIn 287 = .ok (.lcmp, 1) := by decide +kernel
theorem dX12_whereIn_288 : decode cX12_whereIn 288 = .ok (.ifCond .gt 28, 3) := by decide +kernel
theorem dX12_whereIn_291 : decode cX12_whereIn 291 = .ok (.lload 5, 2) := by decide +kernel
theorem dX12_whereIn_293 : decode cX12_whereIn 293 = .ok (.aload_n 0, 1) := by decide +kernel
theorem dX12_whereIn_294 : decode cX12_whereIn 294 = .ok (.getfield 135, 3) := by decide +kernel
theorem dX12_whereIn_297 : decode cX12_whereIn 297 = .ok (.iload 12, 2) := by decide +kernel
theorem dX12_whereIn_299 : decode cX12_whereIn 299 = .ok (.laload, 1) := by decide +kernel
theorem dX12_whereIn_300 : decode cX12_whereIn 300 = .ok (.lcmp, 1) := by decide +kernel
theorem dX12_whereIn_301 : decode cX12_whereIn 301 = .ok (.ifCond .ge 15, 3) := by decide +kernel
theorem dX12_whereIn_304 : decode cX12_whereIn 304 = .ok (.iload 7, 2) := by decide +kernel
theorem dX12_whereIn_306 : decode cX12_whereIn 306 = .ok (.ifCond .ne 7, 3) := by decide +kernel
theorem dX12_whereIn_309 : decode cX12_whereIn 309 = .ok (.iconst 1, 1) := by decide +kernel
theorem dX12_whereIn_310 : decode cX12_whereIn 310 = .ok (.goto 4, 3) := by decide +kernel
theorem dX12_whereIn_313 : decode cX12_whereIn 313 = .ok (.iconst 0, 1) := by decide +kernel
theorem dX12_whereIn_314 : decode cX12_whereIn 314 = .ok (.istore 7, 2) := by decide +kernel
theorem dX12_whereIn_316 : decode cX12_whereIn 316 = .ok (.iinc 8 1, 3) := by decide +kernel
theorem dX12_whereIn_319 : decode cX12_whereIn 319 = .ok (.goto (-298), 3) := by decide +kernel
theorem dX12_whereIn_322 : decode cX12_whereIn 322 = .ok (.iload 7, 2) := by decide +kernel
theorem dX12_whereIn_324 : decode cX12_whereIn 324 = .ok (.ifCond .eq 7, 3) := by decide +kernel
theorem dX12_whereIn_327 : decode cX12_whereIn 327 = .ok (.iconst 1, 1) := by decide +kernel
theorem dX12_whereIn_328 : decode cX12_whereIn 328 = .ok (.goto 4, 3) := by decide +kernel
theorem dX12_whereIn_331 : decode cX12_whereIn 331 = .ok (.iconst 2, 1) := by decide +kernel
theorem dX12_whereIn_332 : decode cX12_whereIn 332 = .ok (.ireturn, 1) := by decide +kernel
theorem dX12_holds_0 : decode cX12_holds 0 = .ok (.iconst 0, 1) := by decide +kernel
theorem dX12_holds_1 : decode cX12_holds 1 = .ok (.istore_n 3, 1) := by decide +kernel
theorem dX12_holds_2 : decode cX12_holds 2 = .ok (.iload_n 3, 1) := by decide +kernel
theorem dX12_holds_3 : decode cX12_holds 3 = .ok (.aload_n 0, 1) := by decide +kernel
theorem dX12_holds_4 : decode cX12_holds 4 = .ok (.getfield 182, 3) := by decide +kernel
theorem dX12_holds_7 : decode cX12_holds 7 = .ok (.iload_n 2, 1) := by decide +kernel
theorem dX12_holds_8 : decode cX12_holds 8 = .ok (.iaload, 1) := by decide +kernel
theorem dX12_holds_9 : decode cX12_holds 9 = .ok (.if_icmp .ge 46, 3) := by decide +kernel
theorem dX12_holds_12 : decode cX12_holds 12 = .ok (.aload_n 0, 1) := by decide +kernel
theorem dX12_holds_13 : decode cX12_holds 13 = .ok (.iload_n 1, 1) := by decide +kernel
theorem dX12_holds_14 : decode cX12_holds 14 = .ok (.aload_n 0, 1) := by decide +kernel
theorem dX12_holds_15 : decode cX12_holds 15 = .ok (.getfield 176, 3) := by decide +kernel
theorem dX12_holds_18 : decode cX12_holds 18 = .ok (.aload_n 0, 1) := by decide +kernel
theorem dX12_holds_19 : decode cX12_holds 19 = .ok (.getfield 179, 3) := by decide +kernel
theorem dX12_holds_22 : decode cX12_holds 22 = .ok (.iload_n 2, 1) := by decide +kernel
theorem dX12_holds_23 : decode cX12_holds 23 = .ok (.iaload, 1) := by decide +kernel
theorem dX12_holds_24 : decode cX12_holds 24 = .ok (.iload_n 3, 1) := by decide +kernel
theorem dX12_holds_25 : decode cX12_holds 25 = .ok (.iadd, 1) := by decide +kernel
theorem dX12_holds_26 : decode cX12_holds 26 = .ok (.iaload, 1) := by decide +kernel
theorem dX12_holds_27 : decode cX12_holds 27 = .ok (.invokevirtual 879, 3) := by decide +kernel
theorem dX12_holds_30 : decode cX12_holds 30 = .ok (.istore 4, 2) := by decide +kernel
theorem dX12_holds_32 : decode cX12_holds 32 = .ok (.iload 4, 2) := by decide +kernel
theorem dX12_holds_34 : decode cX12_holds 34 = .ok (.ifCond .le 15, 3) := by decide +kernel
theorem dX12_holds_37 : decode cX12_holds 37 = .ok (.iload 4, 2) := by decide +kernel
theorem dX12_holds_39 : decode cX12_holds 39 = .ok (.iconst 1, 1) := by decide +kernel
theorem dX12_holds_40 : decode cX12_holds 40 = .ok (.if_icmp .ne 7, 3) := by decide +kernel
theorem dX12_holds_43 : decode cX12_holds 43 = .ok (.iconst 1, 1) := by decide +kernel
theorem dX12_holds_44 : decode cX12_holds 44 = .ok (.goto 4, 3) := by decide +kernel
theorem dX12_holds_47 : decode cX12_holds 47 = .ok (.iconst 0, 1) := by decide +kernel
theorem dX12_holds_48 : decode cX12_holds 48 = .ok (.ireturn, 1) := by decide +kernel
theorem dX12_holds_49 : decode cX12_holds 49 = .ok (.iinc 3 1, 3) := by decide +kernel
theorem dX12_holds_52 : decode cX12_holds 52 = .ok (.goto (-50), 3) := by decide +kernel
theorem dX12_holds_55 : decode cX12_holds 55 = .ok (.iconst 0, 1) := by decide +kernel
theorem dX12_holds_56 : decode cX12_holds 56 = .ok (.ireturn, 1) := by decide +kernel
theorem dX12_giveHoles_0 : decode cX12_giveHoles 0 = .ok (.iconst 0, 1) := by decide +kernel
theorem dX12_giveHoles_1 : decode cX12_giveHoles 1 = .ok (.istore_n 1, 1) := by decide +kernel
theorem dX12_giveHoles_2 : decode cX12_giveHoles 2 = .ok (.iload_n 1, 1) := by decide +kernel
theorem dX12_giveHoles_3 : decode cX12_giveHoles 3 = .ok (.aload_n 0, 1) := by decide +kernel
theorem dX12_giveHoles_4 : decode cX12_giveHoles 4 = .ok (.getfield 861, 3) := by decide +kernel
theorem dX12_giveHoles_7 : decode cX12_giveHoles 7 = .ok (.if_icmp .ge 110, 3) := by decide +kernel
theorem dX12_giveHoles_10 : decode cX12_giveHoles 10 = .ok (.aload_n 0, 1) := by decide +kernel
theorem dX12_giveHoles_11 : decode cX12_giveHoles 11 = .ok (.getfield 188, 3) := by decide +kernel
theorem dX12_giveHoles_14 : decode cX12_giveHoles 14 = .ok (.iload_n 1, 1) := by decide +kernel
theorem dX12_giveHoles_15 : decode cX12_giveHoles 15 = .ok (.iconst (-1), 1) := by decide +kernel
theorem dX12_giveHoles_16 : decode cX12_giveHoles 16 = .ok (.iastore, 1) := by decide +kernel
theorem dX12_giveHoles_17 : decode cX12_giveHoles 17 = .ok (.iconst 0, 1) := by decide +kernel
theorem dX12_giveHoles_18 : decode cX12_giveHoles 18 = .ok (.istore_n 2, 1) := by decide +kernel
theorem dX12_giveHoles_19 : decode cX12_giveHoles 19 = .ok (.iload_n 2, 1) := by decide +kernel
theorem dX12_giveHoles_20 : decode cX12_giveHoles 20 = .ok (.aload_n 0, 1) := by decide +kernel
theorem dX12_giveHoles_21 : decode cX12_giveHoles 21 = .ok (.getfield 861, 3) := by decide +kernel
theorem dX12_giveHoles_24 : decode cX12_giveHoles 24 = .ok (.if_icmp .ge 87, 3) := by decide +kernel
theorem dX12_giveHoles_27 : decode cX12_giveHoles 27 = .ok (.aload_n 0, 1) := by decide +kernel
theorem dX12_giveHoles_28 : decode cX12_giveHoles 28 = .ok (.getfield 185, 3) := by decide +kernel
theorem dX12_giveHoles_31 : decode cX12_giveHoles 31 = .ok (.iload_n 1, 1) := by decide +kernel
theorem dX12_giveHoles_32 : decode cX12_giveHoles 32 = .ok (.laload, 1) := by decide +kernel
theorem dX12_giveHoles_33 : decode cX12_giveHoles 33 = .ok (.lconst 0, 1) := by decide +kernel
theorem dX12_giveHoles_34 : decode cX12_giveHoles 34 = .ok (.lcmp, 1) := by decide +kernel
theorem dX12_giveHoles_35 : decode cX12_giveHoles 35 = .ok (.ifCond .ge 76, 3) := by decide +kernel
theorem dX12_giveHoles_38 : decode cX12_giveHoles 38 = .ok (.aload_n 0, 1) := by decide +kernel
theorem dX12_giveHoles_39 : decode cX12_giveHoles 39 = .ok (.getfield 185, 3) := by decide +kernel
theorem dX12_giveHoles_42 : decode cX12_giveHoles 42 = .ok (.iload_n 2, 1) := by decide +kernel
theorem dX12_giveHoles_43 : decode cX12_giveHoles 43 = .ok (.laload, 1) := by decide +kernel
theorem dX12_giveHoles_44 : decode cX12_giveHoles 44 = .ok (.aload_n 0, 1) := by decide +kernel
theorem dX12_giveHoles_45 : decode cX12_giveHoles 45 = .ok (.getfield 185, 3) := by decide +kernel
theorem dX12_giveHoles_48 : decode cX12_giveHoles 48 = .ok (.iload_n 1, 1) := by decide +kernel
theorem dX12_giveHoles_49 : decode cX12_giveHoles 49 = .ok (.laload, 1) := by decide +kernel
theorem dX12_giveHoles_50 : decode cX12_giveHoles 50 = .ok (.lneg, 1) := by decide +kernel
theorem dX12_giveHoles_51 : decode cX12_giveHoles 51 = .ok (.lcmp, 1) := by decide +kernel
theorem dX12_giveHoles_52 : decode cX12_giveHoles 52 = .ok (.ifCond .le 53, 3) := by decide +kernel
theorem dX12_giveHoles_55 : decode cX12_giveHoles 55 = .ok (.aload_n 0, 1) := by decide +kernel
theorem dX12_giveHoles_56 : decode cX12_giveHoles 56 = .ok (.iload_n 2, 1) := by decide +kernel
theorem dX12_giveHoles_57 : decode cX12_giveHoles 57 = .ok (.iload_n 1, 1) := by decide +kernel
theorem dX12_giveHoles_58 : decode cX12_giveHoles 58 = .ok (.invokevirtual 882, 3) := by decide +kernel
theorem dX12_giveHoles_61 : decode cX12_giveHoles 61 = .ok (.ifCond .ne 6, 3) := by decide +kernel
theorem dX12_giveHoles_64 : decode cX12_giveHoles 64 = .ok (.goto 41, 3) := by decide +kernel
theorem dX12_giveHoles_67 : decode cX12_giveHoles 67 = .ok (.aload_n 0, 1) := by decide +kernel
theorem dX12_giveHoles_68 : decode cX12_giveHoles 68 = .ok (.getfield 188, 3) := by decide +kernel
theorem dX12_giveHoles_71 : decode cX12_giveHoles 71 = .ok (.iload_n 1, 1) := by decide +kernel
theorem dX12_giveHoles_72 : decode cX12_giveHoles 72 = .ok (.iaload, 1) := by decide +kernel
theorem dX12_giveHoles_73 : decode cX12_giveHoles 73 = .ok (.iconst (-1), 1) := by decide +kernel
theorem dX12_giveHoles_74 : decode cX12_giveHoles 74 = .ok (.if_icmp .eq 24, 3) := by decide +kernel
theorem dX12_giveHoles_77 : decode cX12_giveHoles 77 = .ok (.aload_n 0, 1) := by decide +kernel
theorem dX12_giveHoles_78 : decode cX12_giveHoles 78 = .ok (.getfield 185, 3) := by decide +kernel
theorem dX12_giveHoles_81 : decode cX12_giveHoles 81 = .ok (.iload_n 2, 1) := by decide +kernel
theorem dX12_giveHoles_82 : decode cX12_giveHoles 82 = .ok (.laload, 1) := by decide +kernel
theorem dX12_giveHoles_83 : decode cX12_giveHoles 83 = .ok (.aload_n 0, 1) := by decide +kernel
theorem dX12_giveHoles_84 : decode cX12_giveHoles 84 = .ok (.getfield 185, 3) := by decide +kernel
theorem dX12_giveHoles_87 : decode cX12_giveHoles 87 = .ok (.aload_n 0, 1) := by decide +kernel
theorem dX12_giveHoles_88 : decode cX12_giveHoles 88 = .ok (.getfield 188, 3) := by decide +kernel
theorem dX12_giveHoles_91 : decode cX12_giveHoles 91 = .ok (.iload_n 1, 1) := by decide +kernel
theorem dX12_giveHoles_92 : decode cX12_giveHoles 92 = .ok (.iaload, 1) := by decide +kernel
theorem dX12_giveHoles_93 : decode cX12_giveHoles 93 = .ok (.laload, 1) := by decide +kernel
theorem dX12_giveHoles_94 : decode cX12_giveHoles 94 = .ok (.lcmp, 1) := by decide +kernel
theorem dX12_giveHoles_95 : decode cX12_giveHoles 95 = .ok (.ifCond .ge 10, 3) := by decide +kernel
theorem dX12_giveHoles_98 : decode cX12_giveHoles 98 = .ok (.aload_n 0, 1) := by decide +kernel
theorem dX12_giveHoles_99 : decode cX12_giveHoles 99 = .ok (.getfield 188, 3) := by decide +kernel
theorem dX12_giveHoles_102 : decode cX12_giveHoles 102 = .ok (.iload_n 1, 1) := by decide +kernel
theorem dX12_giveHoles_103 : decode cX12_giveHoles 103 = .ok (.iload_n 2, 1) := by decide +kernel
theorem dX12_giveHoles_104 : decode cX12_giveHoles 104 = .ok (.iastore, 1) := by decide +kernel
theorem dX12_giveHoles_105 : decode cX12_giveHoles 105 = .ok (.iinc 2 1, 3) := by decide +kernel
theorem dX12_giveHoles_108 : decode cX12_giveHoles 108 = .ok (.goto (-89), 3) := by decide +kernel
theorem dX12_giveHoles_111 : decode cX12_giveHoles 111 = .ok (.iinc 1 1, 3) := by decide +kernel
theorem dX12_giveHoles_114 : decode cX12_giveHoles 114 = .ok (.goto (-112), 3) := by decide +kernel
theorem dX12_giveHoles_117 : decode cX12_giveHoles 117 = .ok (.return_, 1) := by decide +kernel
theorem dX12_isEarlier_0 : decode cX12_isEarlier 0 = .ok (.aload_n 0, 1) := by decide +kernel
theorem dX12_isEarlier_1 : decode cX12_isEarlier 1 = .ok (.getfield 179, 3) := by decide +kernel
theorem dX12_isEarlier_4 : decode cX12_isEarlier 4 = .ok (.iload_n 1, 1) := by decide +kernel
theorem dX12_isEarlier_5 : decode cX12_isEarlier 5 = .ok (.iaload, 1) := by decide +kernel
theorem dX12_isEarlier_6 : decode cX12_isEarlier 6 = .ok (.istore_n 3, 1) := by decide +kernel
theorem dX12_isEarlier_7 : decode cX12_isEarlier 7 = .ok (.aload_n 0, 1) := by decide +kernel
theorem dX12_isEarlier_8 : decode cX12_isEarlier 8 = .ok (.getfield 179, 3) := by decide +kernel
theorem dX12_isEarlier_11 : decode cX12_isEarlier 11 = .ok (.iload_n 2, 1) := by decide +kernel
theorem dX12_isEarlier_12 : decode cX12_isEarlier 12 = .ok (.iaload, 1) := by decide +kernel
theorem dX12_isEarlier_13 : decode cX12_isEarlier 13 = .ok (.istore 4, 2) := by decide +kernel
theorem dX12_isEarlier_15 : decode cX12_isEarlier 15 = .ok (.aload_n 0, 1) := by decide +kernel
theorem dX12_isEarlier_16 : decode cX12_isEarlier 16 = .ok (.getfield 176, 3) := by decide +kernel
theorem dX12_isEarlier_19 : decode cX12_isEarlier 19 = .ok (.iload_n 3, 1) := by decide +kernel
theorem dX12_isEarlier_20 : decode cX12_isEarlier 20 = .ok (.iaload, 1) := by decide +kernel
theorem dX12_isEarlier_21 : decode cX12_isEarlier 21 = .ok (.aload_n 0, 1) := by decide +kernel
theorem dX12_isEarlier_22 : decode cX12_isEarlier 22 = .ok (.getfield 176, 3) := by decide +kernel
theorem dX12_isEarlier_25 : decode cX12_isEarlier 25 = .ok (.iload 4, 2) := by decide +kernel
theorem dX12_isEarlier_27 : decode cX12_isEarlier 27 = .ok (.iaload, 1) := by decide +kernel
theorem dX12_isEarlier_28 : decode cX12_isEarlier 28 = .ok (.if_icmp .lt 39, 3) := by decide +kernel
theorem dX12_isEarlier_31 : decode cX12_isEarlier 31 = .ok (.aload_n 0, 1) := by decide +kernel
theorem dX12_isEarlier_32 : decode cX12_isEarlier 32 = .ok (.getfield 176, 3) := by decide +kernel
theorem dX12_isEarlier_35 : decode cX12_isEarlier 35 = .ok (.iload_n 3, 1) := by decide +kernel
theorem dX12_isEarlier_36 : decode cX12_isEarlier 36 = .ok (.iaload, 1) := by decide +kernel
theorem dX12_isEarlier_37 : decode cX12_isEarlier 37 = .ok (.aload_n 0, 1) := by decide +kernel
theorem dX12_isEarlier_38 : decode cX12_isEarlier 38 = .ok (.getfield 176, 3) := by decide +kernel
theorem dX12_isEarlier_41 : decode cX12_isEarlier 41 = .ok (.iload 4, 2) := by decide +kernel
theorem dX12_isEarlier_43 : decode cX12_isEarlier 43 = .ok (.iaload, 1) := by decide +kernel
theorem dX12_isEarlier_44 : decode cX12_isEarlier 44 = .ok (.if_icmp .ne 27, 3) := by decide +kernel
theorem dX12_isEarlier_47 : decode cX12_isEarlier 47 = .ok (.aload_n 0, 1) := by decide +kernel
theorem dX12_isEarlier_48 : decode cX12_isEarlier 48 = .ok (.getfield 176, 3) := by decide +kernel
theorem dX12_isEarlier_51 : decode cX12_isEarlier 51 = .ok (.iload_n 3, 1) := by decide +kernel
theorem dX12_isEarlier_52 : decode cX12_isEarlier 52 = .ok (.iconst 1, 1) := by decide +kernel
theorem dX12_isEarlier_53 : decode cX12_isEarlier 53 = .ok (.iadd, 1) := by decide +kernel
theorem dX12_isEarlier_54 : decode cX12_isEarlier 54 = .ok (.iaload, 1) := by decide +kernel
theorem dX12_isEarlier_55 : decode cX12_isEarlier 55 = .ok (.aload_n 0, 1) := by decide +kernel
theorem dX12_isEarlier_56 : decode cX12_isEarlier 56 = .ok (.getfield 176, 3) := by decide +kernel
theorem dX12_isEarlier_59 : decode cX12_isEarlier 59 = .ok (.iload 4, 2) := by decide +kernel
theorem dX12_isEarlier_61 : decode cX12_isEarlier 61 = .ok (.iconst 1, 1) := by decide +kernel
theorem dX12_isEarlier_62 : decode cX12_isEarlier 62 = .ok (.iadd, 1) := by decide +kernel
theorem dX12_isEarlier_63 : decode cX12_isEarlier 63 = .ok (.iaload, 1) := by decide +kernel
theorem dX12_isEarlier_64 : decode cX12_isEarlier 64 = .ok (.if_icmp .ge 7, 3) := by decide +kernel
theorem dX12_isEarlier_67 : decode cX12_isEarlier 67 = .ok (.iconst 1, 1) := by decide +kernel
theorem dX12_isEarlier_68 : decode cX12_isEarlier 68 = .ok (.goto 4, 3) := by decide +kernel
theorem dX12_isEarlier_71 : decode cX12_isEarlier 71 = .ok (.iconst 0, 1) := by decide +kernel
theorem dX12_isEarlier_72 : decode cX12_isEarlier 72 = .ok (.ireturn, 1) := by decide +kernel
theorem dX12_nextOut_0 : decode cX12_nextOut 0 = .ok (.iconst (-1), 1) := by decide +kernel
theorem dX12_nextOut_1 : decode cX12_nextOut 1 = .ok (.istore_n 3, 1) := by decide +kernel
theorem dX12_nextOut_2 : decode cX12_nextOut 2 = .ok (.iconst 0, 1) := by decide +kernel
theorem dX12_nextOut_3 : decode cX12_nextOut 3 = .ok (.istore 4, 2) := by decide +kernel
theorem dX12_nextOut_5 : decode cX12_nextOut 5 = .ok (.iload 4, 2) := by decide +kernel
theorem dX12_nextOut_7 : decode cX12_nextOut 7 = .ok (.aload_n 0, 1) := by decide +kernel
theorem dX12_nextOut_8 : decode cX12_nextOut 8 = .ok (.getfield 861, 3) := by decide +kernel
theorem dX12_nextOut_11 : decode cX12_nextOut 11 = .ok (.if_icmp .ge 105, 3) := by decide +kernel
theorem dX12_nextOut_14 : decode cX12_nextOut 14 = .ok (.iload_n 1, 1) := by decide +kernel
theorem dX12_nextOut_15 : decode cX12_nextOut 15 = .ok (.iconst (-1), 1) := by decide +kernel
theorem dX12_nextOut_16 : decode cX12_nextOut 16 = .ok (.if_icmp .ne 23, 3) := by decide +kernel
theorem dX12_nextOut_19 : decode cX12_nextOut 19 = .ok (.aload_n 0, 1) := by decide +kernel
theorem dX12_nextOut_20 : decode cX12_nextOut 20 = .ok (.getfield 185, 3) := by decide +kernel
theorem dX12_nextOut_23 : decode cX12_nextOut 23 = .ok (.iload 4, 2) := by decide +kernel
theorem dX12_nextOut_25 : decode cX12_nextOut 25 = .ok (.laload, 1) := by decide +kernel
theorem dX12_nextOut_26 : decode cX12_nextOut 26 = .ok (.lconst 0, 1) := by decide +kernel
theorem dX12_nextOut_27 : decode cX12_nextOut 27 = .ok (.lcmp, 1) := by decide +kernel
theorem dX12_nextOut_28 : decode cX12_nextOut 28 = .ok (.ifCond .le 7, 3) := by decide +kernel
theorem dX12_nextOut_31 : decode cX12_nextOut 31 = .ok (.iconst 1, 1) := by decide +kernel
theorem dX12_nextOut_32 : decode cX12_nextOut 32 = .ok (.goto 35, 3) := by decide +kernel
theorem dX12_nextOut_35 : decode cX12_nextOut 35 = .ok (.iconst 0, 1) := by decide +kernel
theorem dX12_nextOut_36 : decode cX12_nextOut 36 = .ok (.goto 31, 3) := by decide +kernel
theorem dX12_nextOut_39 : decode cX12_nextOut 39 = .ok (.aload_n 0, 1) := by decide +kernel
theorem dX12_nextOut_40 : decode cX12_nextOut 40 = .ok (.getfield 185, 3) := by decide +kernel
theorem dX12_nextOut_43 : decode cX12_nextOut 43 = .ok (.iload 4, 2) := by decide +kernel
theorem dX12_nextOut_45 : decode cX12_nextOut 45 = .ok (.laload, 1) := by decide +kernel
theorem dX12_nextOut_46 : decode cX12_nextOut 46 = .ok (.lconst 0, 1) := by decide +kernel
theorem dX12_nextOut_47 : decode cX12_nextOut 47 = .ok (.lcmp, 1) := by decide +kernel
theorem dX12_nextOut_48 : decode cX12_nextOut 48 = .ok (.ifCond .ge 18, 3) := by decide +kernel
theorem dX12_nextOut_51 : decode cX12_nextOut 51 = .ok (.aload_n 0, 1) := by decide +kernel
theorem dX12_nextOut_52 : decode cX12_nextOut 52 = .ok (.getfield 188, 3) := by decide +kernel
theorem dX12_nextOut_55 : decode cX12_nextOut 55 = .ok (.iload 4, 2) := by decide +kernel
theorem dX12_nextOut_57 : decode cX12_nextOut 57 = .ok (.iaload, 1) := by decide +kernel
theorem dX12_nextOut_58 : decode cX12_nextOut 58 = .ok (.iload_n 1, 1) := by decide +kernel
theorem dX12_nextOut_59 : decode cX12_nextOut 59 = .ok (.if_icmp .ne 7, 3) := by decide +kernel
theorem dX12_nextOut_62 : decode cX12_nextOut 62 = .ok (.iconst 1, 1) := by decide +kernel
theorem dX12_nextOut_63 : decode cX12_nextOut 63 = .ok (.goto 4, 3) := by decide +kernel
theorem dX12_nextOut_66 : decode cX12_nextOut 66 = .ok (.iconst 0, 1) := by decide +kernel
theorem dX12_nextOut_67 : decode cX12_nextOut 67 = .ok (.istore 5, 2) := by decide +kernel
theorem dX12_nextOut_69 : decode cX12_nextOut 69 = .ok (.iload 5, 2) := by decide +kernel
theorem dX12_nextOut_71 : decode cX12_nextOut 71 = .ok (.ifCond .eq 39, 3) := by decide +kernel
theorem dX12_nextOut_74 : decode cX12_nextOut 74 = .ok (.iload_n 2, 1) := by decide +kernel
theorem dX12_nextOut_75 : decode cX12_nextOut 75 = .ok (.iconst (-1), 1) := by decide +kernel
theorem dX12_nextOut_76 : decode cX12_nextOut 76 = .ok (.if_icmp .eq 16, 3) := by decide +kernel
theorem dX12_nextOut_79 : decode cX12_nextOut 79 = .ok (.aload_n 0, 1) := by decide +kernel
theorem dX12_nextOut_80 : decode cX12_nextOut 80 = .ok (.iload_n 2, 1) := by decide +kernel
theorem dX12_nextOut_81 : decode cX12_nextOut 81 = .ok (.iload 4, 2) := by decide +kernel
theorem dX12_nextOut_83 : decode cX12_nextOut 83 = .ok (.invokevirtual 885, 3) := by decide +kernel
theorem dX12_nextOut_86 : decode cX12_nextOut 86 = .ok (.ifCond .ne 6, 3) := by decide +kernel
theorem dX12_nextOut_89 : decode cX12_nextOut 89 = .ok (.goto 21, 3) := by decide +kernel
theorem dX12_nextOut_92 : decode cX12_nextOut 92 = .ok (.iload_n 3, 1) := by decide +kernel
theorem dX12_nextOut_93 : decode cX12_nextOut 93 = .ok (.iconst (-1), 1) := by decide +kernel
theorem dX12_nextOut_94 : decode cX12_nextOut 94 = .ok (.if_icmp .eq 13, 3) := by decide +kernel
theorem dX12_nextOut_97 : decode cX12_nextOut 97 = .ok (.aload_n 0, 1) := by decide +kernel
theorem dX12_nextOut_98 : decode cX12_nextOut 98 = .ok (.iload 4, 2) := by decide +kernel
theorem dX12_nextOut_100 : decode cX12_nextOut 100 = .ok (.iload_n 3, 1) := by decide +kernel
theorem dX12_nextOut_101 : decode cX12_nextOut 101 = .ok (.invokevirtual 885, 3) := by decide +kernel
theorem dX12_nextOut_104 : decode cX12_nextOut 104 = .ok (.ifCond .eq 6, 3) := by decide +kernel
theorem dX12_nextOut_107 : decode cX12_nextOut 107 = .ok (.iload 4, 2) := by decide +kernel
theorem dX12_nextOut_109 : decode cX12_nextOut 109 = .ok (.istore_n 3, 1) := by decide +kernel
theorem dX12_nextOut_110 : decode cX12_nextOut 110 = .ok (.iinc 4 1, 3) := by decide +kernel
theorem dX12_nextOut_113 : decode cX12_nextOut 113 = .ok (.goto (-108), 3) := by decide +kernel
theorem dX12_nextOut_116 : decode cX12_nextOut 116 = .ok (.iload_n 3, 1) := by decide +kernel
theorem dX12_nextOut_117 : decode cX12_nextOut 117 = .ok (.ireturn, 1) := by decide +kernel
theorem dX12_tellOut_0 : decode cX12_tellOut 0 = .ok (.aload_n 0, 1) := by decide +kernel
theorem dX12_tellOut_1 : decode cX12_tellOut 1 = .ok (.getfield 18, 3) := by decide +kernel
theorem dX12_tellOut_4 : decode cX12_tellOut 4 = .ok (.bipush 32, 2) := by decide +kernel
theorem dX12_tellOut_6 : decode cX12_tellOut 6 = .ok (.iaload, 1) := by decide +kernel
theorem dX12_tellOut_7 : decode cX12_tellOut 7 = .ok (.iconst 1, 1) := by decide +kernel
theorem dX12_tellOut_8 : decode cX12_tellOut 8 = .ok (.iadd, 1) := by decide +kernel
theorem dX12_tellOut_9 : decode cX12_tellOut 9 = .ok (.sipush 2048, 3) := by decide +kernel
theorem dX12_tellOut_12 : decode cX12_tellOut 12 = .ok (.if_icmp .gt 25, 3) := by decide +kernel
theorem dX12_tellOut_15 : decode cX12_tellOut 15 = .ok (.aload_n 0, 1) := by decide +kernel
theorem dX12_tellOut_16 : decode cX12_tellOut 16 = .ok (.getfield 26, 3) := by decide +kernel
theorem dX12_tellOut_19 : decode cX12_tellOut 19 = .ok (.bipush 32, 2) := by decide +kernel
theorem dX12_tellOut_21 : decode cX12_tellOut 21 = .ok (.iaload, 1) := by decide +kernel
theorem dX12_tellOut_22 : decode cX12_tellOut 22 = .ok (.aload_n 0, 1) := by decide +kernel
theorem dX12_tellOut_23 : decode cX12_tellOut 23 = .ok (.getfield 182, 3) := by decide +kernel
theorem dX12_tellOut_26 : decode cX12_tellOut 26 = .ok (.iload_n 1, 1) := by decide +kernel
theorem dX12_tellOut_27 : decode cX12_tellOut 27 = .ok (.iaload, 1) := by decide +kernel
theorem dX12_tellOut_28 : decode cX12_tellOut 28 = .ok (.iadd, 1) := by decide +kernel
theorem dX12_tellOut_29 : decode cX12_tellOut 29 = .ok (.iconst 1, 1) := by decide +kernel
theorem dX12_tellOut_30 : decode cX12_tellOut 30 = .ok (.iadd, 1) := by decide +kernel
theorem dX12_tellOut_31 : decode cX12_tellOut 31 = .ok (.sipush 2048, 3) := by decide +kernel
theorem dX12_tellOut_34 : decode cX12_tellOut 34 = .ok (.if_icmp .le 5, 3) := by decide +kernel
theorem dX12_tellOut_37 : decode cX12_tellOut 37 = .ok (.iconst 0, 1) := by decide +kernel
theorem dX12_tellOut_38 : decode cX12_tellOut 38 = .ok (.ireturn, 1) := by decide +kernel
theorem dX12_tellOut_39 : decode cX12_tellOut 39 = .ok (.aload_n 0, 1) := by decide +kernel
theorem dX12_tellOut_40 : decode cX12_tellOut 40 = .ok (.aload_n 0, 1) := by decide +kernel
theorem dX12_tellOut_41 : decode cX12_tellOut 41 = .ok (.getfield 182, 3) := by decide +kernel
theorem dX12_tellOut_44 : decode cX12_tellOut 44 = .ok (.iload_n 1, 1) := by decide +kernel
theorem dX12_tellOut_45 : decode cX12_tellOut 45 = .ok (.iaload, 1) := by decide +kernel
theorem dX12_tellOut_46 : decode cX12_tellOut 46 = .ok (.iconst 1, 1) := by decide +kernel
theorem dX12_tellOut_47 : decode cX12_tellOut 47 = .ok (.iadd, 1) := by decide +kernel
theorem dX12_tellOut_48 : decode cX12_tellOut 48 = .ok (.invokevirtual 352, 3) := by decide +kernel
theorem dX12_tellOut_51 : decode cX12_tellOut 51 = .ok (.iconst 0, 1) := by decide +kernel
theorem dX12_tellOut_52 : decode cX12_tellOut 52 = .ok (.istore_n 2, 1) := by decide +kernel
theorem dX12_tellOut_53 : decode cX12_tellOut 53 = .ok (.iload_n 2, 1) := by decide +kernel
theorem dX12_tellOut_54 : decode cX12_tellOut 54 = .ok (.aload_n 0, 1) := by decide +kernel
theorem dX12_tellOut_55 : decode cX12_tellOut 55 = .ok (.getfield 182, 3) := by decide +kernel
theorem dX12_tellOut_58 : decode cX12_tellOut 58 = .ok (.iload_n 1, 1) := by decide +kernel
theorem dX12_tellOut_59 : decode cX12_tellOut 59 = .ok (.iaload, 1) := by decide +kernel
theorem dX12_tellOut_60 : decode cX12_tellOut 60 = .ok (.if_icmp .gt 46, 3) := by decide +kernel
theorem dX12_tellOut_63 : decode cX12_tellOut 63 = .ok (.aload_n 0, 1) := by decide +kernel
theorem dX12_tellOut_64 : decode cX12_tellOut 64 = .ok (.getfield 176, 3) := by decide +kernel
theorem dX12_tellOut_67 : decode cX12_tellOut 67 = .ok (.aload_n 0, 1) := by decide +kernel
theorem dX12_tellOut_68 : decode cX12_tellOut 68 = .ok (.getfield 179, 3) := by decide +kernel
theorem dX12_tellOut_71 : decode cX12_tellOut 71 = .ok (.iload_n 1, 1) := by decide +kernel
theorem dX12_tellOut_72 : decode cX12_tellOut 72 = .ok (.iaload, 1) := by decide +kernel
theorem dX12_tellOut_73 : decode cX12_tellOut 73 = .ok (.iload_n 2, 1) := by decide +kernel
theorem dX12_tellOut_74 : decode cX12_tellOut 74 = .ok (.aload_n 0, 1) := by decide +kernel
theorem dX12_tellOut_75 : decode cX12_tellOut 75 = .ok (.getfield 182, 3) := by decide +kernel
theorem dX12_tellOut_78 : decode cX12_tellOut 78 = .ok (.iload_n 1, 1) := by decide +kernel
theorem dX12_tellOut_79 : decode cX12_tellOut 79 = .ok (.iaload, 1) := by decide +kernel
theorem dX12_tellOut_80 : decode cX12_tellOut 80 = .ok (.irem, 1) := by decide +kernel
theorem dX12_tellOut_81 : decode cX12_tellOut 81 = .ok (.iadd, 1) := by decide +kernel
theorem dX12_tellOut_82 : decode cX12_tellOut 82 = .ok (.iaload, 1) := by decide +kernel
theorem dX12_tellOut_83 : decode cX12_tellOut 83 = .ok (.istore_n 3, 1) := by decide +kernel
theorem dX12_tellOut_84 : decode cX12_tellOut 84 = .ok (.aload_n 0, 1) := by decide +kernel
theorem dX12_tellOut_85 : decode cX12_tellOut 85 = .ok (.aload_n 0, 1) := by decide +kernel
theorem dX12_tellOut_86 : decode cX12_tellOut 86 = .ok (.getfield 132, 3) := by decide +kernel
theorem dX12_tellOut_89 : decode cX12_tellOut 89 = .ok (.iload_n 3, 1) := by decide +kernel
theorem dX12_tellOut_90 : decode cX12_tellOut 90 = .ok (.laload, 1) := by decide +kernel
theorem dX12_tellOut_91 : decode cX12_tellOut 91 = .ok (.aload_n 0, 1) := by decide +kernel
theorem dX12_tellOut_92 : decode cX12_tellOut 92 = .ok (.getfield 135, 3) := by decide +kernel
theorem dX12_tellOut_95 : decode cX12_tellOut 95 = .ok (.iload_n 3, 1) := by decide +kernel
theorem dX12_tellOut_96 : decode cX12_tellOut 96 = .ok (.laload, 1) := by decide +kernel
theorem dX12_tellOut_97 : decode cX12_tellOut 97 = .ok (.invokevirtual 412, 3) := by decide +kernel
theorem dX12_tellOut_100 : decode cX12_tellOut 100 = .ok (.iinc 2 1, 3) := by decide +kernel
theorem dX12_tellOut_103 : decode cX12_tellOut 103 = .ok (.goto (-50), 3) := by decide +kernel
theorem dX12_tellOut_106 : decode cX12_tellOut 106 = .ok (.iconst 1, 1) := by decide +kernel
theorem dX12_tellOut_107 : decode cX12_tellOut 107 = .ok (.ireturn, 1) := by decide +kernel
theorem dX12_tellPolygon_0 : decode cX12_tellPolygon 0 = .ok (.aload_n 0, 1) := by decide +kernel
theorem dX12_tellPolygon_1 : decode cX12_tellPolygon 1 = .ok (.getfield 18, 3) := by decide +kernel
theorem dX12_tellPolygon_4 : decode cX12_tellPolygon 4 = .ok (.bipush 32, 2) := by decide +kernel
theorem dX12_tellPolygon_6 : decode cX12_tellPolygon 6 = .ok (.iaload, 1) := by decide +kernel
theorem dX12_tellPolygon_7 : decode cX12_tellPolygon 7 = .ok (.iconst 2, 1) := by decide +kernel
theorem dX12_tellPolygon_8 : decode cX12_tellPolygon 8 = .ok (.iadd, 1) := by decide +kernel
theorem dX12_tellPolygon_9 : decode cX12_tellPolygon 9 = .ok (.sipush 2048, 3) := by decide +kernel
theorem dX12_tellPolygon_12 : decode cX12_tellPolygon 12 = .ok (.if_icmp .le 5, 3) := by decide +kernel
theorem dX12_tellPolygon_15 : decode cX12_tellPolygon 15 = .ok (.iconst 0, 1) := by decide +kernel
theorem dX12_tellPolygon_16 : decode cX12_tellPolygon 16 = .ok (.ireturn, 1) := by decide +kernel
theorem dX12_tellPolygon_17 : decode cX12_tellPolygon 17 = .ok (.aload_n 0, 1) := by decide +kernel
theorem dX12_tellPolygon_18 : decode cX12_tellPolygon 18 = .ok (.iconst 1, 1) := by decide +kernel
theorem dX12_tellPolygon_19 : decode cX12_tellPolygon 19 = .ok (.invokevirtual 376, 3) := by decide +kernel
theorem dX12_tellPolygon_22 : decode cX12_tellPolygon 22 = .ok (.aload_n 0, 1) := by decide +kernel
theorem dX12_tellPolygon_23 : decode cX12_tellPolygon 23 = .ok (.iconst 3, 1) := by decide +kernel
theorem dX12_tellPolygon_24 : decode cX12_tellPolygon 24 = .ok (.invokevirtual 352, 3) := by decide +kernel
theorem dX12_tellPolygon_27 : decode cX12_tellPolygon 27 = .ok (.aload_n 0, 1) := by decide +kernel
theorem dX12_tellPolygon_28 : decode cX12_tellPolygon 28 = .ok (.iconst 0, 1) := by decide +kernel
theorem dX12_tellPolygon_29 : decode cX12_tellPolygon 29 = .ok (.invokevirtual 352, 3) := by decide +kernel
theorem dX12_tellPolygon_32 : decode cX12_tellPolygon 32 = .ok (.aload_n 0, 1) := by decide +kernel
theorem dX12_tellPolygon_33 : decode cX12_tellPolygon 33 = .ok (.getfield 18, 3) := by decide +kernel
theorem dX12_tellPolygon_36 : decode cX12_tellPolygon 36 = .ok (.bipush 32, 2) := by decide +kernel
theorem dX12_tellPolygon_38 : decode cX12_tellPolygon 38 = .ok (.iaload, 1) := by decide +kernel
theorem dX12_tellPolygon_39 : decode cX12_tellPolygon 39 = .ok (.iconst 1, 1) := by decide +kernel
theorem dX12_tellPolygon_40 : decode cX12_tellPolygon 40 = .ok (.isub, 1) := by decide +kernel
theorem dX12_tellPolygon_41 : decode cX12_tellPolygon 41 = .ok (.istore_n 2, 1) := by decide +kernel
theorem dX12_tellPolygon_42 : decode cX12_tellPolygon 42 = .ok (.aload_n 0, 1) := by decide +kernel
theorem dX12_tellPolygon_43 : decode cX12_tellPolygon 43 = .ok (.iload_n 2, 1) := by decide +kernel
theorem dX12_tellPolygon_44 : decode cX12_tellPolygon 44 = .ok (.invokevirtual 376, 3) := by decide +kernel
theorem dX12_tellPolygon_47 : decode cX12_tellPolygon 47 = .ok (.aload_n 0, 1) := by decide +kernel
theorem dX12_tellPolygon_48 : decode cX12_tellPolygon 48 = .ok (.iload_n 1, 1) := by decide +kernel
theorem dX12_tellPolygon_49 : decode cX12_tellPolygon 49 = .ok (.invokevirtual 888, 3) := by decide +kernel
theorem dX12_tellPolygon_52 : decode cX12_tellPolygon 52 = .ok (.ifCond .ne 5, 3) := by decide +kernel
theorem dX12_tellPolygon_55 : decode cX12_tellPolygon 55 = .ok (.iconst 0, 1) := by decide +kernel
theorem dX12_tellPolygon_56 : decode cX12_tellPolygon 56 = .ok (.ireturn, 1) := by decide +kernel
theorem dX12_tellPolygon_57 : decode cX12_tellPolygon 57 = .ok (.aload_n 0, 1) := by decide +kernel
theorem dX12_tellPolygon_58 : decode cX12_tellPolygon 58 = .ok (.iload_n 1, 1) := by decide +kernel
theorem dX12_tellPolygon_59 : decode cX12_tellPolygon 59 = .ok (.iconst (-1), 1) := by decide +kernel
theorem dX12_tellPolygon_60 : decode cX12_tellPolygon 60 = .ok (.invokevirtual 891, 3) := by decide +kernel
theorem dX12_tellPolygon_63 : decode cX12_tellPolygon 63 = .ok (.istore_n 3, 1) := by decide +kernel
theorem dX12_tellPolygon_64 : decode cX12_tellPolygon 64 = .ok (.iload_n 3, 1) := by decide +kernel
theorem dX12_tellPolygon_65 : decode cX12_tellPolygon 65 = .ok (.iconst (-1), 1) := by decide +kernel
theorem dX12_tellPolygon_66 : decode cX12_tellPolygon 66 = .ok (.if_icmp .eq 28, 3) := by decide +kernel
theorem dX12_tellPolygon_69 : decode cX12_tellPolygon 69 = .ok (.aload_n 0, 1) := by decide +kernel
theorem dX12_tellPolygon_70 : decode cX12_tellPolygon 70 = .ok (.iload_n 2, 1) := by decide +kernel
theorem dX12_tellPolygon_71 : decode cX12_tellPolygon 71 = .ok (.invokevirtual 376, 3) := by decide +kernel
theorem dX12_tellPolygon_74 : decode cX12_tellPolygon 74 = .ok (.aload_n 0, 1) := by decide +kernel
theorem dX12_tellPolygon_75 : decode cX12_tellPolygon 75 = .ok (.iload_n 3, 1) := by decide +kernel
theorem dX12_tellPolygon_76 : decode cX12_tellPolygon 76 = .ok (.invokevirtual 888, 3) := by decide +kernel
theorem dX12_tellPolygon_79 : decode cX12_tellPolygon 79 = .ok (.ifCond .ne 5, 3) := by decide +kernel
theorem dX12_tellPolygon_82 : decode cX12_tellPolygon 82 = .ok (.iconst 0, 1) := by decide +kernel
theorem dX12_tellPolygon_83 : decode cX12_tellPolygon 83 = .ok (.ireturn, 1) := by decide +kernel
theorem dX12_tellPolygon_84 : decode cX12_tellPolygon 84 = .ok (.aload_n 0, 1) := by decide +kernel
theorem dX12_tellPolygon_85 : decode cX12_tellPolygon 85 = .ok (.iload_n 1, 1) := by decide +kernel
theorem dX12_tellPolygon_86 : decode cX12_tellPolygon 86 = .ok (.iload_n 3, 1) := by decide +kernel
theorem dX12_tellPolygon_87 : decode cX12_tellPolygon 87 = .ok (.invokevirtual 891, 3) := by decide +kernel
theorem dX12_tellPolygon_90 : decode cX12_tellPolygon 90 = .ok (.istore_n 3, 1) := by decide +kernel
theorem dX12_tellPolygon_91 : decode cX12_tellPolygon 91 = .ok (.goto (-27), 3) := by decide +kernel
theorem dX12_tellPolygon_94 : decode cX12_tellPolygon 94 = .ok (.iconst 1, 1) := by decide +kernel
theorem dX12_tellPolygon_95 : decode cX12_tellPolygon 95 = .ok (.ireturn, 1) := by decide +kernel
theorem dX12_tellResult_0 : decode cX12_tellResult 0 = .ok (.aload_n 0, 1) := by decide +kernel
theorem dX12_tellResult_1 : decode cX12_tellResult 1 = .ok (.bipush 32, 2) := by decide +kernel
theorem dX12_tellResult_3 : decode cX12_tellResult 3 = .ok (.invokevirtual 358, 3) := by decide +kernel
theorem dX12_tellResult_6 : decode cX12_tellResult 6 = .ok (.aload_n 0, 1) := by decide +kernel
theorem dX12_tellResult_7 : decode cX12_tellResult 7 = .ok (.bipush 6, 2) := by decide +kernel
theorem dX12_tellResult_9 : decode cX12_tellResult 9 = .ok (.invokevirtual 352, 3) := by decide +kernel
theorem dX12_tellResult_12 : decode cX12_tellResult 12 = .ok (.aload_n 0, 1) := by decide +kernel
theorem dX12_tellResult_13 : decode cX12_tellResult 13 = .ok (.iconst 0, 1) := by decide +kernel
theorem dX12_tellResult_14 : decode cX12_tellResult 14 = .ok (.invokevirtual 352, 3) := by decide +kernel
theorem dX12_tellResult_17 : decode cX12_tellResult 17 = .ok (.aload_n 0, 1) := by decide +kernel
theorem dX12_tellResult_18 : decode cX12_tellResult 18 = .ok (.iconst (-1), 1) := by decide +kernel
theorem dX12_tellResult_19 : decode cX12_tellResult 19 = .ok (.iconst (-1), 1) := by decide +kernel
theorem dX12_tellResult_20 : decode cX12_tellResult 20 = .ok (.invokevirtual 891, 3) := by decide +kernel
theorem dX12_tellResult_23 : decode cX12_tellResult 23 = .ok (.istore_n 1, 1) := by decide +kernel
theorem dX12_tellResult_24 : decode cX12_tellResult 24 = .ok (.iload_n 1, 1) := by decide +kernel
theorem dX12_tellResult_25 : decode cX12_tellResult 25 = .ok (.iconst (-1), 1) := by decide +kernel
theorem dX12_tellResult_26 : decode cX12_tellResult 26 = .ok (.if_icmp .eq 23, 3) := by decide +kernel
theorem dX12_tellResult_29 : decode cX12_tellResult 29 = .ok (.aload_n 0, 1) := by decide +kernel
theorem dX12_tellResult_30 : decode cX12_tellResult 30 = .ok (.iload_n 1, 1) := by decide +kernel
theorem dX12_tellResult_31 : decode cX12_tellResult 31 = .ok (.invokevirtual 894, 3) := by decide +kernel
theorem dX12_tellResult_34 : decode cX12_tellResult 34 = .ok (.ifCond .ne 5, 3) := by decide +kernel
theorem dX12_tellResult_37 : decode cX12_tellResult 37 = .ok (.iconst 0, 1) := by decide +kernel
theorem dX12_tellResult_38 : decode cX12_tellResult 38 = .ok (.ireturn, 1) := by decide +kernel
theorem dX12_tellResult_39 : decode cX12_tellResult 39 = .ok (.aload_n 0, 1) := by decide +kernel
theorem dX12_tellResult_40 : decode cX12_tellResult 40 = .ok (.iconst (-1), 1) := by decide +kernel
theorem dX12_tellResult_41 : decode cX12_tellResult 41 = .ok (.iload_n 1, 1) := by decide +kernel
theorem dX12_tellResult_42 : decode cX12_tellResult 42 = .ok (.invokevirtual 891, 3) := by decide +kernel
theorem dX12_tellResult_45 : decode cX12_tellResult 45 = .ok (.istore_n 1, 1) := by decide +kernel
theorem dX12_tellResult_46 : decode cX12_tellResult 46 = .ok (.goto (-22), 3) := by decide +kernel
theorem dX12_tellResult_49 : decode cX12_tellResult 49 = .ok (.iconst 1, 1) := by decide +kernel
theorem dX12_tellResult_50 : decode cX12_tellResult 50 = .ok (.ireturn, 1) := by decide +kernel
theorem dX12_laysOver_0 : decode cX12_laysOver 0 = .ok (.aload_n 0, 1) := by decide +kernel
theorem dX12_laysOver_1 : decode cX12_laysOver 1 = .ok (.getfield 652, 3) := by decide +kernel
theorem dX12_laysOver_4 : decode cX12_laysOver 4 = .ok (.sipush 2048, 3) := by decide +kernel
theorem dX12_laysOver_7 : decode cX12_laysOver 7 = .ok (.if_icmp .gt 17, 3) := by decide +kernel
theorem dX12_laysOver_10 : decode cX12_laysOver 10 = .ok (.aload_n 0, 1) := by decide +kernel
theorem dX12_laysOver_11 : decode cX12_laysOver 11 = .ok (.invokevirtual 897, 3) := by decide +kernel
theorem dX12_laysOver_14 : decode cX12_laysOver 14 = .ok (.ifCond .eq 10, 3) := by decide +kernel
theorem dX12_laysOver_17 : decode cX12_laysOver 17 = .ok (.aload_n 0, 1) := by decide +kernel
theorem dX12_laysOver_18 : decode cX12_laysOver 18 = .ok (.invokevirtual 900, 3) := by decide +kernel
theorem dX12_laysOver_21 : decode cX12_laysOver 21 = .ok (.ifCond .ne 5, 3) := by decide +kernel
theorem dX12_laysOver_24 : decode cX12_laysOver 24 = .ok (.iconst 0, 1) := by decide +kernel
theorem dX12_laysOver_25 : decode cX12_laysOver 25 = .ok (.ireturn, 1) := by decide +kernel
theorem dX12_laysOver_26 : decode cX12_laysOver 26 = .ok (.aload_n 0, 1) := by decide +kernel
theorem dX12_laysOver_27 : decode cX12_laysOver 27 = .ok (.iload_n 1, 1) := by decide +kernel
theorem dX12_laysOver_28 : decode cX12_laysOver 28 = .ok (.invokevirtual 903, 3) := by decide +kernel
theorem dX12_laysOver_31 : decode cX12_laysOver 31 = .ok (.aload_n 0, 1) := by decide +kernel
theorem dX12_laysOver_32 : decode cX12_laysOver 32 = .ok (.invokevirtual 906, 3) := by decide +kernel
theorem dX12_laysOver_35 : decode cX12_laysOver 35 = .ok (.aload_n 0, 1) := by decide +kernel
theorem dX12_laysOver_36 : decode cX12_laysOver 36 = .ok (.invokevirtual 909, 3) := by decide +kernel
theorem dX12_laysOver_39 : decode cX12_laysOver 39 = .ok (.aload_n 0, 1) := by decide +kernel
theorem dX12_laysOver_40 : decode cX12_laysOver 40 = .ok (.invokevirtual 912, 3) := by decide +kernel
theorem dX12_laysOver_43 : decode cX12_laysOver 43 = .ok (.ireturn, 1) := by decide +kernel
theorem dX12_overlay_0 : decode cX12_overlay 0 = .ok (.aload_n 0, 1) := by decide +kernel
theorem dX12_overlay_1 : decode cX12_overlay 1 = .ok (.iconst 0, 1) := by decide +kernel
theorem dX12_overlay_2 : decode cX12_overlay 2 = .ok (.putfield 271, 3) := by decide +kernel
theorem dX12_overlay_5 : decode cX12_overlay 5 = .ok (.aload_n 0, 1) := by decide +kernel
theorem dX12_overlay_6 : decode cX12_overlay 6 = .ok (.iload_n 2, 1) := by decide +kernel
theorem dX12_overlay_7 : decode cX12_overlay 7 = .ok (.invokestatic 440, 3) := by decide +kernel
theorem dX12_overlay_10 : decode cX12_overlay 10 = .ok (.ifCond .eq 18, 3) := by decide +kernel
theorem dX12_overlay_13 : decode cX12_overlay 13 = .ok (.iload_n 3, 1) := by decide +kernel
theorem dX12_overlay_14 : decode cX12_overlay 14 = .ok (.invokestatic 440, 3) := by decide +kernel
theorem dX12_overlay_17 : decode cX12_overlay 17 = .ok (.ifCond .eq 11, 3) := by decide +kernel
theorem dX12_overlay_20 : decode cX12_overlay 20 = .ok (.iload 4, 2) := by decide +kernel
theorem dX12_overlay_22 : decode cX12_overlay 22 = .ok (.invokestatic 440, 3) := by decide +kernel
theorem dX12_overlay_25 : decode cX12_overlay 25 = .ok (.ifCond .ne 7, 3) := by decide +kernel
theorem dX12_overlay_28 : decode cX12_overlay 28 = .ok (.iconst 1, 1) := by decide +kernel
theorem dX12_overlay_29 : decode cX12_overlay 29 = .ok (.goto 4, 3) := by decide +kernel
theorem dX12_overlay_32 : decode cX12_overlay 32 = .ok (.iconst 0, 1) := by decide +kernel
theorem dX12_overlay_33 : decode cX12_overlay 33 = .ok (.iconst 1, 1) := by decide +kernel
theorem dX12_overlay_34 : decode cX12_overlay 34 = .ok (.invokevirtual 277, 3) := by decide +kernel
theorem dX12_overlay_37 : decode cX12_overlay 37 = .ok (.ifCond .ne 32, 3) := by decide +kernel
theorem dX12_overlay_40 : decode cX12_overlay 40 = .ok (.aload_n 0, 1) := by decide +kernel
theorem dX12_overlay_41 : decode cX12_overlay 41 = .ok (.aload_n 0, 1) := by decide +kernel
theorem dX12_overlay_42 : decode cX12_overlay 42 = .ok (.iload_n 2, 1) := by decide +kernel
theorem dX12_overlay_43 : decode cX12_overlay 43 = .ok (.invokevirtual 545, 3) := by decide +kernel
theorem dX12_overlay_46 : decode cX12_overlay 46 = .ok (.ifCond .eq 11, 3) := by decide +kernel
theorem dX12_overlay_49 : decode cX12_overlay 49 = .ok (.aload_n 0, 1) := by decide +kernel
theorem dX12_overlay_50 : decode cX12_overlay 50 = .ok (.iload_n 3, 1) := by decide +kernel
theorem dX12_overlay_51 : decode cX12_overlay 51 = .ok (.invokevirtual 545, 3) := by decide +kernel
theorem dX12_overlay_54 : decode cX12_overlay 54 = .ok (.ifCond .ne 7, 3) := by decide +kernel
theorem dX12_overlay_57 : decode cX12_overlay 57 = .ok (.iconst 1, 1) := by decide +kernel
theorem dX12_overlay_58 : decode cX12_overlay 58 = .ok (.goto 4, 3) := by decide +kernel
theorem dX12_overlay_61 : decode cX12_overlay 61 = .ok (.iconst 0, 1) := by decide +kernel
theorem dX12_overlay_62 : decode cX12_overlay 62 = .ok (.iconst 2, 1) := by decide +kernel
theorem dX12_overlay_63 : decode cX12_overlay 63 = .ok (.invokevirtual 277, 3) := by decide +kernel
theorem dX12_overlay_66 : decode cX12_overlay 66 = .ok (.ifCond .eq 5, 3) := by decide +kernel
theorem dX12_overlay_69 : decode cX12_overlay 69 = .ok (.iconst 0, 1) := by decide +kernel
theorem dX12_overlay_70 : decode cX12_overlay 70 = .ok (.ireturn, 1) := by decide +kernel
theorem dX12_overlay_71 : decode cX12_overlay 71 = .ok (.aload_n 0, 1) := by decide +kernel
theorem dX12_overlay_72 : decode cX12_overlay 72 = .ok (.iload_n 1, 1) := by decide +kernel
theorem dX12_overlay_73 : decode cX12_overlay 73 = .ok (.i2l, 1) := by decide +kernel
theorem dX12_overlay_74 : decode cX12_overlay 74 = .ok (.lconst 0, 1) := by decide +kernel
theorem dX12_overlay_75 : decode cX12_overlay 75 = .ok (.ldc2_w 915, 3) := by decide +kernel
theorem dX12_overlay_78 : decode cX12_overlay 78 = .ok (.invokestatic 287, 3) := by decide +kernel
theorem dX12_overlay_81 : decode cX12_overlay 81 = .ok (.ifCond .eq 19, 3) := by decide +kernel
theorem dX12_overlay_84 : decode cX12_overlay 84 = .ok (.aload_n 0, 1) := by decide +kernel
theorem dX12_overlay_85 : decode cX12_overlay 85 = .ok (.iload_n 2, 1) := by decide +kernel
theorem dX12_overlay_86 : decode cX12_overlay 86 = .ok (.invokevirtual 917, 3) := by decide +kernel
theorem dX12_overlay_89 : decode cX12_overlay 89 = .ok (.ifCond .eq 11, 3) := by decide +kernel
theorem dX12_overlay_92 : decode cX12_overlay 92 = .ok (.aload_n 0, 1) := by decide +kernel
theorem dX12_overlay_93 : decode cX12_overlay 93 = .ok (.iload_n 3, 1) := by decide +kernel
theorem dX12_overlay_94 : decode cX12_overlay 94 = .ok (.invokevirtual 917, 3) := by decide +kernel
theorem dX12_overlay_97 : decode cX12_overlay 97 = .ok (.ifCond .ne 7, 3) := by decide +kernel
theorem dX12_overlay_100 : decode cX12_overlay 100 = .ok (.iconst 1, 1) := by decide +kernel
theorem dX12_overlay_101 : decode cX12_overlay 101 = .ok (.goto 4, 3) := by decide +kernel
theorem dX12_overlay_104 : decode cX12_overlay 104 = .ok (.iconst 0, 1) := by decide +kernel
theorem dX12_overlay_105 : decode cX12_overlay 105 = .ok (.iconst 3, 1) := by decide +kernel
theorem dX12_overlay_106 : decode cX12_overlay 106 = .ok (.invokevirtual 277, 3) := by decide +kernel
theorem dX12_overlay_109 : decode cX12_overlay 109 = .ok (.ifCond .eq 5, 3) := by decide +kernel
theorem dX12_overlay_112 : decode cX12_overlay 112 = .ok (.iconst 0, 1) := by decide +kernel
theorem dX12_overlay_113 : decode cX12_overlay 113 = .ok (.ireturn, 1) := by decide +kernel
theorem dX12_overlay_114 : decode cX12_overlay 114 = .ok (.aload_n 0, 1) := by decide +kernel
theorem dX12_overlay_115 : decode cX12_overlay 115 = .ok (.iconst 0, 1) := by decide +kernel
theorem dX12_overlay_116 : decode cX12_overlay 116 = .ok (.putfield 652, 3) := by decide +kernel
theorem dX12_overlay_119 : decode cX12_overlay 119 = .ok (.aload_n 0, 1) := by decide +kernel
theorem dX12_overlay_120 : decode cX12_overlay 120 = .ok (.iload_n 2, 1) := by decide +kernel
theorem dX12_overlay_121 : decode cX12_overlay 121 = .ok (.iconst 0, 1) := by decide +kernel
theorem dX12_overlay_122 : decode cX12_overlay 122 = .ok (.invokevirtual 920, 3) := by decide +kernel
theorem dX12_overlay_125 : decode cX12_overlay 125 = .ok (.istore 5, 2) := by decide +kernel
theorem dX12_overlay_127 : decode cX12_overlay 127 = .ok (.aload_n 0, 1) := by decide +kernel
theorem dX12_overlay_128 : decode cX12_overlay 128 = .ok (.iload_n 3, 1) := by decide +kernel
theorem dX12_overlay_129 : decode cX12_overlay 129 = .ok (.iconst 1, 1) := by decide +kernel
theorem dX12_overlay_130 : decode cX12_overlay 130 = .ok (.invokevirtual 920, 3) := by decide +kernel
theorem dX12_overlay_133 : decode cX12_overlay 133 = .ok (.ifCond .eq 12, 3) := by decide +kernel
theorem dX12_overlay_136 : decode cX12_overlay 136 = .ok (.iload 5, 2) := by decide +kernel
theorem dX12_overlay_138 : decode cX12_overlay 138 = .ok (.ifCond .eq 7, 3) := by decide +kernel
theorem dX12_overlay_141 : decode cX12_overlay 141 = .ok (.iconst 1, 1) := by decide +kernel
theorem dX12_overlay_142 : decode cX12_overlay 142 = .ok (.goto 4, 3) := by decide +kernel
theorem dX12_overlay_145 : decode cX12_overlay 145 = .ok (.iconst 0, 1) := by decide +kernel
theorem dX12_overlay_146 : decode cX12_overlay 146 = .ok (.istore 5, 2) := by decide +kernel
theorem dX12_overlay_148 : decode cX12_overlay 148 = .ok (.aload_n 0, 1) := by decide +kernel
theorem dX12_overlay_149 : decode cX12_overlay 149 = .ok (.iload 5, 2) := by decide +kernel
theorem dX12_overlay_151 : decode cX12_overlay 151 = .ok (.ifCond .ne 7, 3) := by decide +kernel
theorem dX12_overlay_154 : decode cX12_overlay 154 = .ok (.iconst 1, 1) := by decide +kernel
theorem dX12_overlay_155 : decode cX12_overlay 155 = .ok (.goto 4, 3) := by decide +kernel
theorem dX12_overlay_158 : decode cX12_overlay 158 = .ok (.iconst 0, 1) := by decide +kernel
theorem dX12_overlay_159 : decode cX12_overlay 159 = .ok (.iconst 3, 1) := by decide +kernel
theorem dX12_overlay_160 : decode cX12_overlay 160 = .ok (.invokevirtual 277, 3) := by decide +kernel
theorem dX12_overlay_163 : decode cX12_overlay 163 = .ok (.ifCond .ne 24, 3) := by decide +kernel
theorem dX12_overlay_166 : decode cX12_overlay 166 = .ok (.aload_n 0, 1) := by decide +kernel
theorem dX12_overlay_167 : decode cX12_overlay 167 = .ok (.aload_n 0, 1) := by decide +kernel
theorem dX12_overlay_168 : decode cX12_overlay 168 = .ok (.iload_n 1, 1) := by decide +kernel
theorem dX12_overlay_169 : decode cX12_overlay 169 = .ok (.invokevirtual 923, 3) := by decide +kernel
theorem dX12_overlay_172 : decode cX12_overlay 172 = .ok (.ifCond .ne 7, 3) := by decide +kernel
theorem dX12_overlay_175 : decode cX12_overlay 175 = .ok (.iconst 1, 1) := by decide +kernel
theorem dX12_overlay_176 : decode cX12_overlay 176 = .ok (.goto 4, 3) := by decide +kernel
theorem dX12_overlay_179 : decode cX12_overlay 179 = .ok (.iconst 0, 1) := by decide +kernel
theorem dX12_overlay_180 : decode cX12_overlay 180 = .ok (.iconst 4, 1) := by decide +kernel
theorem dX12_overlay_181 : decode cX12_overlay 181 = .ok (.invokevirtual 277, 3) := by decide +kernel
theorem dX12_overlay_184 : decode cX12_overlay 184 = .ok (.ifCond .eq 5, 3) := by decide +kernel
theorem dX12_overlay_187 : decode cX12_overlay 187 = .ok (.iconst 0, 1) := by decide +kernel
theorem dX12_overlay_188 : decode cX12_overlay 188 = .ok (.ireturn, 1) := by decide +kernel
theorem dX12_overlay_189 : decode cX12_overlay 189 = .ok (.aload_n 0, 1) := by decide +kernel
theorem dX12_overlay_190 : decode cX12_overlay 190 = .ok (.bipush 32, 2) := by decide +kernel
theorem dX12_overlay_192 : decode cX12_overlay 192 = .ok (.iload 4, 2) := by decide +kernel
theorem dX12_overlay_194 : decode cX12_overlay 194 = .ok (.invokevirtual 449, 3) := by decide +kernel
theorem dX12_overlay_197 : decode cX12_overlay 197 = .ok (.aload_n 0, 1) := by decide +kernel
theorem dX12_overlay_198 : decode cX12_overlay 198 = .ok (.getfield 23, 3) := by decide +kernel
theorem dX12_overlay_201 : decode cX12_overlay 201 = .ok (.sipush 2048, 3) := by decide +kernel
theorem dX12_overlay_204 : decode cX12_overlay 204 = .ok (.iload 4, 2) := by decide +kernel
theorem dX12_overlay_206 : decode cX12_overlay 206 = .ok (.imul, 1) := by decide +kernel
theorem dX12_overlay_207 : decode cX12_overlay 207 = .ok (.iconst 1, 1) := by decide +kernel
theorem dX12_overlay_208 : decode cX12_overlay 208 = .ok (.iadd, 1) := by decide +kernel
theorem dX12_overlay_209 : decode cX12_overlay 209 = .ok (.iaload, 1) := by decide +kernel
theorem dX12_overlay_210 : decode cX12_overlay 210 = .ok (.ireturn, 1) := by decide +kernel
theorem dX12_typeOfKind_0 : decode cX12_typeOfKind 0 = .ok (.iload_n 0, 1) := by decide +kernel
theorem dX12_typeOfKind_1 : decode cX12_typeOfKind 1 = .ok (.bipush 7, 2) := by decide +kernel
theorem dX12_typeOfKind_3 : decode cX12_typeOfKind 3 = .ok (.if_icmp .ne 7, 3) := by decide +kernel
theorem dX12_typeOfKind_6 : decode cX12_typeOfKind 6 = .ok (.iconst (-1), 1) := by decide +kernel
theorem dX12_typeOfKind_7 : decode cX12_typeOfKind 7 = .ok (.goto 8, 3) := by decide +kernel
theorem dX12_typeOfKind_10 : decode cX12_typeOfKind 10 = .ok (.iload_n 0, 1) := by decide +kernel
theorem dX12_typeOfKind_11 : decode cX12_typeOfKind 11 = .ok (.iconst 1, 1) := by decide +kernel
theorem dX12_typeOfKind_12 : decode cX12_typeOfKind 12 = .ok (.isub, 1) := by decide +kernel
theorem dX12_typeOfKind_13 : decode cX12_typeOfKind 13 = .ok (.iconst 3, 1) := by decide +kernel
theorem dX12_typeOfKind_14 : decode cX12_typeOfKind 14 = .ok (.irem, 1) := by decide +kernel
theorem dX12_typeOfKind_15 : decode cX12_typeOfKind 15 = .ok (.ireturn, 1) := by decide +kernel
theorem dX12_canRelate_0 : decode cX12_canRelate 0 = .ok (.aload_n 0, 1) := by decide +kernel
theorem dX12_canRelate_1 : decode cX12_canRelate 1 = .ok (.getfield 23, 3) := by decide +kernel
theorem dX12_canRelate_4 : decode cX12_canRelate 4 = .ok (.sipush 2048, 3) := by decide +kernel
theorem dX12_canRelate_7 : decode cX12_canRelate 7 = .ok (.iload_n 1, 1) := by decide +kernel
theorem dX12_canRelate_8 : decode cX12_canRelate 8 = .ok (.imul, 1) := by decide +kernel
theorem dX12_canRelate_9 : decode cX12_canRelate 9 = .ok (.iaload, 1) := by decide +kernel
theorem dX12_canRelate_10 : decode cX12_canRelate 10 = .ok (.bipush 7, 2) := by decide +kernel
theorem dX12_canRelate_12 : decode cX12_canRelate 12 = .ok (.if_icmp .eq 15, 3) := by decide +kernel
theorem dX12_canRelate_15 : decode cX12_canRelate 15 = .ok (.aload_n 0, 1) := by decide +kernel
theorem dX12_canRelate_16 : decode cX12_canRelate 16 = .ok (.iload_n 1, 1) := by decide +kernel
theorem dX12_canRelate_17 : decode cX12_canRelate 17 = .ok (.invokevirtual 777, 3) := by decide +kernel
theorem dX12_canRelate_20 : decode cX12_canRelate 20 = .ok (.ifCond .eq 7, 3) := by decide +kernel
theorem dX12_canRelate_23 : decode cX12_canRelate 23 = .ok (.iconst 1, 1) := by decide +kernel
theorem dX12_canRelate_24 : decode cX12_canRelate 24 = .ok (.goto 4, 3) := by decide +kernel
theorem dX12_canRelate_27 : decode cX12_canRelate 27 = .ok (.iconst 0, 1) := by decide +kernel
theorem dX12_canRelate_28 : decode cX12_canRelate 28 = .ok (.ireturn, 1) := by decide +kernel
theorem dX12_lineEnds_0 : decode cX12_lineEnds 0 = .ok (.aload_n 0, 1) := by decide +kernel
theorem dX12_lineEnds_1 : decode cX12_lineEnds 1 = .ok (.getfield 209, 3) := by decide +kernel
theorem dX12_lineEnds_4 : decode cX12_lineEnds 4 = .ok (.iload_n 1, 1) := by decide +kernel
theorem dX12_lineEnds_5 : decode cX12_lineEnds 5 = .ok (.iaload, 1) := by decide +kernel
theorem dX12_lineEnds_6 : decode cX12_lineEnds 6 = .ok (.iconst 2, 1) := by decide +kernel
theorem dX12_lineEnds_7 : decode cX12_lineEnds 7 = .ok (.iadd, 1) := by decide +kernel
theorem dX12_lineEnds_8 : decode cX12_lineEnds 8 = .ok (.sipush 2100, 3) := by decide +kernel
theorem dX12_lineEnds_11 : decode cX12_lineEnds 11 = .ok (.if_icmp .gt 7, 3) := by decide +kernel
theorem dX12_lineEnds_14 : decode cX12_lineEnds 14 = .ok (.iload_n 3, 1) := by decide +kernel
theorem dX12_lineEnds_15 : decode cX12_lineEnds 15 = .ok (.ifCond .ne 4, 3) := by decide +kernel
theorem dX12_lineEnds_18 : decode cX12_lineEnds 18 = .ok (.return_, 1) := by decide +kernel
theorem dX12_lineEnds_19 : decode cX12_lineEnds 19 = .ok (.aload_n 0, 1) := by decide +kernel
theorem dX12_lineEnds_20 : decode cX12_lineEnds 20 = .ok (.getfield 206, 3) := by decide +kernel
theorem dX12_lineEnds_23 : decode cX12_lineEnds 23 = .ok (.sipush 2100, 3) := by decide +kernel
theorem dX12_lineEnds_26 : decode cX12_lineEnds 26 = .ok (.iload_n 1, 1) := by decide +kernel
theorem dX12_lineEnds_27 : decode cX12_lineEnds 27 = .ok (.imul, 1) := by decide +kernel
theorem dX12_lineEnds_28 : decode cX12_lineEnds 28 = .ok (.aload_n 0, 1) := by decide +kernel
theorem dX12_lineEnds_29 : decode cX12_lineEnds 29 = .ok (.getfield 209, 3) := by decide +kernel
theorem dX12_lineEnds_32 : decode cX12_lineEnds 32 = .ok (.iload_n 1, 1) := by decide +kernel
theorem dX12_lineEnds_33 : decode cX12_lineEnds 33 = .ok (.iaload, 1) := by decide +kernel
theorem dX12_lineEnds_34 : decode cX12_lineEnds 34 = .ok (.iadd, 1) := by decide +kernel
theorem dX12_lineEnds_35 : decode cX12_lineEnds 35 = .ok (.iload_n 2, 1) := by decide +kernel
theorem dX12_lineEnds_36 : decode cX12_lineEnds 36 = .ok (.iastore, 1) := by decide +kernel
theorem dX12_lineEnds_37 : decode cX12_lineEnds 37 = .ok (.aload_n 0, 1) := by decide +kernel
theorem dX12_lineEnds_38 : decode cX12_lineEnds 38 = .ok (.getfield 206, 3) := by decide +kernel
theorem dX12_lineEnds_41 : decode cX12_lineEnds 41 = .ok (.sipush 2100, 3) := by decide +kernel
theorem dX12_lineEnds_44 : decode cX12_lineEnds 44 = .ok (.iload_n 1, 1) := by decide +kernel
theorem dX12_lineEnds_45 : decode cX12_lineEnds 45 = .ok (.imul, 1) := by decide +kernel
theorem dX12_lineEnds_46 : decode cX12_lineEnds 46 = .ok (.aload_n 0, 1) := by decide +kernel
theorem dX12_lineEnds_47 : decode cX12_lineEnds 47 = .ok (.getfield 209, 3) := by decide +kernel
theorem dX12_lineEnds_50 : decode cX12_lineEnds 50 = .ok (.iload_n 1, 1) := by decide +kernel
theorem dX12_lineEnds_51 : decode cX12_lineEnds 51 = .ok (.iaload, 1) := by decide +kernel
theorem dX12_lineEnds_52 : decode cX12_lineEnds 52 = .ok (.iadd, 1) := by decide +kernel
theorem dX12_lineEnds_53 : decode cX12_lineEnds 53 = .ok (.iconst 1, 1) := by decide +kernel
theorem dX12_lineEnds_54 : decode cX12_lineEnds 54 = .ok (.iadd, 1) := by decide +kernel
theorem dX12_lineEnds_55 : decode cX12_lineEnds 55 = .ok (.iload_n 2, 1) := by decide +kernel
theorem dX12_lineEnds_56 : decode cX12_lineEnds 56 = .ok (.iload_n 3, 1) := by decide +kernel
theorem dX12_lineEnds_57 : decode cX12_lineEnds 57 = .ok (.iadd, 1) := by decide +kernel
theorem dX12_lineEnds_58 : decode cX12_lineEnds 58 = .ok (.iconst 1, 1) := by decide +kernel
theorem dX12_lineEnds_59 : decode cX12_lineEnds 59 = .ok (.isub, 1) := by decide +kernel
theorem dX12_lineEnds_60 : decode cX12_lineEnds 60 = .ok (.iastore, 1) := by decide +kernel
theorem dX12_lineEnds_61 : decode cX12_lineEnds 61 = .ok (.aload_n 0, 1) := by decide +kernel
theorem dX12_lineEnds_62 : decode cX12_lineEnds 62 = .ok (.getfield 209, 3) := by decide +kernel
theorem dX12_lineEnds_65 : decode cX12_lineEnds 65 = .ok (.iload_n 1, 1) := by decide +kernel
theorem dX12_lineEnds_66 : decode cX12_lineEnds 66 = .ok (.dup2, 1) := by decide +kernel
theorem dX12_lineEnds_67 : decode cX12_lineEnds 67 = .ok (.iaload, 1) := by decide +kernel
theorem dX12_lineEnds_68 : decode cX12_lineEnds 68 = .ok (.iconst 2, 1) := by decide +kernel
theorem dX12_lineEnds_69 : decode cX12_lineEnds 69 = .ok (.iadd, 1) := by decide +kernel
theorem dX12_lineEnds_70 : decode cX12_lineEnds 70 = .ok (.iastore, 1) := by decide +kernel
theorem dX12_lineEnds_71 : decode cX12_lineEnds 71 = .ok (.return_, 1) := by decide +kernel
theorem dX12_rowOfSegments_0 : decode cX12_rowOfSegments 0 = .ok (.iconst 0, 1) := by decide +kernel
theorem dX12_rowOfSegments_1 : decode cX12_rowOfSegments 1 = .ok (.istore 5, 2) := by decide +kernel
theorem dX12_rowOfSegments_3 : decode cX12_rowOfSegments 3 = .ok (.iload 5, 2) := by decide +kernel
theorem dX12_rowOfSegments_5 : decode cX12_rowOfSegments 5 = .ok (.iconst 1, 1) := by decide +kernel
theorem dX12_rowOfSegments_6 : decode cX12_rowOfSegments 6 = .ok (.iadd, 1) := by decide +kernel
theorem dX12_rowOfSegments_7 : decode cX12_rowOfSegments 7 = .ok (.iload_n 3, 1) := by decide +kernel
theorem dX12_rowOfSegments_8 : decode cX12_rowOfSegments 8 = .ok (.if_icmp .ge 44, 3) := by decide +kernel
theorem dX12_rowOfSegments_11 : decode cX12_rowOfSegments 11 = .ok (.aload_n 0, 1) := by decide +kernel
theorem dX12_rowOfSegments_12 : decode cX12_rowOfSegments 12 = .ok (.iload_n 2, 1) := by decide +kernel
theorem dX12_rowOfSegments_13 : decode cX12_rowOfSegments 13 = .ok (.iload 5, 2) := by decide +kernel
theorem dX12_rowOfSegments_15 : decode cX12_rowOfSegments 15 = .ok (.iadd, 1) := by decide +kernel
theorem dX12_rowOfSegments_16 : decode cX12_rowOfSegments 16 = .ok (.iload_n 2, 1) := by decide +kernel
theorem dX12_rowOfSegments_17 : decode cX12_rowOfSegments 17 = .ok (.iload 5, 2) := by decide +kernel
theorem dX12_rowOfSegments_19 : decode cX12_rowOfSegments 19 = .ok (.iadd, 1) := by decide +kernel
theorem dX12_rowOfSegments_20 : decode cX12_rowOfSegments 20 = .ok (.iconst 1, 1) := by decide +kernel
theorem dX12_rowOfSegments_21 : decode cX12_rowOfSegments 21 = .ok (.iadd, 1) := by decide +kernel
theorem dX12_rowOfSegments_22 : decode cX12_rowOfSegments 22 = .ok (.invokevirtual 688, 3) := by decide +kernel
theorem dX12_rowOfSegments_25 : decode cX12_rowOfSegments 25 = .ok (.ifCond .ne 21, 3) := by decide +kernel
theorem dX12_rowOfSegments_28 : decode cX12_rowOfSegments 28 = .ok (.aload_n 0, 1) := by decide +kernel
theorem dX12_rowOfSegments_29 : decode cX12_rowOfSegments 29 = .ok (.iload_n 2, 1) := by decide +kernel
theorem dX12_rowOfSegments_30 : decode cX12_rowOfSegments 30 = .ok (.iload 5, 2) := by decide +kernel
theorem dX12_rowOfSegments_32 : decode cX12_rowOfSegments 32 = .ok (.iadd, 1) := by decide +kernel
theorem dX12_rowOfSegments_33 : decode cX12_rowOfSegments 33 = .ok (.iload_n 2, 1) := by decide +kernel
theorem dX12_rowOfSegments_34 : decode cX12_rowOfSegments 34 = .ok (.iload 5, 2) := by decide +kernel
theorem dX12_rowOfSegments_36 : decode cX12_rowOfSegments 36 = .ok (.iadd, 1) := by decide +kernel
theorem dX12_rowOfSegments_37 : decode cX12_rowOfSegments 37 = .ok (.iconst 1, 1) := by decide +kernel
theorem dX12_rowOfSegments_38 : decode cX12_rowOfSegments 38 = .ok (.iadd, 1) := by decide +kernel
theorem dX12_rowOfSegments_39 : decode cX12_rowOfSegments 39 = .ok (.iconst 0, 1) := by decide +kernel
theorem dX12_rowOfSegments_40 : decode cX12_rowOfSegments 40 = .ok (.iload 5, 2) := by decide +kernel
theorem dX12_rowOfSegments_42 : decode cX12_rowOfSegments 42 = .ok (.iload_n 1, 1) := by decide +kernel
theorem dX12_rowOfSegments_43 : decode cX12_rowOfSegments 43 = .ok (.invokevirtual 684, 3) := by decide +kernel
theorem dX12_rowOfSegments_46 : decode cX12_rowOfSegments 46 = .ok (.iinc 5 1, 3) := by decide +kernel
theorem dX12_rowOfSegments_49 : decode cX12_rowOfSegments 49 = .ok (.goto (-46), 3) := by decide +kernel
theorem dX12_rowOfSegments_52 : decode cX12_rowOfSegments 52 = .ok (.iload 4, 2) := by decide +kernel
theorem dX12_rowOfSegments_54 : decode cX12_rowOfSegments 54 = .ok (.ifCond .eq 35, 3) := by decide +kernel
theorem dX12_rowOfSegments_57 : decode cX12_rowOfSegments 57 = .ok (.iload_n 3, 1) := by decide +kernel
theorem dX12_rowOfSegments_58 : decode cX12_rowOfSegments 58 = .ok (.ifCond .le 31, 3) := by decide +kernel
theorem dX12_rowOfSegments_61 : decode cX12_rowOfSegments 61 = .ok (.aload_n 0, 1) := by decide +kernel
theorem dX12_rowOfSegments_62 : decode cX12_rowOfSegments 62 = .ok (.iload_n 2, 1) := by decide +kernel
theorem dX12_rowOfSegments_63 : decode cX12_rowOfSegments 63 = .ok (.iload_n 2, 1) := by decide +kernel
theorem dX12_rowOfSegments_64 : decode cX12_rowOfSegments 64 = .ok (.iload_n 3, 1) := by decide +kernel
theorem dX12_rowOfSegments_65 : decode cX12_rowOfSegments 65 = .ok (.iadd, 1) := by decide +kernel
theorem dX12_rowOfSegments_66 : decode cX12_rowOfSegments 66 = .ok (.iconst 1, 1) := by decide +kernel
theorem dX12_rowOfSegments_67 : decode cX12_rowOfSegments 67 = .ok (.isub, 1) := by decide +kernel
theorem dX12_rowOfSegments_68 : decode cX12_rowOfSegments 68 = .ok (.invokevirtual 688, 3) := by decide +kernel
theorem dX12_rowOfSegments_71 : decode cX12_rowOfSegments 71 = .ok (.ifCond .ne 18, 3) := by decide +kernel
theorem dX12_rowOfSegments_74 : decode cX12_rowOfSegments 74 = .ok (.aload_n 0, 1) := by decide +kernel
theorem dX12_rowOfSegments_75 : decode cX12_rowOfSegments 75 = .ok (.iload_n 2, 1) := by decide +kernel
theorem dX12_rowOfSegments_76 : decode cX12_rowOfSegments 76 = .ok (.iload_n 3, 1) := by decide +kernel
theorem dX12_rowOfSegments_77 : decode cX12_rowOfSegments 77 = .ok (.iadd, 1) := by decide +kernel
theorem dX12_rowOfSegments_78 : decode cX12_rowOfSegments 78 = .ok (.iconst 1, 1) := by decide +kernel
theorem dX12_rowOfSegments_79 : decode cX12_rowOfSegments 79 = .ok (.isub, 1) := by decide +kernel
theorem dX12_rowOfSegments_80 : decode cX12_rowOfSegments 80 = .ok (.iload_n 2, 1) := by decide +kernel
theorem dX12_rowOfSegments_81 : decode cX12_rowOfSegments 81 = .ok (.iconst 0, 1) := by decide +kernel
theorem dX12_rowOfSegments_82 : decode cX12_rowOfSegments 82 = .ok (.iload_n 3, 1) := by decide +kernel
theorem dX12_rowOfSegments_83 : decode cX12_rowOfSegments 83 = .ok (.iconst 1, 1) := by decide +kernel
theorem dX12_rowOfSegments_84 : decode cX12_rowOfSegments 84 = .ok (.isub, 1) := by decide +kernel
theorem dX12_rowOfSegments_85 : decode cX12_rowOfSegments 85 = .ok (.iload_n 1, 1) := by decide +kernel
theorem dX12_rowOfSegments_86 : decode cX12_rowOfSegments 86 = .ok (.invokevirtual 684, 3) := by decide +kernel
theorem dX12_rowOfSegments_89 : decode cX12_rowOfSegments 89 = .ok (.return_, 1) := by decide +kernel
