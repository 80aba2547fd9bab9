theorem dX9_roundedFrom_0 : decode cX9_roundedFrom 0 = .ok (.iload_n 2, 1) := by decide +kernel
theorem dX9_roundedFrom_1 : decode cX9_roundedFrom 1 = .ok (.iload 4, 2) := by decide +kernel
theorem dX9_roundedFrom_3 : decode cX9_roundedFrom 3 = .ok (.iadd, 1) := by decide +kernel
theorem dX9_roundedFrom_4 : decode cX9_roundedFrom 4 = .ok (.istore 5, 2) := by decide +kernel
theorem dX9_roundedFrom_6 : decode cX9_roundedFrom 6 = .ok (.lconst 0, 1) := by decide +kernel
theorem dX9_roundedFrom_7 : decode cX9_roundedFrom 7 = .ok (.lstore 6, 2) := by decide +kernel
theorem dX9_roundedFrom_9 : decode cX9_roundedFrom 9 = .ok (.iconst 0, 1) := by decide +kernel
theorem dX9_roundedFrom_10 : decode cX9_roundedFrom 10 = .ok (.istore 8, 2) := by decide +kernel
theorem dX9_roundedFrom_12 : decode cX9_roundedFrom 12 = .ok (.iconst 0, 1) := by decide +kernel
theorem dX9_roundedFrom_13 : decode cX9_roundedFrom 13 = .ok (.istore 9, 2) := by decide +kernel
theorem dX9_roundedFrom_15 : decode cX9_roundedFrom 15 = .ok (.iconst 0, 1) := by decide +kernel
theorem dX9_roundedFrom_16 : decode cX9_roundedFrom 16 = .ok (.istore 10, 2) := by decide +kernel
theorem dX9_roundedFrom_18 : decode cX9_roundedFrom 18 = .ok (.iload 10, 2) := by decide +kernel
theorem dX9_roundedFrom_20 : decode cX9_roundedFrom 20 = .ok (.iload_n 2, 1) := by decide +kernel
theorem dX9_roundedFrom_21 : decode cX9_roundedFrom 21 = .ok (.iload_n 3, 1) := by decide +kernel
theorem dX9_roundedFrom_22 : decode cX9_roundedFrom 22 = .ok (.iadd, 1) := by decide +kernel
theorem dX9_roundedFrom_23 : decode cX9_roundedFrom 23 = .ok (.if_icmp .ge 87, 3) := by decide +kernel
theorem dX9_roundedFrom_26 : decode cX9_roundedFrom 26 = .ok (.aload_n 0, 1) := by decide +kernel
theorem dX9_roundedFrom_27 : decode cX9_roundedFrom 27 = .ok (.iload 10, 2) := by decide +kernel
theorem dX9_roundedFrom_29 : decode cX9_roundedFrom 29 = .ok (.iload_n 2, 1) := by decide +kernel
theorem dX9_roundedFrom_30 : decode cX9_roundedFrom 30 = .ok (.if_icmp .ge 10, 3) := by decide +kernel
theorem dX9_roundedFrom_33 : decode cX9_roundedFrom 33 = .ok (.iload_n 1, 1) := by decide +kernel
theorem dX9_roundedFrom_34 : decode cX9_roundedFrom 34 = .ok (.iload 10, 2) := by decide +kernel
theorem dX9_roundedFrom_36 : decode cX9_roundedFrom 36 = .ok (.iadd, 1) := by decide +kernel
theorem dX9_roundedFrom_37 : decode cX9_roundedFrom 37 = .ok (.goto 9, 3) := by decide +kernel
theorem dX9_roundedFrom_40 : decode cX9_roundedFrom 40 = .ok (.iload_n 1, 1) := by decide +kernel
theorem dX9_roundedFrom_41 : decode cX9_roundedFrom 41 = .ok (.iload 10, 2) := by decide +kernel
theorem dX9_roundedFrom_43 : decode cX9_roundedFrom 43 = .ok (.iadd, 1) := by decide +kernel
theorem dX9_roundedFrom_44 : decode cX9_roundedFrom 44 = .ok (.iconst 1, 1) := by decide +kernel
theorem dX9_roundedFrom_45 : decode cX9_roundedFrom 45 = .ok (.iadd, 1) := by decide +kernel
theorem dX9_roundedFrom_46 : decode cX9_roundedFrom 46 = .ok (.invokevirtual 76, 3) := by decide +kernel
theorem dX9_roundedFrom_49 : decode cX9_roundedFrom 49 = .ok (.bipush 48, 2) := by decide +kernel
theorem dX9_roundedFrom_51 : decode cX9_roundedFrom 51 = .ok (.isub, 1) := by decide +kernel
theorem dX9_roundedFrom_52 : decode cX9_roundedFrom 52 = .ok (.istore 11, 2) := by decide +kernel
theorem dX9_roundedFrom_54 : decode cX9_roundedFrom 54 = .ok (.iload 10, 2) := by decide +kernel
theorem dX9_roundedFrom_56 : decode cX9_roundedFrom 56 = .ok (.iload 5, 2) := by decide +kernel
theorem dX9_roundedFrom_58 : decode cX9_roundedFrom 58 = .ok (.if_icmp .ge 24, 3) := by decide +kernel
theorem dX9_roundedFrom_61 : decode cX9_roundedFrom 61 = .ok (.lload 6, 2) := by decide +kernel
theorem dX9_roundedFrom_63 : decode cX9_roundedFrom 63 = .ok (.ldc2_w 178, 3) := by decide +kernel
theorem dX9_roundedFrom_66 : decode cX9_roundedFrom 66 = .ok (.lmul, 1) := by decide +kernel
theorem dX9_roundedFrom_67 : decode cX9_roundedFrom 67 = .ok (.iload 11, 2) := by decide +kernel
theorem dX9_roundedFrom_69 : decode cX9_roundedFrom 69 = .ok (.i2l, 1) := by decide +kernel
theorem dX9_roundedFrom_70 : decode cX9_roundedFrom 70 = .ok (.ladd, 1) := by decide +kernel
theorem dX9_roundedFrom_71 : decode cX9_roundedFrom 71 = .ok (.ldc2_w 180, 3) := by decide +kernel
theorem dX9_roundedFrom_74 : decode cX9_roundedFrom 74 = .ok (.invokestatic 182, 3) := by decide +kernel
theorem dX9_roundedFrom_77 : decode cX9_roundedFrom 77 = .ok (.lstore 6, 2) := by decide +kernel
theorem dX9_roundedFrom_79 : decode cX9_roundedFrom 79 = .ok (.goto 25, 3) := by decide +kernel
theorem dX9_roundedFrom_82 : decode cX9_roundedFrom 82 = .ok (.iload 10, 2) := by decide +kernel
theorem dX9_roundedFrom_84 : decode cX9_roundedFrom 84 = .ok (.iload 5, 2) := by decide +kernel
theorem dX9_roundedFrom_86 : decode cX9_roundedFrom 86 = .ok (.if_icmp .ne 10, 3) := by decide +kernel
theorem dX9_roundedFrom_89 : decode cX9_roundedFrom 89 = .ok (.iload 11, 2) := by decide +kernel
theorem dX9_roundedFrom_91 : decode cX9_roundedFrom 91 = .ok (.istore 8, 2) := by decide +kernel
theorem dX9_roundedFrom_93 : decode cX9_roundedFrom 93 = .ok (.goto 11, 3) := by decide +kernel
theorem dX9_roundedFrom_96 : decode cX9_roundedFrom 96 = .ok (.iload 11, 2) := by decide +kernel
theorem dX9_roundedFrom_98 : decode cX9_roundedFrom 98 = .ok (.ifCond .eq 6, 3) := by decide +kernel
theorem dX9_roundedFrom_101 : decode cX9_roundedFrom 101 = .ok (.iconst 1, 1) := by decide +kernel
theorem dX9_roundedFrom_102 : decode cX9_roundedFrom 102 = .ok (.istore 9, 2) := by decide +kernel
theorem dX9_roundedFrom_104 : decode cX9_roundedFrom 104 = .ok (.iinc 10 1, 3) := by decide +kernel
theorem dX9_roundedFrom_107 : decode cX9_roundedFrom 107 = .ok (.goto (-89), 3) := by decide +kernel
theorem dX9_roundedFrom_110 : decode cX9_roundedFrom 110 = .ok (.iload_n 2, 1) := by decide +kernel
theorem dX9_roundedFrom_111 : decode cX9_roundedFrom 111 = .ok (.iload_n 3, 1) := by decide +kernel
theorem dX9_roundedFrom_112 : decode cX9_roundedFrom 112 = .ok (.iadd, 1) := by decide +kernel
theorem dX9_roundedFrom_113 : decode cX9_roundedFrom 113 = .ok (.istore 10, 2) := by decide +kernel
theorem dX9_roundedFrom_115 : decode cX9_roundedFrom 115 = .ok (.iload 10, 2) := by decide +kernel
theorem dX9_roundedFrom_117 : decode cX9_roundedFrom 117 = .ok (.iload 5, 2) := by decide +kernel
theorem dX9_roundedFrom_119 : decode cX9_roundedFrom 119 = .ok (.if_icmp .ge 39, 3) := by decide +kernel
theorem dX9_roundedFrom_122 : decode cX9_roundedFrom 122 = .ok (.lload 6, 2) := by decide +kernel
theorem dX9_roundedFrom_124 : decode cX9_roundedFrom 124 = .ok (.lconst 0, 1) := by decide +kernel
theorem dX9_roundedFrom_125 : decode cX9_roundedFrom 125 = .ok (.lcmp, 1) := by decide +kernel
theorem dX9_roundedFrom_126 : decode cX9_roundedFrom 126 = .ok (.ifCond .le 32, 3) := by decide +kernel
theorem dX9_roundedFrom_129 : decode cX9_roundedFrom 129 = .ok (.lload 6, 2) := by decide +kernel
theorem dX9_roundedFrom_131 : decode cX9_roundedFrom 131 = .ok (.ldc2_w 180, 3) := by decide +kernel
theorem dX9_roundedFrom_134 : decode cX9_roundedFrom 134 = .ok (.lcmp, 1) := by decide +kernel
theorem dX9_roundedFrom_135 : decode cX9_roundedFrom 135 = .ok (.ifCond .ge 23, 3) := by decide +kernel
theorem dX9_roundedFrom_138 : decode cX9_roundedFrom 138 = .ok (.lload 6, 2) := by decide +kernel
theorem dX9_roundedFrom_140 : decode cX9_roundedFrom 140 = .ok (.ldc2_w 178, 3) := by decide +kernel
theorem dX9_roundedFrom_143 : decode cX9_roundedFrom 143 = .ok (.lmul, 1) := by decide +kernel
theorem dX9_roundedFrom_144 : decode cX9_roundedFrom 144 = .ok (.ldc2_w 180, 3) := by decide +kernel
theorem dX9_roundedFrom_147 : decode cX9_roundedFrom 147 = .ok (.invokestatic 182, 3) := by decide +kernel
theorem dX9_roundedFrom_150 : decode cX9_roundedFrom 150 = .ok (.lstore 6, 2) := by decide +kernel
theorem dX9_roundedFrom_152 : decode cX9_roundedFrom 152 = .ok (.iinc 10 1, 3) := by decide +kernel
theorem dX9_roundedFrom_155 : decode cX9_roundedFrom 155 = .ok (.goto (-40), 3) := by decide +kernel
theorem dX9_roundedFrom_158 : decode cX9_roundedFrom 158 = .ok (.iload 8, 2) := by decide +kernel
theorem dX9_roundedFrom_160 : decode cX9_roundedFrom 160 = .ok (.iconst 5, 1) := by decide +kernel
theorem dX9_roundedFrom_161 : decode cX9_roundedFrom 161 = .ok (.if_icmp .gt 23, 3) := by decide +kernel
theorem dX9_roundedFrom_164 : decode cX9_roundedFrom 164 = .ok (.iload 8, 2) := by decide +kernel
theorem dX9_roundedFrom_166 : decode cX9_roundedFrom 166 = .ok (.iconst 5, 1) := by decide +kernel
theorem dX9_roundedFrom_167 : decode cX9_roundedFrom 167 = .ok (.if_icmp .ne 21, 3) := by decide +kernel
theorem dX9_roundedFrom_170 : decode cX9_roundedFrom 170 = .ok (.iload 9, 2) := by decide +kernel
theorem dX9_roundedFrom_172 : decode cX9_roundedFrom 172 = .ok (.ifCond .ne 12, 3) := by decide +kernel
theorem dX9_roundedFrom_175 : decode cX9_roundedFrom 175 = .ok (.lload 6, 2) := by decide +kernel
theorem dX9_roundedFrom_177 : decode cX9_roundedFrom 177 = .ok (.lconst 1, 1) := by decide +kernel
theorem dX9_roundedFrom_178 : decode cX9_roundedFrom 178 = .ok (.land, 1) := by decide +kernel
theorem dX9_roundedFrom_179 : decode cX9_roundedFrom 179 = .ok (.lconst 1, 1) := by decide +kernel
theorem dX9_roundedFrom_180 : decode cX9_roundedFrom 180 = .ok (.lcmp, 1) := by decide +kernel
theorem dX9_roundedFrom_181 : decode cX9_roundedFrom 181 = .ok (.ifCond .ne 7, 3) := by decide +kernel
theorem dX9_roundedFrom_184 : decode cX9_roundedFrom 184 = .ok (.iconst 1, 1) := by decide +kernel
theorem dX9_roundedFrom_185 : decode cX9_roundedFrom 185 = .ok (.goto 4, 3) := by decide +kernel
theorem dX9_roundedFrom_188 : decode cX9_roundedFrom 188 = .ok (.iconst 0, 1) := by decide +kernel
theorem dX9_roundedFrom_189 : decode cX9_roundedFrom 189 = .ok (.istore 10, 2) := by decide +kernel
theorem dX9_roundedFrom_191 : decode cX9_roundedFrom 191 = .ok (.iload 10, 2) := by decide +kernel
theorem dX9_roundedFrom_193 : decode cX9_roundedFrom 193 = .ok (.ifCond .eq 10, 3) := by decide +kernel
theorem dX9_roundedFrom_196 : decode cX9_roundedFrom 196 = .ok (.lload 6, 2) := by decide +kernel
theorem dX9_roundedFrom_198 : decode cX9_roundedFrom 198 = .ok (.lconst 1, 1) := by decide +kernel
theorem dX9_roundedFrom_199 : decode cX9_roundedFrom 199 = .ok (.ladd, 1) := by decide +kernel
theorem dX9_roundedFrom_200 : decode cX9_roundedFrom 200 = .ok (.goto 5, 3) := by decide +kernel
theorem dX9_roundedFrom_203 : decode cX9_roundedFrom 203 = .ok (.lload 6, 2) := by decide +kernel
theorem dX9_roundedFrom_205 : decode cX9_roundedFrom 205 = .ok (.lreturn, 1) := by decide +kernel
theorem dX0_readInto_0 : decode cX0_readInto 0 = .ok (.aload_n 0, 1) := by decide +kernel
theorem dX0_readInto_1 : decode cX0_readInto 1 = .ok (.aload_n 1, 1) := by decide +kernel
theorem dX0_readInto_2 : decode cX0_readInto 2 = .ok (.putfield 27, 3) := by decide +kernel
theorem dX0_readInto_5 : decode cX0_readInto 5 = .ok (.aload_n 0, 1) := by decide +kernel
theorem dX0_readInto_6 : decode cX0_readInto 6 = .ok (.getfield 27, 3) := by decide +kernel
theorem dX0_readInto_9 : decode cX0_readInto 9 = .ok (.invokevirtual 31, 3) := by decide +kernel
theorem dX0_readInto_12 : decode cX0_readInto 12 = .ok (.aload_n 0, 1) := by decide +kernel
theorem dX0_readInto_13 : decode cX0_readInto 13 = .ok (.iload_n 2, 1) := by decide +kernel
theorem dX0_readInto_14 : decode cX0_readInto 14 = .ok (.aload_n 0, 1) := by decide +kernel
theorem dX0_readInto_15 : decode cX0_readInto 15 = .ok (.getfield 23, 3) := by decide +kernel
theorem dX0_readInto_18 : decode cX0_readInto 18 = .ok (.arraylength, 1) := by decide +kernel
theorem dX0_readInto_19 : decode cX0_readInto 19 = .ok (.invokestatic 36, 3) := by decide +kernel
theorem dX0_readInto_22 : decode cX0_readInto 22 = .ok (.putfield 42, 3) := by decide +kernel
theorem dX0_readInto_25 : decode cX0_readInto 25 = .ok (.aload_n 0, 1) := by decide +kernel
theorem dX0_readInto_26 : decode cX0_readInto 26 = .ok (.iconst 0, 1) := by decide +kernel
theorem dX0_readInto_27 : decode cX0_readInto 27 = .ok (.putfield 45, 3) := by decide +kernel
theorem dX0_readInto_30 : decode cX0_readInto 30 = .ok (.aload_n 0, 1) := by decide +kernel
theorem dX0_readInto_31 : decode cX0_readInto 31 = .ok (.iconst 0, 1) := by decide +kernel
theorem dX0_readInto_32 : decode cX0_readInto 32 = .ok (.putfield 48, 3) := by decide +kernel
theorem dX0_readInto_35 : decode cX0_readInto 35 = .ok (.aload_n 0, 1) := by decide +kernel
theorem dX0_readInto_36 : decode cX0_readInto 36 = .ok (.iconst 0, 1) := by decide +kernel
theorem dX0_readInto_37 : decode cX0_readInto 37 = .ok (.putfield 51, 3) := by decide +kernel
theorem dX0_readInto_40 : decode cX0_readInto 40 = .ok (.aload_n 0, 1) := by decide +kernel
theorem dX0_readInto_41 : decode cX0_readInto 41 = .ok (.iconst 0, 1) := by decide +kernel
theorem dX0_readInto_42 : decode cX0_readInto 42 = .ok (.putfield 54, 3) := by decide +kernel
theorem dX0_readInto_45 : decode cX0_readInto 45 = .ok (.aload_n 0, 1) := by decide +kernel
theorem dX0_readInto_46 : decode cX0_readInto 46 = .ok (.iconst 0, 1) := by decide +kernel
theorem dX0_readInto_47 : decode cX0_readInto 47 = .ok (.putfield 57, 3) := by decide +kernel
theorem dX0_readInto_50 : decode cX0_readInto 50 = .ok (.aload_n 0, 1) := by decide +kernel
theorem dX0_readInto_51 : decode cX0_readInto 51 = .ok (.iconst 0, 1) := by decide +kernel
theorem dX0_readInto_52 : decode cX0_readInto 52 = .ok (.invokevirtual 60, 3) := by decide +kernel
theorem dX0_readInto_55 : decode cX0_readInto 55 = .ok (.istore_n 3, 1) := by decide +kernel
theorem dX0_readInto_56 : decode cX0_readInto 56 = .ok (.iconst 0, 1) := by decide +kernel
theorem dX0_readInto_57 : decode cX0_readInto 57 = .ok (.istore 4, 2) := by decide +kernel
theorem dX0_readInto_59 : decode cX0_readInto 59 = .ok (.iload_n 3, 1) := by decide +kernel
theorem dX0_readInto_60 : decode cX0_readInto 60 = .ok (.ifCond .eq 72, 3) := by decide +kernel
theorem dX0_readInto_63 : decode cX0_readInto 63 = .ok (.iload 4, 2) := by decide +kernel
theorem dX0_readInto_65 : decode cX0_readInto 65 = .ok (.sipush 2048, 3) := by decide +kernel
theorem dX0_readInto_68 : decode cX0_readInto 68 = .ok (.if_icmp .gt 64, 3) := by decide +kernel
theorem dX0_readInto_71 : decode cX0_readInto 71 = .ok (.aload_n 0, 1) := by decide +kernel
theorem dX0_readInto_72 : decode cX0_readInto 72 = .ok (.invokevirtual 64, 3) := by decide +kernel
theorem dX0_readInto_75 : decode cX0_readInto 75 = .ok (.ifCond .eq 57, 3) := by decide +kernel
theorem dX0_readInto_78 : decode cX0_readInto 78 = .ok (.aload_n 0, 1) := by decide +kernel
theorem dX0_readInto_79 : decode cX0_readInto 79 = .ok (.getfield 11, 3) := by decide +kernel
theorem dX0_readInto_82 : decode cX0_readInto 82 = .ok (.aload_n 0, 1) := by decide +kernel
theorem dX0_readInto_83 : decode cX0_readInto 83 = .ok (.getfield 48, 3) := by decide +kernel
theorem dX0_readInto_86 : decode cX0_readInto 86 = .ok (.iconst 1, 1) := by decide +kernel
theorem dX0_readInto_87 : decode cX0_readInto 87 = .ok (.isub, 1) := by decide +kernel
theorem dX0_readInto_88 : decode cX0_readInto 88 = .ok (.dup2, 1) := by decide +kernel
theorem dX0_readInto_89 : decode cX0_readInto 89 = .ok (.laload, 1) := by decide +kernel
theorem dX0_readInto_90 : decode cX0_readInto 90 = .ok (.lconst 1, 1) := by decide +kernel
theorem dX0_readInto_91 : decode cX0_readInto 91 = .ok (.lsub, 1) := by decide +kernel
theorem dX0_readInto_92 : decode cX0_readInto 92 = .ok (.lastore, 1) := by decide +kernel
theorem dX0_readInto_93 : decode cX0_readInto 93 = .ok (.aload_n 0, 1) := by decide +kernel
theorem dX0_readInto_94 : decode cX0_readInto 94 = .ok (.getfield 15, 3) := by decide +kernel
theorem dX0_readInto_97 : decode cX0_readInto 97 = .ok (.aload_n 0, 1) := by decide +kernel
theorem dX0_readInto_98 : decode cX0_readInto 98 = .ok (.getfield 48, 3) := by decide +kernel
theorem dX0_readInto_101 : decode cX0_readInto 101 = .ok (.iconst 1, 1) := by decide +kernel
theorem dX0_readInto_102 : decode cX0_readInto 102 = .ok (.isub, 1) := by decide +kernel
theorem dX0_readInto_103 : decode cX0_readInto 103 = .ok (.iaload, 1) := by decide +kernel
theorem dX0_readInto_104 : decode cX0_readInto 104 = .ok (.istore 5, 2) := by decide +kernel
theorem dX0_readInto_106 : decode cX0_readInto 106 = .ok (.aload_n 0, 1) := by decide +kernel
theorem dX0_readInto_107 : decode cX0_readInto 107 = .ok (.iload 5, 2) := by decide +kernel
theorem dX0_readInto_109 : decode cX0_readInto 109 = .ok (.bipush 7, 2) := by decide +kernel
theorem dX0_readInto_111 : decode cX0_readInto 111 = .ok (.if_icmp .ne 7, 3) := by decide +kernel
theorem dX0_readInto_114 : decode cX0_readInto 114 = .ok (.iconst 0, 1) := by decide +kernel
theorem dX0_readInto_115 : decode cX0_readInto 115 = .ok (.goto 7, 3) := by decide +kernel
theorem dX0_readInto_118 : decode cX0_readInto 118 = .ok (.iload 5, 2) := by decide +kernel
theorem dX0_readInto_120 : decode cX0_readInto 120 = .ok (.iconst 3, 1) := by decide +kernel
theorem dX0_readInto_121 : decode cX0_readInto 121 = .ok (.isub, 1) := by decide +kernel
theorem dX0_readInto_122 : decode cX0_readInto 122 = .ok (.invokevirtual 60, 3) := by decide +kernel
theorem dX0_readInto_125 : decode cX0_readInto 125 = .ok (.istore_n 3, 1) := by decide +kernel
theorem dX0_readInto_126 : decode cX0_readInto 126 = .ok (.iinc 4 1, 3) := by decide +kernel
theorem dX0_readInto_129 : decode cX0_readInto 129 = .ok (.goto (-70), 3) := by decide +kernel
theorem dX0_readInto_132 : decode cX0_readInto 132 = .ok (.iload_n 3, 1) := by decide +kernel
theorem dX0_readInto_133 : decode cX0_readInto 133 = .ok (.ifCond .eq 27, 3) := by decide +kernel
theorem dX0_readInto_136 : decode cX0_readInto 136 = .ok (.aload_n 0, 1) := by decide +kernel
theorem dX0_readInto_137 : decode cX0_readInto 137 = .ok (.getfield 45, 3) := by decide +kernel
theorem dX0_readInto_140 : decode cX0_readInto 140 = .ok (.aload_n 0, 1) := by decide +kernel
theorem dX0_readInto_141 : decode cX0_readInto 141 = .ok (.getfield 42, 3) := by decide +kernel
theorem dX0_readInto_144 : decode cX0_readInto 144 = .ok (.if_icmp .ge 12, 3) := by decide +kernel
theorem dX0_readInto_147 : decode cX0_readInto 147 = .ok (.aload_n 0, 1) := by decide +kernel
theorem dX0_readInto_148 : decode cX0_readInto 148 = .ok (.bipush 8, 2) := by decide +kernel
theorem dX0_readInto_150 : decode cX0_readInto 150 = .ok (.invokevirtual 68, 3) := by decide +kernel
theorem dX0_readInto_153 : decode cX0_readInto 153 = .ok (.ifCond .eq 7, 3) := by decide +kernel
theorem dX0_readInto_156 : decode cX0_readInto 156 = .ok (.iconst 1, 1) := by decide +kernel
theorem dX0_readInto_157 : decode cX0_readInto 157 = .ok (.goto 4, 3) := by decide +kernel
theorem dX0_readInto_160 : decode cX0_readInto 160 = .ok (.iconst 0, 1) := by decide +kernel
theorem dX0_readInto_161 : decode cX0_readInto 161 = .ok (.ireturn, 1) := by decide +kernel
theorem dX0_isPartLeft_0 : decode cX0_isPartLeft 0 = .ok (.aload_n 0, 1) := by decide +kernel
theorem dX0_isPartLeft_1 : decode cX0_isPartLeft 1 = .ok (.getfield 48, 3) := by decide +kernel
theorem dX0_isPartLeft_4 : decode cX0_isPartLeft 4 = .ok (.ifCond .le 56, 3) := by decide +kernel
theorem dX0_isPartLeft_7 : decode cX0_isPartLeft 7 = .ok (.aload_n 0, 1) := by decide +kernel
theorem dX0_isPartLeft_8 : decode cX0_isPartLeft 8 = .ok (.getfield 11, 3) := by decide +kernel
theorem dX0_isPartLeft_11 : decode cX0_isPartLeft 11 = .ok (.aload_n 0, 1) := by decide +kernel
theorem dX0_isPartLeft_12 : decode cX0_isPartLeft 12 = .ok (.getfield 48, 3) := by decide +kernel
theorem dX0_isPartLeft_15 : decode cX0_isPartLeft 15 = .ok (.iconst 1, 1) := by decide +kernel
theorem dX0_isPartLeft_16 : decode cX0_isPartLeft 16 = .ok (.isub, 1) := by decide +kernel
theorem dX0_isPartLeft_17 : decode cX0_isPartLeft 17 = .ok (.laload, 1) := by decide +kernel
theorem dX0_isPartLeft_18 : decode cX0_isPartLeft 18 = .ok (.lconst 0, 1) := by decide +kernel
theorem dX0_isPartLeft_19 : decode cX0_isPartLeft 19 = .ok (.lcmp, 1) := by decide +kernel
theorem dX0_isPartLeft_20 : decode cX0_isPartLeft 20 = .ok (.ifCond .gt 40, 3) := by decide +kernel
theorem dX0_isPartLeft_23 : decode cX0_isPartLeft 23 = .ok (.aload_n 0, 1) := by decide +kernel
theorem dX0_isPartLeft_24 : decode cX0_isPartLeft 24 = .ok (.dup, 1) := by decide +kernel
theorem dX0_isPartLeft_25 : decode cX0_isPartLeft 25 = .ok (.getfield 48, 3) := by decide +kernel
theorem dX0_isPartLeft_28 : decode cX0_isPartLeft 28 = .ok (.iconst 1, 1) := by decide +kernel
theorem dX0_isPartLeft_29 : decode cX0_isPartLeft 29 = .ok (.isub, 1) := by decide +kernel
theorem dX0_isPartLeft_30 : decode cX0_isPartLeft 30 = .ok (.putfield 48, 3) := by decide +kernel
theorem dX0_isPartLeft_33 : decode cX0_isPartLeft 33 = .ok (.aload_n 0, 1) := by decide +kernel
theorem dX0_isPartLeft_34 : decode cX0_isPartLeft 34 = .ok (.getfield 15, 3) := by decide +kernel
theorem dX0_isPartLeft_37 : decode cX0_isPartLeft 37 = .ok (.aload_n 0, 1) := by decide +kernel
theorem dX0_isPartLeft_38 : decode cX0_isPartLeft 38 = .ok (.getfield 48, 3) := by decide +kernel
theorem dX0_isPartLeft_41 : decode cX0_isPartLeft 41 = .ok (.iaload, 1) := by decide +kernel
theorem dX0_isPartLeft_42 : decode cX0_isPartLeft 42 = .ok (.bipush 7, 2) := by decide +kernel
theorem dX0_isPartLeft_44 : decode cX0_isPartLeft 44 = .ok (.if_icmp .ne (-44), 3) := by decide +kernel
theorem dX0_isPartLeft_47 : decode cX0_isPartLeft 47 = .ok (.aload_n 0, 1) := by decide +kernel
theorem dX0_isPartLeft_48 : decode cX0_isPartLeft 48 = .ok (.dup, 1) := by decide +kernel
theorem dX0_isPartLeft_49 : decode cX0_isPartLeft 49 = .ok (.getfield 51, 3) := by decide +kernel
theorem dX0_isPartLeft_52 : decode cX0_isPartLeft 52 = .ok (.iconst 1, 1) := by decide +kernel
theorem dX0_isPartLeft_53 : decode cX0_isPartLeft 53 = .ok (.isub, 1) := by decide +kernel
theorem dX0_isPartLeft_54 : decode cX0_isPartLeft 54 = .ok (.putfield 51, 3) := by decide +kernel
theorem dX0_isPartLeft_57 : decode cX0_isPartLeft 57 = .ok (.goto (-57), 3) := by decide +kernel
theorem dX0_isPartLeft_60 : decode cX0_isPartLeft 60 = .ok (.aload_n 0, 1) := by decide +kernel
theorem dX0_isPartLeft_61 : decode cX0_isPartLeft 61 = .ok (.getfield 48, 3) := by decide +kernel
theorem dX0_isPartLeft_64 : decode cX0_isPartLeft 64 = .ok (.ifCond .le 7, 3) := by decide +kernel
theorem dX0_isPartLeft_67 : decode cX0_isPartLeft 67 = .ok (.iconst 1, 1) := by decide +kernel
theorem dX0_isPartLeft_68 : decode cX0_isPartLeft 68 = .ok (.goto 4, 3) := by decide +kernel
theorem dX0_isPartLeft_71 : decode cX0_isPartLeft 71 = .ok (.iconst 0, 1) := by decide +kernel
theorem dX0_isPartLeft_72 : decode cX0_isPartLeft 72 = .ok (.ireturn, 1) := by decide +kernel
theorem dX0_fail_0 : decode cX0_fail 0 = .ok (.aload_n 0, 1) := by decide +kernel
theorem dX0_fail_1 : decode cX0_fail 1 = .ok (.iload_n 1, 1) := by decide +kernel
theorem dX0_fail_2 : decode cX0_fail 2 = .ok (.putfield 54, 3) := by decide +kernel
theorem dX0_fail_5 : decode cX0_fail 5 = .ok (.aload_n 0, 1) := by decide +kernel
theorem dX0_fail_6 : decode cX0_fail 6 = .ok (.aload_n 0, 1) := by decide +kernel
theorem dX0_fail_7 : decode cX0_fail 7 = .ok (.getfield 45, 3) := by decide +kernel
theorem dX0_fail_10 : decode cX0_fail 10 = .ok (.putfield 57, 3) := by decide +kernel
theorem dX0_fail_13 : decode cX0_fail 13 = .ok (.iconst 0, 1) := by decide +kernel
theorem dX0_fail_14 : decode cX0_fail 14 = .ok (.ireturn, 1) := by decide +kernel
theorem dX0_has_0 : decode cX0_has 0 = .ok (.aload_n 0, 1) := by decide +kernel
theorem dX0_has_1 : decode cX0_has 1 = .ok (.getfield 42, 3) := by decide +kernel
theorem dX0_has_4 : decode cX0_has 4 = .ok (.aload_n 0, 1) := by decide +kernel
theorem dX0_has_5 : decode cX0_has 5 = .ok (.getfield 45, 3) := by decide +kernel
theorem dX0_has_8 : decode cX0_has 8 = .ok (.isub, 1) := by decide +kernel
theorem dX0_has_9 : decode cX0_has 9 = .ok (.iload_n 1, 1) := by decide +kernel
theorem dX0_has_10 : decode cX0_has 10 = .ok (.if_icmp .lt 7, 3) := by decide +kernel
theorem dX0_has_13 : decode cX0_has 13 = .ok (.iconst 1, 1) := by decide +kernel
theorem dX0_has_14 : decode cX0_has 14 = .ok (.goto 4, 3) := by decide +kernel
theorem dX0_has_17 : decode cX0_has 17 = .ok (.iconst 0, 1) := by decide +kernel
theorem dX0_has_18 : decode cX0_has 18 = .ok (.ireturn, 1) := by decide +kernel
theorem dX0_numberAt_0 : decode cX0_numberAt 0 = .ok (.lconst 0, 1) := by decide +kernel
theorem dX0_numberAt_1 : decode cX0_numberAt 1 = .ok (.lstore_n 3, 1) := by decide +kernel
theorem dX0_numberAt_2 : decode cX0_numberAt 2 = .ok (.iconst 0, 1) := by decide +kernel
theorem dX0_numberAt_3 : decode cX0_numberAt 3 = .ok (.istore 5, 2) := by decide +kernel
theorem dX0_numberAt_5 : decode cX0_numberAt 5 = .ok (.iload 5, 2) := by decide +kernel
theorem dX0_numberAt_7 : decode cX0_numberAt 7 = .ok (.iload_n 2, 1) := by decide +kernel
theorem dX0_numberAt_8 : decode cX0_numberAt 8 = .ok (.if_icmp .ge 73, 3) := by decide +kernel
theorem dX0_numberAt_11 : decode cX0_numberAt 11 = .ok (.aload_n 0, 1) := by decide +kernel
theorem dX0_numberAt_12 : decode cX0_numberAt 12 = .ok (.getfield 71, 3) := by decide +kernel
theorem dX0_numberAt_15 : decode cX0_numberAt 15 = .ok (.ifCond .eq 14, 3) := by decide +kernel
theorem dX0_numberAt_18 : decode cX0_numberAt 18 = .ok (.iload_n 1, 1) := by decide +kernel
theorem dX0_numberAt_19 : decode cX0_numberAt 19 = .ok (.iload_n 2, 1) := by decide +kernel
theorem dX0_numberAt_20 : decode cX0_numberAt 20 = .ok (.iadd, 1) := by decide +kernel
theorem dX0_numberAt_21 : decode cX0_numberAt 21 = .ok (.iconst 1, 1) := by decide +kernel
theorem dX0_numberAt_22 : decode cX0_numberAt 22 = .ok (.isub, 1) := by decide +kernel
theorem dX0_numberAt_23 : decode cX0_numberAt 23 = .ok (.iload 5, 2) := by decide +kernel
theorem dX0_numberAt_25 : decode cX0_numberAt 25 = .ok (.isub, 1) := by decide +kernel
theorem dX0_numberAt_26 : decode cX0_numberAt 26 = .ok (.goto 7, 3) := by decide +kernel
theorem dX0_numberAt_29 : decode cX0_numberAt 29 = .ok (.iload_n 1, 1) := by decide +kernel
theorem dX0_numberAt_30 : decode cX0_numberAt 30 = .ok (.iload 5, 2) := by decide +kernel
theorem dX0_numberAt_32 : decode cX0_numberAt 32 = .ok (.iadd, 1) := by decide +kernel
theorem dX0_numberAt_33 : decode cX0_numberAt 33 = .ok (.istore 6, 2) := by decide +kernel
theorem dX0_numberAt_35 : decode cX0_numberAt 35 = .ok (.iload 6, 2) := by decide +kernel
theorem dX0_numberAt_37 : decode cX0_numberAt 37 = .ok (.ifCond .lt 26, 3) := by decide +kernel
theorem dX0_numberAt_40 : decode cX0_numberAt 40 = .ok (.iload 6, 2) := by decide +kernel
theorem dX0_numberAt_42 : decode cX0_numberAt 42 = .ok (.aload_n 0, 1) := by decide +kernel
theorem dX0_numberAt_43 : decode cX0_numberAt 43 = .ok (.getfield 42, 3) := by decide +kernel
theorem dX0_numberAt_46 : decode cX0_numberAt 46 = .ok (.if_icmp .ge 17, 3) := by decide +kernel
theorem dX0_numberAt_49 : decode cX0_numberAt 49 = .ok (.aload_n 0, 1) := by decide +kernel
theorem dX0_numberAt_50 : decode cX0_numberAt 50 = .ok (.getfield 23, 3) := by decide +kernel
theorem dX0_numberAt_53 : decode cX0_numberAt 53 = .ok (.iload 6, 2) := by decide +kernel
theorem dX0_numberAt_55 : decode cX0_numberAt 55 = .ok (.baload, 1) := by decide +kernel
theorem dX0_numberAt_56 : decode cX0_numberAt 56 = .ok (.sipush 255, 3) := by decide +kernel
theorem dX0_numberAt_59 : decode cX0_numberAt 59 = .ok (.iand, 1) := by decide +kernel
theorem dX0_numberAt_60 : decode cX0_numberAt 60 = .ok (.goto 4, 3) := by decide +kernel
theorem dX0_numberAt_63 : decode cX0_numberAt 63 = .ok (.iconst 0, 1) := by decide +kernel
theorem dX0_numberAt_64 : decode cX0_numberAt 64 = .ok (.istore 7, 2) := by decide +kernel
theorem dX0_numberAt_66 : decode cX0_numberAt 66 = .ok (.lload_n 3, 1) := by decide +kernel
theorem dX0_numberAt_67 : decode cX0_numberAt 67 = .ok (.bipush 8, 2) := by decide +kernel
theorem dX0_numberAt_69 : decode cX0_numberAt 69 = .ok (.lshl, 1) := by decide +kernel
theorem dX0_numberAt_70 : decode cX0_numberAt 70 = .ok (.iload 7, 2) := by decide +kernel
theorem dX0_numberAt_72 : decode cX0_numberAt 72 = .ok (.i2l, 1) := by decide +kernel
theorem dX0_numberAt_73 : decode cX0_numberAt 73 = .ok (.lor, 1) := by decide +kernel
theorem dX0_numberAt_74 : decode cX0_numberAt 74 = .ok (.lstore_n 3, 1) := by decide +kernel
theorem dX0_numberAt_75 : decode cX0_numberAt 75 = .ok (.iinc 5 1, 3) := by decide +kernel
theorem dX0_numberAt_78 : decode cX0_numberAt 78 = .ok (.goto (-73), 3) := by decide +kernel
theorem dX0_numberAt_81 : decode cX0_numberAt 81 = .ok (.lload_n 3, 1) := by decide +kernel
theorem dX0_numberAt_82 : decode cX0_numberAt 82 = .ok (.lreturn, 1) := by decide +kernel
theorem dX0_readShape_0 : decode cX0_readShape 0 = .ok (.aload_n 0, 1) := by decide +kernel
theorem dX0_readShape_1 : decode cX0_readShape 1 = .ok (.iconst 1, 1) := by decide +kernel
theorem dX0_readShape_2 : decode cX0_readShape 2 = .ok (.invokevirtual 75, 3) := by decide +kernel
theorem dX0_readShape_5 : decode cX0_readShape 5 = .ok (.ifCond .ne 9, 3) := by decide +kernel
theorem dX0_readShape_8 : decode cX0_readShape 8 = .ok (.aload_n 0, 1) := by decide +kernel
theorem dX0_readShape_9 : decode cX0_readShape 9 = .ok (.iconst 3, 1) := by decide +kernel
theorem dX0_readShape_10 : decode cX0_readShape 10 = .ok (.invokevirtual 68, 3) := by decide +kernel
theorem dX0_readShape_13 : decode cX0_readShape 13 = .ok (.ireturn, 1) := by decide +kernel
theorem dX0_readShape_14 : decode cX0_readShape 14 = .ok (.aload_n 0, 1) := by decide +kernel
theorem dX0_readShape_15 : decode cX0_readShape 15 = .ok (.getfield 23, 3) := by decide +kernel
theorem dX0_readShape_18 : decode cX0_readShape 18 = .ok (.aload_n 0, 1) := by decide +kernel
theorem dX0_readShape_19 : decode cX0_readShape 19 = .ok (.getfield 45, 3) := by decide +kernel
theorem dX0_readShape_22 : decode cX0_readShape 22 = .ok (.baload, 1) := by decide +kernel
theorem dX0_readShape_23 : decode cX0_readShape 23 = .ok (.ifCond .eq 22, 3) := by decide +kernel
theorem dX0_readShape_26 : decode cX0_readShape 26 = .ok (.aload_n 0, 1) := by decide +kernel
theorem dX0_readShape_27 : decode cX0_readShape 27 = .ok (.getfield 23, 3) := by decide +kernel
theorem dX0_readShape_30 : decode cX0_readShape 30 = .ok (.aload_n 0, 1) := by decide +kernel
theorem dX0_readShape_31 : decode cX0_readShape 31 = .ok (.getfield 45, 3) := by decide +kernel
theorem dX0_readShape_34 : decode cX0_readShape 34 = .ok (.baload, 1) := by decide +kernel
theorem dX0_readShape_35 : decode cX0_readShape 35 = .ok (.iconst 1, 1) := by decide +kernel
theorem dX0_readShape_36 : decode cX0_readShape 36 = .ok (.if_icmp .eq 9, 3) := by decide +kernel
theorem dX0_readShape_39 : decode cX0_readShape 39 = .ok (.aload_n 0, 1) := by decide +kernel
theorem dX0_readShape_40 : decode cX0_readShape 40 = .ok (.iconst 1, 1) := by decide +kernel
theorem dX0_readShape_41 : decode cX0_readShape 41 = .ok (.invokevirtual 68, 3) := by decide +kernel
theorem dX0_readShape_44 : decode cX0_readShape 44 = .ok (.ireturn, 1) := by decide +kernel
theorem dX0_readShape_45 : decode cX0_readShape 45 = .ok (.aload_n 0, 1) := by decide +kernel
theorem dX0_readShape_46 : decode cX0_readShape 46 = .ok (.aload_n 0, 1) := by decide +kernel
theorem dX0_readShape_47 : decode cX0_readShape 47 = .ok (.getfield 23, 3) := by decide +kernel
theorem dX0_readShape_50 : decode cX0_readShape 50 = .ok (.aload_n 0, 1) := by decide +kernel
theorem dX0_readShape_51 : decode cX0_readShape 51 = .ok (.getfield 45, 3) := by decide +kernel
theorem dX0_readShape_54 : decode cX0_readShape 54 = .ok (.baload, 1) := by decide +kernel
theorem dX0_readShape_55 : decode cX0_readShape 55 = .ok (.iconst 1, 1) := by decide +kernel
theorem dX0_readShape_56 : decode cX0_readShape 56 = .ok (.if_icmp .ne 7, 3) := by decide +kernel
theorem dX0_readShape_59 : decode cX0_readShape 59 = .ok (.iconst 1, 1) := by decide +kernel
theorem dX0_readShape_60 : decode cX0_readShape 60 = .ok (.goto 4, 3) := by decide +kernel
theorem dX0_readShape_63 : decode cX0_readShape 63 = .ok (.iconst 0, 1) := by decide +kernel
theorem dX0_readShape_64 : decode cX0_readShape 64 = .ok (.putfield 71, 3) := by decide +kernel
theorem dX0_readShape_67 : decode cX0_readShape 67 = .ok (.aload_n 0, 1) := by decide +kernel
theorem dX0_readShape_68 : decode cX0_readShape 68 = .ok (.dup, 1) := by decide +kernel
theorem dX0_readShape_69 : decode cX0_readShape 69 = .ok (.getfield 45, 3) := by decide +kernel
theorem dX0_readShape_72 : decode cX0_readShape 72 = .ok (.iconst 1, 1) := by decide +kernel
theorem dX0_readShape_73 : decode cX0_readShape 73 = .ok (.iadd, 1) := by decide +kernel
theorem dX0_readShape_74 : decode cX0_readShape 74 = .ok (.putfield 45, 3) := by decide +kernel
theorem dX0_readShape_77 : decode cX0_readShape 77 = .ok (.aload_n 0, 1) := by decide +kernel
theorem dX0_readShape_78 : decode cX0_readShape 78 = .ok (.iconst 4, 1) := by decide +kernel
theorem dX0_readShape_79 : decode cX0_readShape 79 = .ok (.invokevirtual 75, 3) := by decide +kernel
theorem dX0_readShape_82 : decode cX0_readShape 82 = .ok (.ifCond .ne 9, 3) := by decide +kernel
theorem dX0_readShape_85 : decode cX0_readShape 85 = .ok (.aload_n 0, 1) := by decide +kernel
theorem dX0_readShape_86 : decode cX0_readShape 86 = .ok (.iconst 3, 1) := by decide +kernel
theorem dX0_readShape_87 : decode cX0_readShape 87 = .ok (.invokevirtual 68, 3) := by decide +kernel
theorem dX0_readShape_90 : decode cX0_readShape 90 = .ok (.ireturn, 1) := by decide +kernel
theorem dX0_readShape_91 : decode cX0_readShape 91 = .ok (.aload_n 0, 1) := by decide +kernel
theorem dX0_readShape_92 : decode cX0_readShape 92 = .ok (.aload_n 0, 1) := by decide +kernel
theorem dX0_readShape_93 : decode cX0_readShape 93 = .ok (.getfield 45, 3) := by decide +kernel
theorem dX0_readShape_96 : decode cX0_readShape 96 = .ok (.iconst 4, 1) := by decide +kernel
theorem dX0_readShape_97 : decode cX0_readShape 97 = .ok (.invokevirtual 78, 3) := by decide +kernel
theorem dX0_readShape_100 : decode cX0_readShape 100 = .ok (.lstore_n 2, 1) := by decide +kernel
theorem dX0_readShape_101 : decode cX0_readShape 101 = .ok (.lload_n 2, 1) := by decide +kernel
theorem dX0_readShape_102 : decode cX0_readShape 102 = .ok (.ldc2_w 82, 3) := by decide +kernel
theorem dX0_readShape_105 : decode cX0_readShape 105 = .ok (.land, 1) := by decide +kernel
theorem dX0_readShape_106 : decode cX0_readShape 106 = .ok (.l2i, 1) := by decide +kernel
theorem dX0_readShape_107 : decode cX0_readShape 107 = .ok (.istore 4, 2) := by decide +kernel
theorem dX0_readShape_109 : decode cX0_readShape 109 = .ok (.iload 4, 2) := by decide +kernel
theorem dX0_readShape_111 : decode cX0_readShape 111 = .ok (.sipush 1000, 3) := by decide +kernel
theorem dX0_readShape_114 : decode cX0_readShape 114 = .ok (.irem, 1) := by decide +kernel
theorem dX0_readShape_115 : decode cX0_readShape 115 = .ok (.istore 5, 2) := by decide +kernel
theorem dX0_readShape_117 : decode cX0_readShape 117 = .ok (.iload 4, 2) := by decide +kernel
theorem dX0_readShape_119 : decode cX0_readShape 119 = .ok (.sipush 4000, 3) := by decide +kernel
theorem dX0_readShape_122 : decode cX0_readShape 122 = .ok (.if_icmp .ge 26, 3) := by decide +kernel
theorem dX0_readShape_125 : decode cX0_readShape 125 = .ok (.iload 5, 2) := by decide +kernel
theorem dX0_readShape_127 : decode cX0_readShape 127 = .ok (.iconst 1, 1) := by decide +kernel
theorem dX0_readShape_128 : decode cX0_readShape 128 = .ok (.if_icmp .lt 20, 3) := by decide +kernel
theorem dX0_readShape_131 : decode cX0_readShape 131 = .ok (.iload 5, 2) := by decide +kernel
theorem dX0_readShape_133 : decode cX0_readShape 133 = .ok (.bipush 7, 2) := by decide +kernel
theorem dX0_readShape_135 : decode cX0_readShape 135 = .ok (.if_icmp .gt 13, 3) := by decide +kernel
theorem dX0_readShape_138 : decode cX0_readShape 138 = .ok (.iload_n 1, 1) := by decide +kernel
theorem dX0_readShape_139 : decode cX0_readShape 139 = .ok (.ifCond .eq 15, 3) := by decide +kernel
theorem dX0_readShape_142 : decode cX0_readShape 142 = .ok (.iload 5, 2) := by decide +kernel
theorem dX0_readShape_144 : decode cX0_readShape 144 = .ok (.iload_n 1, 1) := by decide +kernel
theorem dX0_readShape_145 : decode cX0_readShape 145 = .ok (.if_icmp .eq 9, 3) := by decide +kernel
theorem dX0_readShape_148 : decode cX0_readShape 148 = .ok (.aload_n 0, 1) := by decide +kernel
theorem dX0_readShape_149 : decode cX0_readShape 149 = .ok (.iconst 2, 1) := by decide +kernel
theorem dX0_readShape_150 : decode cX0_readShape 150 = .ok (.invokevirtual 68, 3) := by decide +kernel
theorem dX0_readShape_153 : decode cX0_readShape 153 = .ok (.ireturn, 1) := by decide +kernel
theorem dX0_readShape_154 : decode cX0_readShape 154 = .ok (.iload 4, 2) := by decide +kernel
theorem dX0_readShape_156 : decode cX0_readShape 156 = .ok (.sipush 1000, 3) := by decide +kernel
theorem dX0_readShape_159 : decode cX0_readShape 159 = .ok (.if_icmp .ge 12, 3) := by decide +kernel
theorem dX0_readShape_162 : decode cX0_readShape 162 = .ok (.lload_n 2, 1) := by decide +kernel
theorem dX0_readShape_163 : decode cX0_readShape 163 = .ok (.bipush 30, 2) := by decide +kernel
theorem dX0_readShape_165 : decode cX0_readShape 165 = .ok (.lushr, 1) := by decide +kernel
theorem dX0_readShape_166 : decode cX0_readShape 166 = .ok (.lconst 0, 1) := by decide +kernel
theorem dX0_readShape_167 : decode cX0_readShape 167 = .ok (.lcmp, 1) := by decide +kernel
theorem dX0_readShape_168 : decode cX0_readShape 168 = .ok (.ifCond .eq 10, 3) := by decide +kernel
theorem dX0_readShape_171 : decode cX0_readShape 171 = .ok (.aload_n 0, 1) := by decide +kernel
theorem dX0_readShape_172 : decode cX0_readShape 172 = .ok (.bipush 9, 2) := by decide +kernel
theorem dX0_readShape_174 : decode cX0_readShape 174 = .ok (.invokevirtual 68, 3) := by decide +kernel
theorem dX0_readShape_177 : decode cX0_readShape 177 = .ok (.ireturn, 1) := by decide +kernel
theorem dX0_readShape_178 : decode cX0_readShape 178 = .ok (.iload 5, 2) := by decide +kernel
theorem dX0_readShape_180 : decode cX0_readShape 180 = .ok (.bipush 7, 2) := by decide +kernel
theorem dX0_readShape_182 : decode cX0_readShape 182 = .ok (.if_icmp .ne 19, 3) := by decide +kernel
theorem dX0_readShape_185 : decode cX0_readShape 185 = .ok (.aload_n 0, 1) := by decide +kernel
theorem dX0_readShape_186 : decode cX0_readShape 186 = .ok (.getfield 51, 3) := by decide +kernel
theorem dX0_readShape_189 : decode cX0_readShape 189 = .ok (.bipush 50, 2) := by decide +kernel
theorem dX0_readShape_191 : decode cX0_readShape 191 = .ok (.if_icmp .lt 10, 3) := by decide +kernel
theorem dX0_readShape_194 : decode cX0_readShape 194 = .ok (.aload_n 0, 1) := by decide +kernel
theorem dX0_readShape_195 : decode cX0_readShape 195 = .ok (.bipush 6, 2) := by decide +kernel
theorem dX0_readShape_197 : decode cX0_readShape 197 = .ok (.invokevirtual 68, 3) := by decide +kernel
theorem dX0_readShape_200 : decode cX0_readShape 200 = .ok (.ireturn, 1) := by decide +kernel
theorem dX0_readShape_201 : decode cX0_readShape 201 = .ok (.aload_n 0, 1) := by decide +kernel
theorem dX0_readShape_202 : decode cX0_readShape 202 = .ok (.dup, 1) := by decide +kernel
theorem dX0_readShape_203 : decode cX0_readShape 203 = .ok (.getfield 45, 3) := by decide +kernel
theorem dX0_readShape_206 : decode cX0_readShape 206 = .ok (.iconst 4, 1) := by decide +kernel
theorem dX0_readShape_207 : decode cX0_readShape 207 = .ok (.iadd, 1) := by decide +kernel
theorem dX0_readShape_208 : decode cX0_readShape 208 = .ok (.putfield 45, 3) := by decide +kernel
theorem dX0_readShape_211 : decode cX0_readShape 211 = .ok (.lload_n 2, 1) := by decide +kernel
theorem dX0_readShape_212 : decode cX0_readShape 212 = .ok (.ldc2_w 84, 3) := by decide +kernel
theorem dX0_readShape_215 : decode cX0_readShape 215 = .ok (.land, 1) := by decide +kernel
theorem dX0_readShape_216 : decode cX0_readShape 216 = .ok (.lconst 0, 1) := by decide +kernel
theorem dX0_readShape_217 : decode cX0_readShape 217 = .ok (.lcmp, 1) := by decide +kernel
theorem dX0_readShape_218 : decode cX0_readShape 218 = .ok (.ifCond .eq 27, 3) := by decide +kernel
theorem dX0_readShape_221 : decode cX0_readShape 221 = .ok (.aload_n 0, 1) := by decide +kernel
theorem dX0_readShape_222 : decode cX0_readShape 222 = .ok (.iconst 4, 1) := by decide +kernel
theorem dX0_readShape_223 : decode cX0_readShape 223 = .ok (.invokevirtual 75, 3) := by decide +kernel
theorem dX0_readShape_226 : decode cX0_readShape 226 = .ok (.ifCond .ne 9, 3) := by decide +kernel
theorem dX0_readShape_229 : decode cX0_readShape 229 = .ok (.aload_n 0, 1) := by decide +kernel
theorem dX0_readShape_230 : decode cX0_readShape 230 = .ok (.iconst 3, 1) := by decide +kernel
theorem dX0_readShape_231 : decode cX0_readShape 231 = .ok (.invokevirtual 68, 3) := by decide +kernel
theorem dX0_readShape_234 : decode cX0_readShape 234 = .ok (.ireturn, 1) := by decide +kernel
theorem dX0_readShape_235 : decode cX0_readShape 235 = .ok (.aload_n 0, 1) := by decide +kernel
theorem dX0_readShape_236 : decode cX0_readShape 236 = .ok (.dup, 1) := by decide +kernel
theorem dX0_readShape_237 : decode cX0_readShape 237 = .ok (.getfield 45, 3) := by decide +kernel
theorem dX0_readShape_240 : decode cX0_readShape 240 = .ok (.iconst 4, 1) := by decide +kernel
theorem dX0_readShape_241 : decode cX0_readShape 241 = .ok (.iadd, 1) := by decide +kernel
theorem dX0_readShape_242 : decode cX0_readShape 242 = .ok (.putfield 45, 3) := by decide +kernel
theorem dX0_readShape_245 : decode cX0_readShape 245 = .ok (.aload_n 0, 1) := by decide +kernel
theorem dX0_readShape_246 : decode cX0_readShape 246 = .ok (.getfield 27, 3) := by decide +kernel
theorem dX0_readShape_249 : decode cX0_readShape 249 = .ok (.iload 5, 2) := by decide +kernel
theorem dX0_readShape_251 : decode cX0_readShape 251 = .ok (.iconst 0, 1) := by decide +kernel
theorem dX0_readShape_252 : decode cX0_readShape 252 = .ok (.invokevirtual 86, 3) := by decide +kernel
theorem dX0_readShape_255 : decode cX0_readShape 255 = .ok (.ifCond .eq 12, 3) := by decide +kernel
theorem dX0_readShape_258 : decode cX0_readShape 258 = .ok (.aload_n 0, 1) := by decide +kernel
theorem dX0_readShape_259 : decode cX0_readShape 259 = .ok (.iload 5, 2) := by decide +kernel
theorem dX0_readShape_261 : decode cX0_readShape 261 = .ok (.invokevirtual 90, 3) := by decide +kernel
theorem dX0_readShape_264 : decode cX0_readShape 264 = .ok (.goto 9, 3) := by decide +kernel
theorem dX0_readShape_267 : decode cX0_readShape 267 = .ok (.aload_n 0, 1) := by decide +kernel
theorem dX0_readShape_268 : decode cX0_readShape 268 = .ok (.bipush 7, 2) := by decide +kernel
theorem dX0_readShape_270 : decode cX0_readShape 270 = .ok (.invokevirtual 68, 3) := by decide +kernel
theorem dX0_readShape_273 : decode cX0_readShape 273 = .ok (.ireturn, 1) := by decide +kernel
theorem dX0_readBody_0 : decode cX0_readBody 0 = .ok (.aload_n 0, 1) := by decide +kernel
theorem dX0_readBody_1 : decode cX0_readBody 1 = .ok (.getfield 27, 3) := by decide +kernel
theorem dX0_readBody_4 : decode cX0_readBody 4 = .ok (.getfield 93, 3) := by decide +kernel
theorem dX0_readBody_7 : decode cX0_readBody 7 = .ok (.iconst 1, 1) := by decide +kernel
theorem dX0_readBody_8 : decode cX0_readBody 8 = .ok (.isub, 1) := by decide +kernel
theorem dX0_readBody_9 : decode cX0_readBody 9 = .ok (.istore_n 2, 1) := by decide +kernel
theorem dX0_readBody_10 : decode cX0_readBody 10 = .ok (.iload_n 1, 1) := by decide +kernel
theorem dX0_readBody_11 : decode cX0_readBody 11 = .ok (.iconst 1, 1) := by decide +kernel
theorem dX0_readBody_12 : decode cX0_readBody 12 = .ok (.if_icmp .ne 9, 3) := by decide +kernel
theorem dX0_readBody_15 : decode cX0_readBody 15 = .ok (.aload_n 0, 1) := by decide +kernel
theorem dX0_readBody_16 : decode cX0_readBody 16 = .ok (.iload_n 2, 1) := by decide +kernel
theorem dX0_readBody_17 : decode cX0_readBody 17 = .ok (.invokevirtual 96, 3) := by decide +kernel
theorem dX0_readBody_20 : decode cX0_readBody 20 = .ok (.ireturn, 1) := by decide +kernel
theorem dX0_readBody_21 : decode cX0_readBody 21 = .ok (.aload_n 0, 1) := by decide +kernel
theorem dX0_readBody_22 : decode cX0_readBody 22 = .ok (.iconst 4, 1) := by decide +kernel
theorem dX0_readBody_23 : decode cX0_readBody 23 = .ok (.invokevirtual 75, 3) := by decide +kernel
theorem dX0_readBody_26 : decode cX0_readBody 26 = .ok (.ifCond .ne 9, 3) := by decide +kernel
theorem dX0_readBody_29 : decode cX0_readBody 29 = .ok (.aload_n 0, 1) := by decide +kernel
theorem dX0_readBody_30 : decode cX0_readBody 30 = .ok (.iconst 3, 1) := by decide +kernel
theorem dX0_readBody_31 : decode cX0_readBody 31 = .ok (.invokevirtual 68, 3) := by decide +kernel
theorem dX0_readBody_34 : decode cX0_readBody 34 = .ok (.ireturn, 1) := by decide +kernel
theorem dX0_readBody_35 : decode cX0_readBody 35 = .ok (.aload_n 0, 1) := by decide +kernel
theorem dX0_readBody_36 : decode cX0_readBody 36 = .ok (.aload_n 0, 1) := by decide +kernel
theorem dX0_readBody_37 : decode cX0_readBody 37 = .ok (.getfield 45, 3) := by decide +kernel
theorem dX0_readBody_40 : decode cX0_readBody 40 = .ok (.iconst 4, 1) := by decide +kernel
theorem dX0_readBody_41 : decode cX0_readBody 41 = .ok (.invokevirtual 78, 3) := by decide +kernel
theorem dX0_readBody_44 : decode cX0_readBody 44 = .ok (.lstore_n 3, 1) := by decide +kernel
theorem dX0_readBody_45 : decode cX0_readBody 45 = .ok (.aload_n 0, 1) := by decide +kernel
theorem dX0_readBody_46 : decode cX0_readBody 46 = .ok (.dup, 1) := by decide +kernel
theorem dX0_readBody_47 : decode cX0_readBody 47 = .ok (.getfield 45, 3) := by decide +kernel
theorem dX0_readBody_50 : decode cX0_readBody 50 = .ok (.iconst 4, 1) := by decide +kernel
theorem dX0_readBody_51 : decode cX0_readBody 51 = .ok (.iadd, 1) := by decide +kernel
theorem dX0_readBody_52 : decode cX0_readBody 52 = .ok (.putfield 45, 3) := by decide +kernel
theorem dX0_readBody_55 : decode cX0_readBody 55 = .ok (.aload_n 0, 1) := by decide +kernel
theorem dX0_readBody_56 : decode cX0_readBody 56 = .ok (.getfield 27, 3) := by decide +kernel
theorem dX0_readBody_59 : decode cX0_readBody 59 = .ok (.getfield 99, 3) := by decide +kernel
theorem dX0_readBody_62 : decode cX0_readBody 62 = .ok (.iload_n 2, 1) := by decide +kernel
theorem dX0_readBody_63 : decode cX0_readBody 63 = .ok (.lload_n 3, 1) := by decide +kernel
theorem dX0_readBody_64 : decode cX0_readBody 64 = .ok (.l2i, 1) := by decide +kernel
theorem dX0_readBody_65 : decode cX0_readBody 65 = .ok (.iastore, 1) := by decide +kernel
theorem dX0_readBody_66 : decode cX0_readBody 66 = .ok (.iload_n 1, 1) := by decide +kernel
theorem dX0_readBody_67 : decode cX0_readBody 67 = .ok (.lookupswitch 37 #[(2, 25), (3, 31)], 25) := by decide +kernel
theorem dX0_readBody_92 : decode cX0_readBody 92 = .ok (.aload_n 0, 1) := by decide +kernel
theorem dX0_readBody_93 : decode cX0_readBody 93 = .ok (.lload_n 3, 1) := by decide +kernel
theorem dX0_readBody_94 : decode cX0_readBody 94 = .ok (.invokevirtual 102, 3) := by decide +kernel
theorem dX0_readBody_97 : decode cX0_readBody 97 = .ok (.ireturn, 1) := by decide +kernel
theorem dX0_readBody_98 : decode cX0_readBody 98 = .ok (.aload_n 0, 1) := by decide +kernel
theorem dX0_readBody_99 : decode cX0_readBody 99 = .ok (.lload_n 3, 1) := by decide +kernel
theorem dX0_readBody_100 : decode cX0_readBody 100 = .ok (.invokevirtual 106, 3) := by decide +kernel
theorem dX0_readBody_103 : decode cX0_readBody 103 = .ok (.ireturn, 1) := by decide +kernel
theorem dX0_readBody_104 : decode cX0_readBody 104 = .ok (.aload_n 0, 1) := by decide +kernel
theorem dX0_readBody_105 : decode cX0_readBody 105 = .ok (.iload_n 1, 1) := by decide +kernel
theorem dX0_readBody_106 : decode cX0_readBody 106 = .ok (.lload_n 3, 1) := by decide +kernel
theorem dX0_readBody_107 : decode cX0_readBody 107 = .ok (.invokevirtual 109, 3) := by decide +kernel
theorem dX0_readBody_110 : decode cX0_readBody 110 = .ok (.ireturn, 1) := by decide +kernel
theorem dX0_openLevel_0 : decode cX0_openLevel 0 = .ok (.aload_n 0, 1) := by decide +kernel
theorem dX0_openLevel_1 : decode cX0_openLevel 1 = .ok (.getfield 48, 3) := by decide +kernel
theorem dX0_openLevel_4 : decode cX0_openLevel 4 = .ok (.bipush 64, 2) := by decide +kernel
theorem dX0_openLevel_6 : decode cX0_openLevel 6 = .ok (.if_icmp .lt 10, 3) := by decide +kernel
theorem dX0_openLevel_9 : decode cX0_openLevel 9 = .ok (.aload_n 0, 1) := by decide +kernel
theorem dX0_openLevel_10 : decode cX0_openLevel 10 = .ok (.bipush 6, 2) := by decide +kernel
theorem dX0_openLevel_12 : decode cX0_openLevel 12 = .ok (.invokevirtual 68, 3) := by decide +kernel
theorem dX0_openLevel_15 : decode cX0_openLevel 15 = .ok (.ireturn, 1) := by decide +kernel
theorem dX0_openLevel_16 : decode cX0_openLevel 16 = .ok (.aload_n 0, 1) := by decide +kernel
theorem dX0_openLevel_17 : decode cX0_openLevel 17 = .ok (.getfield 15, 3) := by decide +kernel
theorem dX0_openLevel_20 : decode cX0_openLevel 20 = .ok (.aload_n 0, 1) := by decide +kernel
theorem dX0_openLevel_21 : decode cX0_openLevel 21 = .ok (.getfield 48, 3) := by decide +kernel
theorem dX0_openLevel_24 : decode cX0_openLevel 24 = .ok (.iload_n 1, 1) := by decide +kernel
theorem dX0_openLevel_25 : decode cX0_openLevel 25 = .ok (.iastore, 1) := by decide +kernel
theorem dX0_openLevel_26 : decode cX0_openLevel 26 = .ok (.aload_n 0, 1) := by decide +kernel
theorem dX0_openLevel_27 : decode cX0_openLevel 27 = .ok (.getfield 11, 3) := by decide +kernel
theorem dX0_openLevel_30 : decode cX0_openLevel 30 = .ok (.aload_n 0, 1) := by decide +kernel
theorem dX0_openLevel_31 : decode cX0_openLevel 31 = .ok (.getfield 48, 3) := by decide +kernel
theorem dX0_openLevel_34 : decode cX0_openLevel 34 = .ok (.lload_n 2, 1) := by decide +kernel
theorem dX0_openLevel_35 : decode cX0_openLevel 35 = .ok (.lastore, 1) := by decide +kernel
theorem dX0_openLevel_36 : decode cX0_openLevel 36 = .ok (.aload_n 0, 1) := by decide +kernel
theorem dX0_openLevel_37 : decode cX0_openLevel 37 = .ok (.dup, 1) := by decide +kernel
theorem dX0_openLevel_38 : decode cX0_openLevel 38 = .ok (.getfield 48, 3) := by decide +kernel
theorem dX0_openLevel_41 : decode cX0_openLevel 41 = .ok (.iconst 1, 1) := by decide +kernel
theorem dX0_openLevel_42 : decode cX0_openLevel 42 = .ok (.iadd, 1) := by decide +kernel
theorem dX0_openLevel_43 : decode cX0_openLevel 43 = .ok (.putfield 48, 3) := by decide +kernel
theorem dX0_openLevel_46 : decode cX0_openLevel 46 = .ok (.iload_n 1, 1) := by decide +kernel
theorem dX0_openLevel_47 : decode cX0_openLevel 47 = .ok (.bipush 7, 2) := by decide +kernel
theorem dX0_openLevel_49 : decode cX0_openLevel 49 = .ok (.if_icmp .ne 13, 3) := by decide +kernel
theorem dX0_openLevel_52 : decode cX0_openLevel 52 = .ok (.aload_n 0, 1) := by decide +kernel
theorem dX0_openLevel_53 : decode cX0_openLevel 53 = .ok (.dup, 1) := by decide +kernel
theorem dX0_openLevel_54 : decode cX0_openLevel 54 = .ok (.getfield 51, 3) := by decide +kernel
theorem dX0_openLevel_57 : decode cX0_openLevel 57 = .ok (.iconst 1, 1) := by decide +kernel
theorem dX0_openLevel_58 : decode cX0_openLevel 58 = .ok (.iadd, 1) := by decide +kernel
theorem dX0_openLevel_59 : decode cX0_openLevel 59 = .ok (.putfield 51, 3) := by decide +kernel
theorem dX0_openLevel_62 : decode cX0_openLevel 62 = .ok (.iconst 1, 1) := by decide +kernel
theorem dX0_openLevel_63 : decode cX0_openLevel 63 = .ok (.ireturn, 1) := by decide +kernel
theorem dX0_readPoint_0 : decode cX0_readPoint 0 = .ok (.aload_n 0, 1) := by decide +kernel
theorem dX0_readPoint_1 : decode cX0_readPoint 1 = .ok (.bipush 16, 2) := by decide +kernel
theorem dX0_readPoint_3 : decode cX0_readPoint 3 = .ok (.invokevirtual 75, 3) := by decide +kernel
theorem dX0_readPoint_6 : decode cX0_readPoint 6 = .ok (.ifCond .eq 51, 3) := by decide +kernel
theorem dX0_readPoint_9 : decode cX0_readPoint 9 = .ok (.aload_n 0, 1) := by decide +kernel
theorem dX0_readPoint_10 : decode cX0_readPoint 10 = .ok (.aload_n 0, 1) := by decide +kernel
theorem dX0_readPoint_11 : decode cX0_readPoint 11 = .ok (.getfield 45, 3) := by decide +kernel
theorem dX0_readPoint_14 : decode cX0_readPoint 14 = .ok (.bipush 8, 2) := by decide +kernel
theorem dX0_readPoint_16 : decode cX0_readPoint 16 = .ok (.invokevirtual 78, 3) := by decide +kernel
theorem dX0_readPoint_19 : decode cX0_readPoint 19 = .ok (.invokestatic 113, 3) := by decide +kernel
theorem dX0_readPoint_22 : decode cX0_readPoint 22 = .ok (.ifCond .eq 35, 3) := by decide +kernel
theorem dX0_readPoint_25 : decode cX0_readPoint 25 = .ok (.aload_n 0, 1) := by decide +kernel
theorem dX0_readPoint_26 : decode cX0_readPoint 26 = .ok (.aload_n 0, 1) := by decide +kernel
theorem dX0_readPoint_27 : decode cX0_readPoint 27 = .ok (.getfield 45, 3) := by decide +kernel
theorem dX0_readPoint_30 : decode cX0_readPoint 30 = .ok (.bipush 8, 2) := by decide +kernel
theorem dX0_readPoint_32 : decode cX0_readPoint 32 = .ok (.iadd, 1) := by decide +kernel
theorem dX0_readPoint_33 : decode cX0_readPoint 33 = .ok (.bipush 8, 2) := by decide +kernel
theorem dX0_readPoint_35 : decode cX0_readPoint 35 = .ok (.invokevirtual 78, 3) := by decide +kernel
theorem dX0_readPoint_38 : decode cX0_readPoint 38 = .ok (.invokestatic 113, 3) := by decide +kernel
theorem dX0_readPoint_41 : decode cX0_readPoint 41 = .ok (.ifCond .eq 16, 3) := by decide +kernel
theorem dX0_readPoint_44 : decode cX0_readPoint 44 = .ok (.aload_n 0, 1) := by decide +kernel
theorem dX0_readPoint_45 : decode cX0_readPoint 45 = .ok (.dup, 1) := by decide +kernel
theorem dX0_readPoint_46 : decode cX0_readPoint 46 = .ok (.getfield 45, 3) := by decide +kernel
theorem dX0_readPoint_49 : decode cX0_readPoint 49 = .ok (.bipush 16, 2) := by decide +kernel
theorem dX0_readPoint_51 : decode cX0_readPoint 51 = .ok (.iadd, 1) := by decide +kernel
theorem dX0_readPoint_52 : decode cX0_readPoint 52 = .ok (.putfield 45, 3) := by decide +kernel
theorem dX0_readPoint_55 : decode cX0_readPoint 55 = .ok (.iconst 1, 1) := by decide +kernel
theorem dX0_readPoint_56 : decode cX0_readPoint 56 = .ok (.ireturn, 1) := by decide +kernel
theorem dX0_readPoint_57 : decode cX0_readPoint 57 = .ok (.aload_n 0, 1) := by decide +kernel
theorem dX0_readPoint_58 : decode cX0_readPoint 58 = .ok (.getfield 27, 3) := by decide +kernel
theorem dX0_readPoint_61 : decode cX0_readPoint 61 = .ok (.getfield 99, 3) := by decide +kernel
theorem dX0_readPoint_64 : decode cX0_readPoint 64 = .ok (.iload_n 1, 1) := by decide +kernel
theorem dX0_readPoint_65 : decode cX0_readPoint 65 = .ok (.iconst 1, 1) := by decide +kernel
theorem dX0_readPoint_66 : decode cX0_readPoint 66 = .ok (.iastore, 1) := by decide +kernel
theorem dX0_readPoint_67 : decode cX0_readPoint 67 = .ok (.aload_n 0, 1) := by decide +kernel
theorem dX0_readPoint_68 : decode cX0_readPoint 68 = .ok (.lconst 1, 1) := by decide +kernel
theorem dX0_readPoint_69 : decode cX0_readPoint 69 = .ok (.invokevirtual 102, 3) := by decide +kernel
theorem dX0_readPoint_72 : decode cX0_readPoint 72 = .ok (.ireturn, 1) := by decide +kernel
theorem dX0_isNoNumber_0 : decode cX0_isNoNumber 0 = .ok (.lload_n 0, 1) := by decide +kernel
theorem dX0_isNoNumber_1 : decode cX0_isNoNumber 1 = .ok (.bipush 52, 2) := by decide +kernel
theorem dX0_isNoNumber_3 : decode cX0_isNoNumber 3 = .ok (.lushr, 1) := by decide +kernel
theorem dX0_isNoNumber_4 : decode cX0_isNoNumber 4 = .ok (.ldc2_w 116, 3) := by decide +kernel
theorem dX0_isNoNumber_7 : decode cX0_isNoNumber 7 = .ok (.land, 1) := by decide +kernel
theorem dX0_isNoNumber_8 : decode cX0_isNoNumber 8 = .ok (.ldc2_w 116, 3) := by decide +kernel
theorem dX0_isNoNumber_11 : decode cX0_isNoNumber 11 = .ok (.lcmp, 1) := by decide +kernel
theorem dX0_isNoNumber_12 : decode cX0_isNoNumber 12 = .ok (.ifCond .ne 17, 3) := by decide +kernel
theorem dX0_isNoNumber_15 : decode cX0_isNoNumber 15 = .ok (.lload_n 0, 1) := by decide +kernel
theorem dX0_isNoNumber_16 : decode cX0_isNoNumber 16 = .ok (.ldc2_w 118, 3) := by decide +kernel
theorem dX0_isNoNumber_19 : decode cX0_isNoNumber 19 = .ok (.land, 1) := by decide +kernel
theorem dX0_isNoNumber_20 : decode cX0_isNoNumber 20 = .ok (.lconst 0, 1) := by decide +kernel
theorem dX0_isNoNumber_21 : decode cX0_isNoNumber 21 = .ok (.lcmp, 1) := by decide +kernel
theorem dX0_isNoNumber_22 : decode cX0_isNoNumber 22 = .ok (.ifCond .eq 7, 3) := by decide +kernel
theorem dX0_isNoNumber_25 : decode cX0_isNoNumber 25 = .ok (.iconst 1, 1) := by decide +kernel
theorem dX0_isNoNumber_26 : decode cX0_isNoNumber 26 = .ok (.goto 4, 3) := by decide +kernel
theorem dX0_isNoNumber_29 : decode cX0_isNoNumber 29 = .ok (.iconst 0, 1) := by decide +kernel
theorem dX0_isNoNumber_30 : decode cX0_isNoNumber 30 = .ok (.ireturn, 1) := by decide +kernel
theorem dX0_readRings_0 : decode cX0_readRings 0 = .ok (.lconst 0, 1) := by decide +kernel
theorem dX0_readRings_1 : decode cX0_readRings 1 = .ok (.lstore_n 3, 1) := by decide +kernel
theorem dX0_readRings_2 : decode cX0_readRings 2 = .ok (.lload_n 3, 1) := by decide +kernel
theorem dX0_readRings_3 : decode cX0_readRings 3 = .ok (.lload_n 1, 1) := by decide +kernel
theorem dX0_readRings_4 : decode cX0_readRings 4 = .ok (.lcmp, 1) := by decide +kernel
theorem dX0_readRings_5 : decode cX0_readRings 5 = .ok (.ifCond .ge 107, 3) := by decide +kernel
theorem dX0_readRings_8 : decode cX0_readRings 8 = .ok (.aload_n 0, 1) := by decide +kernel
theorem dX0_readRings_9 : decode cX0_readRings 9 = .ok (.getfield 27, 3) := by decide +kernel
theorem dX0_readRings_12 : decode cX0_readRings 12 = .ok (.iconst 0, 1) := by decide +kernel
theorem dX0_readRings_13 : decode cX0_readRings 13 = .ok (.invokevirtual 120, 3) := by decide +kernel
theorem dX0_readRings_16 : decode cX0_readRings 16 = .ok (.ifCond .ne 10, 3) := by decide +kernel
theorem dX0_readRings_19 : decode cX0_readRings 19 = .ok (.aload_n 0, 1) := by decide +kernel
theorem dX0_readRings_20 : decode cX0_readRings 20 = .ok (.bipush 7, 2) := by decide +kernel
theorem dX0_readRings_22 : decode cX0_readRings 22 = .ok (.invokevirtual 68, 3) := by decide +kernel
theorem dX0_readRings_25 : decode cX0_readRings 25 = .ok (.ireturn, 1) := by decide +kernel
theorem dX0_readRings_26 : decode cX0_readRings 26 = .ok (.aload_n 0, 1) := by decide +kernel
theorem dX0_readRings_27 : decode cX0_readRings 27 = .ok (.iconst 4, 1) := by decide +kernel
theorem dX0_readRings_28 : decode cX0_readRings 28 = .ok (.invokevirtual 75, 3) := by decide +kernel
theorem dX0_readRings_31 : decode cX0_readRings 31 = .ok (.ifCond .ne 9, 3) := by decide +kernel
theorem dX0_readRings_34 : decode cX0_readRings 34 = .ok (.aload_n 0, 1) := by decide +kernel
theorem dX0_readRings_35 : decode cX0_readRings 35 = .ok (.iconst 3, 1) := by decide +kernel
theorem dX0_readRings_36 : decode cX0_readRings 36 = .ok (.invokevirtual 68, 3) := by decide +kernel
theorem dX0_readRings_39 : decode cX0_readRings 39 = .ok (.ireturn, 1) := by decide +kernel
theorem dX0_readRings_40 : decode cX0_readRings 40 = .ok (.aload_n 0, 1) := by decide +kernel
theorem dX0_readRings_41 : decode cX0_readRings 41 = .ok (.aload_n 0, 1) := by decide +kernel
theorem dX0_readRings_42 : decode cX0_readRings 42 = .ok (.getfield 45, 3) := by decide +kernel
theorem dX0_readRings_45 : decode cX0_readRings 45 = .ok (.iconst 4, 1) := by decide +kernel
theorem dX0_readRings_46 : decode cX0_readRings 46 = .ok (.invokevirtual 78, 3) := by decide +kernel
theorem dX0_readRings_49 : decode cX0_readRings 49 = .ok (.lstore 5, 2) := by decide +kernel
theorem dX0_readRings_51 : decode cX0_readRings 51 = .ok (.lload 5, 2) := by decide +kernel
theorem dX0_readRings_53 : decode cX0_readRings 53 = .ok (.lconst 0, 1) := by decide +kernel
theorem dX0_readRings_54 : decode cX0_readRings 54 = .ok (.lcmp, 1) := by decide +kernel
theorem dX0_readRings_55 : decode cX0_readRings 55 = .ok (.ifCond .ne 9, 3) := by decide +kernel
theorem dX0_readRings_58 : decode cX0_readRings 58 = .ok (.aload_n 0, 1) := by decide +kernel
theorem dX0_readRings_59 : decode cX0_readRings 59 = .ok (.iconst 4, 1) := by decide +kernel
theorem dX0_readRings_60 : decode cX0_readRings 60 = .ok (.invokevirtual 68, 3) := by decide +kernel
theorem dX0_readRings_63 : decode cX0_readRings 63 = .ok (.ireturn, 1) := by decide +kernel
theorem dX0_readRings_64 : decode cX0_readRings 64 = .ok (.aload_n 0, 1) := by decide +kernel
theorem dX0_readRings_65 : decode cX0_readRings 65 = .ok (.dup, 1) := by decide +kernel
theorem dX0_readRings_66 : decode cX0_readRings 66 = .ok (.getfield 45, 3) := by decide +kernel
theorem dX0_readRings_69 : decode cX0_readRings 69 = .ok (.iconst 4, 1) := by decide +kernel
theorem dX0_readRings_70 : decode cX0_readRings 70 = .ok (.iadd, 1) := by decide +kernel
theorem dX0_readRings_71 : decode cX0_readRings 71 = .ok (.putfield 45, 3) := by decide +kernel
theorem dX0_readRings_74 : decode cX0_readRings 74 = .ok (.aload_n 0, 1) := by decide +kernel
theorem dX0_readRings_75 : decode cX0_readRings 75 = .ok (.getfield 27, 3) := by decide +kernel
theorem dX0_readRings_78 : decode cX0_readRings 78 = .ok (.getfield 99, 3) := by decide +kernel
theorem dX0_readRings_81 : decode cX0_readRings 81 = .ok (.aload_n 0, 1) := by decide +kernel
theorem dX0_readRings_82 : decode cX0_readRings 82 = .ok (.getfield 27, 3) := by decide +kernel
theorem dX0_readRings_85 : decode cX0_readRings 85 = .ok (.getfield 93, 3) := by decide +kernel
theorem dX0_readRings_88 : decode cX0_readRings 88 = .ok (.iconst 1, 1) := by decide +kernel
theorem dX0_readRings_89 : decode cX0_readRings 89 = .ok (.isub, 1) := by decide +kernel
theorem dX0_readRings_90 : decode cX0_readRings 90 = .ok (.lload 5, 2) := by decide +kernel
theorem dX0_readRings_92 : decode cX0_readRings 92 = .ok (.l2i, 1) := by decide +kernel
theorem dX0_readRings_93 : decode cX0_readRings 93 = .ok (.iastore, 1) := by decide +kernel
theorem dX0_readRings_94 : decode cX0_readRings 94 = .ok (.aload_n 0, 1) := by decide +kernel
theorem dX0_readRings_95 : decode cX0_readRings 95 = .ok (.lload 5, 2) := by decide +kernel
theorem dX0_readRings_97 : decode cX0_readRings 97 = .ok (.invokevirtual 102, 3) := by decide +kernel
theorem dX0_readRings_100 : decode cX0_readRings 100 = .ok (.ifCond .ne 5, 3) := by decide +kernel
theorem dX0_readRings_103 : decode cX0_readRings 103 = .ok (.iconst 0, 1) := by decide +kernel
theorem dX0_readRings_104 : decode cX0_readRings 104 = .ok (.ireturn, 1) := by decide +kernel
theorem dX0_readRings_105 : decode cX0_readRings 105 = .ok (.lload_n 3, 1) := by decide +kernel
theorem dX0_readRings_106 : decode cX0_readRings 106 = .ok (.lconst 1, 1) := by decide +kernel
theorem dX0_readRings_107 : decode cX0_readRings 107 = .ok (.ladd, 1) := by decide +kernel
theorem dX0_readRings_108 : decode cX0_readRings 108 = .ok (.lstore_n 3, 1) := by decide +kernel
theorem dX0_readRings_109 : decode cX0_readRings 109 = .ok (.goto (-107), 3) := by decide +kernel
theorem dX0_readRings_112 : decode cX0_readRings 112 = .ok (.iconst 1, 1) := by decide +kernel
theorem dX0_readRings_113 : decode cX0_readRings 113 = .ok (.ireturn, 1) := by decide +kernel
theorem dX0_readCoordinates_0 : decode cX0_readCoordinates 0 = .ok (.lconst 0, 1) := by decide +kernel
theorem dX0_readCoordinates_1 : decode cX0_readCoordinates 1 = .ok (.lstore_n 3, 1) := by decide +kernel
theorem dX0_readCoordinates_2 : decode cX0_readCoordinates 2 = .ok (.lload_n 3, 1) := by decide +kernel
theorem dX0_readCoordinates_3 : decode cX0_readCoordinates 3 = .ok (.lload_n 1, 1) := by decide +kernel
theorem dX0_readCoordinates_4 : decode cX0_readCoordinates 4 = .ok (.lcmp, 1) := by decide +kernel
theorem dX0_readCoordinates_5 : decode cX0_readCoordinates 5 = .ok (.ifCond .ge 67, 3) := by decide +kernel
theorem dX0_readCoordinates_8 : decode cX0_readCoordinates 8 = .ok (.aload_n 0, 1) := by decide +kernel
theorem dX0_readCoordinates_9 : decode cX0_readCoordinates 9 = .ok (.getfield 27, 3) := by decide +kernel
theorem dX0_readCoordinates_12 : decode cX0_readCoordinates 12 = .ok (.invokevirtual 123, 3) := by decide +kernel
theorem dX0_readCoordinates_15 : decode cX0_readCoordinates 15 = .ok (.ifCond .ne 10, 3) := by decide +kernel
theorem dX0_readCoordinates_18 : decode cX0_readCoordinates 18 = .ok (.aload_n 0, 1) := by decide +kernel
theorem dX0_readCoordinates_19 : decode cX0_readCoordinates 19 = .ok (.bipush 7, 2) := by decide +kernel
theorem dX0_readCoordinates_21 : decode cX0_readCoordinates 21 = .ok (.invokevirtual 68, 3) := by decide +kernel
theorem dX0_readCoordinates_24 : decode cX0_readCoordinates 24 = .ok (.ireturn, 1) := by decide +kernel
theorem dX0_readCoordinates_25 : decode cX0_readCoordinates 25 = .ok (.aload_n 0, 1) := by decide +kernel
theorem dX0_readCoordinates_26 : decode cX0_readCoordinates 26 = .ok (.invokevirtual 126, 3) := by decide +kernel
theorem dX0_readCoordinates_29 : decode cX0_readCoordinates 29 = .ok (.ifCond .ne 5, 3) := by decide +kernel
theorem dX0_readCoordinates_32 : decode cX0_readCoordinates 32 = .ok (.iconst 0, 1) := by decide +kernel
theorem dX0_readCoordinates_33 : decode cX0_readCoordinates 33 = .ok (.ireturn, 1) := by decide +kernel
theorem dX0_readCoordinates_34 : decode cX0_readCoordinates 34 = .ok (.aload_n 0, 1) := by decide +kernel
theorem dX0_readCoordinates_35 : decode cX0_readCoordinates 35 = .ok (.getfield 129, 3) := by decide +kernel
theorem dX0_readCoordinates_38 : decode cX0_readCoordinates 38 = .ok (.istore 5, 2) := by decide +kernel
theorem dX0_readCoordinates_40 : decode cX0_readCoordinates 40 = .ok (.aload_n 0, 1) := by decide +kernel
theorem dX0_readCoordinates_41 : decode cX0_readCoordinates 41 = .ok (.invokevirtual 126, 3) := by decide +kernel
theorem dX0_readCoordinates_44 : decode cX0_readCoordinates 44 = .ok (.ifCond .eq 19, 3) := by decide +kernel
theorem dX0_readCoordinates_47 : decode cX0_readCoordinates 47 = .ok (.aload_n 0, 1) := by decide +kernel
theorem dX0_readCoordinates_48 : decode cX0_readCoordinates 48 = .ok (.getfield 27, 3) := by decide +kernel
theorem dX0_readCoordinates_51 : decode cX0_readCoordinates 51 = .ok (.iload 5, 2) := by decide +kernel
theorem dX0_readCoordinates_53 : decode cX0_readCoordinates 53 = .ok (.aload_n 0, 1) := by decide +kernel
theorem dX0_readCoordinates_54 : decode cX0_readCoordinates 54 = .ok (.getfield 129, 3) := by decide +kernel
theorem dX0_readCoordinates_57 : decode cX0_readCoordinates 57 = .ok (.invokevirtual 132, 3) := by decide +kernel
theorem dX0_readCoordinates_60 : decode cX0_readCoordinates 60 = .ok (.ifCond .ne 5, 3) := by decide +kernel
theorem dX0_readCoordinates_63 : decode cX0_readCoordinates 63 = .ok (.iconst 0, 1) := by decide +kernel
theorem dX0_readCoordinates_64 : decode cX0_readCoordinates 64 = .ok (.ireturn, 1) := by decide +kernel
theorem dX0_readCoordinates_65 : decode cX0_readCoordinates 65 = .ok (.lload_n 3, 1) := by decide +kernel
theorem dX0_readCoordinates_66 : decode cX0_readCoordinates 66 = .ok (.lconst 1, 1) := by decide +kernel
theorem dX0_readCoordinates_67 : decode cX0_readCoordinates 67 = .ok (.ladd, 1) := by decide +kernel
theorem dX0_readCoordinates_68 : decode cX0_readCoordinates 68 = .ok (.lstore_n 3, 1) := by decide +kernel
theorem dX0_readCoordinates_69 : decode cX0_readCoordinates 69 = .ok (.goto (-67), 3) := by decide +kernel
theorem dX0_readCoordinates_72 : decode cX0_readCoordinates 72 = .ok (.iconst 1, 1) := by decide +kernel
theorem dX0_readCoordinates_73 : decode cX0_readCoordinates 73 = .ok (.ireturn, 1) := by decide +kernel
theorem dX0_readNumber_0 : decode cX0_readNumber 0 = .ok (.aload_n 0, 1) := by decide +kernel
theorem dX0_readNumber_1 : decode cX0_readNumber 1 = .ok (.bipush 8, 2) := by decide +kernel
theorem dX0_readNumber_3 : decode cX0_readNumber 3 = .ok (.invokevirtual 75, 3) := by decide +kernel
theorem dX0_readNumber_6 : decode cX0_readNumber 6 = .ok (.ifCond .ne 9, 3) := by decide +kernel
theorem dX0_readNumber_9 : decode cX0_readNumber 9 = .ok (.aload_n 0, 1) := by decide +kernel
theorem dX0_readNumber_10 : decode cX0_readNumber 10 = .ok (.iconst 3, 1) := by decide +kernel
theorem dX0_readNumber_11 : decode cX0_readNumber 11 = .ok (.invokevirtual 68, 3) := by decide +kernel
theorem dX0_readNumber_14 : decode cX0_readNumber 14 = .ok (.ireturn, 1) := by decide +kernel
theorem dX0_readNumber_15 : decode cX0_readNumber 15 = .ok (.aload_n 0, 1) := by decide +kernel
theorem dX0_readNumber_16 : decode cX0_readNumber 16 = .ok (.aload_n 0, 1) := by decide +kernel
theorem dX0_readNumber_17 : decode cX0_readNumber 17 = .ok (.getfield 45, 3) := by decide +kernel
theorem dX0_readNumber_20 : decode cX0_readNumber 20 = .ok (.bipush 8, 2) := by decide +kernel
theorem dX0_readNumber_22 : decode cX0_readNumber 22 = .ok (.invokevirtual 78, 3) := by decide +kernel
theorem dX0_readNumber_25 : decode cX0_readNumber 25 = .ok (.lstore_n 1, 1) := by decide +kernel
theorem dX0_readNumber_26 : decode cX0_readNumber 26 = .ok (.lload_n 1, 1) := by decide +kernel
theorem dX0_readNumber_27 : decode cX0_readNumber 27 = .ok (.bipush 52, 2) := by decide +kernel
theorem dX0_readNumber_29 : decode cX0_readNumber 29 = .ok (.lushr, 1) := by decide +kernel
theorem dX0_readNumber_30 : decode cX0_readNumber 30 = .ok (.l2i, 1) := by decide +kernel
theorem dX0_readNumber_31 : decode cX0_readNumber 31 = .ok (.sipush 2047, 3) := by decide +kernel
theorem dX0_readNumber_34 : decode cX0_readNumber 34 = .ok (.iand, 1) := by decide +kernel
theorem dX0_readNumber_35 : decode cX0_readNumber 35 = .ok (.istore_n 3, 1) := by decide +kernel
theorem dX0_readNumber_36 : decode cX0_readNumber 36 = .ok (.iload_n 3, 1) := by decide +kernel
theorem dX0_readNumber_37 : decode cX0_readNumber 37 = .ok (.sipush 2047, 3) := by decide +kernel
theorem dX0_readNumber_40 : decode cX0_readNumber 40 = .ok (.if_icmp .ne 9, 3) := by decide +kernel
theorem dX0_readNumber_43 : decode cX0_readNumber 43 = .ok (.aload_n 0, 1) := by decide +kernel
theorem dX0_readNumber_44 : decode cX0_readNumber 44 = .ok (.iconst 4, 1) := by decide +kernel
theorem dX0_readNumber_45 : decode cX0_readNumber 45 = .ok (.invokevirtual 68, 3) := by decide +kernel
theorem dX0_readNumber_48 : decode cX0_readNumber 48 = .ok (.ireturn, 1) := by decide +kernel
theorem dX0_readNumber_49 : decode cX0_readNumber 49 = .ok (.aload_n 0, 1) := by decide +kernel
theorem dX0_readNumber_50 : decode cX0_readNumber 50 = .ok (.iload_n 3, 1) := by decide +kernel
theorem dX0_readNumber_51 : decode cX0_readNumber 51 = .ok (.lload_n 1, 1) := by decide +kernel
theorem dX0_readNumber_52 : decode cX0_readNumber 52 = .ok (.ldc2_w 118, 3) := by decide +kernel
theorem dX0_readNumber_55 : decode cX0_readNumber 55 = .ok (.land, 1) := by decide +kernel
theorem dX0_readNumber_56 : decode cX0_readNumber 56 = .ok (.invokevirtual 135, 3) := by decide +kernel
theorem dX0_readNumber_59 : decode cX0_readNumber 59 = .ok (.lstore 4, 2) := by decide +kernel
theorem dX0_readNumber_61 : decode cX0_readNumber 61 = .ok (.lload 4, 2) := by decide +kernel
theorem dX0_readNumber_63 : decode cX0_readNumber 63 = .ok (.ldc2_w 139, 3) := by decide +kernel
theorem dX0_readNumber_66 : decode cX0_readNumber 66 = .ok (.lcmp, 1) := by decide +kernel
theorem dX0_readNumber_67 : decode cX0_readNumber 67 = .ok (.ifCond .le 9, 3) := by decide +kernel
theorem dX0_readNumber_70 : decode cX0_readNumber 70 = .ok (.aload_n 0, 1) := by decide +kernel
theorem dX0_readNumber_71 : decode cX0_readNumber 71 = .ok (.iconst 5, 1) := by decide +kernel
theorem dX0_readNumber_72 : decode cX0_readNumber 72 = .ok (.invokevirtual 68, 3) := by decide +kernel
theorem dX0_readNumber_75 : decode cX0_readNumber 75 = .ok (.ireturn, 1) := by decide +kernel
theorem dX0_readNumber_76 : decode cX0_readNumber 76 = .ok (.aload_n 0, 1) := by decide +kernel
theorem dX0_readNumber_77 : decode cX0_readNumber 77 = .ok (.lload_n 1, 1) := by decide +kernel
theorem dX0_readNumber_78 : decode cX0_readNumber 78 = .ok (.lconst 0, 1) := by decide +kernel
theorem dX0_readNumber_79 : decode cX0_readNumber 79 = .ok (.lcmp, 1) := by decide +kernel
theorem dX0_readNumber_80 : decode cX0_readNumber 80 = .ok (.ifCond .ge 9, 3) := by decide +kernel
theorem dX0_readNumber_83 : decode cX0_readNumber 83 = .ok (.lload 4, 2) := by decide +kernel
theorem dX0_readNumber_85 : decode cX0_readNumber 85 = .ok (.lneg, 1) := by decide +kernel
theorem dX0_readNumber_86 : decode cX0_readNumber 86 = .ok (.goto 5, 3) := by decide +kernel
theorem dX0_readNumber_89 : decode cX0_readNumber 89 = .ok (.lload 4, 2) := by decide +kernel
theorem dX0_readNumber_91 : decode cX0_readNumber 91 = .ok (.l2i, 1) := by decide +kernel
theorem dX0_readNumber_92 : decode cX0_readNumber 92 = .ok (.putfield 129, 3) := by decide +kernel
theorem dX0_readNumber_95 : decode cX0_readNumber 95 = .ok (.aload_n 0, 1) := by decide +kernel
theorem dX0_readNumber_96 : decode cX0_readNumber 96 = .ok (.dup, 1) := by decide +kernel
theorem dX0_readNumber_97 : decode cX0_readNumber 97 = .ok (.getfield 45, 3) := by decide +kernel
theorem dX0_readNumber_100 : decode cX0_readNumber 100 = .ok (.bipush 8, 2) := by decide +kernel
theorem dX0_readNumber_102 : decode cX0_readNumber 102 = .ok (.iadd, 1) := by decide +kernel
theorem dX0_readNumber_103 : decode cX0_readNumber 103 = .ok (.putfield 45, 3) := by decide +kernel
theorem dX0_readNumber_106 : decode cX0_readNumber 106 = .ok (.iconst 1, 1) := by decide +kernel
theorem dX0_readNumber_107 : decode cX0_readNumber 107 = .ok (.ireturn, 1) := by decide +kernel
theorem dX0_roundedFrom_0 : decode cX0_roundedFrom 0 = .ok (.iload_n 1, 1) := by decide +kernel
theorem dX0_roundedFrom_1 : decode cX0_roundedFrom 1 = .ok (.ifCond .ne 7, 3) := by decide +kernel
theorem dX0_roundedFrom_4 : decode cX0_roundedFrom 4 = .ok (.lload_n 2, 1) := by decide +kernel
theorem dX0_roundedFrom_5 : decode cX0_roundedFrom 5 = .ok (.goto 10, 3) := by decide +kernel
theorem dX0_roundedFrom_8 : decode cX0_roundedFrom 8 = .ok (.lload_n 2, 1) := by decide +kernel
theorem dX0_roundedFrom_9 : decode cX0_roundedFrom 9 = .ok (.ldc2_w 118, 3) := by decide +kernel
theorem dX0_roundedFrom_12 : decode cX0_roundedFrom 12 = .ok (.ladd, 1) := by decide +kernel
theorem dX0_roundedFrom_13 : decode cX0_roundedFrom 13 = .ok (.lconst 1, 1) := by decide +kernel
theorem dX0_roundedFrom_14 : decode cX0_roundedFrom 14 = .ok (.ladd, 1) := by decide +kernel
theorem dX0_roundedFrom_15 : decode cX0_roundedFrom 15 = .ok (.lstore 4, 2) := by decide +kernel
theorem dX0_roundedFrom_17 : decode cX0_roundedFrom 17 = .ok (.sipush 1075, 3) := by decide +kernel
theorem dX0_roundedFrom_20 : decode cX0_roundedFrom 20 = .ok (.iload_n 1, 1) := by decide +kernel
theorem dX0_roundedFrom_21 : decode cX0_roundedFrom 21 = .ok (.iconst 1, 1) := by decide +kernel
theorem dX0_roundedFrom_22 : decode cX0_roundedFrom 22 = .ok (.invokestatic 141, 3) := by decide +kernel
theorem dX0_roundedFrom_25 : decode cX0_roundedFrom 25 = .ok (.isub, 1) := by decide +kernel
theorem dX0_roundedFrom_26 : decode cX0_roundedFrom 26 = .ok (.istore 6, 2) := by decide +kernel
theorem dX0_roundedFrom_28 : decode cX0_roundedFrom 28 = .ok (.lload 4, 2) := by decide +kernel
theorem dX0_roundedFrom_30 : decode cX0_roundedFrom 30 = .ok (.getstatic 144, 3) := by decide +kernel
theorem dX0_roundedFrom_33 : decode cX0_roundedFrom 33 = .ok (.aload_n 0, 1) := by decide +kernel
theorem dX0_roundedFrom_34 : decode cX0_roundedFrom 34 = .ok (.getfield 19, 3) := by decide +kernel
theorem dX0_roundedFrom_37 : decode cX0_roundedFrom 37 = .ok (.iaload, 1) := by decide +kernel
theorem dX0_roundedFrom_38 : decode cX0_roundedFrom 38 = .ok (.i2l, 1) := by decide +kernel
theorem dX0_roundedFrom_39 : decode cX0_roundedFrom 39 = .ok (.lmul, 1) := by decide +kernel
theorem dX0_roundedFrom_40 : decode cX0_roundedFrom 40 = .ok (.lstore 7, 2) := by decide +kernel
theorem dX0_roundedFrom_42 : decode cX0_roundedFrom 42 = .ok (.iload 6, 2) := by decide +kernel
theorem dX0_roundedFrom_44 : decode cX0_roundedFrom 44 = .ok (.ifCond .gt 7, 3) := by decide +kernel
theorem dX0_roundedFrom_47 : decode cX0_roundedFrom 47 = .ok (.ldc2_w 149, 3) := by decide +kernel
theorem dX0_roundedFrom_50 : decode cX0_roundedFrom 50 = .ok (.lreturn, 1) := by decide +kernel
theorem dX0_roundedFrom_51 : decode cX0_roundedFrom 51 = .ok (.iload 6, 2) := by decide +kernel
theorem dX0_roundedFrom_53 : decode cX0_roundedFrom 53 = .ok (.bipush 63, 2) := by decide +kernel
theorem dX0_roundedFrom_55 : decode cX0_roundedFrom 55 = .ok (.if_icmp .le 5, 3) := by decide +kernel
theorem dX0_roundedFrom_58 : decode cX0_roundedFrom 58 = .ok (.lconst 0, 1) := by decide +kernel
theorem dX0_roundedFrom_59 : decode cX0_roundedFrom 59 = .ok (.lreturn, 1) := by decide +kernel
theorem dX0_roundedFrom_60 : decode cX0_roundedFrom 60 = .ok (.lload 7, 2) := by decide +kernel
theorem dX0_roundedFrom_62 : decode cX0_roundedFrom 62 = .ok (.iload 6, 2) := by decide +kernel
theorem dX0_roundedFrom_64 : decode cX0_roundedFrom 64 = .ok (.lushr, 1) := by decide +kernel
theorem dX0_roundedFrom_65 : decode cX0_roundedFrom 65 = .ok (.lstore 9, 2) := by decide +kernel
theorem dX0_roundedFrom_67 : decode cX0_roundedFrom 67 = .ok (.lload 7, 2) := by decide +kernel
theorem dX0_roundedFrom_69 : decode cX0_roundedFrom 69 = .ok (.lload 9, 2) := by decide +kernel
theorem dX0_roundedFrom_71 : decode cX0_roundedFrom 71 = .ok (.iload 6, 2) := by decide +kernel
theorem dX0_roundedFrom_73 : decode cX0_roundedFrom 73 = .ok (.lshl, 1) := by decide +kernel
theorem dX0_roundedFrom_74 : decode cX0_roundedFrom 74 = .ok (.lsub, 1) := by decide +kernel
theorem dX0_roundedFrom_75 : decode cX0_roundedFrom 75 = .ok (.lstore 11, 2) := by decide +kernel
theorem dX0_roundedFrom_77 : decode cX0_roundedFrom 77 = .ok (.lconst 1, 1) := by decide +kernel
theorem dX0_roundedFrom_78 : decode cX0_roundedFrom 78 = .ok (.iload 6, 2) := by decide +kernel
theorem dX0_roundedFrom_80 : decode cX0_roundedFrom 80 = .ok (.iconst 1, 1) := by decide +kernel
theorem dX0_roundedFrom_81 : decode cX0_roundedFrom 81 = .ok (.isub, 1) := by decide +kernel
theorem dX0_roundedFrom_82 : decode cX0_roundedFrom 82 = .ok (.lshl, 1) := by decide +kernel
theorem dX0_roundedFrom_83 : decode cX0_roundedFrom 83 = .ok (.lstore 13, 2) := by decide +kernel
theorem dX0_roundedFrom_85 : decode cX0_roundedFrom 85 = .ok (.lload 11, 2) := by decide +kernel
theorem dX0_roundedFrom_87 : decode cX0_roundedFrom 87 = .ok (.lload 13, 2) := by decide +kernel
theorem dX0_roundedFrom_89 : decode cX0_roundedFrom 89 = .ok (.lcmp, 1) := by decide +kernel
theorem dX0_roundedFrom_90 : decode cX0_roundedFrom 90 = .ok (.ifCond .gt 20, 3) := by decide +kernel
theorem dX0_roundedFrom_93 : decode cX0_roundedFrom 93 = .ok (.lload 11, 2) := by decide +kernel
theorem dX0_roundedFrom_95 : decode cX0_roundedFrom 95 = .ok (.lload 13, 2) := by decide +kernel
theorem dX0_roundedFrom_97 : decode cX0_roundedFrom 97 = .ok (.lcmp, 1) := by decide +kernel
theorem dX0_roundedFrom_98 : decode cX0_roundedFrom 98 = .ok (.ifCond .ne 16, 3) := by decide +kernel
theorem dX0_roundedFrom_101 : decode cX0_roundedFrom 101 = .ok (.lload 9, 2) := by decide +kernel
theorem dX0_roundedFrom_103 : decode cX0_roundedFrom 103 = .ok (.lconst 1, 1) := by decide +kernel
theorem dX0_roundedFrom_104 : decode cX0_roundedFrom 104 = .ok (.land, 1) := by decide +kernel
theorem dX0_roundedFrom_105 : decode cX0_roundedFrom 105 = .ok (.lconst 1, 1) := by decide +kernel
theorem dX0_roundedFrom_106 : decode cX0_roundedFrom 106 = .ok (.lcmp, 1) := by decide +kernel
theorem dX0_roundedFrom_107 : decode cX0_roundedFrom 107 = .ok (.ifCond .ne 7, 3) := by decide +kernel
theorem dX0_roundedFrom_110 : decode cX0_roundedFrom 110 = .ok (.iconst 1, 1) := by decide +kernel
theorem dX0_roundedFrom_111 : decode cX0_roundedFrom 111 = .ok (.goto 4, 3) := by decide +kernel
theorem dX0_roundedFrom_114 : decode cX0_roundedFrom 114 = .ok (.iconst 0, 1) := by decide +kernel
theorem dX0_roundedFrom_115 : decode cX0_roundedFrom 115 = .ok (.istore 15, 2) := by decide +kernel
theorem dX0_roundedFrom_117 : decode cX0_roundedFrom 117 = .ok (.iload 15, 2) := by decide +kernel
theorem dX0_roundedFrom_119 : decode cX0_roundedFrom 119 = .ok (.ifCond .eq 10, 3) := by decide +kernel
theorem dX0_roundedFrom_122 : decode cX0_roundedFrom 122 = .ok (.lload 9, 2) := by decide +kernel
theorem dX0_roundedFrom_124 : decode cX0_roundedFrom 124 = .ok (.lconst 1, 1) := by decide +kernel
theorem dX0_roundedFrom_125 : decode cX0_roundedFrom 125 = .ok (.ladd, 1) := by decide +kernel
theorem dX0_roundedFrom_126 : decode cX0_roundedFrom 126 = .ok (.goto 5, 3) := by decide +kernel
theorem dX0_roundedFrom_129 : decode cX0_roundedFrom 129 = .ok (.lload 9, 2) := by decide +kernel
theorem dX0_roundedFrom_131 : decode cX0_roundedFrom 131 = .ok (.lreturn, 1) := by decide +kernel
theorem dX10_wordFor_0 : decode cX10_wordFor 0 = .ok (.iload_n 0, 1) := by decide +kernel
theorem dX10_wordFor_1 : decode cX10_wordFor 1 = .ok (.tableswitch 57 1 6 #[39, 42, 45, 48, 51, 54], 39) := by decide +kernel
theorem dX10_wordFor_40 : decode cX10_wordFor 40 = .ok (.ldc 27, 2) := by decide +kernel
theorem dX10_wordFor_42 : decode cX10_wordFor 42 = .ok (.areturn, 1) := by decide +kernel
theorem dX10_wordFor_43 : decode cX10_wordFor 43 = .ok (.ldc 29, 2) := by decide +kernel
theorem dX10_wordFor_45 : decode cX10_wordFor 45 = .ok (.areturn, 1) := by decide +kernel
theorem dX10_wordFor_46 : decode cX10_wordFor 46 = .ok (.ldc 31, 2) := by decide +kernel
theorem dX10_wordFor_48 : decode cX10_wordFor 48 = .ok (.areturn, 1) := by decide +kernel
theorem dX10_wordFor_49 : decode cX10_wordFor 49 = .ok (.ldc 33, 2) := by decide +kernel
theorem dX10_wordFor_51 : decode cX10_wordFor 51 = .ok (.areturn, 1) := by decide +kernel
theorem dX10_wordFor_52 : decode cX10_wordFor 52 = .ok (.ldc 35, 2) := by decide +kernel
theorem dX10_wordFor_54 : decode cX10_wordFor 54 = .ok (.areturn, 1) := by decide +kernel
theorem dX10_wordFor_55 : decode cX10_wordFor 55 = .ok (.ldc 37, 2) := by decide +kernel
theorem dX10_wordFor_57 : decode cX10_wordFor 57 = .ok (.areturn, 1) := by decide +kernel
theorem dX10_wordFor_58 : decode cX10_wordFor 58 = .ok (.ldc 39, 2) := by decide +kernel
theorem dX10_wordFor_60 : decode cX10_wordFor 60 = .ok (.areturn, 1) := by decide +kernel
theorem dX10_put_0 : decode cX10_put 0 = .ok (.aload_n 0, 1) := by decide +kernel
theorem dX10_put_1 : decode cX10_put 1 = .ok (.getfield 41, 3) := by decide +kernel
theorem dX10_put_4 : decode cX10_put 4 = .ok (.ldc 18, 2) := by decide +kernel
theorem dX10_put_6 : decode cX10_put 6 = .ok (.if_icmp .ge 24, 3) := by decide +kernel
theorem dX10_put_9 : decode cX10_put 9 = .ok (.aload_n 0, 1) := by decide +kernel
theorem dX10_put_10 : decode cX10_put 10 = .ok (.getfield 19, 3) := by decide +kernel
theorem dX10_put_13 : decode cX10_put 13 = .ok (.aload_n 0, 1) := by decide +kernel
theorem dX10_put_14 : decode cX10_put 14 = .ok (.getfield 41, 3) := by decide +kernel
theorem dX10_put_17 : decode cX10_put 17 = .ok (.iload_n 1, 1) := by decide +kernel
theorem dX10_put_18 : decode cX10_put 18 = .ok (.i2b, 1) := by decide +kernel
theorem dX10_put_19 : decode cX10_put 19 = .ok (.bastore, 1) := by decide +kernel
theorem dX10_put_20 : decode cX10_put 20 = .ok (.aload_n 0, 1) := by decide +kernel
theorem dX10_put_21 : decode cX10_put 21 = .ok (.dup, 1) := by decide +kernel
theorem dX10_put_22 : decode cX10_put 22 = .ok (.getfield 41, 3) := by decide +kernel
theorem dX10_put_25 : decode cX10_put 25 = .ok (.iconst 1, 1) := by decide +kernel
theorem dX10_put_26 : decode cX10_put 26 = .ok (.iadd, 1) := by decide +kernel
theorem dX10_put_27 : decode cX10_put 27 = .ok (.putfield 41, 3) := by decide +kernel
theorem dX10_put_30 : decode cX10_put 30 = .ok (.return_, 1) := by decide +kernel
theorem dX10_putText_0 : decode cX10_putText 0 = .ok (.iconst 0, 1) := by decide +kernel
theorem dX10_putText_1 : decode cX10_putText 1 = .ok (.istore_n 2, 1) := by decide +kernel
theorem dX10_putText_2 : decode cX10_putText 2 = .ok (.iload_n 2, 1) := by decide +kernel
theorem dX10_putText_3 : decode cX10_putText 3 = .ok (.aload_n 1, 1) := by decide +kernel
theorem dX10_putText_4 : decode cX10_putText 4 = .ok (.invokevirtual 44, 3) := by decide +kernel
theorem dX10_putText_7 : decode cX10_putText 7 = .ok (.if_icmp .ge 18, 3) := by decide +kernel
theorem dX10_putText_10 : decode cX10_putText 10 = .ok (.aload_n 0, 1) := by decide +kernel
theorem dX10_putText_11 : decode cX10_putText 11 = .ok (.aload_n 1, 1) := by decide +kernel
theorem dX10_putText_12 : decode cX10_putText 12 = .ok (.iload_n 2, 1) := by decide +kernel
theorem dX10_putText_13 : decode cX10_putText 13 = .ok (.invokevirtual 50, 3) := by decide +kernel
theorem dX10_putText_16 : decode cX10_putText 16 = .ok (.invokevirtual 54, 3) := by decide +kernel
theorem dX10_putText_19 : decode cX10_putText 19 = .ok (.iinc 2 1, 3) := by decide +kernel
theorem dX10_putText_22 : decode cX10_putText 22 = .ok (.goto (-20), 3) := by decide +kernel
theorem dX10_putText_25 : decode cX10_putText 25 = .ok (.return_, 1) := by decide +kernel
theorem dX10_tellInWords_0 : decode cX10_tellInWords 0 = .ok (.aload_n 0, 1) := by decide +kernel
theorem dX10_tellInWords_1 : decode cX10_tellInWords 1 = .ok (.iconst 0, 1) := by decide +kernel
theorem dX10_tellInWords_2 : decode cX10_tellInWords 2 = .ok (.putfield 41, 3) := by decide +kernel
theorem dX10_tellInWords_5 : decode cX10_tellInWords 5 = .ok (.iconst 0, 1) := by decide +kernel
theorem dX10_tellInWords_6 : decode cX10_tellInWords 6 = .ok (.istore_n 2, 1) := by decide +kernel
theorem dX10_tellInWords_7 : decode cX10_tellInWords 7 = .ok (.iconst 0, 1) := by decide +kernel
theorem dX10_tellInWords_8 : decode cX10_tellInWords 8 = .ok (.istore_n 3, 1) := by decide +kernel
theorem dX10_tellInWords_9 : decode cX10_tellInWords 9 = .ok (.iconst 0, 1) := by decide +kernel
theorem dX10_tellInWords_10 : decode cX10_tellInWords 10 = .ok (.istore 4, 2) := by decide +kernel
theorem dX10_tellInWords_12 : decode cX10_tellInWords 12 = .ok (.iload 4, 2) := by decide +kernel
theorem dX10_tellInWords_14 : decode cX10_tellInWords 14 = .ok (.iconst 1, 1) := by decide +kernel
theorem dX10_tellInWords_15 : decode cX10_tellInWords 15 = .ok (.iadd, 1) := by decide +kernel
theorem dX10_tellInWords_16 : decode cX10_tellInWords 16 = .ok (.aload_n 1, 1) := by decide +kernel
theorem dX10_tellInWords_17 : decode cX10_tellInWords 17 = .ok (.getfield 58, 3) := by decide +kernel
theorem dX10_tellInWords_20 : decode cX10_tellInWords 20 = .ok (.if_icmp .ge 134, 3) := by decide +kernel
theorem dX10_tellInWords_23 : decode cX10_tellInWords 23 = .ok (.aload_n 1, 1) := by decide +kernel
theorem dX10_tellInWords_24 : decode cX10_tellInWords 24 = .ok (.getfield 63, 3) := by decide +kernel
theorem dX10_tellInWords_27 : decode cX10_tellInWords 27 = .ok (.iload 4, 2) := by decide +kernel
theorem dX10_tellInWords_29 : decode cX10_tellInWords 29 = .ok (.iaload, 1) := by decide +kernel
theorem dX10_tellInWords_30 : decode cX10_tellInWords 30 = .ok (.istore 5, 2) := by decide +kernel
theorem dX10_tellInWords_32 : decode cX10_tellInWords 32 = .ok (.aload_n 1, 1) := by decide +kernel
theorem dX10_tellInWords_33 : decode cX10_tellInWords 33 = .ok (.getfield 63, 3) := by decide +kernel
theorem dX10_tellInWords_36 : decode cX10_tellInWords 36 = .ok (.iload 4, 2) := by decide +kernel
theorem dX10_tellInWords_38 : decode cX10_tellInWords 38 = .ok (.iconst 1, 1) := by decide +kernel
theorem dX10_tellInWords_39 : decode cX10_tellInWords 39 = .ok (.iadd, 1) := by decide +kernel
theorem dX10_tellInWords_40 : decode cX10_tellInWords 40 = .ok (.iaload, 1) := by decide +kernel
theorem dX10_tellInWords_41 : decode cX10_tellInWords 41 = .ok (.istore 6, 2) := by decide +kernel
theorem dX10_tellInWords_43 : decode cX10_tellInWords 43 = .ok (.iload_n 2, 1) := by decide +kernel
theorem dX10_tellInWords_44 : decode cX10_tellInWords 44 = .ok (.ifCond .eq 16, 3) := by decide +kernel
theorem dX10_tellInWords_47 : decode cX10_tellInWords 47 = .ok (.aload_n 0, 1) := by decide +kernel
theorem dX10_tellInWords_48 : decode cX10_tellInWords 48 = .ok (.getfield 9, 3) := by decide +kernel
theorem dX10_tellInWords_51 : decode cX10_tellInWords 51 = .ok (.iload_n 2, 1) := by decide +kernel
theorem dX10_tellInWords_52 : decode cX10_tellInWords 52 = .ok (.iconst 1, 1) := by decide +kernel
theorem dX10_tellInWords_53 : decode cX10_tellInWords 53 = .ok (.isub, 1) := by decide +kernel
theorem dX10_tellInWords_54 : decode cX10_tellInWords 54 = .ok (.iaload, 1) := by decide +kernel
theorem dX10_tellInWords_55 : decode cX10_tellInWords 55 = .ok (.bipush 7, 2) := by decide +kernel
theorem dX10_tellInWords_57 : decode cX10_tellInWords 57 = .ok (.if_icmp .ne 18, 3) := by decide +kernel
theorem dX10_tellInWords_60 : decode cX10_tellInWords 60 = .ok (.aload_n 0, 1) := by decide +kernel
theorem dX10_tellInWords_61 : decode cX10_tellInWords 61 = .ok (.iload 5, 2) := by decide +kernel
theorem dX10_tellInWords_63 : decode cX10_tellInWords 63 = .ok (.invokestatic 66, 3) := by decide +kernel
theorem dX10_tellInWords_66 : decode cX10_tellInWords 66 = .ok (.invokevirtual 70, 3) := by decide +kernel
theorem dX10_tellInWords_69 : decode cX10_tellInWords 69 = .ok (.aload_n 0, 1) := by decide +kernel
theorem dX10_tellInWords_70 : decode cX10_tellInWords 70 = .ok (.bipush 32, 2) := by decide +kernel
theorem dX10_tellInWords_72 : decode cX10_tellInWords 72 = .ok (.invokevirtual 54, 3) := by decide +kernel
theorem dX10_tellInWords_75 : decode cX10_tellInWords 75 = .ok (.iload 6, 2) := by decide +kernel
theorem dX10_tellInWords_77 : decode cX10_tellInWords 77 = .ok (.ifCond .le 43, 3) := by decide +kernel
theorem dX10_tellInWords_80 : decode cX10_tellInWords 80 = .ok (.iload 5, 2) := by decide +kernel
theorem dX10_tellInWords_82 : decode cX10_tellInWords 82 = .ok (.iconst 3, 1) := by decide +kernel
theorem dX10_tellInWords_83 : decode cX10_tellInWords 83 = .ok (.if_icmp .le 37, 3) := by decide +kernel
theorem dX10_tellInWords_86 : decode cX10_tellInWords 86 = .ok (.iload_n 2, 1) := by decide +kernel
theorem dX10_tellInWords_87 : decode cX10_tellInWords 87 = .ok (.bipush 64, 2) := by decide +kernel
theorem dX10_tellInWords_89 : decode cX10_tellInWords 89 = .ok (.if_icmp .ge 31, 3) := by decide +kernel
theorem dX10_tellInWords_92 : decode cX10_tellInWords 92 = .ok (.aload_n 0, 1) := by decide +kernel
theorem dX10_tellInWords_93 : decode cX10_tellInWords 93 = .ok (.bipush 40, 2) := by decide +kernel
theorem dX10_tellInWords_95 : decode cX10_tellInWords 95 = .ok (.invokevirtual 54, 3) := by decide +kernel
theorem dX10_tellInWords_98 : decode cX10_tellInWords 98 = .ok (.aload_n 0, 1) := by decide +kernel
theorem dX10_tellInWords_99 : decode cX10_tellInWords 99 = .ok (.getfield 9, 3) := by decide +kernel
theorem dX10_tellInWords_102 : decode cX10_tellInWords 102 = .ok (.iload_n 2, 1) := by decide +kernel
theorem dX10_tellInWords_103 : decode cX10_tellInWords 103 = .ok (.iload 5, 2) := by decide +kernel
theorem dX10_tellInWords_105 : decode cX10_tellInWords 105 = .ok (.iastore, 1) := by decide +kernel
theorem dX10_tellInWords_106 : decode cX10_tellInWords 106 = .ok (.aload_n 0, 1) := by decide +kernel
theorem dX10_tellInWords_107 : decode cX10_tellInWords 107 = .ok (.getfield 15, 3) := by decide +kernel
theorem dX10_tellInWords_110 : decode cX10_tellInWords 110 = .ok (.iload_n 2, 1) := by decide +kernel
theorem dX10_tellInWords_111 : decode cX10_tellInWords 111 = .ok (.iload 6, 2) := by decide +kernel
theorem dX10_tellInWords_113 : decode cX10_tellInWords 113 = .ok (.iastore, 1) := by decide +kernel
theorem dX10_tellInWords_114 : decode cX10_tellInWords 114 = .ok (.iinc 2 1, 3) := by decide +kernel
theorem dX10_tellInWords_117 : decode cX10_tellInWords 117 = .ok (.goto 26, 3) := by decide +kernel
theorem dX10_tellInWords_120 : decode cX10_tellInWords 120 = .ok (.aload_n 0, 1) := by decide +kernel
theorem dX10_tellInWords_121 : decode cX10_tellInWords 121 = .ok (.aload_n 1, 1) := by decide +kernel
theorem dX10_tellInWords_122 : decode cX10_tellInWords 122 = .ok (.iload 4, 2) := by decide +kernel
theorem dX10_tellInWords_124 : decode cX10_tellInWords 124 = .ok (.iload_n 3, 1) := by decide +kernel
theorem dX10_tellInWords_125 : decode cX10_tellInWords 125 = .ok (.invokevirtual 74, 3) := by decide +kernel
theorem dX10_tellInWords_128 : decode cX10_tellInWords 128 = .ok (.iload_n 3, 1) := by decide +kernel
theorem dX10_tellInWords_129 : decode cX10_tellInWords 129 = .ok (.aload_n 1, 1) := by decide +kernel
theorem dX10_tellInWords_130 : decode cX10_tellInWords 130 = .ok (.iload 4, 2) := by decide +kernel
theorem dX10_tellInWords_132 : decode cX10_tellInWords 132 = .ok (.invokevirtual 78, 3) := by decide +kernel
theorem dX10_tellInWords_135 : decode cX10_tellInWords 135 = .ok (.iadd, 1) := by decide +kernel
theorem dX10_tellInWords_136 : decode cX10_tellInWords 136 = .ok (.istore_n 3, 1) := by decide +kernel
theorem dX10_tellInWords_137 : decode cX10_tellInWords 137 = .ok (.aload_n 0, 1) := by decide +kernel
theorem dX10_tellInWords_138 : decode cX10_tellInWords 138 = .ok (.iload_n 2, 1) := by decide +kernel
theorem dX10_tellInWords_139 : decode cX10_tellInWords 139 = .ok (.invokevirtual 82, 3) := by decide +kernel
theorem dX10_tellInWords_142 : decode cX10_tellInWords 142 = .ok (.istore_n 2, 1) := by decide +kernel
theorem dX10_tellInWords_143 : decode cX10_tellInWords 143 = .ok (.aload_n 1, 1) := by decide +kernel
theorem dX10_tellInWords_144 : decode cX10_tellInWords 144 = .ok (.iload 4, 2) := by decide +kernel
theorem dX10_tellInWords_146 : decode cX10_tellInWords 146 = .ok (.invokevirtual 85, 3) := by decide +kernel
theorem dX10_tellInWords_149 : decode cX10_tellInWords 149 = .ok (.istore 4, 2) := by decide +kernel
theorem dX10_tellInWords_151 : decode cX10_tellInWords 151 = .ok (.goto (-139), 3) := by decide +kernel
theorem dX10_tellInWords_154 : decode cX10_tellInWords 154 = .ok (.aload_n 0, 1) := by decide +kernel
theorem dX10_tellInWords_155 : decode cX10_tellInWords 155 = .ok (.getfield 41, 3) := by decide +kernel
theorem dX10_tellInWords_158 : decode cX10_tellInWords 158 = .ok (.ireturn, 1) := by decide +kernel
theorem dX10_closeLevels_0 : decode cX10_closeLevels 0 = .ok (.iload_n 1, 1) := by decide +kernel
theorem dX10_closeLevels_1 : decode cX10_closeLevels 1 = .ok (.istore_n 2, 1) := by decide +kernel
theorem dX10_closeLevels_2 : decode cX10_closeLevels 2 = .ok (.iload_n 2, 1) := by decide +kernel
theorem dX10_closeLevels_3 : decode cX10_closeLevels 3 = .ok (.ifCond .le 46, 3) := by decide +kernel
theorem dX10_closeLevels_6 : decode cX10_closeLevels 6 = .ok (.aload_n 0, 1) := by decide +kernel
theorem dX10_closeLevels_7 : decode cX10_closeLevels 7 = .ok (.getfield 15, 3) := by decide +kernel
theorem dX10_closeLevels_10 : decode cX10_closeLevels 10 = .ok (.iload_n 2, 1) := by decide +kernel
theorem dX10_closeLevels_11 : decode cX10_closeLevels 11 = .ok (.iconst 1, 1) := by decide +kernel
theorem dX10_closeLevels_12 : decode cX10_closeLevels 12 = .ok (.isub, 1) := by decide +kernel
theorem dX10_closeLevels_13 : decode cX10_closeLevels 13 = .ok (.dup2, 1) := by decide +kernel
theorem dX10_closeLevels_14 : decode cX10_closeLevels 14 = .ok (.iaload, 1) := by decide +kernel
theorem dX10_closeLevels_15 : decode cX10_closeLevels 15 = .ok (.iconst 1, 1) := by decide +kernel
theorem dX10_closeLevels_16 : decode cX10_closeLevels 16 = .ok (.isub, 1) := by decide +kernel
theorem dX10_closeLevels_17 : decode cX10_closeLevels 17 = .ok (.iastore, 1) := by decide +kernel
theorem dX10_closeLevels_18 : decode cX10_closeLevels 18 = .ok (.aload_n 0, 1) := by decide +kernel
theorem dX10_closeLevels_19 : decode cX10_closeLevels 19 = .ok (.getfield 15, 3) := by decide +kernel
theorem dX10_closeLevels_22 : decode cX10_closeLevels 22 = .ok (.iload_n 2, 1) := by decide +kernel
theorem dX10_closeLevels_23 : decode cX10_closeLevels 23 = .ok (.iconst 1, 1) := by decide +kernel
theorem dX10_closeLevels_24 : decode cX10_closeLevels 24 = .ok (.isub, 1) := by decide +kernel
theorem dX10_closeLevels_25 : decode cX10_closeLevels 25 = .ok (.iaload, 1) := by decide +kernel
theorem dX10_closeLevels_26 : decode cX10_closeLevels 26 = .ok (.ifCond .le 11, 3) := by decide +kernel
theorem dX10_closeLevels_29 : decode cX10_closeLevels 29 = .ok (.aload_n 0, 1) := by decide +kernel
theorem dX10_closeLevels_30 : decode cX10_closeLevels 30 = .ok (.ldc 88, 2) := by decide +kernel
theorem dX10_closeLevels_32 : decode cX10_closeLevels 32 = .ok (.invokevirtual 70, 3) := by decide +kernel
theorem dX10_closeLevels_35 : decode cX10_closeLevels 35 = .ok (.iload_n 2, 1) := by decide +kernel
theorem dX10_closeLevels_36 : decode cX10_closeLevels 36 = .ok (.ireturn, 1) := by decide +kernel
theorem dX10_closeLevels_37 : decode cX10_closeLevels 37 = .ok (.aload_n 0, 1) := by decide +kernel
theorem dX10_closeLevels_38 : decode cX10_closeLevels 38 = .ok (.bipush 41, 2) := by decide +kernel
theorem dX10_closeLevels_40 : decode cX10_closeLevels 40 = .ok (.invokevirtual 54, 3) := by decide +kernel
theorem dX10_closeLevels_43 : decode cX10_closeLevels 43 = .ok (.iinc 2 (-1), 3) := by decide +kernel
theorem dX10_closeLevels_46 : decode cX10_closeLevels 46 = .ok (.goto (-44), 3) := by decide +kernel
theorem dX10_closeLevels_49 : decode cX10_closeLevels 49 = .ok (.iconst 0, 1) := by decide +kernel
theorem dX10_closeLevels_50 : decode cX10_closeLevels 50 = .ok (.ireturn, 1) := by decide +kernel
theorem dX10_putRows_0 : decode cX10_putRows 0 = .ok (.aload_n 1, 1) := by decide +kernel
theorem dX10_putRows_1 : decode cX10_putRows 1 = .ok (.getfield 63, 3) := by decide +kernel
theorem dX10_putRows_4 : decode cX10_putRows 4 = .ok (.iload_n 2, 1) := by decide +kernel
theorem dX10_putRows_5 : decode cX10_putRows 5 = .ok (.iconst 1, 1) := by decide +kernel
theorem dX10_putRows_6 : decode cX10_putRows 6 = .ok (.iadd, 1) := by decide +kernel
theorem dX10_putRows_7 : decode cX10_putRows 7 = .ok (.iaload, 1) := by decide +kernel
theorem dX10_putRows_8 : decode cX10_putRows 8 = .ok (.ifCond .ne 10, 3) := by decide +kernel
theorem dX10_putRows_11 : decode cX10_putRows 11 = .ok (.aload_n 0, 1) := by decide +kernel
theorem dX10_putRows_12 : decode cX10_putRows 12 = .ok (.ldc 90, 2) := by decide +kernel
theorem dX10_putRows_14 : decode cX10_putRows 14 = .ok (.invokevirtual 70, 3) := by decide +kernel
theorem dX10_putRows_17 : decode cX10_putRows 17 = .ok (.return_, 1) := by decide +kernel
theorem dX10_putRows_18 : decode cX10_putRows 18 = .ok (.aload_n 1, 1) := by decide +kernel
theorem dX10_putRows_19 : decode cX10_putRows 19 = .ok (.getfield 63, 3) := by decide +kernel
theorem dX10_putRows_22 : decode cX10_putRows 22 = .ok (.iload_n 2, 1) := by decide +kernel
theorem dX10_putRows_23 : decode cX10_putRows 23 = .ok (.iaload, 1) := by decide +kernel
theorem dX10_putRows_24 : decode cX10_putRows 24 = .ok (.iconst 3, 1) := by decide +kernel
theorem dX10_putRows_25 : decode cX10_putRows 25 = .ok (.if_icmp .ne 7, 3) := by decide +kernel
theorem dX10_putRows_28 : decode cX10_putRows 28 = .ok (.iconst 1, 1) := by decide +kernel
theorem dX10_putRows_29 : decode cX10_putRows 29 = .ok (.goto 4, 3) := by decide +kernel
theorem dX10_putRows_32 : decode cX10_putRows 32 = .ok (.iconst 0, 1) := by decide +kernel
theorem dX10_putRows_33 : decode cX10_putRows 33 = .ok (.istore 4, 2) := by decide +kernel
theorem dX10_putRows_35 : decode cX10_putRows 35 = .ok (.iload 4, 2) := by decide +kernel
theorem dX10_putRows_37 : decode cX10_putRows 37 = .ok (.ifCond .eq 9, 3) := by decide +kernel
theorem dX10_putRows_40 : decode cX10_putRows 40 = .ok (.aload_n 0, 1) := by decide +kernel
theorem dX10_putRows_41 : decode cX10_putRows 41 = .ok (.bipush 40, 2) := by decide +kernel
theorem dX10_putRows_43 : decode cX10_putRows 43 = .ok (.invokevirtual 54, 3) := by decide +kernel
theorem dX10_putRows_46 : decode cX10_putRows 46 = .ok (.iload_n 3, 1) := by decide +kernel
theorem dX10_putRows_47 : decode cX10_putRows 47 = .ok (.istore 5, 2) := by decide +kernel
theorem dX10_putRows_49 : decode cX10_putRows 49 = .ok (.iconst 0, 1) := by decide +kernel
theorem dX10_putRows_50 : decode cX10_putRows 50 = .ok (.istore 6, 2) := by decide +kernel
theorem dX10_putRows_52 : decode cX10_putRows 52 = .ok (.iload 6, 2) := by decide +kernel
theorem dX10_putRows_54 : decode cX10_putRows 54 = .ok (.aload_n 1, 1) := by decide +kernel
theorem dX10_putRows_55 : decode cX10_putRows 55 = .ok (.iload_n 2, 1) := by decide +kernel
theorem dX10_putRows_56 : decode cX10_putRows 56 = .ok (.invokevirtual 92, 3) := by decide +kernel
theorem dX10_putRows_59 : decode cX10_putRows 59 = .ok (.if_icmp .ge 45, 3) := by decide +kernel
theorem dX10_putRows_62 : decode cX10_putRows 62 = .ok (.iload 6, 2) := by decide +kernel
theorem dX10_putRows_64 : decode cX10_putRows 64 = .ok (.ifCond .le 9, 3) := by decide +kernel
theorem dX10_putRows_67 : decode cX10_putRows 67 = .ok (.aload_n 0, 1) := by decide +kernel
theorem dX10_putRows_68 : decode cX10_putRows 68 = .ok (.ldc 88, 2) := by decide +kernel
theorem dX10_putRows_70 : decode cX10_putRows 70 = .ok (.invokevirtual 70, 3) := by decide +kernel
theorem dX10_putRows_73 : decode cX10_putRows 73 = .ok (.aload_n 1, 1) := by decide +kernel
theorem dX10_putRows_74 : decode cX10_putRows 74 = .ok (.iload_n 2, 1) := by decide +kernel
theorem dX10_putRows_75 : decode cX10_putRows 75 = .ok (.iload 6, 2) := by decide +kernel
theorem dX10_putRows_77 : decode cX10_putRows 77 = .ok (.invokevirtual 95, 3) := by decide +kernel
theorem dX10_putRows_80 : decode cX10_putRows 80 = .ok (.istore 7, 2) := by decide +kernel
theorem dX10_putRows_82 : decode cX10_putRows 82 = .ok (.aload_n 0, 1) := by decide +kernel
theorem dX10_putRows_83 : decode cX10_putRows 83 = .ok (.aload_n 1, 1) := by decide +kernel
theorem dX10_putRows_84 : decode cX10_putRows 84 = .ok (.iload 5, 2) := by decide +kernel
theorem dX10_putRows_86 : decode cX10_putRows 86 = .ok (.iload 7, 2) := by decide +kernel
theorem dX10_putRows_88 : decode cX10_putRows 88 = .ok (.invokevirtual 99, 3) := by decide +kernel
theorem dX10_putRows_91 : decode cX10_putRows 91 = .ok (.iload 5, 2) := by decide +kernel
theorem dX10_putRows_93 : decode cX10_putRows 93 = .ok (.iload 7, 2) := by decide +kernel
theorem dX10_putRows_95 : decode cX10_putRows 95 = .ok (.iadd, 1) := by decide +kernel
theorem dX10_putRows_96 : decode cX10_putRows 96 = .ok (.istore 5, 2) := by decide +kernel
theorem dX10_putRows_98 : decode cX10_putRows 98 = .ok (.iinc 6 1, 3) := by decide +kernel
theorem dX10_putRows_101 : decode cX10_putRows 101 = .ok (.goto (-49), 3) := by decide +kernel
theorem dX10_putRows_104 : decode cX10_putRows 104 = .ok (.iload 4, 2) := by decide +kernel
theorem dX10_putRows_106 : decode cX10_putRows 106 = .ok (.ifCond .eq 9, 3) := by decide +kernel
theorem dX10_putRows_109 : decode cX10_putRows 109 = .ok (.aload_n 0, 1) := by decide +kernel
theorem dX10_putRows_110 : decode cX10_putRows 110 = .ok (.bipush 41, 2) := by decide +kernel
theorem dX10_putRows_112 : decode cX10_putRows 112 = .ok (.invokevirtual 54, 3) := by decide +kernel
theorem dX10_putRows_115 : decode cX10_putRows 115 = .ok (.return_, 1) := by decide +kernel
theorem dX10_putCoordinates_0 : decode cX10_putCoordinates 0 = .ok (.aload_n 0, 1) := by decide +kernel
theorem dX10_putCoordinates_1 : decode cX10_putCoordinates 1 = .ok (.bipush 40, 2) := by decide +kernel
theorem dX10_putCoordinates_3 : decode cX10_putCoordinates 3 = .ok (.invokevirtual 54, 3) := by decide +kernel
theorem dX10_putCoordinates_6 : decode cX10_putCoordinates 6 = .ok (.iconst 0, 1) := by decide +kernel
theorem dX10_putCoordinates_7 : decode cX10_putCoordinates 7 = .ok (.istore 4, 2) := by decide +kernel
theorem dX10_putCoordinates_9 : decode cX10_putCoordinates 9 = .ok (.iload 4, 2) := by decide +kernel
theorem dX10_putCoordinates_11 : decode cX10_putCoordinates 11 = .ok (.iload_n 3, 1) := by decide +kernel
theorem dX10_putCoordinates_12 : decode cX10_putCoordinates 12 = .ok (.if_icmp .ge 52, 3) := by decide +kernel
theorem dX10_putCoordinates_15 : decode cX10_putCoordinates 15 = .ok (.iload 4, 2) := by decide +kernel
theorem dX10_putCoordinates_17 : decode cX10_putCoordinates 17 = .ok (.ifCond .le 9, 3) := by decide +kernel
theorem dX10_putCoordinates_20 : decode cX10_putCoordinates 20 = .ok (.aload_n 0, 1) := by decide +kernel
theorem dX10_putCoordinates_21 : decode cX10_putCoordinates 21 = .ok (.ldc 88, 2) := by decide +kernel
theorem dX10_putCoordinates_23 : decode cX10_putCoordinates 23 = .ok (.invokevirtual 70, 3) := by decide +kernel
theorem dX10_putCoordinates_26 : decode cX10_putCoordinates 26 = .ok (.aload_n 0, 1) := by decide +kernel
theorem dX10_putCoordinates_27 : decode cX10_putCoordinates 27 = .ok (.aload_n 1, 1) := by decide +kernel
theorem dX10_putCoordinates_28 : decode cX10_putCoordinates 28 = .ok (.getfield 102, 3) := by decide +kernel
theorem dX10_putCoordinates_31 : decode cX10_putCoordinates 31 = .ok (.iload_n 2, 1) := by decide +kernel
theorem dX10_putCoordinates_32 : decode cX10_putCoordinates 32 = .ok (.iload 4, 2) := by decide +kernel
theorem dX10_putCoordinates_34 : decode cX10_putCoordinates 34 = .ok (.iadd, 1) := by decide +kernel
theorem dX10_putCoordinates_35 : decode cX10_putCoordinates 35 = .ok (.iaload, 1) := by decide +kernel
theorem dX10_putCoordinates_36 : decode cX10_putCoordinates 36 = .ok (.invokevirtual 105, 3) := by decide +kernel
theorem dX10_putCoordinates_39 : decode cX10_putCoordinates 39 = .ok (.aload_n 0, 1) := by decide +kernel
theorem dX10_putCoordinates_40 : decode cX10_putCoordinates 40 = .ok (.bipush 32, 2) := by decide +kernel
theorem dX10_putCoordinates_42 : decode cX10_putCoordinates 42 = .ok (.invokevirtual 54, 3) := by decide +kernel
theorem dX10_putCoordinates_45 : decode cX10_putCoordinates 45 = .ok (.aload_n 0, 1) := by decide +kernel
theorem dX10_putCoordinates_46 : decode cX10_putCoordinates 46 = .ok (.aload_n 1, 1) := by decide +kernel
theorem dX10_putCoordinates_47 : decode cX10_putCoordinates 47 = .ok (.getfield 108, 3) := by decide +kernel
theorem dX10_putCoordinates_50 : decode cX10_putCoordinates 50 = .ok (.iload_n 2, 1) := by decide +kernel
theorem dX10_putCoordinates_51 : decode cX10_putCoordinates 51 = .ok (.iload 4, 2) := by decide +kernel
theorem dX10_putCoordinates_53 : decode cX10_putCoordinates 53 = .ok (.iadd, 1) := by decide +kernel
theorem dX10_putCoordinates_54 : decode cX10_putCoordinates 54 = .ok (.iaload, 1) := by decide +kernel
theorem dX10_putCoordinates_55 : decode cX10_putCoordinates 55 = .ok (.invokevirtual 105, 3) := by decide +kernel
theorem dX10_putCoordinates_58 : decode cX10_putCoordinates 58 = .ok (.iinc 4 1, 3) := by decide +kernel
theorem dX10_putCoordinates_61 : decode cX10_putCoordinates 61 = .ok (.goto (-52), 3) := by decide +kernel
theorem dX10_putCoordinates_64 : decode cX10_putCoordinates 64 = .ok (.aload_n 0, 1) := by decide +kernel
theorem dX10_putCoordinates_65 : decode cX10_putCoordinates 65 = .ok (.bipush 41, 2) := by decide +kernel
theorem dX10_putCoordinates_67 : decode cX10_putCoordinates 67 = .ok (.invokevirtual 54, 3) := by decide +kernel
theorem dX10_putCoordinates_70 : decode cX10_putCoordinates 70 = .ok (.return_, 1) := by decide +kernel
theorem dX10_putNumber_0 : decode cX10_putNumber 0 = .ok (.iload_n 1, 1) := by decide +kernel
theorem dX10_putNumber_1 : decode cX10_putNumber 1 = .ok (.ifCond .ge 9, 3) := by decide +kernel
theorem dX10_putNumber_4 : decode cX10_putNumber 4 = .ok (.aload_n 0, 1) := by decide +kernel
theorem dX10_putNumber_5 : decode cX10_putNumber 5 = .ok (.bipush 45, 2) := by decide +kernel
theorem dX10_putNumber_7 : decode cX10_putNumber 7 = .ok (.invokevirtual 54, 3) := by decide +kernel
theorem dX10_putNumber_10 : decode cX10_putNumber 10 = .ok (.iload_n 1, 1) := by decide +kernel
theorem dX10_putNumber_11 : decode cX10_putNumber 11 = .ok (.invokestatic 111, 3) := by decide +kernel
theorem dX10_putNumber_14 : decode cX10_putNumber 14 = .ok (.istore_n 2, 1) := by decide +kernel
theorem dX10_putNumber_15 : decode cX10_putNumber 15 = .ok (.getstatic 116, 3) := by decide +kernel
theorem dX10_putNumber_18 : decode cX10_putNumber 18 = .ok (.aload_n 0, 1) := by decide +kernel
theorem dX10_putNumber_19 : decode cX10_putNumber 19 = .ok (.getfield 23, 3) := by decide +kernel
theorem dX10_putNumber_22 : decode cX10_putNumber 22 = .ok (.iaload, 1) := by decide +kernel
theorem dX10_putNumber_23 : decode cX10_putNumber 23 = .ok (.istore_n 3, 1) := by decide +kernel
theorem dX10_putNumber_24 : decode cX10_putNumber 24 = .ok (.iload_n 2, 1) := by decide +kernel
theorem dX10_putNumber_25 : decode cX10_putNumber 25 = .ok (.iload_n 3, 1) := by decide +kernel
theorem dX10_putNumber_26 : decode cX10_putNumber 26 = .ok (.idiv, 1) := by decide +kernel
theorem dX10_putNumber_27 : decode cX10_putNumber 27 = .ok (.istore 4, 2) := by decide +kernel
theorem dX10_putNumber_29 : decode cX10_putNumber 29 = .ok (.ldc 119, 2) := by decide +kernel
theorem dX10_putNumber_31 : decode cX10_putNumber 31 = .ok (.istore 5, 2) := by decide +kernel
theorem dX10_putNumber_33 : decode cX10_putNumber 33 = .ok (.iload 5, 2) := by decide +kernel
theorem dX10_putNumber_35 : decode cX10_putNumber 35 = .ok (.ifCond .le 41, 3) := by decide +kernel
theorem dX10_putNumber_38 : decode cX10_putNumber 38 = .ok (.iload 4, 2) := by decide +kernel
theorem dX10_putNumber_40 : decode cX10_putNumber 40 = .ok (.iload 5, 2) := by decide +kernel
theorem dX10_putNumber_42 : decode cX10_putNumber 42 = .ok (.if_icmp .ge 9, 3) := by decide +kernel
theorem dX10_putNumber_45 : decode cX10_putNumber 45 = .ok (.iload 5, 2) := by decide +kernel
theorem dX10_putNumber_47 : decode cX10_putNumber 47 = .ok (.iconst 1, 1) := by decide +kernel
theorem dX10_putNumber_48 : decode cX10_putNumber 48 = .ok (.if_icmp .ne 18, 3) := by decide +kernel
theorem dX10_putNumber_51 : decode cX10_putNumber 51 = .ok (.aload_n 0, 1) := by decide +kernel
theorem dX10_putNumber_52 : decode cX10_putNumber 52 = .ok (.bipush 48, 2) := by decide +kernel
theorem dX10_putNumber_54 : decode cX10_putNumber 54 = .ok (.iload 4, 2) := by decide +kernel
theorem dX10_putNumber_56 : decode cX10_putNumber 56 = .ok (.iload 5, 2) := by decide +kernel
theorem dX10_putNumber_58 : decode cX10_putNumber 58 = .ok (.idiv, 1) := by decide +kernel
theorem dX10_putNumber_59 : decode cX10_putNumber 59 = .ok (.bipush 10, 2) := by decide +kernel
theorem dX10_putNumber_61 : decode cX10_putNumber 61 = .ok (.irem, 1) := by decide +kernel
theorem dX10_putNumber_62 : decode cX10_putNumber 62 = .ok (.iadd, 1) := by decide +kernel
theorem dX10_putNumber_63 : decode cX10_putNumber 63 = .ok (.invokevirtual 54, 3) := by decide +kernel
theorem dX10_putNumber_66 : decode cX10_putNumber 66 = .ok (.iload 5, 2) := by decide +kernel
theorem dX10_putNumber_68 : decode cX10_putNumber 68 = .ok (.bipush 10, 2) := by decide +kernel
theorem dX10_putNumber_70 : decode cX10_putNumber 70 = .ok (.idiv, 1) := by decide +kernel
theorem dX10_putNumber_71 : decode cX10_putNumber 71 = .ok (.istore 5, 2) := by decide +kernel
theorem dX10_putNumber_73 : decode cX10_putNumber 73 = .ok (.goto (-40), 3) := by decide +kernel
theorem dX10_putNumber_76 : decode cX10_putNumber 76 = .ok (.iload_n 2, 1) := by decide +kernel
theorem dX10_putNumber_77 : decode cX10_putNumber 77 = .ok (.iload_n 3, 1) := by decide +kernel
theorem dX10_putNumber_78 : decode cX10_putNumber 78 = .ok (.irem, 1) := by decide +kernel
theorem dX10_putNumber_79 : decode cX10_putNumber 79 = .ok (.istore 5, 2) := by decide +kernel
theorem dX10_putNumber_81 : decode cX10_putNumber 81 = .ok (.iload 5, 2) := by decide +kernel
theorem dX10_putNumber_83 : decode cX10_putNumber 83 = .ok (.ifCond .le 9, 3) := by decide +kernel
theorem dX10_putNumber_86 : decode cX10_putNumber 86 = .ok (.aload_n 0, 1) := by decide +kernel
theorem dX10_putNumber_87 : decode cX10_putNumber 87 = .ok (.bipush 46, 2) := by decide +kernel
theorem dX10_putNumber_89 : decode cX10_putNumber 89 = .ok (.invokevirtual 54, 3) := by decide +kernel
theorem dX10_putNumber_92 : decode cX10_putNumber 92 = .ok (.iload_n 3, 1) := by decide +kernel
theorem dX10_putNumber_93 : decode cX10_putNumber 93 = .ok (.bipush 10, 2) := by decide +kernel
theorem dX10_putNumber_95 : decode cX10_putNumber 95 = .ok (.idiv, 1) := by decide +kernel
theorem dX10_putNumber_96 : decode cX10_putNumber 96 = .ok (.istore 6, 2) := by decide +kernel
theorem dX10_putNumber_98 : decode cX10_putNumber 98 = .ok (.iload 6, 2) := by decide +kernel
theorem dX10_putNumber_100 : decode cX10_putNumber 100 = .ok (.ifCond .le 37, 3) := by decide +kernel
theorem dX10_putNumber_103 : decode cX10_putNumber 103 = .ok (.iload 5, 2) := by decide +kernel
theorem dX10_putNumber_105 : decode cX10_putNumber 105 = .ok (.ifCond .le 32, 3) := by decide +kernel
theorem dX10_putNumber_108 : decode cX10_putNumber 108 = .ok (.aload_n 0, 1) := by decide +kernel
theorem dX10_putNumber_109 : decode cX10_putNumber 109 = .ok (.bipush 48, 2) := by decide +kernel
theorem dX10_putNumber_111 : decode cX10_putNumber 111 = .ok (.iload 5, 2) := by decide +kernel
theorem dX10_putNumber_113 : decode cX10_putNumber 113 = .ok (.iload 6, 2) := by decide +kernel
theorem dX10_putNumber_115 : decode cX10_putNumber 115 = .ok (.idiv, 1) := by decide +kernel
theorem dX10_putNumber_116 : decode cX10_putNumber 116 = .ok (.iadd, 1) := by decide +kernel
theorem dX10_putNumber_117 : decode cX10_putNumber 117 = .ok (.invokevirtual 54, 3) := by decide +kernel
theorem dX10_putNumber_120 : decode cX10_putNumber 120 = .ok (.iload 5, 2) := by decide +kernel
theorem dX10_putNumber_122 : decode cX10_putNumber 122 = .ok (.iload 6, 2) := by decide +kernel
theorem dX10_putNumber_124 : decode cX10_putNumber 124 = .ok (.irem, 1) := by decide +kernel
theorem dX10_putNumber_125 : decode cX10_putNumber 125 = .ok (.istore 5, 2) := by decide +kernel
theorem dX10_putNumber_127 : decode cX10_putNumber 127 = .ok (.iload 6, 2) := by decide +kernel
theorem dX10_putNumber_129 : decode cX10_putNumber 129 = .ok (.bipush 10, 2) := by decide +kernel
theorem dX10_putNumber_131 : decode cX10_putNumber 131 = .ok (.idiv, 1) := by decide +kernel
theorem dX10_putNumber_132 : decode cX10_putNumber 132 = .ok (.istore 6, 2) := by decide +kernel
theorem dX10_putNumber_134 : decode cX10_putNumber 134 = .ok (.goto (-36), 3) := by decide +kernel
theorem dX10_putNumber_137 : decode cX10_putNumber 137 = .ok (.return_, 1) := by decide +kernel
theorem dX10_tellInBytes_0 : decode cX10_tellInBytes 0 = .ok (.aload_n 0, 1) := by decide +kernel
theorem dX10_tellInBytes_1 : decode cX10_tellInBytes 1 = .ok (.iconst 0, 1) := by decide +kernel
theorem dX10_tellInBytes_2 : decode cX10_tellInBytes 2 = .ok (.putfield 41, 3) := by decide +kernel
theorem dX10_tellInBytes_5 : decode cX10_tellInBytes 5 = .ok (.aload_n 0, 1) := by decide +kernel
theorem dX10_tellInBytes_6 : decode cX10_tellInBytes 6 = .ok (.iload_n 2, 1) := by decide +kernel
theorem dX10_tellInBytes_7 : decode cX10_tellInBytes 7 = .ok (.iconst 1, 1) := by decide +kernel
theorem dX10_tellInBytes_8 : decode cX10_tellInBytes 8 = .ok (.if_icmp .ne 7, 3) := by decide +kernel
theorem dX10_tellInBytes_11 : decode cX10_tellInBytes 11 = .ok (.iconst 1, 1) := by decide +kernel
theorem dX10_tellInBytes_12 : decode cX10_tellInBytes 12 = .ok (.goto 4, 3) := by decide +kernel
theorem dX10_tellInBytes_15 : decode cX10_tellInBytes 15 = .ok (.iconst 0, 1) := by decide +kernel
theorem dX10_tellInBytes_16 : decode cX10_tellInBytes 16 = .ok (.putfield 120, 3) := by decide +kernel
theorem dX10_tellInBytes_19 : decode cX10_tellInBytes 19 = .ok (.iconst 0, 1) := by decide +kernel
theorem dX10_tellInBytes_20 : decode cX10_tellInBytes 20 = .ok (.istore_n 3, 1) := by decide +kernel
theorem dX10_tellInBytes_21 : decode cX10_tellInBytes 21 = .ok (.iconst 0, 1) := by decide +kernel
theorem dX10_tellInBytes_22 : decode cX10_tellInBytes 22 = .ok (.istore 4, 2) := by decide +kernel
theorem dX10_tellInBytes_24 : decode cX10_tellInBytes 24 = .ok (.iload 4, 2) := by decide +kernel
theorem dX10_tellInBytes_26 : decode cX10_tellInBytes 26 = .ok (.iconst 1, 1) := by decide +kernel
theorem dX10_tellInBytes_27 : decode cX10_tellInBytes 27 = .ok (.iadd, 1) := by decide +kernel
theorem dX10_tellInBytes_28 : decode cX10_tellInBytes 28 = .ok (.aload_n 1, 1) := by decide +kernel
theorem dX10_tellInBytes_29 : decode cX10_tellInBytes 29 = .ok (.getfield 58, 3) := by decide +kernel
theorem dX10_tellInBytes_32 : decode cX10_tellInBytes 32 = .ok (.if_icmp .ge 191, 3) := by decide +kernel
theorem dX10_tellInBytes_35 : decode cX10_tellInBytes 35 = .ok (.aload_n 1, 1) := by decide +kernel
theorem dX10_tellInBytes_36 : decode cX10_tellInBytes 36 = .ok (.getfield 63, 3) := by decide +kernel
theorem dX10_tellInBytes_39 : decode cX10_tellInBytes 39 = .ok (.iload 4, 2) := by decide +kernel
theorem dX10_tellInBytes_41 : decode cX10_tellInBytes 41 = .ok (.iaload, 1) := by decide +kernel
theorem dX10_tellInBytes_42 : decode cX10_tellInBytes 42 = .ok (.istore 5, 2) := by decide +kernel
theorem dX10_tellInBytes_44 : decode cX10_tellInBytes 44 = .ok (.aload_n 0, 1) := by decide +kernel
theorem dX10_tellInBytes_45 : decode cX10_tellInBytes 45 = .ok (.iload_n 2, 1) := by decide +kernel
theorem dX10_tellInBytes_46 : decode cX10_tellInBytes 46 = .ok (.invokevirtual 54, 3) := by decide +kernel
theorem dX10_tellInBytes_49 : decode cX10_tellInBytes 49 = .ok (.aload_n 0, 1) := by decide +kernel
theorem dX10_tellInBytes_50 : decode cX10_tellInBytes 50 = .ok (.iload 5, 2) := by decide +kernel
theorem dX10_tellInBytes_52 : decode cX10_tellInBytes 52 = .ok (.i2l, 1) := by decide +kernel
theorem dX10_tellInBytes_53 : decode cX10_tellInBytes 53 = .ok (.iconst 4, 1) := by decide +kernel
theorem dX10_tellInBytes_54 : decode cX10_tellInBytes 54 = .ok (.invokevirtual 124, 3) := by decide +kernel
theorem dX10_tellInBytes_57 : decode cX10_tellInBytes 57 = .ok (.iload 5, 2) := by decide +kernel
theorem dX10_tellInBytes_59 : decode cX10_tellInBytes 59 = .ok (.iconst 1, 1) := by decide +kernel
theorem dX10_tellInBytes_60 : decode cX10_tellInBytes 60 = .ok (.if_icmp .eq 21, 3) := by decide +kernel
theorem dX10_tellInBytes_63 : decode cX10_tellInBytes 63 = .ok (.aload_n 0, 1) := by decide +kernel
theorem dX10_tellInBytes_64 : decode cX10_tellInBytes 64 = .ok (.aload_n 1, 1) := by decide +kernel
theorem dX10_tellInBytes_65 : decode cX10_tellInBytes 65 = .ok (.getfield 63, 3) := by decide +kernel
theorem dX10_tellInBytes_68 : decode cX10_tellInBytes 68 = .ok (.iload 4, 2) := by decide +kernel
theorem dX10_tellInBytes_70 : decode cX10_tellInBytes 70 = .ok (.iconst 1, 1) := by decide +kernel
theorem dX10_tellInBytes_71 : decode cX10_tellInBytes 71 = .ok (.iadd, 1) := by decide +kernel
theorem dX10_tellInBytes_72 : decode cX10_tellInBytes 72 = .ok (.iaload, 1) := by decide +kernel
theorem dX10_tellInBytes_73 : decode cX10_tellInBytes 73 = .ok (.i2l, 1) := by decide +kernel
theorem dX10_tellInBytes_74 : decode cX10_tellInBytes 74 = .ok (.iconst 4, 1) := by decide +kernel
theorem dX10_tellInBytes_75 : decode cX10_tellInBytes 75 = .ok (.invokevirtual 124, 3) := by decide +kernel
theorem dX10_tellInBytes_78 : decode cX10_tellInBytes 78 = .ok (.goto 33, 3) := by decide +kernel
theorem dX10_tellInBytes_81 : decode cX10_tellInBytes 81 = .ok (.aload_n 1, 1) := by decide +kernel
theorem dX10_tellInBytes_82 : decode cX10_tellInBytes 82 = .ok (.getfield 63, 3) := by decide +kernel
theorem dX10_tellInBytes_85 : decode cX10_tellInBytes 85 = .ok (.iload 4, 2) := by decide +kernel
theorem dX10_tellInBytes_87 : decode cX10_tellInBytes 87 = .ok (.iconst 1, 1) := by decide +kernel
theorem dX10_tellInBytes_88 : decode cX10_tellInBytes 88 = .ok (.iadd, 1) := by decide +kernel
theorem dX10_tellInBytes_89 : decode cX10_tellInBytes 89 = .ok (.iaload, 1) := by decide +kernel
theorem dX10_tellInBytes_90 : decode cX10_tellInBytes 90 = .ok (.ifCond .ne 21, 3) := by decide +kernel
theorem dX10_tellInBytes_93 : decode cX10_tellInBytes 93 = .ok (.aload_n 0, 1) := by decide +kernel
theorem dX10_tellInBytes_94 : decode cX10_tellInBytes 94 = .ok (.ldc2_w 128, 3) := by decide +kernel
theorem dX10_tellInBytes_97 : decode cX10_tellInBytes 97 = .ok (.bipush 8, 2) := by decide +kernel
theorem dX10_tellInBytes_99 : decode cX10_tellInBytes 99 = .ok (.invokevirtual 124, 3) := by decide +kernel
theorem dX10_tellInBytes_102 : decode cX10_tellInBytes 102 = .ok (.aload_n 0, 1) := by decide +kernel
theorem dX10_tellInBytes_103 : decode cX10_tellInBytes 103 = .ok (.ldc2_w 128, 3) := by decide +kernel
theorem dX10_tellInBytes_106 : decode cX10_tellInBytes 106 = .ok (.bipush 8, 2) := by decide +kernel
theorem dX10_tellInBytes_108 : decode cX10_tellInBytes 108 = .ok (.invokevirtual 124, 3) := by decide +kernel
theorem dX10_tellInBytes_111 : decode cX10_tellInBytes 111 = .ok (.iconst 0, 1) := by decide +kernel
theorem dX10_tellInBytes_112 : decode cX10_tellInBytes 112 = .ok (.istore 6, 2) := by decide +kernel
theorem dX10_tellInBytes_114 : decode cX10_tellInBytes 114 = .ok (.iload 6, 2) := by decide +kernel
theorem dX10_tellInBytes_116 : decode cX10_tellInBytes 116 = .ok (.aload_n 1, 1) := by decide +kernel
theorem dX10_tellInBytes_117 : decode cX10_tellInBytes 117 = .ok (.iload 4, 2) := by decide +kernel
theorem dX10_tellInBytes_119 : decode cX10_tellInBytes 119 = .ok (.invokevirtual 92, 3) := by decide +kernel
theorem dX10_tellInBytes_122 : decode cX10_tellInBytes 122 = .ok (.if_icmp .ge 90, 3) := by decide +kernel
theorem dX10_tellInBytes_125 : decode cX10_tellInBytes 125 = .ok (.aload_n 1, 1) := by decide +kernel
theorem dX10_tellInBytes_126 : decode cX10_tellInBytes 126 = .ok (.iload 4, 2) := by decide +kernel
theorem dX10_tellInBytes_128 : decode cX10_tellInBytes 128 = .ok (.iload 6, 2) := by decide +kernel
theorem dX10_tellInBytes_130 : decode cX10_tellInBytes 130 = .ok (.invokevirtual 95, 3) := by decide +kernel
theorem dX10_tellInBytes_133 : decode cX10_tellInBytes 133 = .ok (.istore 7, 2) := by decide +kernel
theorem dX10_tellInBytes_135 : decode cX10_tellInBytes 135 = .ok (.iload 5, 2) := by decide +kernel
theorem dX10_tellInBytes_137 : decode cX10_tellInBytes 137 = .ok (.iconst 3, 1) := by decide +kernel
theorem dX10_tellInBytes_138 : decode cX10_tellInBytes 138 = .ok (.if_icmp .ne 11, 3) := by decide +kernel
theorem dX10_tellInBytes_141 : decode cX10_tellInBytes 141 = .ok (.aload_n 0, 1) := by decide +kernel
theorem dX10_tellInBytes_142 : decode cX10_tellInBytes 142 = .ok (.iload 7, 2) := by decide +kernel
theorem dX10_tellInBytes_144 : decode cX10_tellInBytes 144 = .ok (.i2l, 1) := by decide +kernel
theorem dX10_tellInBytes_145 : decode cX10_tellInBytes 145 = .ok (.iconst 4, 1) := by decide +kernel
theorem dX10_tellInBytes_146 : decode cX10_tellInBytes 146 = .ok (.invokevirtual 124, 3) := by decide +kernel
theorem dX10_tellInBytes_149 : decode cX10_tellInBytes 149 = .ok (.iload_n 3, 1) := by decide +kernel
theorem dX10_tellInBytes_150 : decode cX10_tellInBytes 150 = .ok (.istore 8, 2) := by decide +kernel
theorem dX10_tellInBytes_152 : decode cX10_tellInBytes 152 = .ok (.iload 8, 2) := by decide +kernel
theorem dX10_tellInBytes_154 : decode cX10_tellInBytes 154 = .ok (.iload_n 3, 1) := by decide +kernel
theorem dX10_tellInBytes_155 : decode cX10_tellInBytes 155 = .ok (.iload 7, 2) := by decide +kernel
theorem dX10_tellInBytes_157 : decode cX10_tellInBytes 157 = .ok (.iadd, 1) := by decide +kernel
theorem dX10_tellInBytes_158 : decode cX10_tellInBytes 158 = .ok (.if_icmp .ge 43, 3) := by decide +kernel
theorem dX10_tellInBytes_161 : decode cX10_tellInBytes 161 = .ok (.aload_n 0, 1) := by decide +kernel
theorem dX10_tellInBytes_162 : decode cX10_tellInBytes 162 = .ok (.aload_n 0, 1) := by decide +kernel
theorem dX10_tellInBytes_163 : decode cX10_tellInBytes 163 = .ok (.aload_n 1, 1) := by decide +kernel
theorem dX10_tellInBytes_164 : decode cX10_tellInBytes 164 = .ok (.getfield 102, 3) := by decide +kernel
theorem dX10_tellInBytes_167 : decode cX10_tellInBytes 167 = .ok (.iload 8, 2) := by decide +kernel
theorem dX10_tellInBytes_169 : decode cX10_tellInBytes 169 = .ok (.iaload, 1) := by decide +kernel
theorem dX10_tellInBytes_170 : decode cX10_tellInBytes 170 = .ok (.invokevirtual 130, 3) := by decide +kernel
theorem dX10_tellInBytes_173 : decode cX10_tellInBytes 173 = .ok (.bipush 8, 2) := by decide +kernel
theorem dX10_tellInBytes_175 : decode cX10_tellInBytes 175 = .ok (.invokevirtual 124, 3) := by decide +kernel
theorem dX10_tellInBytes_178 : decode cX10_tellInBytes 178 = .ok (.aload_n 0, 1) := by decide +kernel
theorem dX10_tellInBytes_179 : decode cX10_tellInBytes 179 = .ok (.aload_n 0, 1) := by decide +kernel
theorem dX10_tellInBytes_180 : decode cX10_tellInBytes 180 = .ok (.aload_n 1, 1) := by decide +kernel
theorem dX10_tellInBytes_181 : decode cX10_tellInBytes 181 = .ok (.getfield 108, 3) := by decide +kernel
theorem dX10_tellInBytes_184 : decode cX10_tellInBytes 184 = .ok (.iload 8, 2) := by decide +kernel
theorem dX10_tellInBytes_186 : decode cX10_tellInBytes 186 = .ok (.iaload, 1) := by decide +kernel
theorem dX10_tellInBytes_187 : decode cX10_tellInBytes 187 = .ok (.invokevirtual 130, 3) := by decide +kernel
theorem dX10_tellInBytes_190 : decode cX10_tellInBytes 190 = .ok (.bipush 8, 2) := by decide +kernel
theorem dX10_tellInBytes_192 : decode cX10_tellInBytes 192 = .ok (.invokevirtual 124, 3) := by decide +kernel
theorem dX10_tellInBytes_195 : decode cX10_tellInBytes 195 = .ok (.iinc 8 1, 3) := by decide +kernel
theorem dX10_tellInBytes_198 : decode cX10_tellInBytes 198 = .ok (.goto (-46), 3) := by decide +kernel
theorem dX10_tellInBytes_201 : decode cX10_tellInBytes 201 = .ok (.iload_n 3, 1) := by decide +kernel
theorem dX10_tellInBytes_202 : decode cX10_tellInBytes 202 = .ok (.iload 7, 2) := by decide +kernel
theorem dX10_tellInBytes_204 : decode cX10_tellInBytes 204 = .ok (.iadd, 1) := by decide +kernel
theorem dX10_tellInBytes_205 : decode cX10_tellInBytes 205 = .ok (.istore_n 3, 1) := by decide +kernel
theorem dX10_tellInBytes_206 : decode cX10_tellInBytes 206 = .ok (.iinc 6 1, 3) := by decide +kernel
theorem dX10_tellInBytes_209 : decode cX10_tellInBytes 209 = .ok (.goto (-95), 3) := by decide +kernel
theorem dX10_tellInBytes_212 : decode cX10_tellInBytes 212 = .ok (.aload_n 1, 1) := by decide +kernel
theorem dX10_tellInBytes_213 : decode cX10_tellInBytes 213 = .ok (.iload 4, 2) := by decide +kernel
theorem dX10_tellInBytes_215 : decode cX10_tellInBytes 215 = .ok (.invokevirtual 85, 3) := by decide +kernel
theorem dX10_tellInBytes_218 : decode cX10_tellInBytes 218 = .ok (.istore 4, 2) := by decide +kernel
theorem dX10_tellInBytes_220 : decode cX10_tellInBytes 220 = .ok (.goto (-196), 3) := by decide +kernel
theorem dX10_tellInBytes_223 : decode cX10_tellInBytes 223 = .ok (.aload_n 0, 1) := by decide +kernel
theorem dX10_tellInBytes_224 : decode cX10_tellInBytes 224 = .ok (.getfield 41, 3) := by decide +kernel
theorem dX10_tellInBytes_227 : decode cX10_tellInBytes 227 = .ok (.ireturn, 1) := by decide +kernel
theorem dX10_putBytes_0 : decode cX10_putBytes 0 = .ok (.iconst 0, 1) := by decide +kernel
theorem dX10_putBytes_1 : decode cX10_putBytes 1 = .ok (.istore 4, 2) := by decide +kernel
theorem dX10_putBytes_3 : decode cX10_putBytes 3 = .ok (.iload 4, 2) := by decide +kernel
theorem dX10_putBytes_5 : decode cX10_putBytes 5 = .ok (.iload_n 3, 1) := by decide +kernel
theorem dX10_putBytes_6 : decode cX10_putBytes 6 = .ok (.if_icmp .ge 44, 3) := by decide +kernel
theorem dX10_putBytes_9 : decode cX10_putBytes 9 = .ok (.aload_n 0, 1) := by decide +kernel
theorem dX10_putBytes_10 : decode cX10_putBytes 10 = .ok (.getfield 120, 3) := by decide +kernel
theorem dX10_putBytes_13 : decode cX10_putBytes 13 = .ok (.ifCond .eq 11, 3) := by decide +kernel
theorem dX10_putBytes_16 : decode cX10_putBytes 16 = .ok (.bipush 8, 2) := by decide +kernel
theorem dX10_putBytes_18 : decode cX10_putBytes 18 = .ok (.iload 4, 2) := by decide +kernel
theorem dX10_putBytes_20 : decode cX10_putBytes 20 = .ok (.imul, 1) := by decide +kernel
theorem dX10_putBytes_21 : decode cX10_putBytes 21 = .ok (.goto 12, 3) := by decide +kernel
theorem dX10_putBytes_24 : decode cX10_putBytes 24 = .ok (.bipush 8, 2) := by decide +kernel
theorem dX10_putBytes_26 : decode cX10_putBytes 26 = .ok (.iload_n 3, 1) := by decide +kernel
theorem dX10_putBytes_27 : decode cX10_putBytes 27 = .ok (.iconst 1, 1) := by decide +kernel
theorem dX10_putBytes_28 : decode cX10_putBytes 28 = .ok (.isub, 1) := by decide +kernel
theorem dX10_putBytes_29 : decode cX10_putBytes 29 = .ok (.iload 4, 2) := by decide +kernel
theorem dX10_putBytes_31 : decode cX10_putBytes 31 = .ok (.isub, 1) := by decide +kernel
theorem dX10_putBytes_32 : decode cX10_putBytes 32 = .ok (.imul, 1) := by decide +kernel
theorem dX10_putBytes_33 : decode cX10_putBytes 33 = .ok (.istore 5, 2) := by decide +kernel
theorem dX10_putBytes_35 : decode cX10_putBytes 35 = .ok (.aload_n 0, 1) := by decide +kernel
theorem dX10_putBytes_36 : decode cX10_putBytes 36 = .ok (.lload_n 1, 1) := by decide +kernel
theorem dX10_putBytes_37 : decode cX10_putBytes 37 = .ok (.iload 5, 2) := by decide +kernel
theorem dX10_putBytes_39 : decode cX10_putBytes 39 = .ok (.lushr, 1) := by decide +kernel
theorem dX10_putBytes_40 : decode cX10_putBytes 40 = .ok (.l2i, 1) := by decide +kernel
theorem dX10_putBytes_41 : decode cX10_putBytes 41 = .ok (.invokevirtual 54, 3) := by decide +kernel
theorem dX10_putBytes_44 : decode cX10_putBytes 44 = .ok (.iinc 4 1, 3) := by decide +kernel
theorem dX10_putBytes_47 : decode cX10_putBytes 47 = .ok (.goto (-44), 3) := by decide +kernel
theorem dX10_putBytes_50 : decode cX10_putBytes 50 = .ok (.return_, 1) := by decide +kernel
theorem dX10_bitsOf_0 : decode cX10_bitsOf 0 = .ok (.iload_n 1, 1) := by decide +kernel
theorem dX10_bitsOf_1 : decode cX10_bitsOf 1 = .ok (.ifCond .ne 5, 3) := by decide +kernel
theorem dX10_bitsOf_4 : decode cX10_bitsOf 4 = .ok (.lconst 0, 1) := by decide +kernel
theorem dX10_bitsOf_5 : decode cX10_bitsOf 5 = .ok (.lreturn, 1) := by decide +kernel
theorem dX10_bitsOf_6 : decode cX10_bitsOf 6 = .ok (.iload_n 1, 1) := by decide +kernel
theorem dX10_bitsOf_7 : decode cX10_bitsOf 7 = .ok (.i2l, 1) := by decide +kernel
theorem dX10_bitsOf_8 : decode cX10_bitsOf 8 = .ok (.invokestatic 134, 3) := by decide +kernel
theorem dX10_bitsOf_11 : decode cX10_bitsOf 11 = .ok (.lstore_n 2, 1) := by decide +kernel
theorem dX10_bitsOf_12 : decode cX10_bitsOf 12 = .ok (.getstatic 116, 3) := by decide +kernel
theorem dX10_bitsOf_15 : decode cX10_bitsOf 15 = .ok (.aload_n 0, 1) := by decide +kernel
theorem dX10_bitsOf_16 : decode cX10_bitsOf 16 = .ok (.getfield 23, 3) := by decide +kernel
theorem dX10_bitsOf_19 : decode cX10_bitsOf 19 = .ok (.iaload, 1) := by decide +kernel
theorem dX10_bitsOf_20 : decode cX10_bitsOf 20 = .ok (.istore 4, 2) := by decide +kernel
theorem dX10_bitsOf_22 : decode cX10_bitsOf 22 = .ok (.ldc2_w 137, 3) := by decide +kernel
theorem dX10_bitsOf_25 : decode cX10_bitsOf 25 = .ok (.lstore 5, 2) := by decide +kernel
theorem dX10_bitsOf_27 : decode cX10_bitsOf 27 = .ok (.iconst 0, 1) := by decide +kernel
theorem dX10_bitsOf_28 : decode cX10_bitsOf 28 = .ok (.istore 7, 2) := by decide +kernel
theorem dX10_bitsOf_30 : decode cX10_bitsOf 30 = .ok (.iload 7, 2) := by decide +kernel
theorem dX10_bitsOf_32 : decode cX10_bitsOf 32 = .ok (.bipush 63, 2) := by decide +kernel
theorem dX10_bitsOf_34 : decode cX10_bitsOf 34 = .ok (.if_icmp .ge 23, 3) := by decide +kernel
theorem dX10_bitsOf_37 : decode cX10_bitsOf 37 = .ok (.lload_n 2, 1) := by decide +kernel
theorem dX10_bitsOf_38 : decode cX10_bitsOf 38 = .ok (.iload 7, 2) := by decide +kernel
theorem dX10_bitsOf_40 : decode cX10_bitsOf 40 = .ok (.lshl, 1) := by decide +kernel
theorem dX10_bitsOf_41 : decode cX10_bitsOf 41 = .ok (.iload 4, 2) := by decide +kernel
theorem dX10_bitsOf_43 : decode cX10_bitsOf 43 = .ok (.i2l, 1) := by decide +kernel
theorem dX10_bitsOf_44 : decode cX10_bitsOf 44 = .ok (.ldiv, 1) := by decide +kernel
theorem dX10_bitsOf_45 : decode cX10_bitsOf 45 = .ok (.lload 5, 2) := by decide +kernel
theorem dX10_bitsOf_47 : decode cX10_bitsOf 47 = .ok (.lcmp, 1) := by decide +kernel
theorem dX10_bitsOf_48 : decode cX10_bitsOf 48 = .ok (.ifCond .ge 9, 3) := by decide +kernel
theorem dX10_bitsOf_51 : decode cX10_bitsOf 51 = .ok (.iinc 7 1, 3) := by decide +kernel
theorem dX10_bitsOf_54 : decode cX10_bitsOf 54 = .ok (.goto (-24), 3) := by decide +kernel
theorem dX10_bitsOf_57 : decode cX10_bitsOf 57 = .ok (.lload_n 2, 1) := by decide +kernel
theorem dX10_bitsOf_58 : decode cX10_bitsOf 58 = .ok (.iload 7, 2) := by decide +kernel
theorem dX10_bitsOf_60 : decode cX10_bitsOf 60 = .ok (.lshl, 1) := by decide +kernel
theorem dX10_bitsOf_61 : decode cX10_bitsOf 61 = .ok (.iload 4, 2) := by decide +kernel
theorem dX10_bitsOf_63 : decode cX10_bitsOf 63 = .ok (.i2l, 1) := by decide +kernel
theorem dX10_bitsOf_64 : decode cX10_bitsOf 64 = .ok (.ldiv, 1) := by decide +kernel
theorem dX10_bitsOf_65 : decode cX10_bitsOf 65 = .ok (.lstore 8, 2) := by decide +kernel
theorem dX10_bitsOf_67 : decode cX10_bitsOf 67 = .ok (.lload_n 2, 1) := by decide +kernel
theorem dX10_bitsOf_68 : decode cX10_bitsOf 68 = .ok (.iload 7, 2) := by decide +kernel
theorem dX10_bitsOf_70 : decode cX10_bitsOf 70 = .ok (.lshl, 1) := by decide +kernel
theorem dX10_bitsOf_71 : decode cX10_bitsOf 71 = .ok (.iload 4, 2) := by decide +kernel
theorem dX10_bitsOf_73 : decode cX10_bitsOf 73 = .ok (.i2l, 1) := by decide +kernel
theorem dX10_bitsOf_74 : decode cX10_bitsOf 74 = .ok (.lrem, 1) := by decide +kernel
theorem dX10_bitsOf_75 : decode cX10_bitsOf 75 = .ok (.lstore 10, 2) := by decide +kernel
theorem dX10_bitsOf_77 : decode cX10_bitsOf 77 = .ok (.ldc2_w 139, 3) := by decide +kernel
theorem dX10_bitsOf_80 : decode cX10_bitsOf 80 = .ok (.lload 10, 2) := by decide +kernel
theorem dX10_bitsOf_82 : decode cX10_bitsOf 82 = .ok (.lmul, 1) := by decide +kernel
theorem dX10_bitsOf_83 : decode cX10_bitsOf 83 = .ok (.iload 4, 2) := by decide +kernel
theorem dX10_bitsOf_85 : decode cX10_bitsOf 85 = .ok (.i2l, 1) := by decide +kernel
theorem dX10_bitsOf_86 : decode cX10_bitsOf 86 = .ok (.lcmp, 1) := by decide +kernel
theorem dX10_bitsOf_87 : decode cX10_bitsOf 87 = .ok (.ifCond .gt 25, 3) := by decide +kernel
theorem dX10_bitsOf_90 : decode cX10_bitsOf 90 = .ok (.ldc2_w 139, 3) := by decide +kernel
theorem dX10_bitsOf_93 : decode cX10_bitsOf 93 = .ok (.lload 10, 2) := by decide +kernel
theorem dX10_bitsOf_95 : decode cX10_bitsOf 95 = .ok (.lmul, 1) := by decide +kernel
theorem dX10_bitsOf_96 : decode cX10_bitsOf 96 = .ok (.iload 4, 2) := by decide +kernel
theorem dX10_bitsOf_98 : decode cX10_bitsOf 98 = .ok (.i2l, 1) := by decide +kernel
theorem dX10_bitsOf_99 : decode cX10_bitsOf 99 = .ok (.lcmp, 1) := by decide +kernel
theorem dX10_bitsOf_100 : decode cX10_bitsOf 100 = .ok (.ifCond .ne 18, 3) := by decide +kernel
theorem dX10_bitsOf_103 : decode cX10_bitsOf 103 = .ok (.lload 8, 2) := by decide +kernel
theorem dX10_bitsOf_105 : decode cX10_bitsOf 105 = .ok (.lconst 1, 1) := by decide +kernel
theorem dX10_bitsOf_106 : decode cX10_bitsOf 106 = .ok (.land, 1) := by decide +kernel
theorem dX10_bitsOf_107 : decode cX10_bitsOf 107 = .ok (.lconst 1, 1) := by decide +kernel
theorem dX10_bitsOf_108 : decode cX10_bitsOf 108 = .ok (.lcmp, 1) := by decide +kernel
theorem dX10_bitsOf_109 : decode cX10_bitsOf 109 = .ok (.ifCond .ne 9, 3) := by decide +kernel
theorem dX10_bitsOf_112 : decode cX10_bitsOf 112 = .ok (.lload 8, 2) := by decide +kernel
theorem dX10_bitsOf_114 : decode cX10_bitsOf 114 = .ok (.lconst 1, 1) := by decide +kernel
theorem dX10_bitsOf_115 : decode cX10_bitsOf 115 = .ok (.ladd, 1) := by decide +kernel
theorem dX10_bitsOf_116 : decode cX10_bitsOf 116 = .ok (.lstore 8, 2) := by decide +kernel
theorem dX10_bitsOf_118 : decode cX10_bitsOf 118 = .ok (.lload 8, 2) := by decide +kernel
theorem dX10_bitsOf_120 : decode cX10_bitsOf 120 = .ok (.ldc2_w 139, 3) := by decide +kernel
theorem dX10_bitsOf_123 : decode cX10_bitsOf 123 = .ok (.lload 5, 2) := by decide +kernel
theorem dX10_bitsOf_125 : decode cX10_bitsOf 125 = .ok (.lmul, 1) := by decide +kernel
theorem dX10_bitsOf_126 : decode cX10_bitsOf 126 = .ok (.lcmp, 1) := by decide +kernel
theorem dX10_bitsOf_127 : decode cX10_bitsOf 127 = .ok (.ifCond .ne 10, 3) := by decide +kernel
theorem dX10_bitsOf_130 : decode cX10_bitsOf 130 = .ok (.lload 5, 2) := by decide +kernel
theorem dX10_bitsOf_132 : decode cX10_bitsOf 132 = .ok (.lstore 8, 2) := by decide +kernel
theorem dX10_bitsOf_134 : decode cX10_bitsOf 134 = .ok (.iinc 7 (-1), 3) := by decide +kernel
theorem dX10_bitsOf_137 : decode cX10_bitsOf 137 = .ok (.sipush 1075, 3) := by decide +kernel
theorem dX10_bitsOf_140 : decode cX10_bitsOf 140 = .ok (.iload 7, 2) := by decide +kernel
theorem dX10_bitsOf_142 : decode cX10_bitsOf 142 = .ok (.isub, 1) := by decide +kernel
theorem dX10_bitsOf_143 : decode cX10_bitsOf 143 = .ok (.i2l, 1) := by decide +kernel
theorem dX10_bitsOf_144 : decode cX10_bitsOf 144 = .ok (.bipush 52, 2) := by decide +kernel
theorem dX10_bitsOf_146 : decode cX10_bitsOf 146 = .ok (.lshl, 1) := by decide +kernel
theorem dX10_bitsOf_147 : decode cX10_bitsOf 147 = .ok (.lload 8, 2) := by decide +kernel
theorem dX10_bitsOf_149 : decode cX10_bitsOf 149 = .ok (.ladd, 1) := by decide +kernel
theorem dX10_bitsOf_150 : decode cX10_bitsOf 150 = .ok (.lload 5, 2) := by decide +kernel
theorem dX10_bitsOf_152 : decode cX10_bitsOf 152 = .ok (.lsub, 1) := by decide +kernel
theorem dX10_bitsOf_153 : decode cX10_bitsOf 153 = .ok (.lstore 12, 2) := by decide +kernel
theorem dX10_bitsOf_155 : decode cX10_bitsOf 155 = .ok (.iload_n 1, 1) := by decide +kernel
theorem dX10_bitsOf_156 : decode cX10_bitsOf 156 = .ok (.ifCond .ge 12, 3) := by decide +kernel
theorem dX10_bitsOf_159 : decode cX10_bitsOf 159 = .ok (.lload 12, 2) := by decide +kernel
theorem dX10_bitsOf_161 : decode cX10_bitsOf 161 = .ok (.ldc2_w 143, 3) := by decide +kernel
theorem dX10_bitsOf_164 : decode cX10_bitsOf 164 = .ok (.lor, 1) := by decide +kernel
theorem dX10_bitsOf_165 : decode cX10_bitsOf 165 = .ok (.goto 5, 3) := by decide +kernel
theorem dX10_bitsOf_168 : decode cX10_bitsOf 168 = .ok (.lload 12, 2) := by decide +kernel
theorem dX10_bitsOf_170 : decode cX10_bitsOf 170 = .ok (.lreturn, 1) := by decide +kernel
theorem dX5_add_0 : decode cX5_add 0 = .ok (.aload_n 0, 1) := by decide +kernel
theorem dX5_add_1 : decode cX5_add 1 = .ok (.getfield 25, 3) := by decide +kernel
theorem dX5_add_4 : decode cX5_add 4 = .ok (.aload_n 0, 1) := by decide +kernel
theorem dX5_add_5 : decode cX5_add 5 = .ok (.getfield 7, 3) := by decide +kernel
theorem dX5_add_8 : decode cX5_add 8 = .ok (.arraylength, 1) := by decide +kernel
theorem dX5_add_9 : decode cX5_add 9 = .ok (.if_icmp .lt 5, 3) := by decide +kernel
theorem dX5_add_12 : decode cX5_add 12 = .ok (.iconst 0, 1) := by decide +kernel
theorem dX5_add_13 : decode cX5_add 13 = .ok (.ireturn, 1) := by decide +kernel
theorem dX5_add_14 : decode cX5_add 14 = .ok (.aload_n 0, 1) := by decide +kernel
theorem dX5_add_15 : decode cX5_add 15 = .ok (.getfield 7, 3) := by decide +kernel
theorem dX5_add_18 : decode cX5_add 18 = .ok (.aload_n 0, 1) := by decide +kernel
theorem dX5_add_19 : decode cX5_add 19 = .ok (.getfield 25, 3) := by decide +kernel
theorem dX5_add_22 : decode cX5_add 22 = .ok (.aload_n 1, 1) := by decide +kernel
theorem dX5_add_23 : decode cX5_add 23 = .ok (.getfield 29, 3) := by decide +kernel
theorem dX5_add_26 : decode cX5_add 26 = .ok (.iload_n 2, 1) := by decide +kernel
theorem dX5_add_27 : decode cX5_add 27 = .ok (.iaload, 1) := by decide +kernel
theorem dX5_add_28 : decode cX5_add 28 = .ok (.iastore, 1) := by decide +kernel
theorem dX5_add_29 : decode cX5_add 29 = .ok (.aload_n 0, 1) := by decide +kernel
theorem dX5_add_30 : decode cX5_add 30 = .ok (.getfield 13, 3) := by decide +kernel
theorem dX5_add_33 : decode cX5_add 33 = .ok (.aload_n 0, 1) := by decide +kernel
theorem dX5_add_34 : decode cX5_add 34 = .ok (.getfield 25, 3) := by decide +kernel
theorem dX5_add_37 : decode cX5_add 37 = .ok (.aload_n 1, 1) := by decide +kernel
theorem dX5_add_38 : decode cX5_add 38 = .ok (.getfield 34, 3) := by decide +kernel
theorem dX5_add_41 : decode cX5_add 41 = .ok (.iload_n 2, 1) := by decide +kernel
theorem dX5_add_42 : decode cX5_add 42 = .ok (.iaload, 1) := by decide +kernel
theorem dX5_add_43 : decode cX5_add 43 = .ok (.iastore, 1) := by decide +kernel
theorem dX5_add_44 : decode cX5_add 44 = .ok (.aload_n 0, 1) := by decide +kernel
theorem dX5_add_45 : decode cX5_add 45 = .ok (.getfield 16, 3) := by decide +kernel
theorem dX5_add_48 : decode cX5_add 48 = .ok (.aload_n 0, 1) := by decide +kernel
theorem dX5_add_49 : decode cX5_add 49 = .ok (.getfield 25, 3) := by decide +kernel
theorem dX5_add_52 : decode cX5_add 52 = .ok (.aload_n 1, 1) := by decide +kernel
theorem dX5_add_53 : decode cX5_add 53 = .ok (.getfield 29, 3) := by decide +kernel
theorem dX5_add_56 : decode cX5_add 56 = .ok (.iload_n 3, 1) := by decide +kernel
theorem dX5_add_57 : decode cX5_add 57 = .ok (.iaload, 1) := by decide +kernel
theorem dX5_add_58 : decode cX5_add 58 = .ok (.iastore, 1) := by decide +kernel
theorem dX5_add_59 : decode cX5_add 59 = .ok (.aload_n 0, 1) := by decide +kernel
theorem dX5_add_60 : decode cX5_add 60 = .ok (.getfield 19, 3) := by decide +kernel
theorem dX5_add_63 : decode cX5_add 63 = .ok (.aload_n 0, 1) := by decide +kernel
theorem dX5_add_64 : decode cX5_add 64 = .ok (.getfield 25, 3) := by decide +kernel
theorem dX5_add_67 : decode cX5_add 67 = .ok (.aload_n 1, 1) := by decide +kernel
theorem dX5_add_68 : decode cX5_add 68 = .ok (.getfield 34, 3) := by decide +kernel
theorem dX5_add_71 : decode cX5_add 71 = .ok (.iload_n 3, 1) := by decide +kernel
theorem dX5_add_72 : decode cX5_add 72 = .ok (.iaload, 1) := by decide +kernel
theorem dX5_add_73 : decode cX5_add 73 = .ok (.iastore, 1) := by decide +kernel
theorem dX5_add_74 : decode cX5_add 74 = .ok (.aload_n 0, 1) := by decide +kernel
theorem dX5_add_75 : decode cX5_add 75 = .ok (.getfield 22, 3) := by decide +kernel
theorem dX5_add_78 : decode cX5_add 78 = .ok (.aload_n 0, 1) := by decide +kernel
theorem dX5_add_79 : decode cX5_add 79 = .ok (.getfield 25, 3) := by decide +kernel
theorem dX5_add_82 : decode cX5_add 82 = .ok (.iload 4, 2) := by decide +kernel
theorem dX5_add_84 : decode cX5_add 84 = .ok (.iastore, 1) := by decide +kernel
theorem dX5_add_85 : decode cX5_add 85 = .ok (.aload_n 0, 1) := by decide +kernel
theorem dX5_add_86 : decode cX5_add 86 = .ok (.dup, 1) := by decide +kernel
theorem dX5_add_87 : decode cX5_add 87 = .ok (.getfield 25, 3) := by decide +kernel
theorem dX5_add_90 : decode cX5_add 90 = .ok (.iconst 1, 1) := by decide +kernel
theorem dX5_add_91 : decode cX5_add 91 = .ok (.iadd, 1) := by decide +kernel
theorem dX5_add_92 : decode cX5_add 92 = .ok (.putfield 25, 3) := by decide +kernel
theorem dX5_add_95 : decode cX5_add 95 = .ok (.iconst 1, 1) := by decide +kernel
theorem dX5_add_96 : decode cX5_add 96 = .ok (.ireturn, 1) := by decide +kernel
