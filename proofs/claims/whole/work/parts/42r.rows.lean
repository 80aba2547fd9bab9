theorem dX12_triangles_0 : decode cX12_triangles 0 = .ok (.aload_n 0, 1) := by decide +kernel
theorem dX12_triangles_1 : decode cX12_triangles 1 = .ok (.iconst 0, 1) := by decide +kernel
theorem dX12_triangles_2 : decode cX12_triangles 2 = .ok (.putfield 271, 3) := by decide +kernel
theorem dX12_triangles_5 : decode cX12_triangles 5 = .ok (.aload_n 0, 1) := by decide +kernel
theorem dX12_triangles_6 : decode cX12_triangles 6 = .ok (.iload_n 1, 1) := by decide +kernel
theorem dX12_triangles_7 : decode cX12_triangles 7 = .ok (.invokestatic 440, 3) := by decide +kernel
theorem dX12_triangles_10 : decode cX12_triangles 10 = .ok (.ifCond .eq 10, 3) := by decide +kernel
theorem dX12_triangles_13 : decode cX12_triangles 13 = .ok (.iload_n 2, 1) := by decide +kernel
theorem dX12_triangles_14 : decode cX12_triangles 14 = .ok (.invokestatic 440, 3) := by decide +kernel
theorem dX12_triangles_17 : decode cX12_triangles 17 = .ok (.ifCond .ne 7, 3) := by decide +kernel
theorem dX12_triangles_20 : decode cX12_triangles 20 = .ok (.iconst 1, 1) := by decide +kernel
theorem dX12_triangles_21 : decode cX12_triangles 21 = .ok (.goto 4, 3) := by decide +kernel
theorem dX12_triangles_24 : decode cX12_triangles 24 = .ok (.iconst 0, 1) := by decide +kernel
theorem dX12_triangles_25 : decode cX12_triangles 25 = .ok (.iconst 1, 1) := by decide +kernel
theorem dX12_triangles_26 : decode cX12_triangles 26 = .ok (.invokevirtual 277, 3) := by decide +kernel
theorem dX12_triangles_29 : decode cX12_triangles 29 = .ok (.ifCond .ne 45, 3) := by decide +kernel
theorem dX12_triangles_32 : decode cX12_triangles 32 = .ok (.aload_n 0, 1) := by decide +kernel
theorem dX12_triangles_33 : decode cX12_triangles 33 = .ok (.aload_n 0, 1) := by decide +kernel
theorem dX12_triangles_34 : decode cX12_triangles 34 = .ok (.iload_n 1, 1) := by decide +kernel
theorem dX12_triangles_35 : decode cX12_triangles 35 = .ok (.invokevirtual 545, 3) := by decide +kernel
theorem dX12_triangles_38 : decode cX12_triangles 38 = .ok (.ifCond .ne 7, 3) := by decide +kernel
theorem dX12_triangles_41 : decode cX12_triangles 41 = .ok (.iconst 1, 1) := by decide +kernel
theorem dX12_triangles_42 : decode cX12_triangles 42 = .ok (.goto 4, 3) := by decide +kernel
theorem dX12_triangles_45 : decode cX12_triangles 45 = .ok (.iconst 0, 1) := by decide +kernel
theorem dX12_triangles_46 : decode cX12_triangles 46 = .ok (.iconst 2, 1) := by decide +kernel
theorem dX12_triangles_47 : decode cX12_triangles 47 = .ok (.invokevirtual 277, 3) := by decide +kernel
theorem dX12_triangles_50 : decode cX12_triangles 50 = .ok (.ifCond .ne 24, 3) := by decide +kernel
theorem dX12_triangles_53 : decode cX12_triangles 53 = .ok (.aload_n 0, 1) := by decide +kernel
theorem dX12_triangles_54 : decode cX12_triangles 54 = .ok (.aload_n 0, 1) := by decide +kernel
theorem dX12_triangles_55 : decode cX12_triangles 55 = .ok (.iload_n 1, 1) := by decide +kernel
theorem dX12_triangles_56 : decode cX12_triangles 56 = .ok (.invokevirtual 1061, 3) := by decide +kernel
theorem dX12_triangles_59 : decode cX12_triangles 59 = .ok (.ifCond .ne 7, 3) := by decide +kernel
theorem dX12_triangles_62 : decode cX12_triangles 62 = .ok (.iconst 1, 1) := by decide +kernel
theorem dX12_triangles_63 : decode cX12_triangles 63 = .ok (.goto 4, 3) := by decide +kernel
theorem dX12_triangles_66 : decode cX12_triangles 66 = .ok (.iconst 0, 1) := by decide +kernel
theorem dX12_triangles_67 : decode cX12_triangles 67 = .ok (.iconst 3, 1) := by decide +kernel
theorem dX12_triangles_68 : decode cX12_triangles 68 = .ok (.invokevirtual 277, 3) := by decide +kernel
theorem dX12_triangles_71 : decode cX12_triangles 71 = .ok (.ifCond .eq 5, 3) := by decide +kernel
theorem dX12_triangles_74 : decode cX12_triangles 74 = .ok (.iconst 0, 1) := by decide +kernel
theorem dX12_triangles_75 : decode cX12_triangles 75 = .ok (.ireturn, 1) := by decide +kernel
theorem dX12_triangles_76 : decode cX12_triangles 76 = .ok (.aload_n 0, 1) := by decide +kernel
theorem dX12_triangles_77 : decode cX12_triangles 77 = .ok (.invokevirtual 1095, 3) := by decide +kernel
theorem dX12_triangles_80 : decode cX12_triangles 80 = .ok (.aload_n 0, 1) := by decide +kernel
theorem dX12_triangles_81 : decode cX12_triangles 81 = .ok (.aload_n 0, 1) := by decide +kernel
theorem dX12_triangles_82 : decode cX12_triangles 82 = .ok (.getfield 1073, 3) := by decide +kernel
theorem dX12_triangles_85 : decode cX12_triangles 85 = .ok (.sipush 512, 3) := by decide +kernel
theorem dX12_triangles_88 : decode cX12_triangles 88 = .ok (.if_icmp .le 7, 3) := by decide +kernel
theorem dX12_triangles_91 : decode cX12_triangles 91 = .ok (.iconst 1, 1) := by decide +kernel
theorem dX12_triangles_92 : decode cX12_triangles 92 = .ok (.goto 4, 3) := by decide +kernel
theorem dX12_triangles_95 : decode cX12_triangles 95 = .ok (.iconst 0, 1) := by decide +kernel
theorem dX12_triangles_96 : decode cX12_triangles 96 = .ok (.iconst 3, 1) := by decide +kernel
theorem dX12_triangles_97 : decode cX12_triangles 97 = .ok (.invokevirtual 277, 3) := by decide +kernel
theorem dX12_triangles_100 : decode cX12_triangles 100 = .ok (.ifCond .eq 5, 3) := by decide +kernel
theorem dX12_triangles_103 : decode cX12_triangles 103 = .ok (.iconst 0, 1) := by decide +kernel
theorem dX12_triangles_104 : decode cX12_triangles 104 = .ok (.ireturn, 1) := by decide +kernel
theorem dX12_triangles_105 : decode cX12_triangles 105 = .ok (.aload_n 0, 1) := by decide +kernel
theorem dX12_triangles_106 : decode cX12_triangles 106 = .ok (.bipush 32, 2) := by decide +kernel
theorem dX12_triangles_108 : decode cX12_triangles 108 = .ok (.invokevirtual 358, 3) := by decide +kernel
theorem dX12_triangles_111 : decode cX12_triangles 111 = .ok (.aload_n 0, 1) := by decide +kernel
theorem dX12_triangles_112 : decode cX12_triangles 112 = .ok (.bipush 6, 2) := by decide +kernel
theorem dX12_triangles_114 : decode cX12_triangles 114 = .ok (.invokevirtual 352, 3) := by decide +kernel
theorem dX12_triangles_117 : decode cX12_triangles 117 = .ok (.aload_n 0, 1) := by decide +kernel
theorem dX12_triangles_118 : decode cX12_triangles 118 = .ok (.aload_n 0, 1) := by decide +kernel
theorem dX12_triangles_119 : decode cX12_triangles 119 = .ok (.getfield 1073, 3) := by decide +kernel
theorem dX12_triangles_122 : decode cX12_triangles 122 = .ok (.invokevirtual 352, 3) := by decide +kernel
theorem dX12_triangles_125 : decode cX12_triangles 125 = .ok (.iconst 0, 1) := by decide +kernel
theorem dX12_triangles_126 : decode cX12_triangles 126 = .ok (.istore_n 3, 1) := by decide +kernel
theorem dX12_triangles_127 : decode cX12_triangles 127 = .ok (.iload_n 3, 1) := by decide +kernel
theorem dX12_triangles_128 : decode cX12_triangles 128 = .ok (.aload_n 0, 1) := by decide +kernel
theorem dX12_triangles_129 : decode cX12_triangles 129 = .ok (.getfield 1073, 3) := by decide +kernel
theorem dX12_triangles_132 : decode cX12_triangles 132 = .ok (.if_icmp .ge 64, 3) := by decide +kernel
theorem dX12_triangles_135 : decode cX12_triangles 135 = .ok (.aload_n 0, 1) := by decide +kernel
theorem dX12_triangles_136 : decode cX12_triangles 136 = .ok (.iconst 3, 1) := by decide +kernel
theorem dX12_triangles_137 : decode cX12_triangles 137 = .ok (.invokevirtual 352, 3) := by decide +kernel
theorem dX12_triangles_140 : decode cX12_triangles 140 = .ok (.aload_n 0, 1) := by decide +kernel
theorem dX12_triangles_141 : decode cX12_triangles 141 = .ok (.iconst 1, 1) := by decide +kernel
theorem dX12_triangles_142 : decode cX12_triangles 142 = .ok (.invokevirtual 352, 3) := by decide +kernel
theorem dX12_triangles_145 : decode cX12_triangles 145 = .ok (.aload_n 0, 1) := by decide +kernel
theorem dX12_triangles_146 : decode cX12_triangles 146 = .ok (.iconst 4, 1) := by decide +kernel
theorem dX12_triangles_147 : decode cX12_triangles 147 = .ok (.invokevirtual 352, 3) := by decide +kernel
theorem dX12_triangles_150 : decode cX12_triangles 150 = .ok (.aload_n 0, 1) := by decide +kernel
theorem dX12_triangles_151 : decode cX12_triangles 151 = .ok (.aload_n 0, 1) := by decide +kernel
theorem dX12_triangles_152 : decode cX12_triangles 152 = .ok (.getfield 243, 3) := by decide +kernel
theorem dX12_triangles_155 : decode cX12_triangles 155 = .ok (.iload_n 3, 1) := by decide +kernel
theorem dX12_triangles_156 : decode cX12_triangles 156 = .ok (.iaload, 1) := by decide +kernel
theorem dX12_triangles_157 : decode cX12_triangles 157 = .ok (.invokevirtual 1098, 3) := by decide +kernel
theorem dX12_triangles_160 : decode cX12_triangles 160 = .ok (.aload_n 0, 1) := by decide +kernel
theorem dX12_triangles_161 : decode cX12_triangles 161 = .ok (.aload_n 0, 1) := by decide +kernel
theorem dX12_triangles_162 : decode cX12_triangles 162 = .ok (.getfield 246, 3) := by decide +kernel
theorem dX12_triangles_165 : decode cX12_triangles 165 = .ok (.iload_n 3, 1) := by decide +kernel
theorem dX12_triangles_166 : decode cX12_triangles 166 = .ok (.iaload, 1) := by decide +kernel
theorem dX12_triangles_167 : decode cX12_triangles 167 = .ok (.invokevirtual 1098, 3) := by decide +kernel
theorem dX12_triangles_170 : decode cX12_triangles 170 = .ok (.aload_n 0, 1) := by decide +kernel
theorem dX12_triangles_171 : decode cX12_triangles 171 = .ok (.aload_n 0, 1) := by decide +kernel
theorem dX12_triangles_172 : decode cX12_triangles 172 = .ok (.getfield 249, 3) := by decide +kernel
theorem dX12_triangles_175 : decode cX12_triangles 175 = .ok (.iload_n 3, 1) := by decide +kernel
theorem dX12_triangles_176 : decode cX12_triangles 176 = .ok (.iaload, 1) := by decide +kernel
theorem dX12_triangles_177 : decode cX12_triangles 177 = .ok (.invokevirtual 1098, 3) := by decide +kernel
theorem dX12_triangles_180 : decode cX12_triangles 180 = .ok (.aload_n 0, 1) := by decide +kernel
theorem dX12_triangles_181 : decode cX12_triangles 181 = .ok (.aload_n 0, 1) := by decide +kernel
theorem dX12_triangles_182 : decode cX12_triangles 182 = .ok (.getfield 243, 3) := by decide +kernel
theorem dX12_triangles_185 : decode cX12_triangles 185 = .ok (.iload_n 3, 1) := by decide +kernel
theorem dX12_triangles_186 : decode cX12_triangles 186 = .ok (.iaload, 1) := by decide +kernel
theorem dX12_triangles_187 : decode cX12_triangles 187 = .ok (.invokevirtual 1098, 3) := by decide +kernel
theorem dX12_triangles_190 : decode cX12_triangles 190 = .ok (.iinc 3 1, 3) := by decide +kernel
theorem dX12_triangles_193 : decode cX12_triangles 193 = .ok (.goto (-66), 3) := by decide +kernel
theorem dX12_triangles_196 : decode cX12_triangles 196 = .ok (.aload_n 0, 1) := by decide +kernel
theorem dX12_triangles_197 : decode cX12_triangles 197 = .ok (.bipush 32, 2) := by decide +kernel
theorem dX12_triangles_199 : decode cX12_triangles 199 = .ok (.iload_n 2, 1) := by decide +kernel
theorem dX12_triangles_200 : decode cX12_triangles 200 = .ok (.invokevirtual 449, 3) := by decide +kernel
theorem dX12_triangles_203 : decode cX12_triangles 203 = .ok (.aload_n 0, 1) := by decide +kernel
theorem dX12_triangles_204 : decode cX12_triangles 204 = .ok (.getfield 1073, 3) := by decide +kernel
theorem dX12_triangles_207 : decode cX12_triangles 207 = .ok (.ireturn, 1) := by decide +kernel
abbrev M_X12_triangles : MRec := (yX12_triangles, cX12_triangles, 4, (some Jvm.ClassFile.FieldType.int), [])
theorem m_X12_triangles : en_M M_X12_triangles 2 := ⟨t_3652, t_14, ⟨by decide +kernel, by decide +kernel⟩, by decide +kernel, by decide +kernel, by decide +kernel⟩
theorem dX12_distance_0 : decode cX12_distance 0 = .ok (.aload_n 0, 1) := by decide +kernel
theorem dX12_distance_1 : decode cX12_distance 1 = .ok (.getfield 29, 3) := by decide +kernel
theorem dX12_distance_4 : decode cX12_distance 4 = .ok (.iload 4, 2) := by decide +kernel
theorem dX12_distance_6 : decode cX12_distance 6 = .ok (.iaload, 1) := by decide +kernel
theorem dX12_distance_7 : decode cX12_distance 7 = .ok (.i2l, 1) := by decide +kernel
theorem dX12_distance_8 : decode cX12_distance 8 = .ok (.aload_n 0, 1) := by decide +kernel
theorem dX12_distance_9 : decode cX12_distance 9 = .ok (.getfield 29, 3) := by decide +kernel
theorem dX12_distance_12 : decode cX12_distance 12 = .ok (.iload_n 3, 1) := by decide +kernel
theorem dX12_distance_13 : decode cX12_distance 13 = .ok (.iaload, 1) := by decide +kernel
theorem dX12_distance_14 : decode cX12_distance 14 = .ok (.i2l, 1) := by decide +kernel
theorem dX12_distance_15 : decode cX12_distance 15 = .ok (.lsub, 1) := by decide +kernel
theorem dX12_distance_16 : decode cX12_distance 16 = .ok (.lstore 5, 2) := by decide +kernel
theorem dX12_distance_18 : decode cX12_distance 18 = .ok (.aload_n 0, 1) := by decide +kernel
theorem dX12_distance_19 : decode cX12_distance 19 = .ok (.getfield 32, 3) := by decide +kernel
theorem dX12_distance_22 : decode cX12_distance 22 = .ok (.iload 4, 2) := by decide +kernel
theorem dX12_distance_24 : decode cX12_distance 24 = .ok (.iaload, 1) := by decide +kernel
theorem dX12_distance_25 : decode cX12_distance 25 = .ok (.i2l, 1) := by decide +kernel
theorem dX12_distance_26 : decode cX12_distance 26 = .ok (.aload_n 0, 1) := by decide +kernel
theorem dX12_distance_27 : decode cX12_distance 27 = .ok (.getfield 32, 3) := by decide +kernel
theorem dX12_distance_30 : decode cX12_distance 30 = .ok (.iload_n 3, 1) := by decide +kernel
theorem dX12_distance_31 : decode cX12_distance 31 = .ok (.iaload, 1) := by decide +kernel
theorem dX12_distance_32 : decode cX12_distance 32 = .ok (.i2l, 1) := by decide +kernel
theorem dX12_distance_33 : decode cX12_distance 33 = .ok (.lsub, 1) := by decide +kernel
theorem dX12_distance_34 : decode cX12_distance 34 = .ok (.lstore 7, 2) := by decide +kernel
theorem dX12_distance_36 : decode cX12_distance 36 = .ok (.aload_n 0, 1) := by decide +kernel
theorem dX12_distance_37 : decode cX12_distance 37 = .ok (.getfield 29, 3) := by decide +kernel
theorem dX12_distance_40 : decode cX12_distance 40 = .ok (.iload_n 2, 1) := by decide +kernel
theorem dX12_distance_41 : decode cX12_distance 41 = .ok (.iaload, 1) := by decide +kernel
theorem dX12_distance_42 : decode cX12_distance 42 = .ok (.i2l, 1) := by decide +kernel
theorem dX12_distance_43 : decode cX12_distance 43 = .ok (.aload_n 0, 1) := by decide +kernel
theorem dX12_distance_44 : decode cX12_distance 44 = .ok (.getfield 29, 3) := by decide +kernel
theorem dX12_distance_47 : decode cX12_distance 47 = .ok (.iload_n 3, 1) := by decide +kernel
theorem dX12_distance_48 : decode cX12_distance 48 = .ok (.iaload, 1) := by decide +kernel
theorem dX12_distance_49 : decode cX12_distance 49 = .ok (.i2l, 1) := by decide +kernel
theorem dX12_distance_50 : decode cX12_distance 50 = .ok (.lsub, 1) := by decide +kernel
theorem dX12_distance_51 : decode cX12_distance 51 = .ok (.lstore 9, 2) := by decide +kernel
theorem dX12_distance_53 : decode cX12_distance 53 = .ok (.aload_n 0, 1) := by decide +kernel
theorem dX12_distance_54 : decode cX12_distance 54 = .ok (.getfield 32, 3) := by decide +kernel
theorem dX12_distance_57 : decode cX12_distance 57 = .ok (.iload_n 2, 1) := by decide +kernel
theorem dX12_distance_58 : decode cX12_distance 58 = .ok (.iaload, 1) := by decide +kernel
theorem dX12_distance_59 : decode cX12_distance 59 = .ok (.i2l, 1) := by decide +kernel
theorem dX12_distance_60 : decode cX12_distance 60 = .ok (.aload_n 0, 1) := by decide +kernel
theorem dX12_distance_61 : decode cX12_distance 61 = .ok (.getfield 32, 3) := by decide +kernel
theorem dX12_distance_64 : decode cX12_distance 64 = .ok (.iload_n 3, 1) := by decide +kernel
theorem dX12_distance_65 : decode cX12_distance 65 = .ok (.iaload, 1) := by decide +kernel
theorem dX12_distance_66 : decode cX12_distance 66 = .ok (.i2l, 1) := by decide +kernel
theorem dX12_distance_67 : decode cX12_distance 67 = .ok (.lsub, 1) := by decide +kernel
theorem dX12_distance_68 : decode cX12_distance 68 = .ok (.lstore 11, 2) := by decide +kernel
theorem dX12_distance_70 : decode cX12_distance 70 = .ok (.lload 5, 2) := by decide +kernel
theorem dX12_distance_72 : decode cX12_distance 72 = .ok (.lload 5, 2) := by decide +kernel
theorem dX12_distance_74 : decode cX12_distance 74 = .ok (.lmul, 1) := by decide +kernel
theorem dX12_distance_75 : decode cX12_distance 75 = .ok (.lload 7, 2) := by decide +kernel
theorem dX12_distance_77 : decode cX12_distance 77 = .ok (.lload 7, 2) := by decide +kernel
theorem dX12_distance_79 : decode cX12_distance 79 = .ok (.lmul, 1) := by decide +kernel
theorem dX12_distance_80 : decode cX12_distance 80 = .ok (.ladd, 1) := by decide +kernel
theorem dX12_distance_81 : decode cX12_distance 81 = .ok (.lstore 13, 2) := by decide +kernel
theorem dX12_distance_83 : decode cX12_distance 83 = .ok (.lload 9, 2) := by decide +kernel
theorem dX12_distance_85 : decode cX12_distance 85 = .ok (.lload 5, 2) := by decide +kernel
theorem dX12_distance_87 : decode cX12_distance 87 = .ok (.lmul, 1) := by decide +kernel
theorem dX12_distance_88 : decode cX12_distance 88 = .ok (.lload 11, 2) := by decide +kernel
theorem dX12_distance_90 : decode cX12_distance 90 = .ok (.lload 7, 2) := by decide +kernel
theorem dX12_distance_92 : decode cX12_distance 92 = .ok (.lmul, 1) := by decide +kernel
theorem dX12_distance_93 : decode cX12_distance 93 = .ok (.ladd, 1) := by decide +kernel
theorem dX12_distance_94 : decode cX12_distance 94 = .ok (.lstore 15, 2) := by decide +kernel
theorem dX12_distance_96 : decode cX12_distance 96 = .ok (.lload 13, 2) := by decide +kernel
theorem dX12_distance_98 : decode cX12_distance 98 = .ok (.lconst 0, 1) := by decide +kernel
theorem dX12_distance_99 : decode cX12_distance 99 = .ok (.lcmp, 1) := by decide +kernel
theorem dX12_distance_100 : decode cX12_distance 100 = .ok (.ifCond .le 42, 3) := by decide +kernel
theorem dX12_distance_103 : decode cX12_distance 103 = .ok (.lload 15, 2) := by decide +kernel
theorem dX12_distance_105 : decode cX12_distance 105 = .ok (.lconst 0, 1) := by decide +kernel
theorem dX12_distance_106 : decode cX12_distance 106 = .ok (.lcmp, 1) := by decide +kernel
theorem dX12_distance_107 : decode cX12_distance 107 = .ok (.ifCond .le 35, 3) := by decide +kernel
theorem dX12_distance_110 : decode cX12_distance 110 = .ok (.lload 15, 2) := by decide +kernel
theorem dX12_distance_112 : decode cX12_distance 112 = .ok (.lload 13, 2) := by decide +kernel
theorem dX12_distance_114 : decode cX12_distance 114 = .ok (.lcmp, 1) := by decide +kernel
theorem dX12_distance_115 : decode cX12_distance 115 = .ok (.ifCond .ge 27, 3) := by decide +kernel
theorem dX12_distance_118 : decode cX12_distance 118 = .ok (.aload_n 0, 1) := by decide +kernel
theorem dX12_distance_119 : decode cX12_distance 119 = .ok (.iconst 2, 1) := by decide +kernel
theorem dX12_distance_120 : decode cX12_distance 120 = .ok (.lload 5, 2) := by decide +kernel
theorem dX12_distance_122 : decode cX12_distance 122 = .ok (.lload 7, 2) := by decide +kernel
theorem dX12_distance_124 : decode cX12_distance 124 = .ok (.lload 9, 2) := by decide +kernel
theorem dX12_distance_126 : decode cX12_distance 126 = .ok (.lload 11, 2) := by decide +kernel
theorem dX12_distance_128 : decode cX12_distance 128 = .ok (.invokestatic 644, 3) := by decide +kernel
theorem dX12_distance_131 : decode cX12_distance 131 = .ok (.invokevirtual 635, 3) := by decide +kernel
theorem dX12_distance_134 : decode cX12_distance 134 = .ok (.aload_n 0, 1) := by decide +kernel
theorem dX12_distance_135 : decode cX12_distance 135 = .ok (.iload_n 1, 1) := by decide +kernel
theorem dX12_distance_136 : decode cX12_distance 136 = .ok (.iconst 2, 1) := by decide +kernel
theorem dX12_distance_137 : decode cX12_distance 137 = .ok (.iconst 2, 1) := by decide +kernel
theorem dX12_distance_138 : decode cX12_distance 138 = .ok (.invokevirtual 632, 3) := by decide +kernel
theorem dX12_distance_141 : decode cX12_distance 141 = .ok (.return_, 1) := by decide +kernel
theorem dX12_distance_142 : decode cX12_distance 142 = .ok (.lload 15, 2) := by decide +kernel
theorem dX12_distance_144 : decode cX12_distance 144 = .ok (.lconst 0, 1) := by decide +kernel
theorem dX12_distance_145 : decode cX12_distance 145 = .ok (.lcmp, 1) := by decide +kernel
theorem dX12_distance_146 : decode cX12_distance 146 = .ok (.ifCond .gt 7, 3) := by decide +kernel
theorem dX12_distance_149 : decode cX12_distance 149 = .ok (.iconst 1, 1) := by decide +kernel
theorem dX12_distance_150 : decode cX12_distance 150 = .ok (.goto 4, 3) := by decide +kernel
theorem dX12_distance_153 : decode cX12_distance 153 = .ok (.iconst 0, 1) := by decide +kernel
theorem dX12_distance_154 : decode cX12_distance 154 = .ok (.istore 17, 2) := by decide +kernel
theorem dX12_distance_156 : decode cX12_distance 156 = .ok (.iload 17, 2) := by decide +kernel
theorem dX12_distance_158 : decode cX12_distance 158 = .ok (.ifCond .eq 8, 3) := by decide +kernel
theorem dX12_distance_161 : decode cX12_distance 161 = .ok (.lload 9, 2) := by decide +kernel
theorem dX12_distance_163 : decode cX12_distance 163 = .ok (.goto 19, 3) := by decide +kernel
theorem dX12_distance_166 : decode cX12_distance 166 = .ok (.aload_n 0, 1) := by decide +kernel
theorem dX12_distance_167 : decode cX12_distance 167 = .ok (.getfield 29, 3) := by decide +kernel
theorem dX12_distance_170 : decode cX12_distance 170 = .ok (.iload_n 2, 1) := by decide +kernel
theorem dX12_distance_171 : decode cX12_distance 171 = .ok (.iaload, 1) := by decide +kernel
theorem dX12_distance_172 : decode cX12_distance 172 = .ok (.i2l, 1) := by decide +kernel
theorem dX12_distance_173 : decode cX12_distance 173 = .ok (.aload_n 0, 1) := by decide +kernel
theorem dX12_distance_174 : decode cX12_distance 174 = .ok (.getfield 29, 3) := by decide +kernel
theorem dX12_distance_177 : decode cX12_distance 177 = .ok (.iload 4, 2) := by decide +kernel
theorem dX12_distance_179 : decode cX12_distance 179 = .ok (.iaload, 1) := by decide +kernel
theorem dX12_distance_180 : decode cX12_distance 180 = .ok (.i2l, 1) := by decide +kernel
theorem dX12_distance_181 : decode cX12_distance 181 = .ok (.lsub, 1) := by decide +kernel
theorem dX12_distance_182 : decode cX12_distance 182 = .ok (.lstore 18, 2) := by decide +kernel
theorem dX12_distance_184 : decode cX12_distance 184 = .ok (.iload 17, 2) := by decide +kernel
theorem dX12_distance_186 : decode cX12_distance 186 = .ok (.ifCond .eq 8, 3) := by decide +kernel
theorem dX12_distance_189 : decode cX12_distance 189 = .ok (.lload 11, 2) := by decide +kernel
theorem dX12_distance_191 : decode cX12_distance 191 = .ok (.goto 19, 3) := by decide +kernel
theorem dX12_distance_194 : decode cX12_distance 194 = .ok (.aload_n 0, 1) := by decide +kernel
theorem dX12_distance_195 : decode cX12_distance 195 = .ok (.getfield 32, 3) := by decide +kernel
theorem dX12_distance_198 : decode cX12_distance 198 = .ok (.iload_n 2, 1) := by decide +kernel
theorem dX12_distance_199 : decode cX12_distance 199 = .ok (.iaload, 1) := by decide +kernel
theorem dX12_distance_200 : decode cX12_distance 200 = .ok (.i2l, 1) := by decide +kernel
theorem dX12_distance_201 : decode cX12_distance 201 = .ok (.aload_n 0, 1) := by decide +kernel
theorem dX12_distance_202 : decode cX12_distance 202 = .ok (.getfield 32, 3) := by decide +kernel
theorem dX12_distance_205 : decode cX12_distance 205 = .ok (.iload 4, 2) := by decide +kernel
theorem dX12_distance_207 : decode cX12_distance 207 = .ok (.iaload, 1) := by decide +kernel
theorem dX12_distance_208 : decode cX12_distance 208 = .ok (.i2l, 1) := by decide +kernel
theorem dX12_distance_209 : decode cX12_distance 209 = .ok (.lsub, 1) := by decide +kernel
theorem dX12_distance_210 : decode cX12_distance 210 = .ok (.lstore 20, 2) := by decide +kernel
theorem dX12_distance_212 : decode cX12_distance 212 = .ok (.aload_n 0, 1) := by decide +kernel
theorem dX12_distance_213 : decode cX12_distance 213 = .ok (.iconst 2, 1) := by decide +kernel
theorem dX12_distance_214 : decode cX12_distance 214 = .ok (.lload 18, 2) := by decide +kernel
theorem dX12_distance_216 : decode cX12_distance 216 = .ok (.lload 18, 2) := by decide +kernel
theorem dX12_distance_218 : decode cX12_distance 218 = .ok (.lmul, 1) := by decide +kernel
theorem dX12_distance_219 : decode cX12_distance 219 = .ok (.lload 20, 2) := by decide +kernel
theorem dX12_distance_221 : decode cX12_distance 221 = .ok (.lload 20, 2) := by decide +kernel
theorem dX12_distance_223 : decode cX12_distance 223 = .ok (.lmul, 1) := by decide +kernel
theorem dX12_distance_224 : decode cX12_distance 224 = .ok (.ladd, 1) := by decide +kernel
theorem dX12_distance_225 : decode cX12_distance 225 = .ok (.invokevirtual 635, 3) := by decide +kernel
theorem dX12_distance_228 : decode cX12_distance 228 = .ok (.aload_n 0, 1) := by decide +kernel
theorem dX12_distance_229 : decode cX12_distance 229 = .ok (.iconst 3, 1) := by decide +kernel
theorem dX12_distance_230 : decode cX12_distance 230 = .ok (.lload 13, 2) := by decide +kernel
theorem dX12_distance_232 : decode cX12_distance 232 = .ok (.lconst 0, 1) := by decide +kernel
theorem dX12_distance_233 : decode cX12_distance 233 = .ok (.lcmp, 1) := by decide +kernel
theorem dX12_distance_234 : decode cX12_distance 234 = .ok (.ifCond .le 8, 3) := by decide +kernel
theorem dX12_distance_237 : decode cX12_distance 237 = .ok (.lload 13, 2) := by decide +kernel
theorem dX12_distance_239 : decode cX12_distance 239 = .ok (.goto 4, 3) := by decide +kernel
theorem dX12_distance_242 : decode cX12_distance 242 = .ok (.lconst 1, 1) := by decide +kernel
theorem dX12_distance_243 : decode cX12_distance 243 = .ok (.invokevirtual 635, 3) := by decide +kernel
theorem dX12_distance_246 : decode cX12_distance 246 = .ok (.aload_n 0, 1) := by decide +kernel
theorem dX12_distance_247 : decode cX12_distance 247 = .ok (.iload_n 1, 1) := by decide +kernel
theorem dX12_distance_248 : decode cX12_distance 248 = .ok (.iconst 2, 1) := by decide +kernel
theorem dX12_distance_249 : decode cX12_distance 249 = .ok (.iconst 3, 1) := by decide +kernel
theorem dX12_distance_250 : decode cX12_distance 250 = .ok (.invokevirtual 632, 3) := by decide +kernel
theorem dX12_distance_253 : decode cX12_distance 253 = .ok (.return_, 1) := by decide +kernel
abbrev M_X12_distance : MRec := (yX12_distance, cX12_distance, 22, none, [])
theorem m_X12_distance : en_M M_X12_distance 4 := ⟨t_3704, t_14, ⟨by decide +kernel, by decide +kernel⟩, by decide +kernel, by decide +kernel, by decide +kernel⟩
theorem dX12_farthest_0 : decode cX12_farthest 0 = .ok (.aload_n 0, 1) := by decide +kernel
theorem dX12_farthest_1 : decode cX12_farthest 1 = .ok (.getfield 29, 3) := by decide +kernel
theorem dX12_farthest_4 : decode cX12_farthest 4 = .ok (.iload_n 2, 1) := by decide +kernel
theorem dX12_farthest_5 : decode cX12_farthest 5 = .ok (.iaload, 1) := by decide +kernel
theorem dX12_farthest_6 : decode cX12_farthest 6 = .ok (.i2l, 1) := by decide +kernel
theorem dX12_farthest_7 : decode cX12_farthest 7 = .ok (.aload_n 0, 1) := by decide +kernel
theorem dX12_farthest_8 : decode cX12_farthest 8 = .ok (.getfield 29, 3) := by decide +kernel
theorem dX12_farthest_11 : decode cX12_farthest 11 = .ok (.iload_n 1, 1) := by decide +kernel
theorem dX12_farthest_12 : decode cX12_farthest 12 = .ok (.iaload, 1) := by decide +kernel
theorem dX12_farthest_13 : decode cX12_farthest 13 = .ok (.i2l, 1) := by decide +kernel
theorem dX12_farthest_14 : decode cX12_farthest 14 = .ok (.lsub, 1) := by decide +kernel
theorem dX12_farthest_15 : decode cX12_farthest 15 = .ok (.lstore 5, 2) := by decide +kernel
theorem dX12_farthest_17 : decode cX12_farthest 17 = .ok (.aload_n 0, 1) := by decide +kernel
theorem dX12_farthest_18 : decode cX12_farthest 18 = .ok (.getfield 32, 3) := by decide +kernel
theorem dX12_farthest_21 : decode cX12_farthest 21 = .ok (.iload_n 2, 1) := by decide +kernel
theorem dX12_farthest_22 : decode cX12_farthest 22 = .ok (.iaload, 1) := by decide +kernel
theorem dX12_farthest_23 : decode cX12_farthest 23 = .ok (.i2l, 1) := by decide +kernel
theorem dX12_farthest_24 : decode cX12_farthest 24 = .ok (.aload_n 0, 1) := by decide +kernel
theorem dX12_farthest_25 : decode cX12_farthest 25 = .ok (.getfield 32, 3) := by decide +kernel
theorem dX12_farthest_28 : decode cX12_farthest 28 = .ok (.iload_n 1, 1) := by decide +kernel
theorem dX12_farthest_29 : decode cX12_farthest 29 = .ok (.iaload, 1) := by decide +kernel
theorem dX12_farthest_30 : decode cX12_farthest 30 = .ok (.i2l, 1) := by decide +kernel
theorem dX12_farthest_31 : decode cX12_farthest 31 = .ok (.lsub, 1) := by decide +kernel
theorem dX12_farthest_32 : decode cX12_farthest 32 = .ok (.lstore 7, 2) := by decide +kernel
theorem dX12_farthest_34 : decode cX12_farthest 34 = .ok (.lload 5, 2) := by decide +kernel
theorem dX12_farthest_36 : decode cX12_farthest 36 = .ok (.lload 5, 2) := by decide +kernel
theorem dX12_farthest_38 : decode cX12_farthest 38 = .ok (.lmul, 1) := by decide +kernel
theorem dX12_farthest_39 : decode cX12_farthest 39 = .ok (.lload 7, 2) := by decide +kernel
theorem dX12_farthest_41 : decode cX12_farthest 41 = .ok (.lload 7, 2) := by decide +kernel
theorem dX12_farthest_43 : decode cX12_farthest 43 = .ok (.lmul, 1) := by decide +kernel
theorem dX12_farthest_44 : decode cX12_farthest 44 = .ok (.ladd, 1) := by decide +kernel
theorem dX12_farthest_45 : decode cX12_farthest 45 = .ok (.lstore 9, 2) := by decide +kernel
theorem dX12_farthest_47 : decode cX12_farthest 47 = .ok (.aload_n 0, 1) := by decide +kernel
theorem dX12_farthest_48 : decode cX12_farthest 48 = .ok (.iconst 4, 1) := by decide +kernel
theorem dX12_farthest_49 : decode cX12_farthest 49 = .ok (.lload_n 3, 1) := by decide +kernel
theorem dX12_farthest_50 : decode cX12_farthest 50 = .ok (.lload_n 3, 1) := by decide +kernel
theorem dX12_farthest_51 : decode cX12_farthest 51 = .ok (.lmul, 1) := by decide +kernel
theorem dX12_farthest_52 : decode cX12_farthest 52 = .ok (.invokevirtual 635, 3) := by decide +kernel
theorem dX12_farthest_55 : decode cX12_farthest 55 = .ok (.aload_n 0, 1) := by decide +kernel
theorem dX12_farthest_56 : decode cX12_farthest 56 = .ok (.iconst 5, 1) := by decide +kernel
theorem dX12_farthest_57 : decode cX12_farthest 57 = .ok (.lload 9, 2) := by decide +kernel
theorem dX12_farthest_59 : decode cX12_farthest 59 = .ok (.lconst 0, 1) := by decide +kernel
theorem dX12_farthest_60 : decode cX12_farthest 60 = .ok (.lcmp, 1) := by decide +kernel
theorem dX12_farthest_61 : decode cX12_farthest 61 = .ok (.ifCond .le 8, 3) := by decide +kernel
theorem dX12_farthest_64 : decode cX12_farthest 64 = .ok (.lload 9, 2) := by decide +kernel
theorem dX12_farthest_66 : decode cX12_farthest 66 = .ok (.goto 4, 3) := by decide +kernel
theorem dX12_farthest_69 : decode cX12_farthest 69 = .ok (.lconst 1, 1) := by decide +kernel
theorem dX12_farthest_70 : decode cX12_farthest 70 = .ok (.invokevirtual 635, 3) := by decide +kernel
theorem dX12_farthest_73 : decode cX12_farthest 73 = .ok (.aload_n 0, 1) := by decide +kernel
theorem dX12_farthest_74 : decode cX12_farthest 74 = .ok (.bipush 10, 2) := by decide +kernel
theorem dX12_farthest_76 : decode cX12_farthest 76 = .ok (.iconst 4, 1) := by decide +kernel
theorem dX12_farthest_77 : decode cX12_farthest 77 = .ok (.iconst 5, 1) := by decide +kernel
theorem dX12_farthest_78 : decode cX12_farthest 78 = .ok (.invokevirtual 632, 3) := by decide +kernel
theorem dX12_farthest_81 : decode cX12_farthest 81 = .ok (.iconst (-1), 1) := by decide +kernel
theorem dX12_farthest_82 : decode cX12_farthest 82 = .ok (.istore 11, 2) := by decide +kernel
theorem dX12_farthest_84 : decode cX12_farthest 84 = .ok (.iload_n 1, 1) := by decide +kernel
theorem dX12_farthest_85 : decode cX12_farthest 85 = .ok (.iconst 1, 1) := by decide +kernel
theorem dX12_farthest_86 : decode cX12_farthest 86 = .ok (.iadd, 1) := by decide +kernel
theorem dX12_farthest_87 : decode cX12_farthest 87 = .ok (.istore 12, 2) := by decide +kernel
theorem dX12_farthest_89 : decode cX12_farthest 89 = .ok (.iload 12, 2) := by decide +kernel
theorem dX12_farthest_91 : decode cX12_farthest 91 = .ok (.iload_n 2, 1) := by decide +kernel
theorem dX12_farthest_92 : decode cX12_farthest 92 = .ok (.if_icmp .ge 58, 3) := by decide +kernel
theorem dX12_farthest_95 : decode cX12_farthest 95 = .ok (.aload_n 0, 1) := by decide +kernel
theorem dX12_farthest_96 : decode cX12_farthest 96 = .ok (.bipush 11, 2) := by decide +kernel
theorem dX12_farthest_98 : decode cX12_farthest 98 = .ok (.iload 12, 2) := by decide +kernel
theorem dX12_farthest_100 : decode cX12_farthest 100 = .ok (.iload_n 1, 1) := by decide +kernel
theorem dX12_farthest_101 : decode cX12_farthest 101 = .ok (.iload_n 2, 1) := by decide +kernel
theorem dX12_farthest_102 : decode cX12_farthest 102 = .ok (.invokevirtual 1101, 3) := by decide +kernel
theorem dX12_farthest_105 : decode cX12_farthest 105 = .ok (.aload_n 0, 1) := by decide +kernel
theorem dX12_farthest_106 : decode cX12_farthest 106 = .ok (.bipush 12, 2) := by decide +kernel
theorem dX12_farthest_108 : decode cX12_farthest 108 = .ok (.bipush 11, 2) := by decide +kernel
theorem dX12_farthest_110 : decode cX12_farthest 110 = .ok (.bipush 10, 2) := by decide +kernel
theorem dX12_farthest_112 : decode cX12_farthest 112 = .ok (.iconst 1, 1) := by decide +kernel
theorem dX12_farthest_113 : decode cX12_farthest 113 = .ok (.invokevirtual 621, 3) := by decide +kernel
theorem dX12_farthest_116 : decode cX12_farthest 116 = .ok (.aload_n 0, 1) := by decide +kernel
theorem dX12_farthest_117 : decode cX12_farthest 117 = .ok (.getfield 69, 3) := by decide +kernel
theorem dX12_farthest_120 : decode cX12_farthest 120 = .ok (.bipush 12, 2) := by decide +kernel
theorem dX12_farthest_122 : decode cX12_farthest 122 = .ok (.iaload, 1) := by decide +kernel
theorem dX12_farthest_123 : decode cX12_farthest 123 = .ok (.ifCond .gt 6, 3) := by decide +kernel
theorem dX12_farthest_126 : decode cX12_farthest 126 = .ok (.goto 18, 3) := by decide +kernel
theorem dX12_farthest_129 : decode cX12_farthest 129 = .ok (.iload 12, 2) := by decide +kernel
theorem dX12_farthest_131 : decode cX12_farthest 131 = .ok (.istore 11, 2) := by decide +kernel
theorem dX12_farthest_133 : decode cX12_farthest 133 = .ok (.aload_n 0, 1) := by decide +kernel
theorem dX12_farthest_134 : decode cX12_farthest 134 = .ok (.bipush 10, 2) := by decide +kernel
theorem dX12_farthest_136 : decode cX12_farthest 136 = .ok (.bipush 11, 2) := by decide +kernel
theorem dX12_farthest_138 : decode cX12_farthest 138 = .ok (.bipush 6, 2) := by decide +kernel
theorem dX12_farthest_140 : decode cX12_farthest 140 = .ok (.iconst 0, 1) := by decide +kernel
theorem dX12_farthest_141 : decode cX12_farthest 141 = .ok (.invokevirtual 621, 3) := by decide +kernel
theorem dX12_farthest_144 : decode cX12_farthest 144 = .ok (.iinc 12 1, 3) := by decide +kernel
theorem dX12_farthest_147 : decode cX12_farthest 147 = .ok (.goto (-58), 3) := by decide +kernel
theorem dX12_farthest_150 : decode cX12_farthest 150 = .ok (.iload 11, 2) := by decide +kernel
theorem dX12_farthest_152 : decode cX12_farthest 152 = .ok (.ireturn, 1) := by decide +kernel
abbrev M_X12_farthest : MRec := (yX12_farthest, cX12_farthest, 13, (some Jvm.ClassFile.FieldType.int), [])
theorem m_X12_farthest : en_M M_X12_farthest 3 := ⟨t_3700, t_14, ⟨by decide +kernel, by decide +kernel⟩, by decide +kernel, by decide +kernel, by decide +kernel⟩
theorem dX12_thins_0 : decode cX12_thins 0 = .ok (.iload_n 1, 1) := by decide +kernel
theorem dX12_thins_1 : decode cX12_thins 1 = .ok (.iload_n 1, 1) := by decide +kernel
theorem dX12_thins_2 : decode cX12_thins 2 = .ok (.sipush 2048, 3) := by decide +kernel
theorem dX12_thins_5 : decode cX12_thins 5 = .ok (.idiv, 1) := by decide +kernel
theorem dX12_thins_6 : decode cX12_thins 6 = .ok (.sipush 2048, 3) := by decide +kernel
theorem dX12_thins_9 : decode cX12_thins 9 = .ok (.imul, 1) := by decide +kernel
theorem dX12_thins_10 : decode cX12_thins 10 = .ok (.isub, 1) := by decide +kernel
theorem dX12_thins_11 : decode cX12_thins 11 = .ok (.istore 5, 2) := by decide +kernel
theorem dX12_thins_13 : decode cX12_thins 13 = .ok (.iconst 0, 1) := by decide +kernel
theorem dX12_thins_14 : decode cX12_thins 14 = .ok (.istore 6, 2) := by decide +kernel
theorem dX12_thins_16 : decode cX12_thins 16 = .ok (.iload 6, 2) := by decide +kernel
theorem dX12_thins_18 : decode cX12_thins 18 = .ok (.iload_n 2, 1) := by decide +kernel
theorem dX12_thins_19 : decode cX12_thins 19 = .ok (.if_icmp .ge 37, 3) := by decide +kernel
theorem dX12_thins_22 : decode cX12_thins 22 = .ok (.aload_n 0, 1) := by decide +kernel
theorem dX12_thins_23 : decode cX12_thins 23 = .ok (.getfield 252, 3) := by decide +kernel
theorem dX12_thins_26 : decode cX12_thins 26 = .ok (.iload 5, 2) := by decide +kernel
theorem dX12_thins_28 : decode cX12_thins 28 = .ok (.iload 6, 2) := by decide +kernel
theorem dX12_thins_30 : decode cX12_thins 30 = .ok (.iadd, 1) := by decide +kernel
theorem dX12_thins_31 : decode cX12_thins 31 = .ok (.iload 6, 2) := by decide +kernel
theorem dX12_thins_33 : decode cX12_thins 33 = .ok (.ifCond .eq 11, 3) := by decide +kernel
theorem dX12_thins_36 : decode cX12_thins 36 = .ok (.iload 6, 2) := by decide +kernel
theorem dX12_thins_38 : decode cX12_thins 38 = .ok (.iload_n 2, 1) := by decide +kernel
theorem dX12_thins_39 : decode cX12_thins 39 = .ok (.iconst 1, 1) := by decide +kernel
theorem dX12_thins_40 : decode cX12_thins 40 = .ok (.isub, 1) := by decide +kernel
theorem dX12_thins_41 : decode cX12_thins 41 = .ok (.if_icmp .ne 7, 3) := by decide +kernel
theorem dX12_thins_44 : decode cX12_thins 44 = .ok (.iconst 1, 1) := by decide +kernel
theorem dX12_thins_45 : decode cX12_thins 45 = .ok (.goto 4, 3) := by decide +kernel
theorem dX12_thins_48 : decode cX12_thins 48 = .ok (.iconst 0, 1) := by decide +kernel
theorem dX12_thins_49 : decode cX12_thins 49 = .ok (.bastore, 1) := by decide +kernel
theorem dX12_thins_50 : decode cX12_thins 50 = .ok (.iinc 6 1, 3) := by decide +kernel
theorem dX12_thins_53 : decode cX12_thins 53 = .ok (.goto (-37), 3) := by decide +kernel
theorem dX12_thins_56 : decode cX12_thins 56 = .ok (.aload_n 0, 1) := by decide +kernel
theorem dX12_thins_57 : decode cX12_thins 57 = .ok (.bipush 6, 2) := by decide +kernel
theorem dX12_thins_59 : decode cX12_thins 59 = .ok (.lconst 0, 1) := by decide +kernel
theorem dX12_thins_60 : decode cX12_thins 60 = .ok (.invokevirtual 635, 3) := by decide +kernel
theorem dX12_thins_63 : decode cX12_thins 63 = .ok (.iconst 0, 1) := by decide +kernel
theorem dX12_thins_64 : decode cX12_thins 64 = .ok (.istore 6, 2) := by decide +kernel
theorem dX12_thins_66 : decode cX12_thins 66 = .ok (.iload_n 2, 1) := by decide +kernel
theorem dX12_thins_67 : decode cX12_thins 67 = .ok (.iconst 2, 1) := by decide +kernel
theorem dX12_thins_68 : decode cX12_thins 68 = .ok (.if_icmp .le 24, 3) := by decide +kernel
theorem dX12_thins_71 : decode cX12_thins 71 = .ok (.aload_n 0, 1) := by decide +kernel
theorem dX12_thins_72 : decode cX12_thins 72 = .ok (.getfield 255, 3) := by decide +kernel
theorem dX12_thins_75 : decode cX12_thins 75 = .ok (.iconst 0, 1) := by decide +kernel
theorem dX12_thins_76 : decode cX12_thins 76 = .ok (.iload_n 1, 1) := by decide +kernel
theorem dX12_thins_77 : decode cX12_thins 77 = .ok (.iastore, 1) := by decide +kernel
theorem dX12_thins_78 : decode cX12_thins 78 = .ok (.aload_n 0, 1) := by decide +kernel
theorem dX12_thins_79 : decode cX12_thins 79 = .ok (.getfield 258, 3) := by decide +kernel
theorem dX12_thins_82 : decode cX12_thins 82 = .ok (.iconst 0, 1) := by decide +kernel
theorem dX12_thins_83 : decode cX12_thins 83 = .ok (.iload_n 1, 1) := by decide +kernel
theorem dX12_thins_84 : decode cX12_thins 84 = .ok (.iload_n 2, 1) := by decide +kernel
theorem dX12_thins_85 : decode cX12_thins 85 = .ok (.iadd, 1) := by decide +kernel
theorem dX12_thins_86 : decode cX12_thins 86 = .ok (.iconst 1, 1) := by decide +kernel
theorem dX12_thins_87 : decode cX12_thins 87 = .ok (.isub, 1) := by decide +kernel
theorem dX12_thins_88 : decode cX12_thins 88 = .ok (.iastore, 1) := by decide +kernel
theorem dX12_thins_89 : decode cX12_thins 89 = .ok (.iconst 1, 1) := by decide +kernel
theorem dX12_thins_90 : decode cX12_thins 90 = .ok (.istore 6, 2) := by decide +kernel
theorem dX12_thins_92 : decode cX12_thins 92 = .ok (.iload 6, 2) := by decide +kernel
theorem dX12_thins_94 : decode cX12_thins 94 = .ok (.ifCond .le 103, 3) := by decide +kernel
theorem dX12_thins_97 : decode cX12_thins 97 = .ok (.iinc 6 (-1), 3) := by decide +kernel
theorem dX12_thins_100 : decode cX12_thins 100 = .ok (.aload_n 0, 1) := by decide +kernel
theorem dX12_thins_101 : decode cX12_thins 101 = .ok (.getfield 255, 3) := by decide +kernel
theorem dX12_thins_104 : decode cX12_thins 104 = .ok (.iload 6, 2) := by decide +kernel
theorem dX12_thins_106 : decode cX12_thins 106 = .ok (.iaload, 1) := by decide +kernel
theorem dX12_thins_107 : decode cX12_thins 107 = .ok (.istore 7, 2) := by decide +kernel
theorem dX12_thins_109 : decode cX12_thins 109 = .ok (.aload_n 0, 1) := by decide +kernel
theorem dX12_thins_110 : decode cX12_thins 110 = .ok (.getfield 258, 3) := by decide +kernel
theorem dX12_thins_113 : decode cX12_thins 113 = .ok (.iload 6, 2) := by decide +kernel
theorem dX12_thins_115 : decode cX12_thins 115 = .ok (.iaload, 1) := by decide +kernel
theorem dX12_thins_116 : decode cX12_thins 116 = .ok (.istore 8, 2) := by decide +kernel
theorem dX12_thins_118 : decode cX12_thins 118 = .ok (.aload_n 0, 1) := by decide +kernel
theorem dX12_thins_119 : decode cX12_thins 119 = .ok (.iload 7, 2) := by decide +kernel
theorem dX12_thins_121 : decode cX12_thins 121 = .ok (.iload 8, 2) := by decide +kernel
theorem dX12_thins_123 : decode cX12_thins 123 = .ok (.lload_n 3, 1) := by decide +kernel
theorem dX12_thins_124 : decode cX12_thins 124 = .ok (.invokevirtual 1105, 3) := by decide +kernel
theorem dX12_thins_127 : decode cX12_thins 127 = .ok (.istore 9, 2) := by decide +kernel
theorem dX12_thins_129 : decode cX12_thins 129 = .ok (.iload 9, 2) := by decide +kernel
theorem dX12_thins_131 : decode cX12_thins 131 = .ok (.iconst (-1), 1) := by decide +kernel
theorem dX12_thins_132 : decode cX12_thins 132 = .ok (.if_icmp .ne 6, 3) := by decide +kernel
theorem dX12_thins_135 : decode cX12_thins 135 = .ok (.goto (-43), 3) := by decide +kernel
theorem dX12_thins_138 : decode cX12_thins 138 = .ok (.aload_n 0, 1) := by decide +kernel
theorem dX12_thins_139 : decode cX12_thins 139 = .ok (.getfield 252, 3) := by decide +kernel
theorem dX12_thins_142 : decode cX12_thins 142 = .ok (.iload 5, 2) := by decide +kernel
theorem dX12_thins_144 : decode cX12_thins 144 = .ok (.iload 9, 2) := by decide +kernel
theorem dX12_thins_146 : decode cX12_thins 146 = .ok (.iadd, 1) := by decide +kernel
theorem dX12_thins_147 : decode cX12_thins 147 = .ok (.iload_n 1, 1) := by decide +kernel
theorem dX12_thins_148 : decode cX12_thins 148 = .ok (.isub, 1) := by decide +kernel
theorem dX12_thins_149 : decode cX12_thins 149 = .ok (.iconst 1, 1) := by decide +kernel
theorem dX12_thins_150 : decode cX12_thins 150 = .ok (.bastore, 1) := by decide +kernel
theorem dX12_thins_151 : decode cX12_thins 151 = .ok (.aload_n 0, 1) := by decide +kernel
theorem dX12_thins_152 : decode cX12_thins 152 = .ok (.getfield 255, 3) := by decide +kernel
theorem dX12_thins_155 : decode cX12_thins 155 = .ok (.iload 6, 2) := by decide +kernel
theorem dX12_thins_157 : decode cX12_thins 157 = .ok (.iload 7, 2) := by decide +kernel
theorem dX12_thins_159 : decode cX12_thins 159 = .ok (.iastore, 1) := by decide +kernel
theorem dX12_thins_160 : decode cX12_thins 160 = .ok (.aload_n 0, 1) := by decide +kernel
theorem dX12_thins_161 : decode cX12_thins 161 = .ok (.getfield 258, 3) := by decide +kernel
theorem dX12_thins_164 : decode cX12_thins 164 = .ok (.iload 6, 2) := by decide +kernel
theorem dX12_thins_166 : decode cX12_thins 166 = .ok (.iload 9, 2) := by decide +kernel
theorem dX12_thins_168 : decode cX12_thins 168 = .ok (.iastore, 1) := by decide +kernel
theorem dX12_thins_169 : decode cX12_thins 169 = .ok (.aload_n 0, 1) := by decide +kernel
theorem dX12_thins_170 : decode cX12_thins 170 = .ok (.getfield 255, 3) := by decide +kernel
theorem dX12_thins_173 : decode cX12_thins 173 = .ok (.iload 6, 2) := by decide +kernel
theorem dX12_thins_175 : decode cX12_thins 175 = .ok (.iconst 1, 1) := by decide +kernel
theorem dX12_thins_176 : decode cX12_thins 176 = .ok (.iadd, 1) := by decide +kernel
theorem dX12_thins_177 : decode cX12_thins 177 = .ok (.iload 9, 2) := by decide +kernel
theorem dX12_thins_179 : decode cX12_thins 179 = .ok (.iastore, 1) := by decide +kernel
theorem dX12_thins_180 : decode cX12_thins 180 = .ok (.aload_n 0, 1) := by decide +kernel
theorem dX12_thins_181 : decode cX12_thins 181 = .ok (.getfield 258, 3) := by decide +kernel
theorem dX12_thins_184 : decode cX12_thins 184 = .ok (.iload 6, 2) := by decide +kernel
theorem dX12_thins_186 : decode cX12_thins 186 = .ok (.iconst 1, 1) := by decide +kernel
theorem dX12_thins_187 : decode cX12_thins 187 = .ok (.iadd, 1) := by decide +kernel
theorem dX12_thins_188 : decode cX12_thins 188 = .ok (.iload 8, 2) := by decide +kernel
theorem dX12_thins_190 : decode cX12_thins 190 = .ok (.iastore, 1) := by decide +kernel
theorem dX12_thins_191 : decode cX12_thins 191 = .ok (.iinc 6 2, 3) := by decide +kernel
theorem dX12_thins_194 : decode cX12_thins 194 = .ok (.goto (-102), 3) := by decide +kernel
theorem dX12_thins_197 : decode cX12_thins 197 = .ok (.return_, 1) := by decide +kernel
abbrev M_X12_thins : MRec := (yX12_thins, cX12_thins, 10, none, [])
theorem m_X12_thins : en_M M_X12_thins 3 := ⟨t_3696, t_14, ⟨by decide +kernel, by decide +kernel⟩, by decide +kernel, by decide +kernel, by decide +kernel⟩
theorem dX12_keeps_0 : decode cX12_keeps 0 = .ok (.aload_n 0, 1) := by decide +kernel
theorem dX12_keeps_1 : decode cX12_keeps 1 = .ok (.iload_n 1, 1) := by decide +kernel
theorem dX12_keeps_2 : decode cX12_keeps 2 = .ok (.iload_n 2, 1) := by decide +kernel
theorem dX12_keeps_3 : decode cX12_keeps 3 = .ok (.lload_n 3, 1) := by decide +kernel
theorem dX12_keeps_4 : decode cX12_keeps 4 = .ok (.invokevirtual 1109, 3) := by decide +kernel
theorem dX12_keeps_7 : decode cX12_keeps 7 = .ok (.iload_n 1, 1) := by decide +kernel
theorem dX12_keeps_8 : decode cX12_keeps 8 = .ok (.iload_n 1, 1) := by decide +kernel
theorem dX12_keeps_9 : decode cX12_keeps 9 = .ok (.sipush 2048, 3) := by decide +kernel
theorem dX12_keeps_12 : decode cX12_keeps 12 = .ok (.idiv, 1) := by decide +kernel
theorem dX12_keeps_13 : decode cX12_keeps 13 = .ok (.sipush 2048, 3) := by decide +kernel
theorem dX12_keeps_16 : decode cX12_keeps 16 = .ok (.imul, 1) := by decide +kernel
theorem dX12_keeps_17 : decode cX12_keeps 17 = .ok (.isub, 1) := by decide +kernel
theorem dX12_keeps_18 : decode cX12_keeps 18 = .ok (.istore 5, 2) := by decide +kernel
theorem dX12_keeps_20 : decode cX12_keeps 20 = .ok (.iconst 0, 1) := by decide +kernel
theorem dX12_keeps_21 : decode cX12_keeps 21 = .ok (.istore 6, 2) := by decide +kernel
theorem dX12_keeps_23 : decode cX12_keeps 23 = .ok (.iconst 0, 1) := by decide +kernel
theorem dX12_keeps_24 : decode cX12_keeps 24 = .ok (.istore 7, 2) := by decide +kernel
theorem dX12_keeps_26 : decode cX12_keeps 26 = .ok (.iload 7, 2) := by decide +kernel
theorem dX12_keeps_28 : decode cX12_keeps 28 = .ok (.iload_n 2, 1) := by decide +kernel
theorem dX12_keeps_29 : decode cX12_keeps 29 = .ok (.if_icmp .ge 52, 3) := by decide +kernel
theorem dX12_keeps_32 : decode cX12_keeps 32 = .ok (.aload_n 0, 1) := by decide +kernel
theorem dX12_keeps_33 : decode cX12_keeps 33 = .ok (.getfield 252, 3) := by decide +kernel
theorem dX12_keeps_36 : decode cX12_keeps 36 = .ok (.iload 5, 2) := by decide +kernel
theorem dX12_keeps_38 : decode cX12_keeps 38 = .ok (.iload 7, 2) := by decide +kernel
theorem dX12_keeps_40 : decode cX12_keeps 40 = .ok (.iadd, 1) := by decide +kernel
theorem dX12_keeps_41 : decode cX12_keeps 41 = .ok (.baload, 1) := by decide +kernel
theorem dX12_keeps_42 : decode cX12_keeps 42 = .ok (.ifCond .ne 6, 3) := by decide +kernel
theorem dX12_keeps_45 : decode cX12_keeps 45 = .ok (.goto 30, 3) := by decide +kernel
theorem dX12_keeps_48 : decode cX12_keeps 48 = .ok (.aload_n 0, 1) := by decide +kernel
theorem dX12_keeps_49 : decode cX12_keeps 49 = .ok (.aload_n 0, 1) := by decide +kernel
theorem dX12_keeps_50 : decode cX12_keeps 50 = .ok (.getfield 29, 3) := by decide +kernel
theorem dX12_keeps_53 : decode cX12_keeps 53 = .ok (.iload_n 1, 1) := by decide +kernel
theorem dX12_keeps_54 : decode cX12_keeps 54 = .ok (.iload 7, 2) := by decide +kernel
theorem dX12_keeps_56 : decode cX12_keeps 56 = .ok (.iadd, 1) := by decide +kernel
theorem dX12_keeps_57 : decode cX12_keeps 57 = .ok (.iaload, 1) := by decide +kernel
theorem dX12_keeps_58 : decode cX12_keeps 58 = .ok (.i2l, 1) := by decide +kernel
theorem dX12_keeps_59 : decode cX12_keeps 59 = .ok (.aload_n 0, 1) := by decide +kernel
theorem dX12_keeps_60 : decode cX12_keeps 60 = .ok (.getfield 32, 3) := by decide +kernel
theorem dX12_keeps_63 : decode cX12_keeps 63 = .ok (.iload_n 1, 1) := by decide +kernel
theorem dX12_keeps_64 : decode cX12_keeps 64 = .ok (.iload 7, 2) := by decide +kernel
theorem dX12_keeps_66 : decode cX12_keeps 66 = .ok (.iadd, 1) := by decide +kernel
theorem dX12_keeps_67 : decode cX12_keeps 67 = .ok (.iaload, 1) := by decide +kernel
theorem dX12_keeps_68 : decode cX12_keeps 68 = .ok (.i2l, 1) := by decide +kernel
theorem dX12_keeps_69 : decode cX12_keeps 69 = .ok (.invokevirtual 412, 3) := by decide +kernel
theorem dX12_keeps_72 : decode cX12_keeps 72 = .ok (.iinc 6 1, 3) := by decide +kernel
theorem dX12_keeps_75 : decode cX12_keeps 75 = .ok (.iinc 7 1, 3) := by decide +kernel
theorem dX12_keeps_78 : decode cX12_keeps 78 = .ok (.goto (-52), 3) := by decide +kernel
theorem dX12_keeps_81 : decode cX12_keeps 81 = .ok (.iload 6, 2) := by decide +kernel
theorem dX12_keeps_83 : decode cX12_keeps 83 = .ok (.ireturn, 1) := by decide +kernel
abbrev M_X12_keeps : MRec := (yX12_keeps, cX12_keeps, 8, (some Jvm.ClassFile.FieldType.int), [])
theorem m_X12_keeps : en_M M_X12_keeps 3 := ⟨t_3692, t_14, ⟨by decide +kernel, by decide +kernel⟩, by decide +kernel, by decide +kernel, by decide +kernel⟩
theorem dX12_simplify_0 : decode cX12_simplify 0 = .ok (.aload_n 0, 1) := by decide +kernel
theorem dX12_simplify_1 : decode cX12_simplify 1 = .ok (.iconst 0, 1) := by decide +kernel
theorem dX12_simplify_2 : decode cX12_simplify 2 = .ok (.putfield 271, 3) := by decide +kernel
theorem dX12_simplify_5 : decode cX12_simplify 5 = .ok (.aload_n 0, 1) := by decide +kernel
theorem dX12_simplify_6 : decode cX12_simplify 6 = .ok (.iload_n 1, 1) := by decide +kernel
theorem dX12_simplify_7 : decode cX12_simplify 7 = .ok (.invokestatic 440, 3) := by decide +kernel
theorem dX12_simplify_10 : decode cX12_simplify 10 = .ok (.ifCond .eq 10, 3) := by decide +kernel
theorem dX12_simplify_13 : decode cX12_simplify 13 = .ok (.iload_n 2, 1) := by decide +kernel
theorem dX12_simplify_14 : decode cX12_simplify 14 = .ok (.invokestatic 440, 3) := by decide +kernel
theorem dX12_simplify_17 : decode cX12_simplify 17 = .ok (.ifCond .ne 7, 3) := by decide +kernel
theorem dX12_simplify_20 : decode cX12_simplify 20 = .ok (.iconst 1, 1) := by decide +kernel
theorem dX12_simplify_21 : decode cX12_simplify 21 = .ok (.goto 4, 3) := by decide +kernel
theorem dX12_simplify_24 : decode cX12_simplify 24 = .ok (.iconst 0, 1) := by decide +kernel
theorem dX12_simplify_25 : decode cX12_simplify 25 = .ok (.iconst 1, 1) := by decide +kernel
theorem dX12_simplify_26 : decode cX12_simplify 26 = .ok (.invokevirtual 277, 3) := by decide +kernel
theorem dX12_simplify_29 : decode cX12_simplify 29 = .ok (.ifCond .ne 49, 3) := by decide +kernel
theorem dX12_simplify_32 : decode cX12_simplify 32 = .ok (.aload_n 0, 1) := by decide +kernel
theorem dX12_simplify_33 : decode cX12_simplify 33 = .ok (.aload_n 0, 1) := by decide +kernel
theorem dX12_simplify_34 : decode cX12_simplify 34 = .ok (.iload_n 1, 1) := by decide +kernel
theorem dX12_simplify_35 : decode cX12_simplify 35 = .ok (.invokevirtual 545, 3) := by decide +kernel
theorem dX12_simplify_38 : decode cX12_simplify 38 = .ok (.ifCond .ne 7, 3) := by decide +kernel
theorem dX12_simplify_41 : decode cX12_simplify 41 = .ok (.iconst 1, 1) := by decide +kernel
theorem dX12_simplify_42 : decode cX12_simplify 42 = .ok (.goto 4, 3) := by decide +kernel
theorem dX12_simplify_45 : decode cX12_simplify 45 = .ok (.iconst 0, 1) := by decide +kernel
theorem dX12_simplify_46 : decode cX12_simplify 46 = .ok (.iconst 2, 1) := by decide +kernel
theorem dX12_simplify_47 : decode cX12_simplify 47 = .ok (.invokevirtual 277, 3) := by decide +kernel
theorem dX12_simplify_50 : decode cX12_simplify 50 = .ok (.ifCond .ne 28, 3) := by decide +kernel
theorem dX12_simplify_53 : decode cX12_simplify 53 = .ok (.aload_n 0, 1) := by decide +kernel
theorem dX12_simplify_54 : decode cX12_simplify 54 = .ok (.iload_n 3, 1) := by decide +kernel
theorem dX12_simplify_55 : decode cX12_simplify 55 = .ok (.i2l, 1) := by decide +kernel
theorem dX12_simplify_56 : decode cX12_simplify 56 = .ok (.lconst 0, 1) := by decide +kernel
theorem dX12_simplify_57 : decode cX12_simplify 57 = .ok (.ldc2_w 436, 3) := by decide +kernel
theorem dX12_simplify_60 : decode cX12_simplify 60 = .ok (.invokestatic 287, 3) := by decide +kernel
theorem dX12_simplify_63 : decode cX12_simplify 63 = .ok (.ifCond .ne 7, 3) := by decide +kernel
theorem dX12_simplify_66 : decode cX12_simplify 66 = .ok (.iconst 1, 1) := by decide +kernel
theorem dX12_simplify_67 : decode cX12_simplify 67 = .ok (.goto 4, 3) := by decide +kernel
theorem dX12_simplify_70 : decode cX12_simplify 70 = .ok (.iconst 0, 1) := by decide +kernel
theorem dX12_simplify_71 : decode cX12_simplify 71 = .ok (.iconst 3, 1) := by decide +kernel
theorem dX12_simplify_72 : decode cX12_simplify 72 = .ok (.invokevirtual 277, 3) := by decide +kernel
theorem dX12_simplify_75 : decode cX12_simplify 75 = .ok (.ifCond .eq 5, 3) := by decide +kernel
theorem dX12_simplify_78 : decode cX12_simplify 78 = .ok (.iconst 0, 1) := by decide +kernel
theorem dX12_simplify_79 : decode cX12_simplify 79 = .ok (.ireturn, 1) := by decide +kernel
theorem dX12_simplify_80 : decode cX12_simplify 80 = .ok (.aload_n 0, 1) := by decide +kernel
theorem dX12_simplify_81 : decode cX12_simplify 81 = .ok (.bipush 32, 2) := by decide +kernel
theorem dX12_simplify_83 : decode cX12_simplify 83 = .ok (.invokevirtual 358, 3) := by decide +kernel
theorem dX12_simplify_86 : decode cX12_simplify 86 = .ok (.aload_n 0, 1) := by decide +kernel
theorem dX12_simplify_87 : decode cX12_simplify 87 = .ok (.getfield 26, 3) := by decide +kernel
theorem dX12_simplify_90 : decode cX12_simplify 90 = .ok (.iload_n 1, 1) := by decide +kernel
theorem dX12_simplify_91 : decode cX12_simplify 91 = .ok (.iaload, 1) := by decide +kernel
theorem dX12_simplify_92 : decode cX12_simplify 92 = .ok (.istore 4, 2) := by decide +kernel
theorem dX12_simplify_94 : decode cX12_simplify 94 = .ok (.sipush 2048, 3) := by decide +kernel
theorem dX12_simplify_97 : decode cX12_simplify 97 = .ok (.iload_n 1, 1) := by decide +kernel
theorem dX12_simplify_98 : decode cX12_simplify 98 = .ok (.imul, 1) := by decide +kernel
theorem dX12_simplify_99 : decode cX12_simplify 99 = .ok (.istore 5, 2) := by decide +kernel
theorem dX12_simplify_101 : decode cX12_simplify 101 = .ok (.iload 5, 2) := by decide +kernel
theorem dX12_simplify_103 : decode cX12_simplify 103 = .ok (.aload_n 0, 1) := by decide +kernel
theorem dX12_simplify_104 : decode cX12_simplify 104 = .ok (.getfield 18, 3) := by decide +kernel
theorem dX12_simplify_107 : decode cX12_simplify 107 = .ok (.iload_n 1, 1) := by decide +kernel
theorem dX12_simplify_108 : decode cX12_simplify 108 = .ok (.iaload, 1) := by decide +kernel
theorem dX12_simplify_109 : decode cX12_simplify 109 = .ok (.iadd, 1) := by decide +kernel
theorem dX12_simplify_110 : decode cX12_simplify 110 = .ok (.istore 6, 2) := by decide +kernel
theorem dX12_simplify_112 : decode cX12_simplify 112 = .ok (.sipush 2048, 3) := by decide +kernel
theorem dX12_simplify_115 : decode cX12_simplify 115 = .ok (.iload_n 1, 1) := by decide +kernel
theorem dX12_simplify_116 : decode cX12_simplify 116 = .ok (.imul, 1) := by decide +kernel
theorem dX12_simplify_117 : decode cX12_simplify 117 = .ok (.istore 7, 2) := by decide +kernel
theorem dX12_simplify_119 : decode cX12_simplify 119 = .ok (.iload 5, 2) := by decide +kernel
theorem dX12_simplify_121 : decode cX12_simplify 121 = .ok (.iload 6, 2) := by decide +kernel
theorem dX12_simplify_123 : decode cX12_simplify 123 = .ok (.if_icmp .ge 176, 3) := by decide +kernel
theorem dX12_simplify_126 : decode cX12_simplify 126 = .ok (.aload_n 0, 1) := by decide +kernel
theorem dX12_simplify_127 : decode cX12_simplify 127 = .ok (.getfield 23, 3) := by decide +kernel
theorem dX12_simplify_130 : decode cX12_simplify 130 = .ok (.iload 5, 2) := by decide +kernel
theorem dX12_simplify_132 : decode cX12_simplify 132 = .ok (.iaload, 1) := by decide +kernel
theorem dX12_simplify_133 : decode cX12_simplify 133 = .ok (.istore 8, 2) := by decide +kernel
theorem dX12_simplify_135 : decode cX12_simplify 135 = .ok (.aload_n 0, 1) := by decide +kernel
theorem dX12_simplify_136 : decode cX12_simplify 136 = .ok (.getfield 23, 3) := by decide +kernel
theorem dX12_simplify_139 : decode cX12_simplify 139 = .ok (.iload 5, 2) := by decide +kernel
theorem dX12_simplify_141 : decode cX12_simplify 141 = .ok (.iconst 1, 1) := by decide +kernel
theorem dX12_simplify_142 : decode cX12_simplify 142 = .ok (.iadd, 1) := by decide +kernel
theorem dX12_simplify_143 : decode cX12_simplify 143 = .ok (.iaload, 1) := by decide +kernel
theorem dX12_simplify_144 : decode cX12_simplify 144 = .ok (.istore 9, 2) := by decide +kernel
theorem dX12_simplify_146 : decode cX12_simplify 146 = .ok (.iinc 5 2, 3) := by decide +kernel
theorem dX12_simplify_149 : decode cX12_simplify 149 = .ok (.aload_n 0, 1) := by decide +kernel
theorem dX12_simplify_150 : decode cX12_simplify 150 = .ok (.iload 8, 2) := by decide +kernel
theorem dX12_simplify_152 : decode cX12_simplify 152 = .ok (.invokevirtual 352, 3) := by decide +kernel
theorem dX12_simplify_155 : decode cX12_simplify 155 = .ok (.iload 8, 2) := by decide +kernel
theorem dX12_simplify_157 : decode cX12_simplify 157 = .ok (.iconst 2, 1) := by decide +kernel
theorem dX12_simplify_158 : decode cX12_simplify 158 = .ok (.if_icmp .ne 27, 3) := by decide +kernel
theorem dX12_simplify_161 : decode cX12_simplify 161 = .ok (.aload_n 0, 1) := by decide +kernel
theorem dX12_simplify_162 : decode cX12_simplify 162 = .ok (.aload_n 0, 1) := by decide +kernel
theorem dX12_simplify_163 : decode cX12_simplify 163 = .ok (.iload 7, 2) := by decide +kernel
theorem dX12_simplify_165 : decode cX12_simplify 165 = .ok (.iload 9, 2) := by decide +kernel
theorem dX12_simplify_167 : decode cX12_simplify 167 = .ok (.iload_n 3, 1) := by decide +kernel
theorem dX12_simplify_168 : decode cX12_simplify 168 = .ok (.i2l, 1) := by decide +kernel
theorem dX12_simplify_169 : decode cX12_simplify 169 = .ok (.invokevirtual 1113, 3) := by decide +kernel
theorem dX12_simplify_172 : decode cX12_simplify 172 = .ok (.invokevirtual 352, 3) := by decide +kernel
theorem dX12_simplify_175 : decode cX12_simplify 175 = .ok (.iload 7, 2) := by decide +kernel
theorem dX12_simplify_177 : decode cX12_simplify 177 = .ok (.iload 9, 2) := by decide +kernel
theorem dX12_simplify_179 : decode cX12_simplify 179 = .ok (.iadd, 1) := by decide +kernel
theorem dX12_simplify_180 : decode cX12_simplify 180 = .ok (.istore 7, 2) := by decide +kernel
theorem dX12_simplify_182 : decode cX12_simplify 182 = .ok (.goto (-63), 3) := by decide +kernel
theorem dX12_simplify_185 : decode cX12_simplify 185 = .ok (.aload_n 0, 1) := by decide +kernel
theorem dX12_simplify_186 : decode cX12_simplify 186 = .ok (.iload 9, 2) := by decide +kernel
theorem dX12_simplify_188 : decode cX12_simplify 188 = .ok (.invokevirtual 352, 3) := by decide +kernel
theorem dX12_simplify_191 : decode cX12_simplify 191 = .ok (.iload 8, 2) := by decide +kernel
theorem dX12_simplify_193 : decode cX12_simplify 193 = .ok (.iconst 1, 1) := by decide +kernel
theorem dX12_simplify_194 : decode cX12_simplify 194 = .ok (.if_icmp .ne 29, 3) := by decide +kernel
theorem dX12_simplify_197 : decode cX12_simplify 197 = .ok (.iload 9, 2) := by decide +kernel
theorem dX12_simplify_199 : decode cX12_simplify 199 = .ok (.iconst 1, 1) := by decide +kernel
theorem dX12_simplify_200 : decode cX12_simplify 200 = .ok (.if_icmp .ne 23, 3) := by decide +kernel
theorem dX12_simplify_203 : decode cX12_simplify 203 = .ok (.aload_n 0, 1) := by decide +kernel
theorem dX12_simplify_204 : decode cX12_simplify 204 = .ok (.aload_n 0, 1) := by decide +kernel
theorem dX12_simplify_205 : decode cX12_simplify 205 = .ok (.getfield 29, 3) := by decide +kernel
theorem dX12_simplify_208 : decode cX12_simplify 208 = .ok (.iload 7, 2) := by decide +kernel
theorem dX12_simplify_210 : decode cX12_simplify 210 = .ok (.iaload, 1) := by decide +kernel
theorem dX12_simplify_211 : decode cX12_simplify 211 = .ok (.i2l, 1) := by decide +kernel
theorem dX12_simplify_212 : decode cX12_simplify 212 = .ok (.aload_n 0, 1) := by decide +kernel
theorem dX12_simplify_213 : decode cX12_simplify 213 = .ok (.getfield 32, 3) := by decide +kernel
theorem dX12_simplify_216 : decode cX12_simplify 216 = .ok (.iload 7, 2) := by decide +kernel
theorem dX12_simplify_218 : decode cX12_simplify 218 = .ok (.iaload, 1) := by decide +kernel
theorem dX12_simplify_219 : decode cX12_simplify 219 = .ok (.i2l, 1) := by decide +kernel
theorem dX12_simplify_220 : decode cX12_simplify 220 = .ok (.invokevirtual 412, 3) := by decide +kernel
theorem dX12_simplify_223 : decode cX12_simplify 223 = .ok (.iload 7, 2) := by decide +kernel
theorem dX12_simplify_225 : decode cX12_simplify 225 = .ok (.iload 8, 2) := by decide +kernel
theorem dX12_simplify_227 : decode cX12_simplify 227 = .ok (.iconst 1, 1) := by decide +kernel
theorem dX12_simplify_228 : decode cX12_simplify 228 = .ok (.if_icmp .ne 8, 3) := by decide +kernel
theorem dX12_simplify_231 : decode cX12_simplify 231 = .ok (.iload 9, 2) := by decide +kernel
theorem dX12_simplify_233 : decode cX12_simplify 233 = .ok (.goto 4, 3) := by decide +kernel
theorem dX12_simplify_236 : decode cX12_simplify 236 = .ok (.iconst 0, 1) := by decide +kernel
theorem dX12_simplify_237 : decode cX12_simplify 237 = .ok (.iadd, 1) := by decide +kernel
theorem dX12_simplify_238 : decode cX12_simplify 238 = .ok (.istore 7, 2) := by decide +kernel
theorem dX12_simplify_240 : decode cX12_simplify 240 = .ok (.iconst 0, 1) := by decide +kernel
theorem dX12_simplify_241 : decode cX12_simplify 241 = .ok (.istore 10, 2) := by decide +kernel
theorem dX12_simplify_243 : decode cX12_simplify 243 = .ok (.iload 8, 2) := by decide +kernel
theorem dX12_simplify_245 : decode cX12_simplify 245 = .ok (.iconst 3, 1) := by decide +kernel
theorem dX12_simplify_246 : decode cX12_simplify 246 = .ok (.if_icmp .ne 50, 3) := by decide +kernel
theorem dX12_simplify_249 : decode cX12_simplify 249 = .ok (.iload 10, 2) := by decide +kernel
theorem dX12_simplify_251 : decode cX12_simplify 251 = .ok (.iload 9, 2) := by decide +kernel
theorem dX12_simplify_253 : decode cX12_simplify 253 = .ok (.if_icmp .ge 43, 3) := by decide +kernel
theorem dX12_simplify_256 : decode cX12_simplify 256 = .ok (.aload_n 0, 1) := by decide +kernel
theorem dX12_simplify_257 : decode cX12_simplify 257 = .ok (.aload_n 0, 1) := by decide +kernel
theorem dX12_simplify_258 : decode cX12_simplify 258 = .ok (.iload 7, 2) := by decide +kernel
theorem dX12_simplify_260 : decode cX12_simplify 260 = .ok (.aload_n 0, 1) := by decide +kernel
theorem dX12_simplify_261 : decode cX12_simplify 261 = .ok (.getfield 23, 3) := by decide +kernel
theorem dX12_simplify_264 : decode cX12_simplify 264 = .ok (.iload 5, 2) := by decide +kernel
theorem dX12_simplify_266 : decode cX12_simplify 266 = .ok (.iaload, 1) := by decide +kernel
theorem dX12_simplify_267 : decode cX12_simplify 267 = .ok (.iload_n 3, 1) := by decide +kernel
theorem dX12_simplify_268 : decode cX12_simplify 268 = .ok (.i2l, 1) := by decide +kernel
theorem dX12_simplify_269 : decode cX12_simplify 269 = .ok (.invokevirtual 1113, 3) := by decide +kernel
theorem dX12_simplify_272 : decode cX12_simplify 272 = .ok (.invokevirtual 352, 3) := by decide +kernel
theorem dX12_simplify_275 : decode cX12_simplify 275 = .ok (.iload 7, 2) := by decide +kernel
theorem dX12_simplify_277 : decode cX12_simplify 277 = .ok (.aload_n 0, 1) := by decide +kernel
theorem dX12_simplify_278 : decode cX12_simplify 278 = .ok (.getfield 23, 3) := by decide +kernel
theorem dX12_simplify_281 : decode cX12_simplify 281 = .ok (.iload 5, 2) := by decide +kernel
theorem dX12_simplify_283 : decode cX12_simplify 283 = .ok (.iaload, 1) := by decide +kernel
theorem dX12_simplify_284 : decode cX12_simplify 284 = .ok (.iadd, 1) := by decide +kernel
theorem dX12_simplify_285 : decode cX12_simplify 285 = .ok (.istore 7, 2) := by decide +kernel
theorem dX12_simplify_287 : decode cX12_simplify 287 = .ok (.iinc 5 1, 3) := by decide +kernel
theorem dX12_simplify_290 : decode cX12_simplify 290 = .ok (.iinc 10 1, 3) := by decide +kernel
theorem dX12_simplify_293 : decode cX12_simplify 293 = .ok (.goto (-50), 3) := by decide +kernel
theorem dX12_simplify_296 : decode cX12_simplify 296 = .ok (.goto (-177), 3) := by decide +kernel
theorem dX12_simplify_299 : decode cX12_simplify 299 = .ok (.aload_n 0, 1) := by decide +kernel
theorem dX12_simplify_300 : decode cX12_simplify 300 = .ok (.bipush 32, 2) := by decide +kernel
theorem dX12_simplify_302 : decode cX12_simplify 302 = .ok (.iload_n 2, 1) := by decide +kernel
theorem dX12_simplify_303 : decode cX12_simplify 303 = .ok (.invokevirtual 449, 3) := by decide +kernel
theorem dX12_simplify_306 : decode cX12_simplify 306 = .ok (.iload 4, 2) := by decide +kernel
theorem dX12_simplify_308 : decode cX12_simplify 308 = .ok (.aload_n 0, 1) := by decide +kernel
theorem dX12_simplify_309 : decode cX12_simplify 309 = .ok (.getfield 26, 3) := by decide +kernel
theorem dX12_simplify_312 : decode cX12_simplify 312 = .ok (.iload_n 2, 1) := by decide +kernel
theorem dX12_simplify_313 : decode cX12_simplify 313 = .ok (.iaload, 1) := by decide +kernel
theorem dX12_simplify_314 : decode cX12_simplify 314 = .ok (.isub, 1) := by decide +kernel
theorem dX12_simplify_315 : decode cX12_simplify 315 = .ok (.ireturn, 1) := by decide +kernel
abbrev M_X12_simplify : MRec := (yX12_simplify, cX12_simplify, 11, (some Jvm.ClassFile.FieldType.int), [])
theorem m_X12_simplify : en_M M_X12_simplify 3 := ⟨t_3688, t_14, ⟨by decide +kernel, by decide +kernel⟩, by decide +kernel, by decide +kernel, by decide +kernel⟩
theorem dX12_body_0 : decode cX12_body 0 = .ok (.iload_n 1, 1) := by decide +kernel
theorem dX12_body_1 : decode cX12_body 1 = .ok (.tableswitch 64 1 3 #[27, 52, 58], 27) := by decide +kernel
theorem dX12_body_28 : decode cX12_body 28 = .ok (.aload_n 0, 1) := by decide +kernel
theorem dX12_body_29 : decode cX12_body 29 = .ok (.iload_n 2, 1) := by decide +kernel
theorem dX12_body_30 : decode cX12_body 30 = .ok (.invokevirtual 376, 3) := by decide +kernel
theorem dX12_body_33 : decode cX12_body 33 = .ok (.aload_n 0, 1) := by decide +kernel
theorem dX12_body_34 : decode cX12_body 34 = .ok (.invokevirtual 385, 3) := by decide +kernel
theorem dX12_body_37 : decode cX12_body 37 = .ok (.ifCond .eq 14, 3) := by decide +kernel
theorem dX12_body_40 : decode cX12_body 40 = .ok (.aload_n 0, 1) := by decide +kernel
theorem dX12_body_41 : decode cX12_body 41 = .ok (.invokevirtual 388, 3) := by decide +kernel
theorem dX12_body_44 : decode cX12_body 44 = .ok (.ifCond .eq 7, 3) := by decide +kernel
theorem dX12_body_47 : decode cX12_body 47 = .ok (.iconst 1, 1) := by decide +kernel
theorem dX12_body_48 : decode cX12_body 48 = .ok (.goto 4, 3) := by decide +kernel
theorem dX12_body_51 : decode cX12_body 51 = .ok (.iconst 0, 1) := by decide +kernel
theorem dX12_body_52 : decode cX12_body 52 = .ok (.ireturn, 1) := by decide +kernel
theorem dX12_body_53 : decode cX12_body 53 = .ok (.aload_n 0, 1) := by decide +kernel
theorem dX12_body_54 : decode cX12_body 54 = .ok (.iload_n 2, 1) := by decide +kernel
theorem dX12_body_55 : decode cX12_body 55 = .ok (.invokevirtual 391, 3) := by decide +kernel
theorem dX12_body_58 : decode cX12_body 58 = .ok (.ireturn, 1) := by decide +kernel
theorem dX12_body_59 : decode cX12_body 59 = .ok (.aload_n 0, 1) := by decide +kernel
theorem dX12_body_60 : decode cX12_body 60 = .ok (.iload_n 2, 1) := by decide +kernel
theorem dX12_body_61 : decode cX12_body 61 = .ok (.invokevirtual 394, 3) := by decide +kernel
theorem dX12_body_64 : decode cX12_body 64 = .ok (.ireturn, 1) := by decide +kernel
theorem dX12_body_65 : decode cX12_body 65 = .ok (.aload_n 0, 1) := by decide +kernel
theorem dX12_body_66 : decode cX12_body 66 = .ok (.iload_n 1, 1) := by decide +kernel
theorem dX12_body_67 : decode cX12_body 67 = .ok (.iload_n 2, 1) := by decide +kernel
theorem dX12_body_68 : decode cX12_body 68 = .ok (.invokevirtual 397, 3) := by decide +kernel
theorem dX12_body_71 : decode cX12_body 71 = .ok (.ireturn, 1) := by decide +kernel
abbrev M_X12_body : MRec := (yX12_body, cX12_body, 3, (some Jvm.ClassFile.FieldType.boolean), [])
theorem m_X12_body : en_M M_X12_body 2 := ⟨t_2917, t_14, ⟨by decide +kernel, by decide +kernel⟩, by decide +kernel, by decide +kernel, by decide +kernel⟩
