theorem dX2_setTold_0 : decode cX2_setTold 0 = .ok (.iload_n 1, 1) := by decide +kernel
theorem dX2_setTold_1 : decode cX2_setTold 1 = .ok (.aload_n 0, 1) := by decide +kernel
theorem dX2_setTold_2 : decode cX2_setTold 2 = .ok (.getfield 77, 3) := by decide +kernel
theorem dX2_setTold_5 : decode cX2_setTold 5 = .ok (.imul, 1) := by decide +kernel
theorem dX2_setTold_6 : decode cX2_setTold 6 = .ok (.iload_n 2, 1) := by decide +kernel
theorem dX2_setTold_7 : decode cX2_setTold 7 = .ok (.iadd, 1) := by decide +kernel
theorem dX2_setTold_8 : decode cX2_setTold 8 = .ok (.istore_n 3, 1) := by decide +kernel
theorem dX2_setTold_9 : decode cX2_setTold 9 = .ok (.aload_n 0, 1) := by decide +kernel
theorem dX2_setTold_10 : decode cX2_setTold 10 = .ok (.getfield 33, 3) := by decide +kernel
theorem dX2_setTold_13 : decode cX2_setTold 13 = .ok (.iload_n 3, 1) := by decide +kernel
theorem dX2_setTold_14 : decode cX2_setTold 14 = .ok (.bipush 6, 2) := by decide +kernel
theorem dX2_setTold_16 : decode cX2_setTold 16 = .ok (.ishr, 1) := by decide +kernel
theorem dX2_setTold_17 : decode cX2_setTold 17 = .ok (.dup2, 1) := by decide +kernel
theorem dX2_setTold_18 : decode cX2_setTold 18 = .ok (.laload, 1) := by decide +kernel
theorem dX2_setTold_19 : decode cX2_setTold 19 = .ok (.lconst 1, 1) := by decide +kernel
theorem dX2_setTold_20 : decode cX2_setTold 20 = .ok (.iload_n 3, 1) := by decide +kernel
theorem dX2_setTold_21 : decode cX2_setTold 21 = .ok (.bipush 63, 2) := by decide +kernel
theorem dX2_setTold_23 : decode cX2_setTold 23 = .ok (.iand, 1) := by decide +kernel
theorem dX2_setTold_24 : decode cX2_setTold 24 = .ok (.lshl, 1) := by decide +kernel
theorem dX2_setTold_25 : decode cX2_setTold 25 = .ok (.lor, 1) := by decide +kernel
theorem dX2_setTold_26 : decode cX2_setTold 26 = .ok (.lastore, 1) := by decide +kernel
theorem dX2_setTold_27 : decode cX2_setTold 27 = .ok (.return_, 1) := by decide +kernel
abbrev M_X2_setTold : MRec := (yX2_setTold, cX2_setTold, 4, none, [])
theorem m_X2_setTold : en_M M_X2_setTold 2 := ⟨t_2173, t_12, ⟨by decide +kernel, by decide +kernel⟩, by decide +kernel, by decide +kernel, by decide +kernel⟩
theorem dX2_triangleKeyFrom_0 : decode cX2_triangleKeyFrom 0 = .ok (.lload_n 0, 1) := by decide +kernel
theorem dX2_triangleKeyFrom_1 : decode cX2_triangleKeyFrom 1 = .ok (.bipush 10, 2) := by decide +kernel
theorem dX2_triangleKeyFrom_3 : decode cX2_triangleKeyFrom 3 = .ok (.lshl, 1) := by decide +kernel
theorem dX2_triangleKeyFrom_4 : decode cX2_triangleKeyFrom 4 = .ok (.lload_n 2, 1) := by decide +kernel
theorem dX2_triangleKeyFrom_5 : decode cX2_triangleKeyFrom 5 = .ok (.lor, 1) := by decide +kernel
theorem dX2_triangleKeyFrom_6 : decode cX2_triangleKeyFrom 6 = .ok (.bipush 10, 2) := by decide +kernel
theorem dX2_triangleKeyFrom_8 : decode cX2_triangleKeyFrom 8 = .ok (.lshl, 1) := by decide +kernel
theorem dX2_triangleKeyFrom_9 : decode cX2_triangleKeyFrom 9 = .ok (.lload 4, 2) := by decide +kernel
theorem dX2_triangleKeyFrom_11 : decode cX2_triangleKeyFrom 11 = .ok (.lor, 1) := by decide +kernel
theorem dX2_triangleKeyFrom_12 : decode cX2_triangleKeyFrom 12 = .ok (.lreturn, 1) := by decide +kernel
abbrev M_X2_triangleKeyFrom : MRec := (yX2_triangleKeyFrom, cX2_triangleKeyFrom, 6, (some Jvm.ClassFile.FieldType.long), [])
theorem m_X2_triangleKeyFrom : en_M M_X2_triangleKeyFrom 3 := ⟨t_2179, t_12, ⟨by decide +kernel, by decide +kernel⟩, by decide +kernel, by decide +kernel, by decide +kernel⟩
theorem dX2_triangleKey_0 : decode cX2_triangleKey 0 = .ok (.lload_n 2, 1) := by decide +kernel
theorem dX2_triangleKey_1 : decode cX2_triangleKey 1 = .ok (.lload_n 0, 1) := by decide +kernel
theorem dX2_triangleKey_2 : decode cX2_triangleKey 2 = .ok (.lcmp, 1) := by decide +kernel
theorem dX2_triangleKey_3 : decode cX2_triangleKey 3 = .ok (.ifCond .ge 18, 3) := by decide +kernel
theorem dX2_triangleKey_6 : decode cX2_triangleKey 6 = .ok (.lload_n 2, 1) := by decide +kernel
theorem dX2_triangleKey_7 : decode cX2_triangleKey 7 = .ok (.lload 4, 2) := by decide +kernel
theorem dX2_triangleKey_9 : decode cX2_triangleKey 9 = .ok (.lcmp, 1) := by decide +kernel
theorem dX2_triangleKey_10 : decode cX2_triangleKey 10 = .ok (.ifCond .ge 11, 3) := by decide +kernel
theorem dX2_triangleKey_13 : decode cX2_triangleKey 13 = .ok (.lload_n 2, 1) := by decide +kernel
theorem dX2_triangleKey_14 : decode cX2_triangleKey 14 = .ok (.lload 4, 2) := by decide +kernel
theorem dX2_triangleKey_16 : decode cX2_triangleKey 16 = .ok (.lload_n 0, 1) := by decide +kernel
theorem dX2_triangleKey_17 : decode cX2_triangleKey 17 = .ok (.invokestatic 180, 3) := by decide +kernel
theorem dX2_triangleKey_20 : decode cX2_triangleKey 20 = .ok (.lreturn, 1) := by decide +kernel
theorem dX2_triangleKey_21 : decode cX2_triangleKey 21 = .ok (.lload 4, 2) := by decide +kernel
theorem dX2_triangleKey_23 : decode cX2_triangleKey 23 = .ok (.lload_n 0, 1) := by decide +kernel
theorem dX2_triangleKey_24 : decode cX2_triangleKey 24 = .ok (.lcmp, 1) := by decide +kernel
theorem dX2_triangleKey_25 : decode cX2_triangleKey 25 = .ok (.ifCond .ge 20, 3) := by decide +kernel
theorem dX2_triangleKey_28 : decode cX2_triangleKey 28 = .ok (.lload 4, 2) := by decide +kernel
theorem dX2_triangleKey_30 : decode cX2_triangleKey 30 = .ok (.lload_n 2, 1) := by decide +kernel
theorem dX2_triangleKey_31 : decode cX2_triangleKey 31 = .ok (.lcmp, 1) := by decide +kernel
theorem dX2_triangleKey_32 : decode cX2_triangleKey 32 = .ok (.ifCond .ge 13, 3) := by decide +kernel
theorem dX2_triangleKey_35 : decode cX2_triangleKey 35 = .ok (.lload 4, 2) := by decide +kernel
theorem dX2_triangleKey_37 : decode cX2_triangleKey 37 = .ok (.lload_n 0, 1) := by decide +kernel
theorem dX2_triangleKey_38 : decode cX2_triangleKey 38 = .ok (.lload_n 2, 1) := by decide +kernel
theorem dX2_triangleKey_39 : decode cX2_triangleKey 39 = .ok (.invokestatic 180, 3) := by decide +kernel
theorem dX2_triangleKey_42 : decode cX2_triangleKey 42 = .ok (.goto 10, 3) := by decide +kernel
theorem dX2_triangleKey_45 : decode cX2_triangleKey 45 = .ok (.lload_n 0, 1) := by decide +kernel
theorem dX2_triangleKey_46 : decode cX2_triangleKey 46 = .ok (.lload_n 2, 1) := by decide +kernel
theorem dX2_triangleKey_47 : decode cX2_triangleKey 47 = .ok (.lload 4, 2) := by decide +kernel
theorem dX2_triangleKey_49 : decode cX2_triangleKey 49 = .ok (.invokestatic 180, 3) := by decide +kernel
theorem dX2_triangleKey_52 : decode cX2_triangleKey 52 = .ok (.lreturn, 1) := by decide +kernel
abbrev M_X2_triangleKey : MRec := (yX2_triangleKey, cX2_triangleKey, 6, (some Jvm.ClassFile.FieldType.long), [])
theorem m_X2_triangleKey : en_M M_X2_triangleKey 3 := ⟨t_2176, t_12, ⟨by decide +kernel, by decide +kernel⟩, by decide +kernel, by decide +kernel, by decide +kernel⟩
theorem dX2_tellRound_0 : decode cX2_tellRound 0 = .ok (.iconst 0, 1) := by decide +kernel
theorem dX2_tellRound_1 : decode cX2_tellRound 1 = .ok (.istore_n 1, 1) := by decide +kernel
theorem dX2_tellRound_2 : decode cX2_tellRound 2 = .ok (.iconst 0, 1) := by decide +kernel
theorem dX2_tellRound_3 : decode cX2_tellRound 3 = .ok (.istore_n 2, 1) := by decide +kernel
theorem dX2_tellRound_4 : decode cX2_tellRound 4 = .ok (.iload_n 2, 1) := by decide +kernel
theorem dX2_tellRound_5 : decode cX2_tellRound 5 = .ok (.aload_n 0, 1) := by decide +kernel
theorem dX2_tellRound_6 : decode cX2_tellRound 6 = .ok (.getfield 159, 3) := by decide +kernel
theorem dX2_tellRound_9 : decode cX2_tellRound 9 = .ok (.if_icmp .ge 75, 3) := by decide +kernel
theorem dX2_tellRound_12 : decode cX2_tellRound 12 = .ok (.aload_n 0, 1) := by decide +kernel
theorem dX2_tellRound_13 : decode cX2_tellRound 13 = .ok (.getfield 42, 3) := by decide +kernel
theorem dX2_tellRound_16 : decode cX2_tellRound 16 = .ok (.iload_n 2, 1) := by decide +kernel
theorem dX2_tellRound_17 : decode cX2_tellRound 17 = .ok (.iaload, 1) := by decide +kernel
theorem dX2_tellRound_18 : decode cX2_tellRound 18 = .ok (.aload_n 0, 1) := by decide +kernel
theorem dX2_tellRound_19 : decode cX2_tellRound 19 = .ok (.getfield 42, 3) := by decide +kernel
theorem dX2_tellRound_22 : decode cX2_tellRound 22 = .ok (.iload_n 1, 1) := by decide +kernel
theorem dX2_tellRound_23 : decode cX2_tellRound 23 = .ok (.iaload, 1) := by decide +kernel
theorem dX2_tellRound_24 : decode cX2_tellRound 24 = .ok (.if_icmp .ge 7, 3) := by decide +kernel
theorem dX2_tellRound_27 : decode cX2_tellRound 27 = .ok (.iload_n 2, 1) := by decide +kernel
theorem dX2_tellRound_28 : decode cX2_tellRound 28 = .ok (.goto 4, 3) := by decide +kernel
theorem dX2_tellRound_31 : decode cX2_tellRound 31 = .ok (.iload_n 1, 1) := by decide +kernel
theorem dX2_tellRound_32 : decode cX2_tellRound 32 = .ok (.istore_n 1, 1) := by decide +kernel
theorem dX2_tellRound_33 : decode cX2_tellRound 33 = .ok (.aload_n 0, 1) := by decide +kernel
theorem dX2_tellRound_34 : decode cX2_tellRound 34 = .ok (.getfield 42, 3) := by decide +kernel
theorem dX2_tellRound_37 : decode cX2_tellRound 37 = .ok (.iload_n 2, 1) := by decide +kernel
theorem dX2_tellRound_38 : decode cX2_tellRound 38 = .ok (.iaload, 1) := by decide +kernel
theorem dX2_tellRound_39 : decode cX2_tellRound 39 = .ok (.istore_n 3, 1) := by decide +kernel
theorem dX2_tellRound_40 : decode cX2_tellRound 40 = .ok (.aload_n 0, 1) := by decide +kernel
theorem dX2_tellRound_41 : decode cX2_tellRound 41 = .ok (.getfield 42, 3) := by decide +kernel
theorem dX2_tellRound_44 : decode cX2_tellRound 44 = .ok (.iload_n 2, 1) := by decide +kernel
theorem dX2_tellRound_45 : decode cX2_tellRound 45 = .ok (.iconst 1, 1) := by decide +kernel
theorem dX2_tellRound_46 : decode cX2_tellRound 46 = .ok (.iadd, 1) := by decide +kernel
theorem dX2_tellRound_47 : decode cX2_tellRound 47 = .ok (.aload_n 0, 1) := by decide +kernel
theorem dX2_tellRound_48 : decode cX2_tellRound 48 = .ok (.getfield 159, 3) := by decide +kernel
theorem dX2_tellRound_51 : decode cX2_tellRound 51 = .ok (.if_icmp .ge 9, 3) := by decide +kernel
theorem dX2_tellRound_54 : decode cX2_tellRound 54 = .ok (.iload_n 2, 1) := by decide +kernel
theorem dX2_tellRound_55 : decode cX2_tellRound 55 = .ok (.iconst 1, 1) := by decide +kernel
theorem dX2_tellRound_56 : decode cX2_tellRound 56 = .ok (.iadd, 1) := by decide +kernel
theorem dX2_tellRound_57 : decode cX2_tellRound 57 = .ok (.goto 4, 3) := by decide +kernel
theorem dX2_tellRound_60 : decode cX2_tellRound 60 = .ok (.iconst 0, 1) := by decide +kernel
theorem dX2_tellRound_61 : decode cX2_tellRound 61 = .ok (.iaload, 1) := by decide +kernel
theorem dX2_tellRound_62 : decode cX2_tellRound 62 = .ok (.istore 4, 2) := by decide +kernel
theorem dX2_tellRound_64 : decode cX2_tellRound 64 = .ok (.aload_n 0, 1) := by decide +kernel
theorem dX2_tellRound_65 : decode cX2_tellRound 65 = .ok (.iload_n 3, 1) := by decide +kernel
theorem dX2_tellRound_66 : decode cX2_tellRound 66 = .ok (.iload 4, 2) := by decide +kernel
theorem dX2_tellRound_68 : decode cX2_tellRound 68 = .ok (.invokevirtual 173, 3) := by decide +kernel
theorem dX2_tellRound_71 : decode cX2_tellRound 71 = .ok (.aload_n 0, 1) := by decide +kernel
theorem dX2_tellRound_72 : decode cX2_tellRound 72 = .ok (.iload 4, 2) := by decide +kernel
theorem dX2_tellRound_74 : decode cX2_tellRound 74 = .ok (.iload_n 3, 1) := by decide +kernel
theorem dX2_tellRound_75 : decode cX2_tellRound 75 = .ok (.invokevirtual 145, 3) := by decide +kernel
theorem dX2_tellRound_78 : decode cX2_tellRound 78 = .ok (.iinc 2 1, 3) := by decide +kernel
theorem dX2_tellRound_81 : decode cX2_tellRound 81 = .ok (.goto (-77), 3) := by decide +kernel
theorem dX2_tellRound_84 : decode cX2_tellRound 84 = .ok (.iconst 1, 1) := by decide +kernel
theorem dX2_tellRound_85 : decode cX2_tellRound 85 = .ok (.istore_n 2, 1) := by decide +kernel
theorem dX2_tellRound_86 : decode cX2_tellRound 86 = .ok (.iload_n 2, 1) := by decide +kernel
theorem dX2_tellRound_87 : decode cX2_tellRound 87 = .ok (.iconst 1, 1) := by decide +kernel
theorem dX2_tellRound_88 : decode cX2_tellRound 88 = .ok (.iadd, 1) := by decide +kernel
theorem dX2_tellRound_89 : decode cX2_tellRound 89 = .ok (.aload_n 0, 1) := by decide +kernel
theorem dX2_tellRound_90 : decode cX2_tellRound 90 = .ok (.getfield 159, 3) := by decide +kernel
theorem dX2_tellRound_93 : decode cX2_tellRound 93 = .ok (.if_icmp .ge 95, 3) := by decide +kernel
theorem dX2_tellRound_96 : decode cX2_tellRound 96 = .ok (.aload_n 0, 1) := by decide +kernel
theorem dX2_tellRound_97 : decode cX2_tellRound 97 = .ok (.getfield 129, 3) := by decide +kernel
theorem dX2_tellRound_100 : decode cX2_tellRound 100 = .ok (.sipush 512, 3) := by decide +kernel
theorem dX2_tellRound_103 : decode cX2_tellRound 103 = .ok (.if_icmp .lt 5, 3) := by decide +kernel
theorem dX2_tellRound_106 : decode cX2_tellRound 106 = .ok (.iconst 0, 1) := by decide +kernel
theorem dX2_tellRound_107 : decode cX2_tellRound 107 = .ok (.ireturn, 1) := by decide +kernel
theorem dX2_tellRound_108 : decode cX2_tellRound 108 = .ok (.aload_n 0, 1) := by decide +kernel
theorem dX2_tellRound_109 : decode cX2_tellRound 109 = .ok (.getfield 45, 3) := by decide +kernel
theorem dX2_tellRound_112 : decode cX2_tellRound 112 = .ok (.aload_n 0, 1) := by decide +kernel
theorem dX2_tellRound_113 : decode cX2_tellRound 113 = .ok (.getfield 129, 3) := by decide +kernel
theorem dX2_tellRound_116 : decode cX2_tellRound 116 = .ok (.aload_n 0, 1) := by decide +kernel
theorem dX2_tellRound_117 : decode cX2_tellRound 117 = .ok (.getfield 24, 3) := by decide +kernel
theorem dX2_tellRound_120 : decode cX2_tellRound 120 = .ok (.aload_n 0, 1) := by decide +kernel
theorem dX2_tellRound_121 : decode cX2_tellRound 121 = .ok (.getfield 42, 3) := by decide +kernel
theorem dX2_tellRound_124 : decode cX2_tellRound 124 = .ok (.iload_n 1, 1) := by decide +kernel
theorem dX2_tellRound_125 : decode cX2_tellRound 125 = .ok (.iaload, 1) := by decide +kernel
theorem dX2_tellRound_126 : decode cX2_tellRound 126 = .ok (.iaload, 1) := by decide +kernel
theorem dX2_tellRound_127 : decode cX2_tellRound 127 = .ok (.i2l, 1) := by decide +kernel
theorem dX2_tellRound_128 : decode cX2_tellRound 128 = .ok (.aload_n 0, 1) := by decide +kernel
theorem dX2_tellRound_129 : decode cX2_tellRound 129 = .ok (.getfield 24, 3) := by decide +kernel
theorem dX2_tellRound_132 : decode cX2_tellRound 132 = .ok (.aload_n 0, 1) := by decide +kernel
theorem dX2_tellRound_133 : decode cX2_tellRound 133 = .ok (.getfield 42, 3) := by decide +kernel
theorem dX2_tellRound_136 : decode cX2_tellRound 136 = .ok (.iload_n 1, 1) := by decide +kernel
theorem dX2_tellRound_137 : decode cX2_tellRound 137 = .ok (.iload_n 2, 1) := by decide +kernel
theorem dX2_tellRound_138 : decode cX2_tellRound 138 = .ok (.iadd, 1) := by decide +kernel
theorem dX2_tellRound_139 : decode cX2_tellRound 139 = .ok (.aload_n 0, 1) := by decide +kernel
theorem dX2_tellRound_140 : decode cX2_tellRound 140 = .ok (.getfield 159, 3) := by decide +kernel
theorem dX2_tellRound_143 : decode cX2_tellRound 143 = .ok (.irem, 1) := by decide +kernel
theorem dX2_tellRound_144 : decode cX2_tellRound 144 = .ok (.iaload, 1) := by decide +kernel
theorem dX2_tellRound_145 : decode cX2_tellRound 145 = .ok (.iaload, 1) := by decide +kernel
theorem dX2_tellRound_146 : decode cX2_tellRound 146 = .ok (.i2l, 1) := by decide +kernel
theorem dX2_tellRound_147 : decode cX2_tellRound 147 = .ok (.aload_n 0, 1) := by decide +kernel
theorem dX2_tellRound_148 : decode cX2_tellRound 148 = .ok (.getfield 24, 3) := by decide +kernel
theorem dX2_tellRound_151 : decode cX2_tellRound 151 = .ok (.aload_n 0, 1) := by decide +kernel
theorem dX2_tellRound_152 : decode cX2_tellRound 152 = .ok (.getfield 42, 3) := by decide +kernel
theorem dX2_tellRound_155 : decode cX2_tellRound 155 = .ok (.iload_n 1, 1) := by decide +kernel
theorem dX2_tellRound_156 : decode cX2_tellRound 156 = .ok (.iload_n 2, 1) := by decide +kernel
theorem dX2_tellRound_157 : decode cX2_tellRound 157 = .ok (.iadd, 1) := by decide +kernel
theorem dX2_tellRound_158 : decode cX2_tellRound 158 = .ok (.iconst 1, 1) := by decide +kernel
theorem dX2_tellRound_159 : decode cX2_tellRound 159 = .ok (.iadd, 1) := by decide +kernel
theorem dX2_tellRound_160 : decode cX2_tellRound 160 = .ok (.aload_n 0, 1) := by decide +kernel
theorem dX2_tellRound_161 : decode cX2_tellRound 161 = .ok (.getfield 159, 3) := by decide +kernel
theorem dX2_tellRound_164 : decode cX2_tellRound 164 = .ok (.irem, 1) := by decide +kernel
theorem dX2_tellRound_165 : decode cX2_tellRound 165 = .ok (.iaload, 1) := by decide +kernel
theorem dX2_tellRound_166 : decode cX2_tellRound 166 = .ok (.iaload, 1) := by decide +kernel
theorem dX2_tellRound_167 : decode cX2_tellRound 167 = .ok (.i2l, 1) := by decide +kernel
theorem dX2_tellRound_168 : decode cX2_tellRound 168 = .ok (.invokestatic 176, 3) := by decide +kernel
theorem dX2_tellRound_171 : decode cX2_tellRound 171 = .ok (.lastore, 1) := by decide +kernel
theorem dX2_tellRound_172 : decode cX2_tellRound 172 = .ok (.aload_n 0, 1) := by decide +kernel
theorem dX2_tellRound_173 : decode cX2_tellRound 173 = .ok (.dup, 1) := by decide +kernel
theorem dX2_tellRound_174 : decode cX2_tellRound 174 = .ok (.getfield 129, 3) := by decide +kernel
theorem dX2_tellRound_177 : decode cX2_tellRound 177 = .ok (.iconst 1, 1) := by decide +kernel
theorem dX2_tellRound_178 : decode cX2_tellRound 178 = .ok (.iadd, 1) := by decide +kernel
theorem dX2_tellRound_179 : decode cX2_tellRound 179 = .ok (.putfield 129, 3) := by decide +kernel
theorem dX2_tellRound_182 : decode cX2_tellRound 182 = .ok (.iinc 2 1, 3) := by decide +kernel
theorem dX2_tellRound_185 : decode cX2_tellRound 185 = .ok (.goto (-99), 3) := by decide +kernel
theorem dX2_tellRound_188 : decode cX2_tellRound 188 = .ok (.iconst 1, 1) := by decide +kernel
theorem dX2_tellRound_189 : decode cX2_tellRound 189 = .ok (.ireturn, 1) := by decide +kernel
abbrev M_X2_tellRound : MRec := (yX2_tellRound, cX2_tellRound, 5, (some Jvm.ClassFile.FieldType.boolean), [])
theorem m_X2_tellRound : en_M M_X2_tellRound 0 := ⟨t_2169, t_12, ⟨by decide +kernel, by decide +kernel⟩, by decide +kernel, by decide +kernel, by decide +kernel⟩
theorem dX2_triangulate_0 : decode cX2_triangulate 0 = .ok (.aload_n 0, 1) := by decide +kernel
theorem dX2_triangulate_1 : decode cX2_triangulate 1 = .ok (.iconst 0, 1) := by decide +kernel
theorem dX2_triangulate_2 : decode cX2_triangulate 2 = .ok (.putfield 129, 3) := by decide +kernel
theorem dX2_triangulate_5 : decode cX2_triangulate 5 = .ok (.aload_n 0, 1) := by decide +kernel
theorem dX2_triangulate_6 : decode cX2_triangulate 6 = .ok (.invokevirtual 132, 3) := by decide +kernel
theorem dX2_triangulate_9 : decode cX2_triangulate 9 = .ok (.ifCond .eq 5, 3) := by decide +kernel
theorem dX2_triangulate_12 : decode cX2_triangulate 12 = .ok (.iconst 1, 1) := by decide +kernel
theorem dX2_triangulate_13 : decode cX2_triangulate 13 = .ok (.ireturn, 1) := by decide +kernel
theorem dX2_triangulate_14 : decode cX2_triangulate 14 = .ok (.aload_n 0, 1) := by decide +kernel
theorem dX2_triangulate_15 : decode cX2_triangulate 15 = .ok (.getfield 77, 3) := by decide +kernel
theorem dX2_triangulate_18 : decode cX2_triangulate 18 = .ok (.sipush 514, 3) := by decide +kernel
theorem dX2_triangulate_21 : decode cX2_triangulate 21 = .ok (.if_icmp .le 5, 3) := by decide +kernel
theorem dX2_triangulate_24 : decode cX2_triangulate 24 = .ok (.iconst 0, 1) := by decide +kernel
theorem dX2_triangulate_25 : decode cX2_triangulate 25 = .ok (.ireturn, 1) := by decide +kernel
theorem dX2_triangulate_26 : decode cX2_triangulate 26 = .ok (.aload_n 0, 1) := by decide +kernel
theorem dX2_triangulate_27 : decode cX2_triangulate 27 = .ok (.getfield 33, 3) := by decide +kernel
theorem dX2_triangulate_30 : decode cX2_triangulate 30 = .ok (.iconst 0, 1) := by decide +kernel
theorem dX2_triangulate_31 : decode cX2_triangulate 31 = .ok (.aload_n 0, 1) := by decide +kernel
theorem dX2_triangulate_32 : decode cX2_triangulate 32 = .ok (.getfield 77, 3) := by decide +kernel
theorem dX2_triangulate_35 : decode cX2_triangulate 35 = .ok (.aload_n 0, 1) := by decide +kernel
theorem dX2_triangulate_36 : decode cX2_triangulate 36 = .ok (.getfield 77, 3) := by decide +kernel
theorem dX2_triangulate_39 : decode cX2_triangulate 39 = .ok (.imul, 1) := by decide +kernel
theorem dX2_triangulate_40 : decode cX2_triangulate 40 = .ok (.bipush 64, 2) := by decide +kernel
theorem dX2_triangulate_42 : decode cX2_triangulate 42 = .ok (.idiv, 1) := by decide +kernel
theorem dX2_triangulate_43 : decode cX2_triangulate 43 = .ok (.iconst 1, 1) := by decide +kernel
theorem dX2_triangulate_44 : decode cX2_triangulate 44 = .ok (.iadd, 1) := by decide +kernel
theorem dX2_triangulate_45 : decode cX2_triangulate 45 = .ok (.lconst 0, 1) := by decide +kernel
theorem dX2_triangulate_46 : decode cX2_triangulate 46 = .ok (.invokestatic 136, 3) := by decide +kernel
theorem dX2_triangulate_49 : decode cX2_triangulate 49 = .ok (.aload_n 0, 1) := by decide +kernel
theorem dX2_triangulate_50 : decode cX2_triangulate 50 = .ok (.iconst 0, 1) := by decide +kernel
theorem dX2_triangulate_51 : decode cX2_triangulate 51 = .ok (.putfield 139, 3) := by decide +kernel
theorem dX2_triangulate_54 : decode cX2_triangulate 54 = .ok (.aload_n 0, 1) := by decide +kernel
theorem dX2_triangulate_55 : decode cX2_triangulate 55 = .ok (.iconst 0, 1) := by decide +kernel
theorem dX2_triangulate_56 : decode cX2_triangulate 56 = .ok (.aload_n 0, 1) := by decide +kernel
theorem dX2_triangulate_57 : decode cX2_triangulate 57 = .ok (.invokevirtual 142, 3) := by decide +kernel
theorem dX2_triangulate_60 : decode cX2_triangulate 60 = .ok (.invokevirtual 145, 3) := by decide +kernel
theorem dX2_triangulate_63 : decode cX2_triangulate 63 = .ok (.iconst 0, 1) := by decide +kernel
theorem dX2_triangulate_64 : decode cX2_triangulate 64 = .ok (.istore_n 1, 1) := by decide +kernel
theorem dX2_triangulate_65 : decode cX2_triangulate 65 = .ok (.aload_n 0, 1) := by decide +kernel
theorem dX2_triangulate_66 : decode cX2_triangulate 66 = .ok (.getfield 139, 3) := by decide +kernel
theorem dX2_triangulate_69 : decode cX2_triangulate 69 = .ok (.ifCond .le 72, 3) := by decide +kernel
theorem dX2_triangulate_72 : decode cX2_triangulate 72 = .ok (.iload_n 1, 1) := by decide +kernel
theorem dX2_triangulate_73 : decode cX2_triangulate 73 = .ok (.ldc 149, 2) := by decide +kernel
theorem dX2_triangulate_75 : decode cX2_triangulate 75 = .ok (.if_icmp .ge 66, 3) := by decide +kernel
theorem dX2_triangulate_78 : decode cX2_triangulate 78 = .ok (.aload_n 0, 1) := by decide +kernel
theorem dX2_triangulate_79 : decode cX2_triangulate 79 = .ok (.dup, 1) := by decide +kernel
theorem dX2_triangulate_80 : decode cX2_triangulate 80 = .ok (.getfield 139, 3) := by decide +kernel
theorem dX2_triangulate_83 : decode cX2_triangulate 83 = .ok (.iconst 1, 1) := by decide +kernel
theorem dX2_triangulate_84 : decode cX2_triangulate 84 = .ok (.isub, 1) := by decide +kernel
theorem dX2_triangulate_85 : decode cX2_triangulate 85 = .ok (.putfield 139, 3) := by decide +kernel
theorem dX2_triangulate_88 : decode cX2_triangulate 88 = .ok (.aload_n 0, 1) := by decide +kernel
theorem dX2_triangulate_89 : decode cX2_triangulate 89 = .ok (.getfield 36, 3) := by decide +kernel
theorem dX2_triangulate_92 : decode cX2_triangulate 92 = .ok (.aload_n 0, 1) := by decide +kernel
theorem dX2_triangulate_93 : decode cX2_triangulate 93 = .ok (.getfield 139, 3) := by decide +kernel
theorem dX2_triangulate_96 : decode cX2_triangulate 96 = .ok (.iaload, 1) := by decide +kernel
theorem dX2_triangulate_97 : decode cX2_triangulate 97 = .ok (.istore_n 2, 1) := by decide +kernel
theorem dX2_triangulate_98 : decode cX2_triangulate 98 = .ok (.aload_n 0, 1) := by decide +kernel
theorem dX2_triangulate_99 : decode cX2_triangulate 99 = .ok (.getfield 39, 3) := by decide +kernel
theorem dX2_triangulate_102 : decode cX2_triangulate 102 = .ok (.aload_n 0, 1) := by decide +kernel
theorem dX2_triangulate_103 : decode cX2_triangulate 103 = .ok (.getfield 139, 3) := by decide +kernel
theorem dX2_triangulate_106 : decode cX2_triangulate 106 = .ok (.iaload, 1) := by decide +kernel
theorem dX2_triangulate_107 : decode cX2_triangulate 107 = .ok (.istore_n 3, 1) := by decide +kernel
theorem dX2_triangulate_108 : decode cX2_triangulate 108 = .ok (.aload_n 0, 1) := by decide +kernel
theorem dX2_triangulate_109 : decode cX2_triangulate 109 = .ok (.iload_n 2, 1) := by decide +kernel
theorem dX2_triangulate_110 : decode cX2_triangulate 110 = .ok (.iload_n 3, 1) := by decide +kernel
theorem dX2_triangulate_111 : decode cX2_triangulate 111 = .ok (.invokevirtual 150, 3) := by decide +kernel
theorem dX2_triangulate_114 : decode cX2_triangulate 114 = .ok (.ifCond .ne 21, 3) := by decide +kernel
theorem dX2_triangulate_117 : decode cX2_triangulate 117 = .ok (.aload_n 0, 1) := by decide +kernel
theorem dX2_triangulate_118 : decode cX2_triangulate 118 = .ok (.iload_n 2, 1) := by decide +kernel
theorem dX2_triangulate_119 : decode cX2_triangulate 119 = .ok (.iload_n 3, 1) := by decide +kernel
theorem dX2_triangulate_120 : decode cX2_triangulate 120 = .ok (.invokevirtual 153, 3) := by decide +kernel
theorem dX2_triangulate_123 : decode cX2_triangulate 123 = .ok (.ifCond .eq 12, 3) := by decide +kernel
theorem dX2_triangulate_126 : decode cX2_triangulate 126 = .ok (.aload_n 0, 1) := by decide +kernel
theorem dX2_triangulate_127 : decode cX2_triangulate 127 = .ok (.invokevirtual 156, 3) := by decide +kernel
theorem dX2_triangulate_130 : decode cX2_triangulate 130 = .ok (.ifCond .ne 5, 3) := by decide +kernel
theorem dX2_triangulate_133 : decode cX2_triangulate 133 = .ok (.iconst 0, 1) := by decide +kernel
theorem dX2_triangulate_134 : decode cX2_triangulate 134 = .ok (.ireturn, 1) := by decide +kernel
theorem dX2_triangulate_135 : decode cX2_triangulate 135 = .ok (.iinc 1 1, 3) := by decide +kernel
theorem dX2_triangulate_138 : decode cX2_triangulate 138 = .ok (.goto (-73), 3) := by decide +kernel
theorem dX2_triangulate_141 : decode cX2_triangulate 141 = .ok (.aload_n 0, 1) := by decide +kernel
theorem dX2_triangulate_142 : decode cX2_triangulate 142 = .ok (.getfield 45, 3) := by decide +kernel
theorem dX2_triangulate_145 : decode cX2_triangulate 145 = .ok (.aload_n 0, 1) := by decide +kernel
theorem dX2_triangulate_146 : decode cX2_triangulate 146 = .ok (.getfield 129, 3) := by decide +kernel
theorem dX2_triangulate_149 : decode cX2_triangulate 149 = .ok (.invokestatic 69, 3) := by decide +kernel
theorem dX2_triangulate_152 : decode cX2_triangulate 152 = .ok (.iconst 1, 1) := by decide +kernel
theorem dX2_triangulate_153 : decode cX2_triangulate 153 = .ok (.ireturn, 1) := by decide +kernel
abbrev M_X2_triangulate : MRec := (yX2_triangulate, cX2_triangulate, 4, (some Jvm.ClassFile.FieldType.boolean), [])
theorem m_X2_triangulate : en_M M_X2_triangulate 0 := ⟨t_2132, t_12, ⟨by decide +kernel, by decide +kernel⟩, by decide +kernel, by decide +kernel, by decide +kernel⟩
theorem dX11_triangles_0 : decode cX11_triangles 0 = .ok (.aload_n 0, 1) := by decide +kernel
theorem dX11_triangles_1 : decode cX11_triangles 1 = .ok (.iload_n 1, 1) := by decide +kernel
theorem dX11_triangles_2 : decode cX11_triangles 2 = .ok (.invokevirtual 140, 3) := by decide +kernel
theorem dX11_triangles_5 : decode cX11_triangles 5 = .ok (.astore_n 3, 1) := by decide +kernel
theorem dX11_triangles_6 : decode cX11_triangles 6 = .ok (.aload_n 0, 1) := by decide +kernel
theorem dX11_triangles_7 : decode cX11_triangles 7 = .ok (.iload_n 2, 1) := by decide +kernel
theorem dX11_triangles_8 : decode cX11_triangles 8 = .ok (.invokevirtual 140, 3) := by decide +kernel
theorem dX11_triangles_11 : decode cX11_triangles 11 = .ok (.astore 4, 2) := by decide +kernel
theorem dX11_triangles_13 : decode cX11_triangles 13 = .ok (.aload_n 3, 1) := by decide +kernel
theorem dX11_triangles_14 : decode cX11_triangles 14 = .ok (.invokestatic 172, 3) := by decide +kernel
theorem dX11_triangles_17 : decode cX11_triangles 17 = .ok (.aload_n 0, 1) := by decide +kernel
theorem dX11_triangles_18 : decode cX11_triangles 18 = .ok (.getfield 83, 3) := by decide +kernel
theorem dX11_triangles_21 : decode cX11_triangles 21 = .ok (.aload_n 3, 1) := by decide +kernel
theorem dX11_triangles_22 : decode cX11_triangles 22 = .ok (.invokevirtual 280, 3) := by decide +kernel
theorem dX11_triangles_25 : decode cX11_triangles 25 = .ok (.ifCond .eq 13, 3) := by decide +kernel
theorem dX11_triangles_28 : decode cX11_triangles 28 = .ok (.aload_n 0, 1) := by decide +kernel
theorem dX11_triangles_29 : decode cX11_triangles 29 = .ok (.getfield 83, 3) := by decide +kernel
theorem dX11_triangles_32 : decode cX11_triangles 32 = .ok (.invokevirtual 286, 3) := by decide +kernel
theorem dX11_triangles_35 : decode cX11_triangles 35 = .ok (.ifCond .ne 11, 3) := by decide +kernel
theorem dX11_triangles_38 : decode cX11_triangles 38 = .ok (.new 232, 3) := by decide +kernel
theorem dX11_triangles_41 : decode cX11_triangles 41 = .ok (.dup, 1) := by decide +kernel
theorem dX11_triangles_42 : decode cX11_triangles 42 = .ok (.invokespecial 234, 3) := by decide +kernel
theorem dX11_triangles_45 : decode cX11_triangles 45 = .ok (.athrow, 1) := by decide +kernel
theorem dX11_triangles_46 : decode cX11_triangles 46 = .ok (.aload_n 0, 1) := by decide +kernel
theorem dX11_triangles_47 : decode cX11_triangles 47 = .ok (.getfield 83, 3) := by decide +kernel
theorem dX11_triangles_50 : decode cX11_triangles 50 = .ok (.aload 4, 2) := by decide +kernel
theorem dX11_triangles_52 : decode cX11_triangles 52 = .ok (.invokevirtual 289, 3) := by decide +kernel
theorem dX11_triangles_55 : decode cX11_triangles 55 = .ok (.ireturn, 1) := by decide +kernel
abbrev M_X11_triangles : MRec := (yX11_triangles, cX11_triangles, 5, (some Jvm.ClassFile.FieldType.int), [])
theorem m_X11_triangles : en_M M_X11_triangles 2 := ⟨t_2128, t_1, ⟨by decide +kernel, by decide +kernel⟩, by decide +kernel, by decide +kernel, by decide +kernel⟩
theorem dX2_isFarther_0 : decode cX2_isFarther 0 = .ok (.iload_n 0, 1) := by decide +kernel
theorem dX2_isFarther_1 : decode cX2_isFarther 1 = .ok (.iload_n 3, 1) := by decide +kernel
theorem dX2_isFarther_2 : decode cX2_isFarther 2 = .ok (.if_icmp .ne 16, 3) := by decide +kernel
theorem dX2_isFarther_5 : decode cX2_isFarther 5 = .ok (.lload_n 1, 1) := by decide +kernel
theorem dX2_isFarther_6 : decode cX2_isFarther 6 = .ok (.lload 4, 2) := by decide +kernel
theorem dX2_isFarther_8 : decode cX2_isFarther 8 = .ok (.lcmp, 1) := by decide +kernel
theorem dX2_isFarther_9 : decode cX2_isFarther 9 = .ok (.ifCond .le 7, 3) := by decide +kernel
theorem dX2_isFarther_12 : decode cX2_isFarther 12 = .ok (.iconst 1, 1) := by decide +kernel
theorem dX2_isFarther_13 : decode cX2_isFarther 13 = .ok (.goto 4, 3) := by decide +kernel
theorem dX2_isFarther_16 : decode cX2_isFarther 16 = .ok (.iconst 0, 1) := by decide +kernel
theorem dX2_isFarther_17 : decode cX2_isFarther 17 = .ok (.ireturn, 1) := by decide +kernel
theorem dX2_isFarther_18 : decode cX2_isFarther 18 = .ok (.iload_n 0, 1) := by decide +kernel
theorem dX2_isFarther_19 : decode cX2_isFarther 19 = .ok (.ifCond .eq 26, 3) := by decide +kernel
theorem dX2_isFarther_22 : decode cX2_isFarther 22 = .ok (.lload_n 1, 1) := by decide +kernel
theorem dX2_isFarther_23 : decode cX2_isFarther 23 = .ok (.lload_n 1, 1) := by decide +kernel
theorem dX2_isFarther_24 : decode cX2_isFarther 24 = .ok (.lload 4, 2) := by decide +kernel
theorem dX2_isFarther_26 : decode cX2_isFarther 26 = .ok (.lneg, 1) := by decide +kernel
theorem dX2_isFarther_27 : decode cX2_isFarther 27 = .ok (.lload 6, 2) := by decide +kernel
theorem dX2_isFarther_29 : decode cX2_isFarther 29 = .ok (.lconst 0, 1) := by decide +kernel
theorem dX2_isFarther_30 : decode cX2_isFarther 30 = .ok (.lconst 0, 1) := by decide +kernel
theorem dX2_isFarther_31 : decode cX2_isFarther 31 = .ok (.invokestatic 170, 3) := by decide +kernel
theorem dX2_isFarther_34 : decode cX2_isFarther 34 = .ok (.ifCond .le 7, 3) := by decide +kernel
theorem dX2_isFarther_37 : decode cX2_isFarther 37 = .ok (.iconst 1, 1) := by decide +kernel
theorem dX2_isFarther_38 : decode cX2_isFarther 38 = .ok (.goto 28, 3) := by decide +kernel
theorem dX2_isFarther_41 : decode cX2_isFarther 41 = .ok (.iconst 0, 1) := by decide +kernel
theorem dX2_isFarther_42 : decode cX2_isFarther 42 = .ok (.goto 24, 3) := by decide +kernel
theorem dX2_isFarther_45 : decode cX2_isFarther 45 = .ok (.lload_n 1, 1) := by decide +kernel
theorem dX2_isFarther_46 : decode cX2_isFarther 46 = .ok (.lload 6, 2) := by decide +kernel
theorem dX2_isFarther_48 : decode cX2_isFarther 48 = .ok (.lload 4, 2) := by decide +kernel
theorem dX2_isFarther_50 : decode cX2_isFarther 50 = .ok (.lneg, 1) := by decide +kernel
theorem dX2_isFarther_51 : decode cX2_isFarther 51 = .ok (.lload 4, 2) := by decide +kernel
theorem dX2_isFarther_53 : decode cX2_isFarther 53 = .ok (.lconst 0, 1) := by decide +kernel
theorem dX2_isFarther_54 : decode cX2_isFarther 54 = .ok (.lconst 0, 1) := by decide +kernel
theorem dX2_isFarther_55 : decode cX2_isFarther 55 = .ok (.invokestatic 170, 3) := by decide +kernel
theorem dX2_isFarther_58 : decode cX2_isFarther 58 = .ok (.ifCond .le 7, 3) := by decide +kernel
theorem dX2_isFarther_61 : decode cX2_isFarther 61 = .ok (.iconst 1, 1) := by decide +kernel
theorem dX2_isFarther_62 : decode cX2_isFarther 62 = .ok (.goto 4, 3) := by decide +kernel
theorem dX2_isFarther_65 : decode cX2_isFarther 65 = .ok (.iconst 0, 1) := by decide +kernel
theorem dX2_isFarther_66 : decode cX2_isFarther 66 = .ok (.ireturn, 1) := by decide +kernel
abbrev M_X2_isFarther : MRec := (yX2_isFarther, cX2_isFarther, 8, (some Jvm.ClassFile.FieldType.boolean), [])
theorem m_X2_isFarther : en_M M_X2_isFarther 5 := ⟨t_2215, t_12, ⟨by decide +kernel, by decide +kernel⟩, by decide +kernel, by decide +kernel, by decide +kernel⟩
theorem dX2_squareTo_0 : decode cX2_squareTo 0 = .ok (.aload_n 0, 1) := by decide +kernel
theorem dX2_squareTo_1 : decode cX2_squareTo 1 = .ok (.getfield 59, 3) := by decide +kernel
theorem dX2_squareTo_4 : decode cX2_squareTo 4 = .ok (.iload_n 1, 1) := by decide +kernel
theorem dX2_squareTo_5 : decode cX2_squareTo 5 = .ok (.iaload, 1) := by decide +kernel
theorem dX2_squareTo_6 : decode cX2_squareTo 6 = .ok (.i2l, 1) := by decide +kernel
theorem dX2_squareTo_7 : decode cX2_squareTo 7 = .ok (.aload_n 0, 1) := by decide +kernel
theorem dX2_squareTo_8 : decode cX2_squareTo 8 = .ok (.getfield 59, 3) := by decide +kernel
theorem dX2_squareTo_11 : decode cX2_squareTo 11 = .ok (.iload_n 2, 1) := by decide +kernel
theorem dX2_squareTo_12 : decode cX2_squareTo 12 = .ok (.iaload, 1) := by decide +kernel
theorem dX2_squareTo_13 : decode cX2_squareTo 13 = .ok (.i2l, 1) := by decide +kernel
theorem dX2_squareTo_14 : decode cX2_squareTo 14 = .ok (.lsub, 1) := by decide +kernel
theorem dX2_squareTo_15 : decode cX2_squareTo 15 = .ok (.lstore_n 3, 1) := by decide +kernel
theorem dX2_squareTo_16 : decode cX2_squareTo 16 = .ok (.aload_n 0, 1) := by decide +kernel
theorem dX2_squareTo_17 : decode cX2_squareTo 17 = .ok (.getfield 62, 3) := by decide +kernel
theorem dX2_squareTo_20 : decode cX2_squareTo 20 = .ok (.iload_n 1, 1) := by decide +kernel
theorem dX2_squareTo_21 : decode cX2_squareTo 21 = .ok (.iaload, 1) := by decide +kernel
theorem dX2_squareTo_22 : decode cX2_squareTo 22 = .ok (.i2l, 1) := by decide +kernel
theorem dX2_squareTo_23 : decode cX2_squareTo 23 = .ok (.aload_n 0, 1) := by decide +kernel
theorem dX2_squareTo_24 : decode cX2_squareTo 24 = .ok (.getfield 62, 3) := by decide +kernel
theorem dX2_squareTo_27 : decode cX2_squareTo 27 = .ok (.iload_n 2, 1) := by decide +kernel
theorem dX2_squareTo_28 : decode cX2_squareTo 28 = .ok (.iaload, 1) := by decide +kernel
theorem dX2_squareTo_29 : decode cX2_squareTo 29 = .ok (.i2l, 1) := by decide +kernel
theorem dX2_squareTo_30 : decode cX2_squareTo 30 = .ok (.lsub, 1) := by decide +kernel
theorem dX2_squareTo_31 : decode cX2_squareTo 31 = .ok (.lstore 5, 2) := by decide +kernel
theorem dX2_squareTo_33 : decode cX2_squareTo 33 = .ok (.lload_n 3, 1) := by decide +kernel
theorem dX2_squareTo_34 : decode cX2_squareTo 34 = .ok (.lload_n 3, 1) := by decide +kernel
theorem dX2_squareTo_35 : decode cX2_squareTo 35 = .ok (.lmul, 1) := by decide +kernel
theorem dX2_squareTo_36 : decode cX2_squareTo 36 = .ok (.lload 5, 2) := by decide +kernel
theorem dX2_squareTo_38 : decode cX2_squareTo 38 = .ok (.lload 5, 2) := by decide +kernel
theorem dX2_squareTo_40 : decode cX2_squareTo 40 = .ok (.lmul, 1) := by decide +kernel
theorem dX2_squareTo_41 : decode cX2_squareTo 41 = .ok (.ladd, 1) := by decide +kernel
theorem dX2_squareTo_42 : decode cX2_squareTo 42 = .ok (.lreturn, 1) := by decide +kernel
abbrev M_X2_squareTo : MRec := (yX2_squareTo, cX2_squareTo, 7, (some Jvm.ClassFile.FieldType.long), [])
theorem m_X2_squareTo : en_M M_X2_squareTo 3 := ⟨t_2212, t_12, ⟨by decide +kernel, by decide +kernel⟩, by decide +kernel, by decide +kernel, by decide +kernel⟩
theorem dX2_farthest_0 : decode cX2_farthest 0 = .ok (.aload_n 0, 1) := by decide +kernel
theorem dX2_farthest_1 : decode cX2_farthest 1 = .ok (.getfield 59, 3) := by decide +kernel
theorem dX2_farthest_4 : decode cX2_farthest 4 = .ok (.iload_n 2, 1) := by decide +kernel
theorem dX2_farthest_5 : decode cX2_farthest 5 = .ok (.iaload, 1) := by decide +kernel
theorem dX2_farthest_6 : decode cX2_farthest 6 = .ok (.i2l, 1) := by decide +kernel
theorem dX2_farthest_7 : decode cX2_farthest 7 = .ok (.aload_n 0, 1) := by decide +kernel
theorem dX2_farthest_8 : decode cX2_farthest 8 = .ok (.getfield 59, 3) := by decide +kernel
theorem dX2_farthest_11 : decode cX2_farthest 11 = .ok (.iload_n 1, 1) := by decide +kernel
theorem dX2_farthest_12 : decode cX2_farthest 12 = .ok (.iaload, 1) := by decide +kernel
theorem dX2_farthest_13 : decode cX2_farthest 13 = .ok (.i2l, 1) := by decide +kernel
theorem dX2_farthest_14 : decode cX2_farthest 14 = .ok (.lsub, 1) := by decide +kernel
theorem dX2_farthest_15 : decode cX2_farthest 15 = .ok (.lstore 4, 2) := by decide +kernel
theorem dX2_farthest_17 : decode cX2_farthest 17 = .ok (.aload_n 0, 1) := by decide +kernel
theorem dX2_farthest_18 : decode cX2_farthest 18 = .ok (.getfield 62, 3) := by decide +kernel
theorem dX2_farthest_21 : decode cX2_farthest 21 = .ok (.iload_n 2, 1) := by decide +kernel
theorem dX2_farthest_22 : decode cX2_farthest 22 = .ok (.iaload, 1) := by decide +kernel
theorem dX2_farthest_23 : decode cX2_farthest 23 = .ok (.i2l, 1) := by decide +kernel
theorem dX2_farthest_24 : decode cX2_farthest 24 = .ok (.aload_n 0, 1) := by decide +kernel
theorem dX2_farthest_25 : decode cX2_farthest 25 = .ok (.getfield 62, 3) := by decide +kernel
theorem dX2_farthest_28 : decode cX2_farthest 28 = .ok (.iload_n 1, 1) := by decide +kernel
theorem dX2_farthest_29 : decode cX2_farthest 29 = .ok (.iaload, 1) := by decide +kernel
theorem dX2_farthest_30 : decode cX2_farthest 30 = .ok (.i2l, 1) := by decide +kernel
theorem dX2_farthest_31 : decode cX2_farthest 31 = .ok (.lsub, 1) := by decide +kernel
theorem dX2_farthest_32 : decode cX2_farthest 32 = .ok (.lstore 6, 2) := by decide +kernel
theorem dX2_farthest_34 : decode cX2_farthest 34 = .ok (.lload 4, 2) := by decide +kernel
theorem dX2_farthest_36 : decode cX2_farthest 36 = .ok (.lload 4, 2) := by decide +kernel
theorem dX2_farthest_38 : decode cX2_farthest 38 = .ok (.lmul, 1) := by decide +kernel
theorem dX2_farthest_39 : decode cX2_farthest 39 = .ok (.lload 6, 2) := by decide +kernel
theorem dX2_farthest_41 : decode cX2_farthest 41 = .ok (.lload 6, 2) := by decide +kernel
theorem dX2_farthest_43 : decode cX2_farthest 43 = .ok (.lmul, 1) := by decide +kernel
theorem dX2_farthest_44 : decode cX2_farthest 44 = .ok (.ladd, 1) := by decide +kernel
theorem dX2_farthest_45 : decode cX2_farthest 45 = .ok (.lstore 8, 2) := by decide +kernel
theorem dX2_farthest_47 : decode cX2_farthest 47 = .ok (.iconst (-1), 1) := by decide +kernel
theorem dX2_farthest_48 : decode cX2_farthest 48 = .ok (.istore 10, 2) := by decide +kernel
theorem dX2_farthest_50 : decode cX2_farthest 50 = .ok (.iconst 0, 1) := by decide +kernel
theorem dX2_farthest_51 : decode cX2_farthest 51 = .ok (.istore 11, 2) := by decide +kernel
theorem dX2_farthest_53 : decode cX2_farthest 53 = .ok (.iload_n 3, 1) := by decide +kernel
theorem dX2_farthest_54 : decode cX2_farthest 54 = .ok (.i2l, 1) := by decide +kernel
theorem dX2_farthest_55 : decode cX2_farthest 55 = .ok (.iload_n 3, 1) := by decide +kernel
theorem dX2_farthest_56 : decode cX2_farthest 56 = .ok (.i2l, 1) := by decide +kernel
theorem dX2_farthest_57 : decode cX2_farthest 57 = .ok (.lmul, 1) := by decide +kernel
theorem dX2_farthest_58 : decode cX2_farthest 58 = .ok (.lstore 12, 2) := by decide +kernel
theorem dX2_farthest_60 : decode cX2_farthest 60 = .ok (.iload_n 1, 1) := by decide +kernel
theorem dX2_farthest_61 : decode cX2_farthest 61 = .ok (.iconst 1, 1) := by decide +kernel
theorem dX2_farthest_62 : decode cX2_farthest 62 = .ok (.iadd, 1) := by decide +kernel
theorem dX2_farthest_63 : decode cX2_farthest 63 = .ok (.istore 14, 2) := by decide +kernel
theorem dX2_farthest_65 : decode cX2_farthest 65 = .ok (.iload 14, 2) := by decide +kernel
theorem dX2_farthest_67 : decode cX2_farthest 67 = .ok (.iload_n 2, 1) := by decide +kernel
theorem dX2_farthest_68 : decode cX2_farthest 68 = .ok (.if_icmp .ge 160, 3) := by decide +kernel
theorem dX2_farthest_71 : decode cX2_farthest 71 = .ok (.aload_n 0, 1) := by decide +kernel
theorem dX2_farthest_72 : decode cX2_farthest 72 = .ok (.getfield 59, 3) := by decide +kernel
theorem dX2_farthest_75 : decode cX2_farthest 75 = .ok (.iload 14, 2) := by decide +kernel
theorem dX2_farthest_77 : decode cX2_farthest 77 = .ok (.iaload, 1) := by decide +kernel
theorem dX2_farthest_78 : decode cX2_farthest 78 = .ok (.i2l, 1) := by decide +kernel
theorem dX2_farthest_79 : decode cX2_farthest 79 = .ok (.aload_n 0, 1) := by decide +kernel
theorem dX2_farthest_80 : decode cX2_farthest 80 = .ok (.getfield 59, 3) := by decide +kernel
theorem dX2_farthest_83 : decode cX2_farthest 83 = .ok (.iload_n 1, 1) := by decide +kernel
theorem dX2_farthest_84 : decode cX2_farthest 84 = .ok (.iaload, 1) := by decide +kernel
theorem dX2_farthest_85 : decode cX2_farthest 85 = .ok (.i2l, 1) := by decide +kernel
theorem dX2_farthest_86 : decode cX2_farthest 86 = .ok (.lsub, 1) := by decide +kernel
theorem dX2_farthest_87 : decode cX2_farthest 87 = .ok (.lstore 15, 2) := by decide +kernel
theorem dX2_farthest_89 : decode cX2_farthest 89 = .ok (.aload_n 0, 1) := by decide +kernel
theorem dX2_farthest_90 : decode cX2_farthest 90 = .ok (.getfield 62, 3) := by decide +kernel
theorem dX2_farthest_93 : decode cX2_farthest 93 = .ok (.iload 14, 2) := by decide +kernel
theorem dX2_farthest_95 : decode cX2_farthest 95 = .ok (.iaload, 1) := by decide +kernel
theorem dX2_farthest_96 : decode cX2_farthest 96 = .ok (.i2l, 1) := by decide +kernel
theorem dX2_farthest_97 : decode cX2_farthest 97 = .ok (.aload_n 0, 1) := by decide +kernel
theorem dX2_farthest_98 : decode cX2_farthest 98 = .ok (.getfield 62, 3) := by decide +kernel
theorem dX2_farthest_101 : decode cX2_farthest 101 = .ok (.iload_n 1, 1) := by decide +kernel
theorem dX2_farthest_102 : decode cX2_farthest 102 = .ok (.iaload, 1) := by decide +kernel
theorem dX2_farthest_103 : decode cX2_farthest 103 = .ok (.i2l, 1) := by decide +kernel
theorem dX2_farthest_104 : decode cX2_farthest 104 = .ok (.lsub, 1) := by decide +kernel
theorem dX2_farthest_105 : decode cX2_farthest 105 = .ok (.lstore 17, 2) := by decide +kernel
theorem dX2_farthest_107 : decode cX2_farthest 107 = .ok (.lload 15, 2) := by decide +kernel
theorem dX2_farthest_109 : decode cX2_farthest 109 = .ok (.lload 4, 2) := by decide +kernel
theorem dX2_farthest_111 : decode cX2_farthest 111 = .ok (.lmul, 1) := by decide +kernel
theorem dX2_farthest_112 : decode cX2_farthest 112 = .ok (.lload 17, 2) := by decide +kernel
theorem dX2_farthest_114 : decode cX2_farthest 114 = .ok (.lload 6, 2) := by decide +kernel
theorem dX2_farthest_116 : decode cX2_farthest 116 = .ok (.lmul, 1) := by decide +kernel
theorem dX2_farthest_117 : decode cX2_farthest 117 = .ok (.ladd, 1) := by decide +kernel
theorem dX2_farthest_118 : decode cX2_farthest 118 = .ok (.lstore 19, 2) := by decide +kernel
theorem dX2_farthest_120 : decode cX2_farthest 120 = .ok (.lload 19, 2) := by decide +kernel
theorem dX2_farthest_122 : decode cX2_farthest 122 = .ok (.lconst 0, 1) := by decide +kernel
theorem dX2_farthest_123 : decode cX2_farthest 123 = .ok (.lcmp, 1) := by decide +kernel
theorem dX2_farthest_124 : decode cX2_farthest 124 = .ok (.ifCond .le 15, 3) := by decide +kernel
theorem dX2_farthest_127 : decode cX2_farthest 127 = .ok (.lload 19, 2) := by decide +kernel
theorem dX2_farthest_129 : decode cX2_farthest 129 = .ok (.lload 8, 2) := by decide +kernel
theorem dX2_farthest_131 : decode cX2_farthest 131 = .ok (.lcmp, 1) := by decide +kernel
theorem dX2_farthest_132 : decode cX2_farthest 132 = .ok (.ifCond .ge 7, 3) := by decide +kernel
theorem dX2_farthest_135 : decode cX2_farthest 135 = .ok (.iconst 1, 1) := by decide +kernel
theorem dX2_farthest_136 : decode cX2_farthest 136 = .ok (.goto 4, 3) := by decide +kernel
theorem dX2_farthest_139 : decode cX2_farthest 139 = .ok (.iconst 0, 1) := by decide +kernel
theorem dX2_farthest_140 : decode cX2_farthest 140 = .ok (.istore 21, 2) := by decide +kernel
theorem dX2_farthest_142 : decode cX2_farthest 142 = .ok (.iload 21, 2) := by decide +kernel
theorem dX2_farthest_144 : decode cX2_farthest 144 = .ok (.ifCond .eq 20, 3) := by decide +kernel
theorem dX2_farthest_147 : decode cX2_farthest 147 = .ok (.lload 4, 2) := by decide +kernel
theorem dX2_farthest_149 : decode cX2_farthest 149 = .ok (.lload 17, 2) := by decide +kernel
theorem dX2_farthest_151 : decode cX2_farthest 151 = .ok (.lmul, 1) := by decide +kernel
theorem dX2_farthest_152 : decode cX2_farthest 152 = .ok (.lload 6, 2) := by decide +kernel
theorem dX2_farthest_154 : decode cX2_farthest 154 = .ok (.lload 15, 2) := by decide +kernel
theorem dX2_farthest_156 : decode cX2_farthest 156 = .ok (.lmul, 1) := by decide +kernel
theorem dX2_farthest_157 : decode cX2_farthest 157 = .ok (.lsub, 1) := by decide +kernel
theorem dX2_farthest_158 : decode cX2_farthest 158 = .ok (.invokestatic 212, 3) := by decide +kernel
theorem dX2_farthest_161 : decode cX2_farthest 161 = .ok (.goto 31, 3) := by decide +kernel
theorem dX2_farthest_164 : decode cX2_farthest 164 = .ok (.lload 19, 2) := by decide +kernel
theorem dX2_farthest_166 : decode cX2_farthest 166 = .ok (.lconst 0, 1) := by decide +kernel
theorem dX2_farthest_167 : decode cX2_farthest 167 = .ok (.lcmp, 1) := by decide +kernel
theorem dX2_farthest_168 : decode cX2_farthest 168 = .ok (.ifCond .gt 17, 3) := by decide +kernel
theorem dX2_farthest_171 : decode cX2_farthest 171 = .ok (.lload 15, 2) := by decide +kernel
theorem dX2_farthest_173 : decode cX2_farthest 173 = .ok (.lload 15, 2) := by decide +kernel
theorem dX2_farthest_175 : decode cX2_farthest 175 = .ok (.lmul, 1) := by decide +kernel
theorem dX2_farthest_176 : decode cX2_farthest 176 = .ok (.lload 17, 2) := by decide +kernel
theorem dX2_farthest_178 : decode cX2_farthest 178 = .ok (.lload 17, 2) := by decide +kernel
theorem dX2_farthest_180 : decode cX2_farthest 180 = .ok (.lmul, 1) := by decide +kernel
theorem dX2_farthest_181 : decode cX2_farthest 181 = .ok (.ladd, 1) := by decide +kernel
theorem dX2_farthest_182 : decode cX2_farthest 182 = .ok (.goto 10, 3) := by decide +kernel
theorem dX2_farthest_185 : decode cX2_farthest 185 = .ok (.aload_n 0, 1) := by decide +kernel
theorem dX2_farthest_186 : decode cX2_farthest 186 = .ok (.iload 14, 2) := by decide +kernel
theorem dX2_farthest_188 : decode cX2_farthest 188 = .ok (.iload_n 2, 1) := by decide +kernel
theorem dX2_farthest_189 : decode cX2_farthest 189 = .ok (.invokestatic 218, 3) := by decide +kernel
theorem dX2_farthest_192 : decode cX2_farthest 192 = .ok (.lstore 22, 2) := by decide +kernel
theorem dX2_farthest_194 : decode cX2_farthest 194 = .ok (.iload 21, 2) := by decide +kernel
theorem dX2_farthest_196 : decode cX2_farthest 196 = .ok (.lload 22, 2) := by decide +kernel
theorem dX2_farthest_198 : decode cX2_farthest 198 = .ok (.iload 11, 2) := by decide +kernel
theorem dX2_farthest_200 : decode cX2_farthest 200 = .ok (.lload 12, 2) := by decide +kernel
theorem dX2_farthest_202 : decode cX2_farthest 202 = .ok (.lload 8, 2) := by decide +kernel
theorem dX2_farthest_204 : decode cX2_farthest 204 = .ok (.invokestatic 222, 3) := by decide +kernel
theorem dX2_farthest_207 : decode cX2_farthest 207 = .ok (.ifCond .eq 15, 3) := by decide +kernel
theorem dX2_farthest_210 : decode cX2_farthest 210 = .ok (.iload 14, 2) := by decide +kernel
theorem dX2_farthest_212 : decode cX2_farthest 212 = .ok (.istore 10, 2) := by decide +kernel
theorem dX2_farthest_214 : decode cX2_farthest 214 = .ok (.iload 21, 2) := by decide +kernel
theorem dX2_farthest_216 : decode cX2_farthest 216 = .ok (.istore 11, 2) := by decide +kernel
theorem dX2_farthest_218 : decode cX2_farthest 218 = .ok (.lload 22, 2) := by decide +kernel
theorem dX2_farthest_220 : decode cX2_farthest 220 = .ok (.lstore 12, 2) := by decide +kernel
theorem dX2_farthest_222 : decode cX2_farthest 222 = .ok (.iinc 14 1, 3) := by decide +kernel
theorem dX2_farthest_225 : decode cX2_farthest 225 = .ok (.goto (-160), 3) := by decide +kernel
theorem dX2_farthest_228 : decode cX2_farthest 228 = .ok (.iload 10, 2) := by decide +kernel
theorem dX2_farthest_230 : decode cX2_farthest 230 = .ok (.ireturn, 1) := by decide +kernel
abbrev M_X2_farthest : MRec := (yX2_farthest, cX2_farthest, 24, (some Jvm.ClassFile.FieldType.int), [])
theorem m_X2_farthest : en_M M_X2_farthest 4 := ⟨t_2208, t_12, ⟨by decide +kernel, by decide +kernel⟩, by decide +kernel, by decide +kernel, by decide +kernel⟩
theorem dX2_markStaying_0 : decode cX2_markStaying 0 = .ok (.iload_n 3, 1) := by decide +kernel
theorem dX2_markStaying_1 : decode cX2_markStaying 1 = .ok (.iload_n 2, 1) := by decide +kernel
theorem dX2_markStaying_2 : decode cX2_markStaying 2 = .ok (.if_icmp .ge 4, 3) := by decide +kernel
theorem dX2_markStaying_5 : decode cX2_markStaying 5 = .ok (.return_, 1) := by decide +kernel
theorem dX2_markStaying_6 : decode cX2_markStaying 6 = .ok (.iload_n 2, 1) := by decide +kernel
theorem dX2_markStaying_7 : decode cX2_markStaying 7 = .ok (.istore 5, 2) := by decide +kernel
theorem dX2_markStaying_9 : decode cX2_markStaying 9 = .ok (.iload 5, 2) := by decide +kernel
theorem dX2_markStaying_11 : decode cX2_markStaying 11 = .ok (.iload_n 3, 1) := by decide +kernel
theorem dX2_markStaying_12 : decode cX2_markStaying 12 = .ok (.if_icmp .gt 17, 3) := by decide +kernel
theorem dX2_markStaying_15 : decode cX2_markStaying 15 = .ok (.aload_n 0, 1) := by decide +kernel
theorem dX2_markStaying_16 : decode cX2_markStaying 16 = .ok (.getfield 48, 3) := by decide +kernel
theorem dX2_markStaying_19 : decode cX2_markStaying 19 = .ok (.iload 5, 2) := by decide +kernel
theorem dX2_markStaying_21 : decode cX2_markStaying 21 = .ok (.iconst 0, 1) := by decide +kernel
theorem dX2_markStaying_22 : decode cX2_markStaying 22 = .ok (.bastore, 1) := by decide +kernel
theorem dX2_markStaying_23 : decode cX2_markStaying 23 = .ok (.iinc 5 1, 3) := by decide +kernel
theorem dX2_markStaying_26 : decode cX2_markStaying 26 = .ok (.goto (-17), 3) := by decide +kernel
theorem dX2_markStaying_29 : decode cX2_markStaying 29 = .ok (.aload_n 0, 1) := by decide +kernel
theorem dX2_markStaying_30 : decode cX2_markStaying 30 = .ok (.getfield 48, 3) := by decide +kernel
theorem dX2_markStaying_33 : decode cX2_markStaying 33 = .ok (.iload_n 2, 1) := by decide +kernel
theorem dX2_markStaying_34 : decode cX2_markStaying 34 = .ok (.iconst 1, 1) := by decide +kernel
theorem dX2_markStaying_35 : decode cX2_markStaying 35 = .ok (.bastore, 1) := by decide +kernel
theorem dX2_markStaying_36 : decode cX2_markStaying 36 = .ok (.aload_n 0, 1) := by decide +kernel
theorem dX2_markStaying_37 : decode cX2_markStaying 37 = .ok (.getfield 48, 3) := by decide +kernel
theorem dX2_markStaying_40 : decode cX2_markStaying 40 = .ok (.iload_n 3, 1) := by decide +kernel
theorem dX2_markStaying_41 : decode cX2_markStaying 41 = .ok (.iconst 1, 1) := by decide +kernel
theorem dX2_markStaying_42 : decode cX2_markStaying 42 = .ok (.bastore, 1) := by decide +kernel
theorem dX2_markStaying_43 : decode cX2_markStaying 43 = .ok (.iload_n 2, 1) := by decide +kernel
theorem dX2_markStaying_44 : decode cX2_markStaying 44 = .ok (.istore 5, 2) := by decide +kernel
theorem dX2_markStaying_46 : decode cX2_markStaying 46 = .ok (.iconst 1, 1) := by decide +kernel
theorem dX2_markStaying_47 : decode cX2_markStaying 47 = .ok (.istore 6, 2) := by decide +kernel
theorem dX2_markStaying_49 : decode cX2_markStaying 49 = .ok (.aload_n 0, 1) := by decide +kernel
theorem dX2_markStaying_50 : decode cX2_markStaying 50 = .ok (.getfield 52, 3) := by decide +kernel
theorem dX2_markStaying_53 : decode cX2_markStaying 53 = .ok (.iconst 0, 1) := by decide +kernel
theorem dX2_markStaying_54 : decode cX2_markStaying 54 = .ok (.iload_n 3, 1) := by decide +kernel
theorem dX2_markStaying_55 : decode cX2_markStaying 55 = .ok (.iastore, 1) := by decide +kernel
theorem dX2_markStaying_56 : decode cX2_markStaying 56 = .ok (.iconst 0, 1) := by decide +kernel
theorem dX2_markStaying_57 : decode cX2_markStaying 57 = .ok (.istore 7, 2) := by decide +kernel
theorem dX2_markStaying_59 : decode cX2_markStaying 59 = .ok (.iload 6, 2) := by decide +kernel
theorem dX2_markStaying_61 : decode cX2_markStaying 61 = .ok (.ifCond .le 90, 3) := by decide +kernel
theorem dX2_markStaying_64 : decode cX2_markStaying 64 = .ok (.iload 6, 2) := by decide +kernel
theorem dX2_markStaying_66 : decode cX2_markStaying 66 = .ok (.aload_n 0, 1) := by decide +kernel
theorem dX2_markStaying_67 : decode cX2_markStaying 67 = .ok (.getfield 52, 3) := by decide +kernel
theorem dX2_markStaying_70 : decode cX2_markStaying 70 = .ok (.arraylength, 1) := by decide +kernel
theorem dX2_markStaying_71 : decode cX2_markStaying 71 = .ok (.if_icmp .ge 80, 3) := by decide +kernel
theorem dX2_markStaying_74 : decode cX2_markStaying 74 = .ok (.iload 7, 2) := by decide +kernel
theorem dX2_markStaying_76 : decode cX2_markStaying 76 = .ok (.iconst 2, 1) := by decide +kernel
theorem dX2_markStaying_77 : decode cX2_markStaying 77 = .ok (.aload_n 0, 1) := by decide +kernel
theorem dX2_markStaying_78 : decode cX2_markStaying 78 = .ok (.getfield 52, 3) := by decide +kernel
theorem dX2_markStaying_81 : decode cX2_markStaying 81 = .ok (.arraylength, 1) := by decide +kernel
theorem dX2_markStaying_82 : decode cX2_markStaying 82 = .ok (.imul, 1) := by decide +kernel
theorem dX2_markStaying_83 : decode cX2_markStaying 83 = .ok (.if_icmp .ge 68, 3) := by decide +kernel
theorem dX2_markStaying_86 : decode cX2_markStaying 86 = .ok (.aload_n 0, 1) := by decide +kernel
theorem dX2_markStaying_87 : decode cX2_markStaying 87 = .ok (.getfield 52, 3) := by decide +kernel
theorem dX2_markStaying_90 : decode cX2_markStaying 90 = .ok (.iload 6, 2) := by decide +kernel
theorem dX2_markStaying_92 : decode cX2_markStaying 92 = .ok (.iconst 1, 1) := by decide +kernel
theorem dX2_markStaying_93 : decode cX2_markStaying 93 = .ok (.isub, 1) := by decide +kernel
theorem dX2_markStaying_94 : decode cX2_markStaying 94 = .ok (.iaload, 1) := by decide +kernel
theorem dX2_markStaying_95 : decode cX2_markStaying 95 = .ok (.istore 8, 2) := by decide +kernel
theorem dX2_markStaying_97 : decode cX2_markStaying 97 = .ok (.aload_n 1, 1) := by decide +kernel
theorem dX2_markStaying_98 : decode cX2_markStaying 98 = .ok (.iload 5, 2) := by decide +kernel
theorem dX2_markStaying_100 : decode cX2_markStaying 100 = .ok (.iload 8, 2) := by decide +kernel
theorem dX2_markStaying_102 : decode cX2_markStaying 102 = .ok (.iload 4, 2) := by decide +kernel
theorem dX2_markStaying_104 : decode cX2_markStaying 104 = .ok (.invokestatic 208, 3) := by decide +kernel
theorem dX2_markStaying_107 : decode cX2_markStaying 107 = .ok (.istore 9, 2) := by decide +kernel
theorem dX2_markStaying_109 : decode cX2_markStaying 109 = .ok (.iload 9, 2) := by decide +kernel
theorem dX2_markStaying_111 : decode cX2_markStaying 111 = .ok (.iconst (-1), 1) := by decide +kernel
theorem dX2_markStaying_112 : decode cX2_markStaying 112 = .ok (.if_icmp .ne 13, 3) := by decide +kernel
theorem dX2_markStaying_115 : decode cX2_markStaying 115 = .ok (.iload 8, 2) := by decide +kernel
theorem dX2_markStaying_117 : decode cX2_markStaying 117 = .ok (.istore 5, 2) := by decide +kernel
theorem dX2_markStaying_119 : decode cX2_markStaying 119 = .ok (.iinc 6 (-1), 3) := by decide +kernel
theorem dX2_markStaying_122 : decode cX2_markStaying 122 = .ok (.goto 23, 3) := by decide +kernel
theorem dX2_markStaying_125 : decode cX2_markStaying 125 = .ok (.aload_n 0, 1) := by decide +kernel
theorem dX2_markStaying_126 : decode cX2_markStaying 126 = .ok (.getfield 48, 3) := by decide +kernel
theorem dX2_markStaying_129 : decode cX2_markStaying 129 = .ok (.iload 9, 2) := by decide +kernel
theorem dX2_markStaying_131 : decode cX2_markStaying 131 = .ok (.iconst 1, 1) := by decide +kernel
theorem dX2_markStaying_132 : decode cX2_markStaying 132 = .ok (.bastore, 1) := by decide +kernel
theorem dX2_markStaying_133 : decode cX2_markStaying 133 = .ok (.aload_n 0, 1) := by decide +kernel
theorem dX2_markStaying_134 : decode cX2_markStaying 134 = .ok (.getfield 52, 3) := by decide +kernel
theorem dX2_markStaying_137 : decode cX2_markStaying 137 = .ok (.iload 6, 2) := by decide +kernel
theorem dX2_markStaying_139 : decode cX2_markStaying 139 = .ok (.iload 9, 2) := by decide +kernel
theorem dX2_markStaying_141 : decode cX2_markStaying 141 = .ok (.iastore, 1) := by decide +kernel
theorem dX2_markStaying_142 : decode cX2_markStaying 142 = .ok (.iinc 6 1, 3) := by decide +kernel
theorem dX2_markStaying_145 : decode cX2_markStaying 145 = .ok (.iinc 7 1, 3) := by decide +kernel
theorem dX2_markStaying_148 : decode cX2_markStaying 148 = .ok (.goto (-89), 3) := by decide +kernel
theorem dX2_markStaying_151 : decode cX2_markStaying 151 = .ok (.return_, 1) := by decide +kernel
abbrev M_X2_markStaying : MRec := (yX2_markStaying, cX2_markStaying, 10, none, [])
theorem m_X2_markStaying : en_M M_X2_markStaying 4 := ⟨t_2205, t_12, ⟨by decide +kernel, by decide +kernel⟩, by decide +kernel, by decide +kernel, by decide +kernel⟩
theorem dX2_thinRow_0 : decode cX2_thinRow 0 = .ok (.aload_n 2, 1) := by decide +kernel
theorem dX2_thinRow_1 : decode cX2_thinRow 1 = .ok (.getfield 55, 3) := by decide +kernel
theorem dX2_thinRow_4 : decode cX2_thinRow 4 = .ok (.istore 6, 2) := by decide +kernel
theorem dX2_thinRow_6 : decode cX2_thinRow 6 = .ok (.aload_n 0, 1) := by decide +kernel
theorem dX2_thinRow_7 : decode cX2_thinRow 7 = .ok (.aload_n 1, 1) := by decide +kernel
theorem dX2_thinRow_8 : decode cX2_thinRow 8 = .ok (.iload_n 3, 1) := by decide +kernel
theorem dX2_thinRow_9 : decode cX2_thinRow 9 = .ok (.iload_n 3, 1) := by decide +kernel
theorem dX2_thinRow_10 : decode cX2_thinRow 10 = .ok (.iload 4, 2) := by decide +kernel
theorem dX2_thinRow_12 : decode cX2_thinRow 12 = .ok (.iadd, 1) := by decide +kernel
theorem dX2_thinRow_13 : decode cX2_thinRow 13 = .ok (.iconst 1, 1) := by decide +kernel
theorem dX2_thinRow_14 : decode cX2_thinRow 14 = .ok (.isub, 1) := by decide +kernel
theorem dX2_thinRow_15 : decode cX2_thinRow 15 = .ok (.iload 5, 2) := by decide +kernel
theorem dX2_thinRow_17 : decode cX2_thinRow 17 = .ok (.invokevirtual 204, 3) := by decide +kernel
theorem dX2_thinRow_20 : decode cX2_thinRow 20 = .ok (.iload_n 3, 1) := by decide +kernel
theorem dX2_thinRow_21 : decode cX2_thinRow 21 = .ok (.istore 7, 2) := by decide +kernel
theorem dX2_thinRow_23 : decode cX2_thinRow 23 = .ok (.iload 7, 2) := by decide +kernel
theorem dX2_thinRow_25 : decode cX2_thinRow 25 = .ok (.iload_n 3, 1) := by decide +kernel
theorem dX2_thinRow_26 : decode cX2_thinRow 26 = .ok (.iload 4, 2) := by decide +kernel
theorem dX2_thinRow_28 : decode cX2_thinRow 28 = .ok (.iadd, 1) := by decide +kernel
theorem dX2_thinRow_29 : decode cX2_thinRow 29 = .ok (.if_icmp .ge 38, 3) := by decide +kernel
theorem dX2_thinRow_32 : decode cX2_thinRow 32 = .ok (.aload_n 0, 1) := by decide +kernel
theorem dX2_thinRow_33 : decode cX2_thinRow 33 = .ok (.getfield 48, 3) := by decide +kernel
theorem dX2_thinRow_36 : decode cX2_thinRow 36 = .ok (.iload 7, 2) := by decide +kernel
theorem dX2_thinRow_38 : decode cX2_thinRow 38 = .ok (.baload, 1) := by decide +kernel
theorem dX2_thinRow_39 : decode cX2_thinRow 39 = .ok (.ifCond .eq 22, 3) := by decide +kernel
theorem dX2_thinRow_42 : decode cX2_thinRow 42 = .ok (.aload_n 2, 1) := by decide +kernel
theorem dX2_thinRow_43 : decode cX2_thinRow 43 = .ok (.aload_n 1, 1) := by decide +kernel
theorem dX2_thinRow_44 : decode cX2_thinRow 44 = .ok (.getfield 59, 3) := by decide +kernel
theorem dX2_thinRow_47 : decode cX2_thinRow 47 = .ok (.iload 7, 2) := by decide +kernel
theorem dX2_thinRow_49 : decode cX2_thinRow 49 = .ok (.iaload, 1) := by decide +kernel
theorem dX2_thinRow_50 : decode cX2_thinRow 50 = .ok (.aload_n 1, 1) := by decide +kernel
theorem dX2_thinRow_51 : decode cX2_thinRow 51 = .ok (.getfield 62, 3) := by decide +kernel
theorem dX2_thinRow_54 : decode cX2_thinRow 54 = .ok (.iload 7, 2) := by decide +kernel
theorem dX2_thinRow_56 : decode cX2_thinRow 56 = .ok (.iaload, 1) := by decide +kernel
theorem dX2_thinRow_57 : decode cX2_thinRow 57 = .ok (.invokevirtual 126, 3) := by decide +kernel
theorem dX2_thinRow_60 : decode cX2_thinRow 60 = .ok (.pop, 1) := by decide +kernel
theorem dX2_thinRow_61 : decode cX2_thinRow 61 = .ok (.iinc 7 1, 3) := by decide +kernel
theorem dX2_thinRow_64 : decode cX2_thinRow 64 = .ok (.goto (-41), 3) := by decide +kernel
theorem dX2_thinRow_67 : decode cX2_thinRow 67 = .ok (.aload_n 2, 1) := by decide +kernel
theorem dX2_thinRow_68 : decode cX2_thinRow 68 = .ok (.getfield 55, 3) := by decide +kernel
theorem dX2_thinRow_71 : decode cX2_thinRow 71 = .ok (.iload 6, 2) := by decide +kernel
theorem dX2_thinRow_73 : decode cX2_thinRow 73 = .ok (.isub, 1) := by decide +kernel
theorem dX2_thinRow_74 : decode cX2_thinRow 74 = .ok (.ireturn, 1) := by decide +kernel
abbrev M_X2_thinRow : MRec := (yX2_thinRow, cX2_thinRow, 8, (some Jvm.ClassFile.FieldType.int), [])
theorem m_X2_thinRow : en_M M_X2_thinRow 5 := ⟨t_2201, t_12, ⟨by decide +kernel, by decide +kernel⟩, by decide +kernel, by decide +kernel, by decide +kernel⟩
theorem dX2_thin_0 : decode cX2_thin 0 = .ok (.aload_n 2, 1) := by decide +kernel
theorem dX2_thin_1 : decode cX2_thin 1 = .ok (.invokevirtual 115, 3) := by decide +kernel
theorem dX2_thin_4 : decode cX2_thin 4 = .ok (.iconst 0, 1) := by decide +kernel
theorem dX2_thin_5 : decode cX2_thin 5 = .ok (.istore 4, 2) := by decide +kernel
theorem dX2_thin_7 : decode cX2_thin 7 = .ok (.iconst 0, 1) := by decide +kernel
theorem dX2_thin_8 : decode cX2_thin 8 = .ok (.istore 5, 2) := by decide +kernel
theorem dX2_thin_10 : decode cX2_thin 10 = .ok (.iload 5, 2) := by decide +kernel
theorem dX2_thin_12 : decode cX2_thin 12 = .ok (.iconst 1, 1) := by decide +kernel
theorem dX2_thin_13 : decode cX2_thin 13 = .ok (.iadd, 1) := by decide +kernel
theorem dX2_thin_14 : decode cX2_thin 14 = .ok (.aload_n 1, 1) := by decide +kernel
theorem dX2_thin_15 : decode cX2_thin 15 = .ok (.getfield 183, 3) := by decide +kernel
theorem dX2_thin_18 : decode cX2_thin 18 = .ok (.if_icmp .ge 119, 3) := by decide +kernel
theorem dX2_thin_21 : decode cX2_thin 21 = .ok (.aload_n 2, 1) := by decide +kernel
theorem dX2_thin_22 : decode cX2_thin 22 = .ok (.aload_n 1, 1) := by decide +kernel
theorem dX2_thin_23 : decode cX2_thin 23 = .ok (.getfield 186, 3) := by decide +kernel
theorem dX2_thin_26 : decode cX2_thin 26 = .ok (.iload 5, 2) := by decide +kernel
theorem dX2_thin_28 : decode cX2_thin 28 = .ok (.iaload, 1) := by decide +kernel
theorem dX2_thin_29 : decode cX2_thin 29 = .ok (.aload_n 1, 1) := by decide +kernel
theorem dX2_thin_30 : decode cX2_thin 30 = .ok (.getfield 186, 3) := by decide +kernel
theorem dX2_thin_33 : decode cX2_thin 33 = .ok (.iload 5, 2) := by decide +kernel
theorem dX2_thin_35 : decode cX2_thin 35 = .ok (.iconst 1, 1) := by decide +kernel
theorem dX2_thin_36 : decode cX2_thin 36 = .ok (.iadd, 1) := by decide +kernel
theorem dX2_thin_37 : decode cX2_thin 37 = .ok (.iaload, 1) := by decide +kernel
theorem dX2_thin_38 : decode cX2_thin 38 = .ok (.invokevirtual 118, 3) := by decide +kernel
theorem dX2_thin_41 : decode cX2_thin 41 = .ok (.pop, 1) := by decide +kernel
theorem dX2_thin_42 : decode cX2_thin 42 = .ok (.iconst 0, 1) := by decide +kernel
theorem dX2_thin_43 : decode cX2_thin 43 = .ok (.istore 6, 2) := by decide +kernel
theorem dX2_thin_45 : decode cX2_thin 45 = .ok (.iload 6, 2) := by decide +kernel
theorem dX2_thin_47 : decode cX2_thin 47 = .ok (.aload_n 1, 1) := by decide +kernel
theorem dX2_thin_48 : decode cX2_thin 48 = .ok (.iload 5, 2) := by decide +kernel
theorem dX2_thin_50 : decode cX2_thin 50 = .ok (.invokevirtual 189, 3) := by decide +kernel
theorem dX2_thin_53 : decode cX2_thin 53 = .ok (.if_icmp .ge 73, 3) := by decide +kernel
theorem dX2_thin_56 : decode cX2_thin 56 = .ok (.aload_n 1, 1) := by decide +kernel
theorem dX2_thin_57 : decode cX2_thin 57 = .ok (.iload 5, 2) := by decide +kernel
theorem dX2_thin_59 : decode cX2_thin 59 = .ok (.iload 6, 2) := by decide +kernel
theorem dX2_thin_61 : decode cX2_thin 61 = .ok (.invokevirtual 193, 3) := by decide +kernel
theorem dX2_thin_64 : decode cX2_thin 64 = .ok (.istore 7, 2) := by decide +kernel
theorem dX2_thin_66 : decode cX2_thin 66 = .ok (.aload_n 0, 1) := by decide +kernel
theorem dX2_thin_67 : decode cX2_thin 67 = .ok (.aload_n 1, 1) := by decide +kernel
theorem dX2_thin_68 : decode cX2_thin 68 = .ok (.aload_n 2, 1) := by decide +kernel
theorem dX2_thin_69 : decode cX2_thin 69 = .ok (.iload 4, 2) := by decide +kernel
theorem dX2_thin_71 : decode cX2_thin 71 = .ok (.iload 7, 2) := by decide +kernel
theorem dX2_thin_73 : decode cX2_thin 73 = .ok (.iload_n 3, 1) := by decide +kernel
theorem dX2_thin_74 : decode cX2_thin 74 = .ok (.invokevirtual 197, 3) := by decide +kernel
theorem dX2_thin_77 : decode cX2_thin 77 = .ok (.istore 8, 2) := by decide +kernel
theorem dX2_thin_79 : decode cX2_thin 79 = .ok (.aload_n 1, 1) := by decide +kernel
theorem dX2_thin_80 : decode cX2_thin 80 = .ok (.getfield 186, 3) := by decide +kernel
theorem dX2_thin_83 : decode cX2_thin 83 = .ok (.iload 5, 2) := by decide +kernel
theorem dX2_thin_85 : decode cX2_thin 85 = .ok (.iaload, 1) := by decide +kernel
theorem dX2_thin_86 : decode cX2_thin 86 = .ok (.iconst 3, 1) := by decide +kernel
theorem dX2_thin_87 : decode cX2_thin 87 = .ok (.if_icmp .ne 13, 3) := by decide +kernel
theorem dX2_thin_90 : decode cX2_thin 90 = .ok (.aload_n 2, 1) := by decide +kernel
theorem dX2_thin_91 : decode cX2_thin 91 = .ok (.iload 8, 2) := by decide +kernel
theorem dX2_thin_93 : decode cX2_thin 93 = .ok (.invokevirtual 122, 3) := by decide +kernel
theorem dX2_thin_96 : decode cX2_thin 96 = .ok (.pop, 1) := by decide +kernel
theorem dX2_thin_97 : decode cX2_thin 97 = .ok (.goto 16, 3) := by decide +kernel
theorem dX2_thin_100 : decode cX2_thin 100 = .ok (.aload_n 2, 1) := by decide +kernel
theorem dX2_thin_101 : decode cX2_thin 101 = .ok (.getfield 186, 3) := by decide +kernel
theorem dX2_thin_104 : decode cX2_thin 104 = .ok (.aload_n 2, 1) := by decide +kernel
theorem dX2_thin_105 : decode cX2_thin 105 = .ok (.getfield 183, 3) := by decide +kernel
theorem dX2_thin_108 : decode cX2_thin 108 = .ok (.iconst 1, 1) := by decide +kernel
theorem dX2_thin_109 : decode cX2_thin 109 = .ok (.isub, 1) := by decide +kernel
theorem dX2_thin_110 : decode cX2_thin 110 = .ok (.iload 8, 2) := by decide +kernel
theorem dX2_thin_112 : decode cX2_thin 112 = .ok (.iastore, 1) := by decide +kernel
theorem dX2_thin_113 : decode cX2_thin 113 = .ok (.iload 4, 2) := by decide +kernel
theorem dX2_thin_115 : decode cX2_thin 115 = .ok (.iload 7, 2) := by decide +kernel
theorem dX2_thin_117 : decode cX2_thin 117 = .ok (.iadd, 1) := by decide +kernel
theorem dX2_thin_118 : decode cX2_thin 118 = .ok (.istore 4, 2) := by decide +kernel
theorem dX2_thin_120 : decode cX2_thin 120 = .ok (.iinc 6 1, 3) := by decide +kernel
theorem dX2_thin_123 : decode cX2_thin 123 = .ok (.goto (-78), 3) := by decide +kernel
theorem dX2_thin_126 : decode cX2_thin 126 = .ok (.aload_n 1, 1) := by decide +kernel
theorem dX2_thin_127 : decode cX2_thin 127 = .ok (.iload 5, 2) := by decide +kernel
theorem dX2_thin_129 : decode cX2_thin 129 = .ok (.invokevirtual 201, 3) := by decide +kernel
theorem dX2_thin_132 : decode cX2_thin 132 = .ok (.istore 5, 2) := by decide +kernel
theorem dX2_thin_134 : decode cX2_thin 134 = .ok (.goto (-124), 3) := by decide +kernel
theorem dX2_thin_137 : decode cX2_thin 137 = .ok (.aload_n 1, 1) := by decide +kernel
theorem dX2_thin_138 : decode cX2_thin 138 = .ok (.getfield 55, 3) := by decide +kernel
theorem dX2_thin_141 : decode cX2_thin 141 = .ok (.aload_n 2, 1) := by decide +kernel
theorem dX2_thin_142 : decode cX2_thin 142 = .ok (.getfield 55, 3) := by decide +kernel
theorem dX2_thin_145 : decode cX2_thin 145 = .ok (.isub, 1) := by decide +kernel
theorem dX2_thin_146 : decode cX2_thin 146 = .ok (.ireturn, 1) := by decide +kernel
abbrev M_X2_thin : MRec := (yX2_thin, cX2_thin, 9, (some Jvm.ClassFile.FieldType.int), [])
theorem m_X2_thin : en_M M_X2_thin 3 := ⟨t_2195, t_12, ⟨by decide +kernel, by decide +kernel⟩, by decide +kernel, by decide +kernel, by decide +kernel⟩
theorem dX11_simplify_0 : decode cX11_simplify 0 = .ok (.aload_n 0, 1) := by decide +kernel
theorem dX11_simplify_1 : decode cX11_simplify 1 = .ok (.iload_n 1, 1) := by decide +kernel
theorem dX11_simplify_2 : decode cX11_simplify 2 = .ok (.invokevirtual 140, 3) := by decide +kernel
theorem dX11_simplify_5 : decode cX11_simplify 5 = .ok (.astore 4, 2) := by decide +kernel
theorem dX11_simplify_7 : decode cX11_simplify 7 = .ok (.aload_n 0, 1) := by decide +kernel
theorem dX11_simplify_8 : decode cX11_simplify 8 = .ok (.iload_n 2, 1) := by decide +kernel
theorem dX11_simplify_9 : decode cX11_simplify 9 = .ok (.invokevirtual 140, 3) := by decide +kernel
theorem dX11_simplify_12 : decode cX11_simplify 12 = .ok (.astore 5, 2) := by decide +kernel
theorem dX11_simplify_14 : decode cX11_simplify 14 = .ok (.aload 4, 2) := by decide +kernel
theorem dX11_simplify_16 : decode cX11_simplify 16 = .ok (.invokestatic 172, 3) := by decide +kernel
theorem dX11_simplify_19 : decode cX11_simplify 19 = .ok (.iload_n 3, 1) := by decide +kernel
theorem dX11_simplify_20 : decode cX11_simplify 20 = .ok (.ifCond .lt 10, 3) := by decide +kernel
theorem dX11_simplify_23 : decode cX11_simplify 23 = .ok (.iload_n 3, 1) := by decide +kernel
theorem dX11_simplify_24 : decode cX11_simplify 24 = .ok (.ldc_w 292, 3) := by decide +kernel
theorem dX11_simplify_27 : decode cX11_simplify 27 = .ok (.if_icmp .le 11, 3) := by decide +kernel
theorem dX11_simplify_30 : decode cX11_simplify 30 = .ok (.new 116, 3) := by decide +kernel
theorem dX11_simplify_33 : decode cX11_simplify 33 = .ok (.dup, 1) := by decide +kernel
theorem dX11_simplify_34 : decode cX11_simplify 34 = .ok (.invokespecial 118, 3) := by decide +kernel
theorem dX11_simplify_37 : decode cX11_simplify 37 = .ok (.athrow, 1) := by decide +kernel
theorem dX11_simplify_38 : decode cX11_simplify 38 = .ok (.aload_n 0, 1) := by decide +kernel
theorem dX11_simplify_39 : decode cX11_simplify 39 = .ok (.getfield 83, 3) := by decide +kernel
theorem dX11_simplify_42 : decode cX11_simplify 42 = .ok (.aload 4, 2) := by decide +kernel
theorem dX11_simplify_44 : decode cX11_simplify 44 = .ok (.aload_n 0, 1) := by decide +kernel
theorem dX11_simplify_45 : decode cX11_simplify 45 = .ok (.getfield 16, 3) := by decide +kernel
theorem dX11_simplify_48 : decode cX11_simplify 48 = .ok (.iload_n 3, 1) := by decide +kernel
theorem dX11_simplify_49 : decode cX11_simplify 49 = .ok (.invokevirtual 293, 3) := by decide +kernel
theorem dX11_simplify_52 : decode cX11_simplify 52 = .ok (.istore 6, 2) := by decide +kernel
theorem dX11_simplify_54 : decode cX11_simplify 54 = .ok (.aload 5, 2) := by decide +kernel
theorem dX11_simplify_56 : decode cX11_simplify 56 = .ok (.aload_n 0, 1) := by decide +kernel
theorem dX11_simplify_57 : decode cX11_simplify 57 = .ok (.getfield 16, 3) := by decide +kernel
theorem dX11_simplify_60 : decode cX11_simplify 60 = .ok (.invokevirtual 188, 3) := by decide +kernel
theorem dX11_simplify_63 : decode cX11_simplify 63 = .ok (.iload 6, 2) := by decide +kernel
theorem dX11_simplify_65 : decode cX11_simplify 65 = .ok (.ireturn, 1) := by decide +kernel
abbrev M_X11_simplify : MRec := (yX11_simplify, cX11_simplify, 7, (some Jvm.ClassFile.FieldType.int), [])
theorem m_X11_simplify : en_M M_X11_simplify 3 := ⟨t_2190, t_1, ⟨by decide +kernel, by decide +kernel⟩, by decide +kernel, by decide +kernel, by decide +kernel⟩
theorem dX6_twiceAround_0 : decode cX6_twiceAround 0 = .ok (.lconst 0, 1) := by decide +kernel
theorem dX6_twiceAround_1 : decode cX6_twiceAround 1 = .ok (.lstore_n 3, 1) := by decide +kernel
theorem dX6_twiceAround_2 : decode cX6_twiceAround 2 = .ok (.iconst 0, 1) := by decide +kernel
theorem dX6_twiceAround_3 : decode cX6_twiceAround 3 = .ok (.istore 5, 2) := by decide +kernel
theorem dX6_twiceAround_5 : decode cX6_twiceAround 5 = .ok (.iload 5, 2) := by decide +kernel
theorem dX6_twiceAround_7 : decode cX6_twiceAround 7 = .ok (.iload_n 2, 1) := by decide +kernel
theorem dX6_twiceAround_8 : decode cX6_twiceAround 8 = .ok (.if_icmp .ge 71, 3) := by decide +kernel
theorem dX6_twiceAround_11 : decode cX6_twiceAround 11 = .ok (.iload_n 1, 1) := by decide +kernel
theorem dX6_twiceAround_12 : decode cX6_twiceAround 12 = .ok (.iload 5, 2) := by decide +kernel
theorem dX6_twiceAround_14 : decode cX6_twiceAround 14 = .ok (.iadd, 1) := by decide +kernel
theorem dX6_twiceAround_15 : decode cX6_twiceAround 15 = .ok (.istore 6, 2) := by decide +kernel
theorem dX6_twiceAround_17 : decode cX6_twiceAround 17 = .ok (.iload 5, 2) := by decide +kernel
theorem dX6_twiceAround_19 : decode cX6_twiceAround 19 = .ok (.iconst 1, 1) := by decide +kernel
theorem dX6_twiceAround_20 : decode cX6_twiceAround 20 = .ok (.iadd, 1) := by decide +kernel
theorem dX6_twiceAround_21 : decode cX6_twiceAround 21 = .ok (.iload_n 2, 1) := by decide +kernel
theorem dX6_twiceAround_22 : decode cX6_twiceAround 22 = .ok (.if_icmp .ge 10, 3) := by decide +kernel
theorem dX6_twiceAround_25 : decode cX6_twiceAround 25 = .ok (.iload 6, 2) := by decide +kernel
theorem dX6_twiceAround_27 : decode cX6_twiceAround 27 = .ok (.iconst 1, 1) := by decide +kernel
theorem dX6_twiceAround_28 : decode cX6_twiceAround 28 = .ok (.iadd, 1) := by decide +kernel
theorem dX6_twiceAround_29 : decode cX6_twiceAround 29 = .ok (.goto 4, 3) := by decide +kernel
theorem dX6_twiceAround_32 : decode cX6_twiceAround 32 = .ok (.iload_n 1, 1) := by decide +kernel
theorem dX6_twiceAround_33 : decode cX6_twiceAround 33 = .ok (.istore 7, 2) := by decide +kernel
theorem dX6_twiceAround_35 : decode cX6_twiceAround 35 = .ok (.lload_n 3, 1) := by decide +kernel
theorem dX6_twiceAround_36 : decode cX6_twiceAround 36 = .ok (.aload_n 0, 1) := by decide +kernel
theorem dX6_twiceAround_37 : decode cX6_twiceAround 37 = .ok (.getfield 15, 3) := by decide +kernel
theorem dX6_twiceAround_40 : decode cX6_twiceAround 40 = .ok (.iload 6, 2) := by decide +kernel
theorem dX6_twiceAround_42 : decode cX6_twiceAround 42 = .ok (.iaload, 1) := by decide +kernel
theorem dX6_twiceAround_43 : decode cX6_twiceAround 43 = .ok (.i2l, 1) := by decide +kernel
theorem dX6_twiceAround_44 : decode cX6_twiceAround 44 = .ok (.aload_n 0, 1) := by decide +kernel
theorem dX6_twiceAround_45 : decode cX6_twiceAround 45 = .ok (.getfield 18, 3) := by decide +kernel
theorem dX6_twiceAround_48 : decode cX6_twiceAround 48 = .ok (.iload 7, 2) := by decide +kernel
theorem dX6_twiceAround_50 : decode cX6_twiceAround 50 = .ok (.iaload, 1) := by decide +kernel
theorem dX6_twiceAround_51 : decode cX6_twiceAround 51 = .ok (.i2l, 1) := by decide +kernel
theorem dX6_twiceAround_52 : decode cX6_twiceAround 52 = .ok (.lmul, 1) := by decide +kernel
theorem dX6_twiceAround_53 : decode cX6_twiceAround 53 = .ok (.aload_n 0, 1) := by decide +kernel
theorem dX6_twiceAround_54 : decode cX6_twiceAround 54 = .ok (.getfield 15, 3) := by decide +kernel
theorem dX6_twiceAround_57 : decode cX6_twiceAround 57 = .ok (.iload 7, 2) := by decide +kernel
theorem dX6_twiceAround_59 : decode cX6_twiceAround 59 = .ok (.iaload, 1) := by decide +kernel
theorem dX6_twiceAround_60 : decode cX6_twiceAround 60 = .ok (.i2l, 1) := by decide +kernel
theorem dX6_twiceAround_61 : decode cX6_twiceAround 61 = .ok (.aload_n 0, 1) := by decide +kernel
theorem dX6_twiceAround_62 : decode cX6_twiceAround 62 = .ok (.getfield 18, 3) := by decide +kernel
theorem dX6_twiceAround_65 : decode cX6_twiceAround 65 = .ok (.iload 6, 2) := by decide +kernel
theorem dX6_twiceAround_67 : decode cX6_twiceAround 67 = .ok (.iaload, 1) := by decide +kernel
theorem dX6_twiceAround_68 : decode cX6_twiceAround 68 = .ok (.i2l, 1) := by decide +kernel
theorem dX6_twiceAround_69 : decode cX6_twiceAround 69 = .ok (.lmul, 1) := by decide +kernel
theorem dX6_twiceAround_70 : decode cX6_twiceAround 70 = .ok (.lsub, 1) := by decide +kernel
theorem dX6_twiceAround_71 : decode cX6_twiceAround 71 = .ok (.ladd, 1) := by decide +kernel
theorem dX6_twiceAround_72 : decode cX6_twiceAround 72 = .ok (.lstore_n 3, 1) := by decide +kernel
theorem dX6_twiceAround_73 : decode cX6_twiceAround 73 = .ok (.iinc 5 1, 3) := by decide +kernel
theorem dX6_twiceAround_76 : decode cX6_twiceAround 76 = .ok (.goto (-71), 3) := by decide +kernel
theorem dX6_twiceAround_79 : decode cX6_twiceAround 79 = .ok (.lload_n 3, 1) := by decide +kernel
theorem dX6_twiceAround_80 : decode cX6_twiceAround 80 = .ok (.lreturn, 1) := by decide +kernel
abbrev M_X6_twiceAround : MRec := (yX6_twiceAround, cX6_twiceAround, 8, (some Jvm.ClassFile.FieldType.long), [])
theorem m_X6_twiceAround : en_M M_X6_twiceAround 2 := ⟨t_2227, t_2, ⟨by decide +kernel, by decide +kernel⟩, by decide +kernel, by decide +kernel, by decide +kernel⟩
theorem dX11_area_0 : decode cX11_area 0 = .ok (.aload_n 0, 1) := by decide +kernel
theorem dX11_area_1 : decode cX11_area 1 = .ok (.iload_n 1, 1) := by decide +kernel
theorem dX11_area_2 : decode cX11_area 2 = .ok (.invokevirtual 140, 3) := by decide +kernel
theorem dX11_area_5 : decode cX11_area 5 = .ok (.astore_n 2, 1) := by decide +kernel
theorem dX11_area_6 : decode cX11_area 6 = .ok (.aload_n 2, 1) := by decide +kernel
theorem dX11_area_7 : decode cX11_area 7 = .ok (.invokestatic 172, 3) := by decide +kernel
theorem dX11_area_10 : decode cX11_area 10 = .ok (.lconst 0, 1) := by decide +kernel
theorem dX11_area_11 : decode cX11_area 11 = .ok (.lstore_n 3, 1) := by decide +kernel
theorem dX11_area_12 : decode cX11_area 12 = .ok (.iconst 0, 1) := by decide +kernel
theorem dX11_area_13 : decode cX11_area 13 = .ok (.istore 5, 2) := by decide +kernel
theorem dX11_area_15 : decode cX11_area 15 = .ok (.iconst 0, 1) := by decide +kernel
theorem dX11_area_16 : decode cX11_area 16 = .ok (.istore 6, 2) := by decide +kernel
theorem dX11_area_18 : decode cX11_area 18 = .ok (.iload 6, 2) := by decide +kernel
theorem dX11_area_20 : decode cX11_area 20 = .ok (.iconst 1, 1) := by decide +kernel
theorem dX11_area_21 : decode cX11_area 21 = .ok (.iadd, 1) := by decide +kernel
theorem dX11_area_22 : decode cX11_area 22 = .ok (.aload_n 2, 1) := by decide +kernel
theorem dX11_area_23 : decode cX11_area 23 = .ok (.getfield 195, 3) := by decide +kernel
theorem dX11_area_26 : decode cX11_area 26 = .ok (.if_icmp .ge 91, 3) := by decide +kernel
theorem dX11_area_29 : decode cX11_area 29 = .ok (.iconst 0, 1) := by decide +kernel
theorem dX11_area_30 : decode cX11_area 30 = .ok (.istore 7, 2) := by decide +kernel
theorem dX11_area_32 : decode cX11_area 32 = .ok (.iload 7, 2) := by decide +kernel
theorem dX11_area_34 : decode cX11_area 34 = .ok (.aload_n 2, 1) := by decide +kernel
theorem dX11_area_35 : decode cX11_area 35 = .ok (.iload 6, 2) := by decide +kernel
theorem dX11_area_37 : decode cX11_area 37 = .ok (.invokevirtual 240, 3) := by decide +kernel
theorem dX11_area_40 : decode cX11_area 40 = .ok (.if_icmp .ge 66, 3) := by decide +kernel
theorem dX11_area_43 : decode cX11_area 43 = .ok (.aload_n 2, 1) := by decide +kernel
theorem dX11_area_44 : decode cX11_area 44 = .ok (.iload 6, 2) := by decide +kernel
theorem dX11_area_46 : decode cX11_area 46 = .ok (.iload 7, 2) := by decide +kernel
theorem dX11_area_48 : decode cX11_area 48 = .ok (.invokevirtual 244, 3) := by decide +kernel
theorem dX11_area_51 : decode cX11_area 51 = .ok (.istore 8, 2) := by decide +kernel
theorem dX11_area_53 : decode cX11_area 53 = .ok (.aload_n 2, 1) := by decide +kernel
theorem dX11_area_54 : decode cX11_area 54 = .ok (.getfield 198, 3) := by decide +kernel
theorem dX11_area_57 : decode cX11_area 57 = .ok (.iload 6, 2) := by decide +kernel
theorem dX11_area_59 : decode cX11_area 59 = .ok (.iaload, 1) := by decide +kernel
theorem dX11_area_60 : decode cX11_area 60 = .ok (.iconst 3, 1) := by decide +kernel
theorem dX11_area_61 : decode cX11_area 61 = .ok (.if_icmp .ne 32, 3) := by decide +kernel
theorem dX11_area_64 : decode cX11_area 64 = .ok (.aload_n 2, 1) := by decide +kernel
theorem dX11_area_65 : decode cX11_area 65 = .ok (.iload 5, 2) := by decide +kernel
theorem dX11_area_67 : decode cX11_area 67 = .ok (.iload 8, 2) := by decide +kernel
theorem dX11_area_69 : decode cX11_area 69 = .ok (.invokevirtual 297, 3) := by decide +kernel
theorem dX11_area_72 : decode cX11_area 72 = .ok (.invokestatic 301, 3) := by decide +kernel
theorem dX11_area_75 : decode cX11_area 75 = .ok (.lstore 9, 2) := by decide +kernel
theorem dX11_area_77 : decode cX11_area 77 = .ok (.lload_n 3, 1) := by decide +kernel
theorem dX11_area_78 : decode cX11_area 78 = .ok (.iload 7, 2) := by decide +kernel
theorem dX11_area_80 : decode cX11_area 80 = .ok (.ifCond .ne 8, 3) := by decide +kernel
theorem dX11_area_83 : decode cX11_area 83 = .ok (.lload 9, 2) := by decide +kernel
theorem dX11_area_85 : decode cX11_area 85 = .ok (.goto 6, 3) := by decide +kernel
theorem dX11_area_88 : decode cX11_area 88 = .ok (.lload 9, 2) := by decide +kernel
theorem dX11_area_90 : decode cX11_area 90 = .ok (.lneg, 1) := by decide +kernel
theorem dX11_area_91 : decode cX11_area 91 = .ok (.ladd, 1) := by decide +kernel
theorem dX11_area_92 : decode cX11_area 92 = .ok (.lstore_n 3, 1) := by decide +kernel
theorem dX11_area_93 : decode cX11_area 93 = .ok (.iload 5, 2) := by decide +kernel
theorem dX11_area_95 : decode cX11_area 95 = .ok (.iload 8, 2) := by decide +kernel
theorem dX11_area_97 : decode cX11_area 97 = .ok (.iadd, 1) := by decide +kernel
theorem dX11_area_98 : decode cX11_area 98 = .ok (.istore 5, 2) := by decide +kernel
theorem dX11_area_100 : decode cX11_area 100 = .ok (.iinc 7 1, 3) := by decide +kernel
theorem dX11_area_103 : decode cX11_area 103 = .ok (.goto (-71), 3) := by decide +kernel
theorem dX11_area_106 : decode cX11_area 106 = .ok (.aload_n 2, 1) := by decide +kernel
theorem dX11_area_107 : decode cX11_area 107 = .ok (.iload 6, 2) := by decide +kernel
theorem dX11_area_109 : decode cX11_area 109 = .ok (.invokevirtual 251, 3) := by decide +kernel
theorem dX11_area_112 : decode cX11_area 112 = .ok (.istore 6, 2) := by decide +kernel
theorem dX11_area_114 : decode cX11_area 114 = .ok (.goto (-96), 3) := by decide +kernel
theorem dX11_area_117 : decode cX11_area 117 = .ok (.lload_n 3, 1) := by decide +kernel
theorem dX11_area_118 : decode cX11_area 118 = .ok (.lreturn, 1) := by decide +kernel
abbrev M_X11_area : MRec := (yX11_area, cX11_area, 11, (some Jvm.ClassFile.FieldType.long), [])
theorem m_X11_area : en_M M_X11_area 1 := ⟨t_2223, t_1, ⟨by decide +kernel, by decide +kernel⟩, by decide +kernel, by decide +kernel, by decide +kernel⟩
theorem dX6_putBox_0 : decode cX6_putBox 0 = .ok (.iconst 0, 1) := by decide +kernel
theorem dX6_putBox_1 : decode cX6_putBox 1 = .ok (.istore_n 2, 1) := by decide +kernel
theorem dX6_putBox_2 : decode cX6_putBox 2 = .ok (.iload_n 2, 1) := by decide +kernel
theorem dX6_putBox_3 : decode cX6_putBox 3 = .ok (.aload_n 0, 1) := by decide +kernel
theorem dX6_putBox_4 : decode cX6_putBox 4 = .ok (.getfield 25, 3) := by decide +kernel
theorem dX6_putBox_7 : decode cX6_putBox 7 = .ok (.if_icmp .ge 121, 3) := by decide +kernel
theorem dX6_putBox_10 : decode cX6_putBox 10 = .ok (.aload_n 1, 1) := by decide +kernel
theorem dX6_putBox_11 : decode cX6_putBox 11 = .ok (.iconst 0, 1) := by decide +kernel
theorem dX6_putBox_12 : decode cX6_putBox 12 = .ok (.iload_n 2, 1) := by decide +kernel
theorem dX6_putBox_13 : decode cX6_putBox 13 = .ok (.ifCond .ne 12, 3) := by decide +kernel
theorem dX6_putBox_16 : decode cX6_putBox 16 = .ok (.aload_n 0, 1) := by decide +kernel
theorem dX6_putBox_17 : decode cX6_putBox 17 = .ok (.getfield 15, 3) := by decide +kernel
theorem dX6_putBox_20 : decode cX6_putBox 20 = .ok (.iload_n 2, 1) := by decide +kernel
theorem dX6_putBox_21 : decode cX6_putBox 21 = .ok (.iaload, 1) := by decide +kernel
theorem dX6_putBox_22 : decode cX6_putBox 22 = .ok (.goto 15, 3) := by decide +kernel
theorem dX6_putBox_25 : decode cX6_putBox 25 = .ok (.aload_n 1, 1) := by decide +kernel
theorem dX6_putBox_26 : decode cX6_putBox 26 = .ok (.iconst 0, 1) := by decide +kernel
theorem dX6_putBox_27 : decode cX6_putBox 27 = .ok (.iaload, 1) := by decide +kernel
theorem dX6_putBox_28 : decode cX6_putBox 28 = .ok (.aload_n 0, 1) := by decide +kernel
theorem dX6_putBox_29 : decode cX6_putBox 29 = .ok (.getfield 15, 3) := by decide +kernel
theorem dX6_putBox_32 : decode cX6_putBox 32 = .ok (.iload_n 2, 1) := by decide +kernel
theorem dX6_putBox_33 : decode cX6_putBox 33 = .ok (.iaload, 1) := by decide +kernel
theorem dX6_putBox_34 : decode cX6_putBox 34 = .ok (.invokestatic 49, 3) := by decide +kernel
theorem dX6_putBox_37 : decode cX6_putBox 37 = .ok (.iastore, 1) := by decide +kernel
theorem dX6_putBox_38 : decode cX6_putBox 38 = .ok (.aload_n 1, 1) := by decide +kernel
theorem dX6_putBox_39 : decode cX6_putBox 39 = .ok (.iconst 1, 1) := by decide +kernel
theorem dX6_putBox_40 : decode cX6_putBox 40 = .ok (.iload_n 2, 1) := by decide +kernel
theorem dX6_putBox_41 : decode cX6_putBox 41 = .ok (.ifCond .ne 12, 3) := by decide +kernel
theorem dX6_putBox_44 : decode cX6_putBox 44 = .ok (.aload_n 0, 1) := by decide +kernel
theorem dX6_putBox_45 : decode cX6_putBox 45 = .ok (.getfield 18, 3) := by decide +kernel
theorem dX6_putBox_48 : decode cX6_putBox 48 = .ok (.iload_n 2, 1) := by decide +kernel
theorem dX6_putBox_49 : decode cX6_putBox 49 = .ok (.iaload, 1) := by decide +kernel
theorem dX6_putBox_50 : decode cX6_putBox 50 = .ok (.goto 15, 3) := by decide +kernel
theorem dX6_putBox_53 : decode cX6_putBox 53 = .ok (.aload_n 1, 1) := by decide +kernel
theorem dX6_putBox_54 : decode cX6_putBox 54 = .ok (.iconst 1, 1) := by decide +kernel
theorem dX6_putBox_55 : decode cX6_putBox 55 = .ok (.iaload, 1) := by decide +kernel
theorem dX6_putBox_56 : decode cX6_putBox 56 = .ok (.aload_n 0, 1) := by decide +kernel
theorem dX6_putBox_57 : decode cX6_putBox 57 = .ok (.getfield 18, 3) := by decide +kernel
theorem dX6_putBox_60 : decode cX6_putBox 60 = .ok (.iload_n 2, 1) := by decide +kernel
theorem dX6_putBox_61 : decode cX6_putBox 61 = .ok (.iaload, 1) := by decide +kernel
theorem dX6_putBox_62 : decode cX6_putBox 62 = .ok (.invokestatic 49, 3) := by decide +kernel
theorem dX6_putBox_65 : decode cX6_putBox 65 = .ok (.iastore, 1) := by decide +kernel
theorem dX6_putBox_66 : decode cX6_putBox 66 = .ok (.aload_n 1, 1) := by decide +kernel
theorem dX6_putBox_67 : decode cX6_putBox 67 = .ok (.iconst 2, 1) := by decide +kernel
theorem dX6_putBox_68 : decode cX6_putBox 68 = .ok (.iload_n 2, 1) := by decide +kernel
theorem dX6_putBox_69 : decode cX6_putBox 69 = .ok (.ifCond .ne 12, 3) := by decide +kernel
theorem dX6_putBox_72 : decode cX6_putBox 72 = .ok (.aload_n 0, 1) := by decide +kernel
theorem dX6_putBox_73 : decode cX6_putBox 73 = .ok (.getfield 15, 3) := by decide +kernel
theorem dX6_putBox_76 : decode cX6_putBox 76 = .ok (.iload_n 2, 1) := by decide +kernel
theorem dX6_putBox_77 : decode cX6_putBox 77 = .ok (.iaload, 1) := by decide +kernel
theorem dX6_putBox_78 : decode cX6_putBox 78 = .ok (.goto 15, 3) := by decide +kernel
theorem dX6_putBox_81 : decode cX6_putBox 81 = .ok (.aload_n 1, 1) := by decide +kernel
theorem dX6_putBox_82 : decode cX6_putBox 82 = .ok (.iconst 2, 1) := by decide +kernel
theorem dX6_putBox_83 : decode cX6_putBox 83 = .ok (.iaload, 1) := by decide +kernel
theorem dX6_putBox_84 : decode cX6_putBox 84 = .ok (.aload_n 0, 1) := by decide +kernel
theorem dX6_putBox_85 : decode cX6_putBox 85 = .ok (.getfield 15, 3) := by decide +kernel
theorem dX6_putBox_88 : decode cX6_putBox 88 = .ok (.iload_n 2, 1) := by decide +kernel
theorem dX6_putBox_89 : decode cX6_putBox 89 = .ok (.iaload, 1) := by decide +kernel
theorem dX6_putBox_90 : decode cX6_putBox 90 = .ok (.invokestatic 54, 3) := by decide +kernel
theorem dX6_putBox_93 : decode cX6_putBox 93 = .ok (.iastore, 1) := by decide +kernel
theorem dX6_putBox_94 : decode cX6_putBox 94 = .ok (.aload_n 1, 1) := by decide +kernel
theorem dX6_putBox_95 : decode cX6_putBox 95 = .ok (.iconst 3, 1) := by decide +kernel
theorem dX6_putBox_96 : decode cX6_putBox 96 = .ok (.iload_n 2, 1) := by decide +kernel
theorem dX6_putBox_97 : decode cX6_putBox 97 = .ok (.ifCond .ne 12, 3) := by decide +kernel
theorem dX6_putBox_100 : decode cX6_putBox 100 = .ok (.aload_n 0, 1) := by decide +kernel
theorem dX6_putBox_101 : decode cX6_putBox 101 = .ok (.getfield 18, 3) := by decide +kernel
theorem dX6_putBox_104 : decode cX6_putBox 104 = .ok (.iload_n 2, 1) := by decide +kernel
theorem dX6_putBox_105 : decode cX6_putBox 105 = .ok (.iaload, 1) := by decide +kernel
theorem dX6_putBox_106 : decode cX6_putBox 106 = .ok (.goto 15, 3) := by decide +kernel
theorem dX6_putBox_109 : decode cX6_putBox 109 = .ok (.aload_n 1, 1) := by decide +kernel
theorem dX6_putBox_110 : decode cX6_putBox 110 = .ok (.iconst 3, 1) := by decide +kernel
theorem dX6_putBox_111 : decode cX6_putBox 111 = .ok (.iaload, 1) := by decide +kernel
theorem dX6_putBox_112 : decode cX6_putBox 112 = .ok (.aload_n 0, 1) := by decide +kernel
theorem dX6_putBox_113 : decode cX6_putBox 113 = .ok (.getfield 18, 3) := by decide +kernel
theorem dX6_putBox_116 : decode cX6_putBox 116 = .ok (.iload_n 2, 1) := by decide +kernel
theorem dX6_putBox_117 : decode cX6_putBox 117 = .ok (.iaload, 1) := by decide +kernel
theorem dX6_putBox_118 : decode cX6_putBox 118 = .ok (.invokestatic 54, 3) := by decide +kernel
theorem dX6_putBox_121 : decode cX6_putBox 121 = .ok (.iastore, 1) := by decide +kernel
theorem dX6_putBox_122 : decode cX6_putBox 122 = .ok (.iinc 2 1, 3) := by decide +kernel
theorem dX6_putBox_125 : decode cX6_putBox 125 = .ok (.goto (-123), 3) := by decide +kernel
theorem dX6_putBox_128 : decode cX6_putBox 128 = .ok (.aload_n 0, 1) := by decide +kernel
theorem dX6_putBox_129 : decode cX6_putBox 129 = .ok (.getfield 25, 3) := by decide +kernel
theorem dX6_putBox_132 : decode cX6_putBox 132 = .ok (.ifCond .le 7, 3) := by decide +kernel
theorem dX6_putBox_135 : decode cX6_putBox 135 = .ok (.iconst 1, 1) := by decide +kernel
theorem dX6_putBox_136 : decode cX6_putBox 136 = .ok (.goto 4, 3) := by decide +kernel
theorem dX6_putBox_139 : decode cX6_putBox 139 = .ok (.iconst 0, 1) := by decide +kernel
theorem dX6_putBox_140 : decode cX6_putBox 140 = .ok (.ireturn, 1) := by decide +kernel
abbrev M_X6_putBox : MRec := (yX6_putBox, cX6_putBox, 3, (some Jvm.ClassFile.FieldType.boolean), [])
theorem m_X6_putBox : en_M M_X6_putBox 1 := ⟨t_2239, t_2, ⟨by decide +kernel, by decide +kernel⟩, by decide +kernel, by decide +kernel, by decide +kernel⟩
theorem dX11_bounds_0 : decode cX11_bounds 0 = .ok (.aload_n 0, 1) := by decide +kernel
theorem dX11_bounds_1 : decode cX11_bounds 1 = .ok (.iload_n 1, 1) := by decide +kernel
theorem dX11_bounds_2 : decode cX11_bounds 2 = .ok (.invokevirtual 140, 3) := by decide +kernel
theorem dX11_bounds_5 : decode cX11_bounds 5 = .ok (.astore_n 3, 1) := by decide +kernel
theorem dX11_bounds_6 : decode cX11_bounds 6 = .ok (.aload_n 3, 1) := by decide +kernel
theorem dX11_bounds_7 : decode cX11_bounds 7 = .ok (.invokestatic 172, 3) := by decide +kernel
theorem dX11_bounds_10 : decode cX11_bounds 10 = .ok (.iload_n 2, 1) := by decide +kernel
theorem dX11_bounds_11 : decode cX11_bounds 11 = .ok (.ifCond .lt 19, 3) := by decide +kernel
theorem dX11_bounds_14 : decode cX11_bounds 14 = .ok (.iload_n 2, 1) := by decide +kernel
theorem dX11_bounds_15 : decode cX11_bounds 15 = .ok (.iconst 3, 1) := by decide +kernel
theorem dX11_bounds_16 : decode cX11_bounds 16 = .ok (.if_icmp .gt 14, 3) := by decide +kernel
theorem dX11_bounds_19 : decode cX11_bounds 19 = .ok (.aload_n 3, 1) := by decide +kernel
theorem dX11_bounds_20 : decode cX11_bounds 20 = .ok (.aload_n 0, 1) := by decide +kernel
theorem dX11_bounds_21 : decode cX11_bounds 21 = .ok (.getfield 94, 3) := by decide +kernel
theorem dX11_bounds_24 : decode cX11_bounds 24 = .ok (.invokevirtual 305, 3) := by decide +kernel
theorem dX11_bounds_27 : decode cX11_bounds 27 = .ok (.ifCond .ne 11, 3) := by decide +kernel
theorem dX11_bounds_30 : decode cX11_bounds 30 = .ok (.new 116, 3) := by decide +kernel
theorem dX11_bounds_33 : decode cX11_bounds 33 = .ok (.dup, 1) := by decide +kernel
theorem dX11_bounds_34 : decode cX11_bounds 34 = .ok (.invokespecial 118, 3) := by decide +kernel
theorem dX11_bounds_37 : decode cX11_bounds 37 = .ok (.athrow, 1) := by decide +kernel
theorem dX11_bounds_38 : decode cX11_bounds 38 = .ok (.aload_n 0, 1) := by decide +kernel
theorem dX11_bounds_39 : decode cX11_bounds 39 = .ok (.getfield 94, 3) := by decide +kernel
theorem dX11_bounds_42 : decode cX11_bounds 42 = .ok (.iload_n 2, 1) := by decide +kernel
theorem dX11_bounds_43 : decode cX11_bounds 43 = .ok (.iaload, 1) := by decide +kernel
theorem dX11_bounds_44 : decode cX11_bounds 44 = .ok (.ireturn, 1) := by decide +kernel
abbrev M_X11_bounds : MRec := (yX11_bounds, cX11_bounds, 4, (some Jvm.ClassFile.FieldType.int), [])
theorem m_X11_bounds : en_M M_X11_bounds 2 := ⟨t_2235, t_1, ⟨by decide +kernel, by decide +kernel⟩, by decide +kernel, by decide +kernel, by decide +kernel⟩
theorem dX11_boxLies_0 : decode cX11_boxLies 0 = .ok (.iload_n 1, 1) := by decide +kernel
theorem dX11_boxLies_1 : decode cX11_boxLies 1 = .ok (.lookupswitch 123 #[(0, 27), (1, 75)], 27) := by decide +kernel
theorem dX11_boxLies_28 : decode cX11_boxLies 28 = .ok (.aload_n 0, 1) := by decide +kernel
theorem dX11_boxLies_29 : decode cX11_boxLies 29 = .ok (.getfield 94, 3) := by decide +kernel
theorem dX11_boxLies_32 : decode cX11_boxLies 32 = .ok (.iconst 0, 1) := by decide +kernel
theorem dX11_boxLies_33 : decode cX11_boxLies 33 = .ok (.iaload, 1) := by decide +kernel
theorem dX11_boxLies_34 : decode cX11_boxLies 34 = .ok (.iload 4, 2) := by decide +kernel
theorem dX11_boxLies_36 : decode cX11_boxLies 36 = .ok (.if_icmp .gt 38, 3) := by decide +kernel
theorem dX11_boxLies_39 : decode cX11_boxLies 39 = .ok (.aload_n 0, 1) := by decide +kernel
theorem dX11_boxLies_40 : decode cX11_boxLies 40 = .ok (.getfield 94, 3) := by decide +kernel
theorem dX11_boxLies_43 : decode cX11_boxLies 43 = .ok (.iconst 2, 1) := by decide +kernel
theorem dX11_boxLies_44 : decode cX11_boxLies 44 = .ok (.iaload, 1) := by decide +kernel
theorem dX11_boxLies_45 : decode cX11_boxLies 45 = .ok (.iload_n 2, 1) := by decide +kernel
theorem dX11_boxLies_46 : decode cX11_boxLies 46 = .ok (.if_icmp .lt 28, 3) := by decide +kernel
theorem dX11_boxLies_49 : decode cX11_boxLies 49 = .ok (.aload_n 0, 1) := by decide +kernel
theorem dX11_boxLies_50 : decode cX11_boxLies 50 = .ok (.getfield 94, 3) := by decide +kernel
theorem dX11_boxLies_53 : decode cX11_boxLies 53 = .ok (.iconst 1, 1) := by decide +kernel
theorem dX11_boxLies_54 : decode cX11_boxLies 54 = .ok (.iaload, 1) := by decide +kernel
theorem dX11_boxLies_55 : decode cX11_boxLies 55 = .ok (.iload 5, 2) := by decide +kernel
theorem dX11_boxLies_57 : decode cX11_boxLies 57 = .ok (.if_icmp .gt 17, 3) := by decide +kernel
theorem dX11_boxLies_60 : decode cX11_boxLies 60 = .ok (.aload_n 0, 1) := by decide +kernel
theorem dX11_boxLies_61 : decode cX11_boxLies 61 = .ok (.getfield 94, 3) := by decide +kernel
theorem dX11_boxLies_64 : decode cX11_boxLies 64 = .ok (.iconst 3, 1) := by decide +kernel
theorem dX11_boxLies_65 : decode cX11_boxLies 65 = .ok (.iaload, 1) := by decide +kernel
theorem dX11_boxLies_66 : decode cX11_boxLies 66 = .ok (.iload_n 3, 1) := by decide +kernel
theorem dX11_boxLies_67 : decode cX11_boxLies 67 = .ok (.if_icmp .lt 7, 3) := by decide +kernel
theorem dX11_boxLies_70 : decode cX11_boxLies 70 = .ok (.iconst 1, 1) := by decide +kernel
theorem dX11_boxLies_71 : decode cX11_boxLies 71 = .ok (.goto 4, 3) := by decide +kernel
theorem dX11_boxLies_74 : decode cX11_boxLies 74 = .ok (.iconst 0, 1) := by decide +kernel
theorem dX11_boxLies_75 : decode cX11_boxLies 75 = .ok (.ireturn, 1) := by decide +kernel
theorem dX11_boxLies_76 : decode cX11_boxLies 76 = .ok (.aload_n 0, 1) := by decide +kernel
theorem dX11_boxLies_77 : decode cX11_boxLies 77 = .ok (.getfield 94, 3) := by decide +kernel
theorem dX11_boxLies_80 : decode cX11_boxLies 80 = .ok (.iconst 0, 1) := by decide +kernel
theorem dX11_boxLies_81 : decode cX11_boxLies 81 = .ok (.iaload, 1) := by decide +kernel
theorem dX11_boxLies_82 : decode cX11_boxLies 82 = .ok (.iload_n 2, 1) := by decide +kernel
theorem dX11_boxLies_83 : decode cX11_boxLies 83 = .ok (.if_icmp .lt 39, 3) := by decide +kernel
theorem dX11_boxLies_86 : decode cX11_boxLies 86 = .ok (.aload_n 0, 1) := by decide +kernel
theorem dX11_boxLies_87 : decode cX11_boxLies 87 = .ok (.getfield 94, 3) := by decide +kernel
theorem dX11_boxLies_90 : decode cX11_boxLies 90 = .ok (.iconst 2, 1) := by decide +kernel
theorem dX11_boxLies_91 : decode cX11_boxLies 91 = .ok (.iaload, 1) := by decide +kernel
theorem dX11_boxLies_92 : decode cX11_boxLies 92 = .ok (.iload 4, 2) := by decide +kernel
theorem dX11_boxLies_94 : decode cX11_boxLies 94 = .ok (.if_icmp .gt 28, 3) := by decide +kernel
theorem dX11_boxLies_97 : decode cX11_boxLies 97 = .ok (.aload_n 0, 1) := by decide +kernel
theorem dX11_boxLies_98 : decode cX11_boxLies 98 = .ok (.getfield 94, 3) := by decide +kernel
theorem dX11_boxLies_101 : decode cX11_boxLies 101 = .ok (.iconst 1, 1) := by decide +kernel
theorem dX11_boxLies_102 : decode cX11_boxLies 102 = .ok (.iaload, 1) := by decide +kernel
theorem dX11_boxLies_103 : decode cX11_boxLies 103 = .ok (.iload_n 3, 1) := by decide +kernel
theorem dX11_boxLies_104 : decode cX11_boxLies 104 = .ok (.if_icmp .lt 18, 3) := by decide +kernel
theorem dX11_boxLies_107 : decode cX11_boxLies 107 = .ok (.aload_n 0, 1) := by decide +kernel
theorem dX11_boxLies_108 : decode cX11_boxLies 108 = .ok (.getfield 94, 3) := by decide +kernel
theorem dX11_boxLies_111 : decode cX11_boxLies 111 = .ok (.iconst 3, 1) := by decide +kernel
theorem dX11_boxLies_112 : decode cX11_boxLies 112 = .ok (.iaload, 1) := by decide +kernel
theorem dX11_boxLies_113 : decode cX11_boxLies 113 = .ok (.iload 5, 2) := by decide +kernel
theorem dX11_boxLies_115 : decode cX11_boxLies 115 = .ok (.if_icmp .gt 7, 3) := by decide +kernel
theorem dX11_boxLies_118 : decode cX11_boxLies 118 = .ok (.iconst 1, 1) := by decide +kernel
theorem dX11_boxLies_119 : decode cX11_boxLies 119 = .ok (.goto 4, 3) := by decide +kernel
theorem dX11_boxLies_122 : decode cX11_boxLies 122 = .ok (.iconst 0, 1) := by decide +kernel
theorem dX11_boxLies_123 : decode cX11_boxLies 123 = .ok (.ireturn, 1) := by decide +kernel
theorem dX11_boxLies_124 : decode cX11_boxLies 124 = .ok (.aload_n 0, 1) := by decide +kernel
theorem dX11_boxLies_125 : decode cX11_boxLies 125 = .ok (.getfield 94, 3) := by decide +kernel
theorem dX11_boxLies_128 : decode cX11_boxLies 128 = .ok (.iconst 0, 1) := by decide +kernel
theorem dX11_boxLies_129 : decode cX11_boxLies 129 = .ok (.iaload, 1) := by decide +kernel
theorem dX11_boxLies_130 : decode cX11_boxLies 130 = .ok (.iload_n 2, 1) := by decide +kernel
theorem dX11_boxLies_131 : decode cX11_boxLies 131 = .ok (.if_icmp .gt 39, 3) := by decide +kernel
theorem dX11_boxLies_134 : decode cX11_boxLies 134 = .ok (.aload_n 0, 1) := by decide +kernel
theorem dX11_boxLies_135 : decode cX11_boxLies 135 = .ok (.getfield 94, 3) := by decide +kernel
theorem dX11_boxLies_138 : decode cX11_boxLies 138 = .ok (.iconst 2, 1) := by decide +kernel
theorem dX11_boxLies_139 : decode cX11_boxLies 139 = .ok (.iaload, 1) := by decide +kernel
theorem dX11_boxLies_140 : decode cX11_boxLies 140 = .ok (.iload 4, 2) := by decide +kernel
theorem dX11_boxLies_142 : decode cX11_boxLies 142 = .ok (.if_icmp .lt 28, 3) := by decide +kernel
theorem dX11_boxLies_145 : decode cX11_boxLies 145 = .ok (.aload_n 0, 1) := by decide +kernel
theorem dX11_boxLies_146 : decode cX11_boxLies 146 = .ok (.getfield 94, 3) := by decide +kernel
theorem dX11_boxLies_149 : decode cX11_boxLies 149 = .ok (.iconst 1, 1) := by decide +kernel
theorem dX11_boxLies_150 : decode cX11_boxLies 150 = .ok (.iaload, 1) := by decide +kernel
theorem dX11_boxLies_151 : decode cX11_boxLies 151 = .ok (.iload_n 3, 1) := by decide +kernel
theorem dX11_boxLies_152 : decode cX11_boxLies 152 = .ok (.if_icmp .gt 18, 3) := by decide +kernel
theorem dX11_boxLies_155 : decode cX11_boxLies 155 = .ok (.aload_n 0, 1) := by decide +kernel
theorem dX11_boxLies_156 : decode cX11_boxLies 156 = .ok (.getfield 94, 3) := by decide +kernel
theorem dX11_boxLies_159 : decode cX11_boxLies 159 = .ok (.iconst 3, 1) := by decide +kernel
theorem dX11_boxLies_160 : decode cX11_boxLies 160 = .ok (.iaload, 1) := by decide +kernel
theorem dX11_boxLies_161 : decode cX11_boxLies 161 = .ok (.iload 5, 2) := by decide +kernel
theorem dX11_boxLies_163 : decode cX11_boxLies 163 = .ok (.if_icmp .lt 7, 3) := by decide +kernel
theorem dX11_boxLies_166 : decode cX11_boxLies 166 = .ok (.iconst 1, 1) := by decide +kernel
theorem dX11_boxLies_167 : decode cX11_boxLies 167 = .ok (.goto 4, 3) := by decide +kernel
theorem dX11_boxLies_170 : decode cX11_boxLies 170 = .ok (.iconst 0, 1) := by decide +kernel
theorem dX11_boxLies_171 : decode cX11_boxLies 171 = .ok (.ireturn, 1) := by decide +kernel
abbrev M_X11_boxLies : MRec := (yX11_boxLies, cX11_boxLies, 6, (some Jvm.ClassFile.FieldType.boolean), [])
theorem m_X11_boxLies : en_M M_X11_boxLies 5 := ⟨t_2253, t_1, ⟨by decide +kernel, by decide +kernel⟩, by decide +kernel, by decide +kernel, by decide +kernel⟩
theorem dX11_find_0 : decode cX11_find 0 = .ok (.iload_n 1, 1) := by decide +kernel
theorem dX11_find_1 : decode cX11_find 1 = .ok (.ifCond .lt 50, 3) := by decide +kernel
theorem dX11_find_4 : decode cX11_find 4 = .ok (.iload_n 1, 1) := by decide +kernel
theorem dX11_find_5 : decode cX11_find 5 = .ok (.iconst 2, 1) := by decide +kernel
theorem dX11_find_6 : decode cX11_find 6 = .ok (.if_icmp .gt 45, 3) := by decide +kernel
theorem dX11_find_9 : decode cX11_find 9 = .ok (.iload_n 2, 1) := by decide +kernel
theorem dX11_find_10 : decode cX11_find 10 = .ok (.ldc_w 309, 3) := by decide +kernel
theorem dX11_find_13 : decode cX11_find 13 = .ok (.if_icmp .lt 38, 3) := by decide +kernel
theorem dX11_find_16 : decode cX11_find 16 = .ok (.iload_n 3, 1) := by decide +kernel
theorem dX11_find_17 : decode cX11_find 17 = .ok (.ldc_w 309, 3) := by decide +kernel
theorem dX11_find_20 : decode cX11_find 20 = .ok (.if_icmp .lt 31, 3) := by decide +kernel
theorem dX11_find_23 : decode cX11_find 23 = .ok (.iload 4, 2) := by decide +kernel
theorem dX11_find_25 : decode cX11_find 25 = .ok (.ldc_w 292, 3) := by decide +kernel
theorem dX11_find_28 : decode cX11_find 28 = .ok (.if_icmp .gt 23, 3) := by decide +kernel
theorem dX11_find_31 : decode cX11_find 31 = .ok (.iload 5, 2) := by decide +kernel
theorem dX11_find_33 : decode cX11_find 33 = .ok (.ldc_w 292, 3) := by decide +kernel
theorem dX11_find_36 : decode cX11_find 36 = .ok (.if_icmp .gt 15, 3) := by decide +kernel
theorem dX11_find_39 : decode cX11_find 39 = .ok (.iload 4, 2) := by decide +kernel
theorem dX11_find_41 : decode cX11_find 41 = .ok (.iload_n 2, 1) := by decide +kernel
theorem dX11_find_42 : decode cX11_find 42 = .ok (.if_icmp .lt 9, 3) := by decide +kernel
theorem dX11_find_45 : decode cX11_find 45 = .ok (.iload 5, 2) := by decide +kernel
theorem dX11_find_47 : decode cX11_find 47 = .ok (.iload_n 3, 1) := by decide +kernel
theorem dX11_find_48 : decode cX11_find 48 = .ok (.if_icmp .ge 11, 3) := by decide +kernel
theorem dX11_find_51 : decode cX11_find 51 = .ok (.new 116, 3) := by decide +kernel
theorem dX11_find_54 : decode cX11_find 54 = .ok (.dup, 1) := by decide +kernel
theorem dX11_find_55 : decode cX11_find 55 = .ok (.invokespecial 118, 3) := by decide +kernel
theorem dX11_find_58 : decode cX11_find 58 = .ok (.athrow, 1) := by decide +kernel
theorem dX11_find_59 : decode cX11_find 59 = .ok (.aload_n 0, 1) := by decide +kernel
theorem dX11_find_60 : decode cX11_find 60 = .ok (.iconst 0, 1) := by decide +kernel
theorem dX11_find_61 : decode cX11_find 61 = .ok (.putfield 213, 3) := by decide +kernel
theorem dX11_find_64 : decode cX11_find 64 = .ok (.iconst 0, 1) := by decide +kernel
theorem dX11_find_65 : decode cX11_find 65 = .ok (.istore 6, 2) := by decide +kernel
theorem dX11_find_67 : decode cX11_find 67 = .ok (.iload 6, 2) := by decide +kernel
theorem dX11_find_69 : decode cX11_find 69 = .ok (.bipush 32, 2) := by decide +kernel
theorem dX11_find_71 : decode cX11_find 71 = .ok (.if_icmp .ge 61, 3) := by decide +kernel
theorem dX11_find_74 : decode cX11_find 74 = .ok (.aload_n 0, 1) := by decide +kernel
theorem dX11_find_75 : decode cX11_find 75 = .ok (.getfield 11, 3) := by decide +kernel
theorem dX11_find_78 : decode cX11_find 78 = .ok (.iload 6, 2) := by decide +kernel
theorem dX11_find_80 : decode cX11_find 80 = .ok (.aaload, 1) := by decide +kernel
theorem dX11_find_81 : decode cX11_find 81 = .ok (.aload_n 0, 1) := by decide +kernel
theorem dX11_find_82 : decode cX11_find 82 = .ok (.getfield 94, 3) := by decide +kernel
theorem dX11_find_85 : decode cX11_find 85 = .ok (.invokevirtual 305, 3) := by decide +kernel
theorem dX11_find_88 : decode cX11_find 88 = .ok (.ifCond .eq 38, 3) := by decide +kernel
theorem dX11_find_91 : decode cX11_find 91 = .ok (.aload_n 0, 1) := by decide +kernel
theorem dX11_find_92 : decode cX11_find 92 = .ok (.iload_n 1, 1) := by decide +kernel
theorem dX11_find_93 : decode cX11_find 93 = .ok (.iload_n 2, 1) := by decide +kernel
theorem dX11_find_94 : decode cX11_find 94 = .ok (.iload_n 3, 1) := by decide +kernel
theorem dX11_find_95 : decode cX11_find 95 = .ok (.iload 4, 2) := by decide +kernel
theorem dX11_find_97 : decode cX11_find 97 = .ok (.iload 5, 2) := by decide +kernel
theorem dX11_find_99 : decode cX11_find 99 = .ok (.invokevirtual 310, 3) := by decide +kernel
theorem dX11_find_102 : decode cX11_find 102 = .ok (.ifCond .eq 24, 3) := by decide +kernel
theorem dX11_find_105 : decode cX11_find 105 = .ok (.aload_n 0, 1) := by decide +kernel
theorem dX11_find_106 : decode cX11_find 106 = .ok (.getfield 98, 3) := by decide +kernel
theorem dX11_find_109 : decode cX11_find 109 = .ok (.aload_n 0, 1) := by decide +kernel
theorem dX11_find_110 : decode cX11_find 110 = .ok (.getfield 213, 3) := by decide +kernel
theorem dX11_find_113 : decode cX11_find 113 = .ok (.iload 6, 2) := by decide +kernel
theorem dX11_find_115 : decode cX11_find 115 = .ok (.iastore, 1) := by decide +kernel
theorem dX11_find_116 : decode cX11_find 116 = .ok (.aload_n 0, 1) := by decide +kernel
theorem dX11_find_117 : decode cX11_find 117 = .ok (.dup, 1) := by decide +kernel
theorem dX11_find_118 : decode cX11_find 118 = .ok (.getfield 213, 3) := by decide +kernel
theorem dX11_find_121 : decode cX11_find 121 = .ok (.iconst 1, 1) := by decide +kernel
theorem dX11_find_122 : decode cX11_find 122 = .ok (.iadd, 1) := by decide +kernel
theorem dX11_find_123 : decode cX11_find 123 = .ok (.putfield 213, 3) := by decide +kernel
theorem dX11_find_126 : decode cX11_find 126 = .ok (.iinc 6 1, 3) := by decide +kernel
theorem dX11_find_129 : decode cX11_find 129 = .ok (.goto (-62), 3) := by decide +kernel
theorem dX11_find_132 : decode cX11_find 132 = .ok (.aload_n 0, 1) := by decide +kernel
theorem dX11_find_133 : decode cX11_find 133 = .ok (.getfield 213, 3) := by decide +kernel
theorem dX11_find_136 : decode cX11_find 136 = .ok (.ireturn, 1) := by decide +kernel
abbrev M_X11_find : MRec := (yX11_find, cX11_find, 7, (some Jvm.ClassFile.FieldType.int), [])
theorem m_X11_find : en_M M_X11_find 5 := ⟨t_2248, t_1, ⟨by decide +kernel, by decide +kernel⟩, by decide +kernel, by decide +kernel, by decide +kernel⟩
theorem dX11_distanceFromBox_0 : decode cX11_distanceFromBox 0 = .ok (.lconst 0, 1) := by decide +kernel
theorem dX11_distanceFromBox_1 : decode cX11_distanceFromBox 1 = .ok (.aload_n 0, 1) := by decide +kernel
theorem dX11_distanceFromBox_2 : decode cX11_distanceFromBox 2 = .ok (.getfield 94, 3) := by decide +kernel
theorem dX11_distanceFromBox_5 : decode cX11_distanceFromBox 5 = .ok (.iconst 0, 1) := by decide +kernel
theorem dX11_distanceFromBox_6 : decode cX11_distanceFromBox 6 = .ok (.iaload, 1) := by decide +kernel
theorem dX11_distanceFromBox_7 : decode cX11_distanceFromBox 7 = .ok (.i2l, 1) := by decide +kernel
theorem dX11_distanceFromBox_8 : decode cX11_distanceFromBox 8 = .ok (.iload_n 1, 1) := by decide +kernel
theorem dX11_distanceFromBox_9 : decode cX11_distanceFromBox 9 = .ok (.i2l, 1) := by decide +kernel
theorem dX11_distanceFromBox_10 : decode cX11_distanceFromBox 10 = .ok (.lsub, 1) := by decide +kernel
theorem dX11_distanceFromBox_11 : decode cX11_distanceFromBox 11 = .ok (.iload_n 1, 1) := by decide +kernel
theorem dX11_distanceFromBox_12 : decode cX11_distanceFromBox 12 = .ok (.i2l, 1) := by decide +kernel
theorem dX11_distanceFromBox_13 : decode cX11_distanceFromBox 13 = .ok (.aload_n 0, 1) := by decide +kernel
theorem dX11_distanceFromBox_14 : decode cX11_distanceFromBox 14 = .ok (.getfield 94, 3) := by decide +kernel
theorem dX11_distanceFromBox_17 : decode cX11_distanceFromBox 17 = .ok (.iconst 2, 1) := by decide +kernel
theorem dX11_distanceFromBox_18 : decode cX11_distanceFromBox 18 = .ok (.iaload, 1) := by decide +kernel
theorem dX11_distanceFromBox_19 : decode cX11_distanceFromBox 19 = .ok (.i2l, 1) := by decide +kernel
theorem dX11_distanceFromBox_20 : decode cX11_distanceFromBox 20 = .ok (.lsub, 1) := by decide +kernel
theorem dX11_distanceFromBox_21 : decode cX11_distanceFromBox 21 = .ok (.invokestatic 321, 3) := by decide +kernel
theorem dX11_distanceFromBox_24 : decode cX11_distanceFromBox 24 = .ok (.invokestatic 321, 3) := by decide +kernel
theorem dX11_distanceFromBox_27 : decode cX11_distanceFromBox 27 = .ok (.lstore_n 3, 1) := by decide +kernel
theorem dX11_distanceFromBox_28 : decode cX11_distanceFromBox 28 = .ok (.lconst 0, 1) := by decide +kernel
theorem dX11_distanceFromBox_29 : decode cX11_distanceFromBox 29 = .ok (.aload_n 0, 1) := by decide +kernel
theorem dX11_distanceFromBox_30 : decode cX11_distanceFromBox 30 = .ok (.getfield 94, 3) := by decide +kernel
theorem dX11_distanceFromBox_33 : decode cX11_distanceFromBox 33 = .ok (.iconst 1, 1) := by decide +kernel
theorem dX11_distanceFromBox_34 : decode cX11_distanceFromBox 34 = .ok (.iaload, 1) := by decide +kernel
theorem dX11_distanceFromBox_35 : decode cX11_distanceFromBox 35 = .ok (.i2l, 1) := by decide +kernel
theorem dX11_distanceFromBox_36 : decode cX11_distanceFromBox 36 = .ok (.iload_n 2, 1) := by decide +kernel
theorem dX11_distanceFromBox_37 : decode cX11_distanceFromBox 37 = .ok (.i2l, 1) := by decide +kernel
theorem dX11_distanceFromBox_38 : decode cX11_distanceFromBox 38 = .ok (.lsub, 1) := by decide +kernel
theorem dX11_distanceFromBox_39 : decode cX11_distanceFromBox 39 = .ok (.iload_n 2, 1) := by decide +kernel
theorem dX11_distanceFromBox_40 : decode cX11_distanceFromBox 40 = .ok (.i2l, 1) := by decide +kernel
theorem dX11_distanceFromBox_41 : decode cX11_distanceFromBox 41 = .ok (.aload_n 0, 1) := by decide +kernel
theorem dX11_distanceFromBox_42 : decode cX11_distanceFromBox 42 = .ok (.getfield 94, 3) := by decide +kernel
theorem dX11_distanceFromBox_45 : decode cX11_distanceFromBox 45 = .ok (.iconst 3, 1) := by decide +kernel
theorem dX11_distanceFromBox_46 : decode cX11_distanceFromBox 46 = .ok (.iaload, 1) := by decide +kernel
theorem dX11_distanceFromBox_47 : decode cX11_distanceFromBox 47 = .ok (.i2l, 1) := by decide +kernel
theorem dX11_distanceFromBox_48 : decode cX11_distanceFromBox 48 = .ok (.lsub, 1) := by decide +kernel
theorem dX11_distanceFromBox_49 : decode cX11_distanceFromBox 49 = .ok (.invokestatic 321, 3) := by decide +kernel
theorem dX11_distanceFromBox_52 : decode cX11_distanceFromBox 52 = .ok (.invokestatic 321, 3) := by decide +kernel
theorem dX11_distanceFromBox_55 : decode cX11_distanceFromBox 55 = .ok (.lstore 5, 2) := by decide +kernel
theorem dX11_distanceFromBox_57 : decode cX11_distanceFromBox 57 = .ok (.lload_n 3, 1) := by decide +kernel
theorem dX11_distanceFromBox_58 : decode cX11_distanceFromBox 58 = .ok (.lload_n 3, 1) := by decide +kernel
theorem dX11_distanceFromBox_59 : decode cX11_distanceFromBox 59 = .ok (.lmul, 1) := by decide +kernel
theorem dX11_distanceFromBox_60 : decode cX11_distanceFromBox 60 = .ok (.lload 5, 2) := by decide +kernel
theorem dX11_distanceFromBox_62 : decode cX11_distanceFromBox 62 = .ok (.lload 5, 2) := by decide +kernel
theorem dX11_distanceFromBox_64 : decode cX11_distanceFromBox 64 = .ok (.lmul, 1) := by decide +kernel
theorem dX11_distanceFromBox_65 : decode cX11_distanceFromBox 65 = .ok (.ladd, 1) := by decide +kernel
theorem dX11_distanceFromBox_66 : decode cX11_distanceFromBox 66 = .ok (.lreturn, 1) := by decide +kernel
abbrev M_X11_distanceFromBox : MRec := (yX11_distanceFromBox, cX11_distanceFromBox, 7, (some Jvm.ClassFile.FieldType.long), [])
theorem m_X11_distanceFromBox : en_M M_X11_distanceFromBox 2 := ⟨t_2264, t_1, ⟨by decide +kernel, by decide +kernel⟩, by decide +kernel, by decide +kernel, by decide +kernel⟩
theorem dX11_insertByDistance_0 : decode cX11_insertByDistance 0 = .ok (.iload_n 1, 1) := by decide +kernel
theorem dX11_insertByDistance_1 : decode cX11_insertByDistance 1 = .ok (.istore 5, 2) := by decide +kernel
theorem dX11_insertByDistance_3 : decode cX11_insertByDistance 3 = .ok (.iload 5, 2) := by decide +kernel
theorem dX11_insertByDistance_5 : decode cX11_insertByDistance 5 = .ok (.ifCond .le 55, 3) := by decide +kernel
theorem dX11_insertByDistance_8 : decode cX11_insertByDistance 8 = .ok (.aload_n 0, 1) := by decide +kernel
theorem dX11_insertByDistance_9 : decode cX11_insertByDistance 9 = .ok (.getfield 101, 3) := by decide +kernel
theorem dX11_insertByDistance_12 : decode cX11_insertByDistance 12 = .ok (.iload 5, 2) := by decide +kernel
theorem dX11_insertByDistance_14 : decode cX11_insertByDistance 14 = .ok (.iconst 1, 1) := by decide +kernel
theorem dX11_insertByDistance_15 : decode cX11_insertByDistance 15 = .ok (.isub, 1) := by decide +kernel
theorem dX11_insertByDistance_16 : decode cX11_insertByDistance 16 = .ok (.laload, 1) := by decide +kernel
theorem dX11_insertByDistance_17 : decode cX11_insertByDistance 17 = .ok (.lload_n 3, 1) := by decide +kernel
theorem dX11_insertByDistance_18 : decode cX11_insertByDistance 18 = .ok (.lcmp, 1) := by decide +kernel
theorem dX11_insertByDistance_19 : decode cX11_insertByDistance 19 = .ok (.ifCond .le 41, 3) := by decide +kernel
theorem dX11_insertByDistance_22 : decode cX11_insertByDistance 22 = .ok (.aload_n 0, 1) := by decide +kernel
theorem dX11_insertByDistance_23 : decode cX11_insertByDistance 23 = .ok (.getfield 101, 3) := by decide +kernel
theorem dX11_insertByDistance_26 : decode cX11_insertByDistance 26 = .ok (.iload 5, 2) := by decide +kernel
theorem dX11_insertByDistance_28 : decode cX11_insertByDistance 28 = .ok (.aload_n 0, 1) := by decide +kernel
theorem dX11_insertByDistance_29 : decode cX11_insertByDistance 29 = .ok (.getfield 101, 3) := by decide +kernel
theorem dX11_insertByDistance_32 : decode cX11_insertByDistance 32 = .ok (.iload 5, 2) := by decide +kernel
theorem dX11_insertByDistance_34 : decode cX11_insertByDistance 34 = .ok (.iconst 1, 1) := by decide +kernel
theorem dX11_insertByDistance_35 : decode cX11_insertByDistance 35 = .ok (.isub, 1) := by decide +kernel
theorem dX11_insertByDistance_36 : decode cX11_insertByDistance 36 = .ok (.laload, 1) := by decide +kernel
theorem dX11_insertByDistance_37 : decode cX11_insertByDistance 37 = .ok (.lastore, 1) := by decide +kernel
theorem dX11_insertByDistance_38 : decode cX11_insertByDistance 38 = .ok (.aload_n 0, 1) := by decide +kernel
theorem dX11_insertByDistance_39 : decode cX11_insertByDistance 39 = .ok (.getfield 98, 3) := by decide +kernel
theorem dX11_insertByDistance_42 : decode cX11_insertByDistance 42 = .ok (.iload 5, 2) := by decide +kernel
theorem dX11_insertByDistance_44 : decode cX11_insertByDistance 44 = .ok (.aload_n 0, 1) := by decide +kernel
theorem dX11_insertByDistance_45 : decode cX11_insertByDistance 45 = .ok (.getfield 98, 3) := by decide +kernel
theorem dX11_insertByDistance_48 : decode cX11_insertByDistance 48 = .ok (.iload 5, 2) := by decide +kernel
theorem dX11_insertByDistance_50 : decode cX11_insertByDistance 50 = .ok (.iconst 1, 1) := by decide +kernel
theorem dX11_insertByDistance_51 : decode cX11_insertByDistance 51 = .ok (.isub, 1) := by decide +kernel
theorem dX11_insertByDistance_52 : decode cX11_insertByDistance 52 = .ok (.iaload, 1) := by decide +kernel
theorem dX11_insertByDistance_53 : decode cX11_insertByDistance 53 = .ok (.iastore, 1) := by decide +kernel
theorem dX11_insertByDistance_54 : decode cX11_insertByDistance 54 = .ok (.iinc 5 (-1), 3) := by decide +kernel
theorem dX11_insertByDistance_57 : decode cX11_insertByDistance 57 = .ok (.goto (-54), 3) := by decide +kernel
theorem dX11_insertByDistance_60 : decode cX11_insertByDistance 60 = .ok (.aload_n 0, 1) := by decide +kernel
theorem dX11_insertByDistance_61 : decode cX11_insertByDistance 61 = .ok (.getfield 101, 3) := by decide +kernel
theorem dX11_insertByDistance_64 : decode cX11_insertByDistance 64 = .ok (.iload 5, 2) := by decide +kernel
theorem dX11_insertByDistance_66 : decode cX11_insertByDistance 66 = .ok (.lload_n 3, 1) := by decide +kernel
theorem dX11_insertByDistance_67 : decode cX11_insertByDistance 67 = .ok (.lastore, 1) := by decide +kernel
theorem dX11_insertByDistance_68 : decode cX11_insertByDistance 68 = .ok (.aload_n 0, 1) := by decide +kernel
theorem dX11_insertByDistance_69 : decode cX11_insertByDistance 69 = .ok (.getfield 98, 3) := by decide +kernel
theorem dX11_insertByDistance_72 : decode cX11_insertByDistance 72 = .ok (.iload 5, 2) := by decide +kernel
theorem dX11_insertByDistance_74 : decode cX11_insertByDistance 74 = .ok (.iload_n 2, 1) := by decide +kernel
theorem dX11_insertByDistance_75 : decode cX11_insertByDistance 75 = .ok (.iastore, 1) := by decide +kernel
theorem dX11_insertByDistance_76 : decode cX11_insertByDistance 76 = .ok (.return_, 1) := by decide +kernel
abbrev M_X11_insertByDistance : MRec := (yX11_insertByDistance, cX11_insertByDistance, 6, none, [])
theorem m_X11_insertByDistance : en_M M_X11_insertByDistance 3 := ⟨t_2269, t_1, ⟨by decide +kernel, by decide +kernel⟩, by decide +kernel, by decide +kernel, by decide +kernel⟩
theorem dX11_nearest_0 : decode cX11_nearest 0 = .ok (.iload_n 3, 1) := by decide +kernel
theorem dX11_nearest_1 : decode cX11_nearest 1 = .ok (.iconst 1, 1) := by decide +kernel
theorem dX11_nearest_2 : decode cX11_nearest 2 = .ok (.if_icmp .lt 29, 3) := by decide +kernel
theorem dX11_nearest_5 : decode cX11_nearest 5 = .ok (.iload_n 3, 1) := by decide +kernel
theorem dX11_nearest_6 : decode cX11_nearest 6 = .ok (.bipush 32, 2) := by decide +kernel
theorem dX11_nearest_8 : decode cX11_nearest 8 = .ok (.if_icmp .gt 23, 3) := by decide +kernel
theorem dX11_nearest_11 : decode cX11_nearest 11 = .ok (.iload_n 1, 1) := by decide +kernel
theorem dX11_nearest_12 : decode cX11_nearest 12 = .ok (.ldc_w 292, 3) := by decide +kernel
theorem dX11_nearest_15 : decode cX11_nearest 15 = .ok (.invokestatic 270, 3) := by decide +kernel
theorem dX11_nearest_18 : decode cX11_nearest 18 = .ok (.ifCond .ne 13, 3) := by decide +kernel
theorem dX11_nearest_21 : decode cX11_nearest 21 = .ok (.iload_n 2, 1) := by decide +kernel
theorem dX11_nearest_22 : decode cX11_nearest 22 = .ok (.ldc_w 292, 3) := by decide +kernel
theorem dX11_nearest_25 : decode cX11_nearest 25 = .ok (.invokestatic 270, 3) := by decide +kernel
theorem dX11_nearest_28 : decode cX11_nearest 28 = .ok (.ifCond .eq 11, 3) := by decide +kernel
theorem dX11_nearest_31 : decode cX11_nearest 31 = .ok (.new 116, 3) := by decide +kernel
theorem dX11_nearest_34 : decode cX11_nearest 34 = .ok (.dup, 1) := by decide +kernel
theorem dX11_nearest_35 : decode cX11_nearest 35 = .ok (.invokespecial 118, 3) := by decide +kernel
theorem dX11_nearest_38 : decode cX11_nearest 38 = .ok (.athrow, 1) := by decide +kernel
theorem dX11_nearest_39 : decode cX11_nearest 39 = .ok (.iconst 0, 1) := by decide +kernel
theorem dX11_nearest_40 : decode cX11_nearest 40 = .ok (.istore 4, 2) := by decide +kernel
theorem dX11_nearest_42 : decode cX11_nearest 42 = .ok (.iconst 0, 1) := by decide +kernel
theorem dX11_nearest_43 : decode cX11_nearest 43 = .ok (.istore 5, 2) := by decide +kernel
theorem dX11_nearest_45 : decode cX11_nearest 45 = .ok (.iload 5, 2) := by decide +kernel
theorem dX11_nearest_47 : decode cX11_nearest 47 = .ok (.bipush 32, 2) := by decide +kernel
theorem dX11_nearest_49 : decode cX11_nearest 49 = .ok (.if_icmp .ge 43, 3) := by decide +kernel
theorem dX11_nearest_52 : decode cX11_nearest 52 = .ok (.aload_n 0, 1) := by decide +kernel
theorem dX11_nearest_53 : decode cX11_nearest 53 = .ok (.getfield 11, 3) := by decide +kernel
theorem dX11_nearest_56 : decode cX11_nearest 56 = .ok (.iload 5, 2) := by decide +kernel
theorem dX11_nearest_58 : decode cX11_nearest 58 = .ok (.aaload, 1) := by decide +kernel
theorem dX11_nearest_59 : decode cX11_nearest 59 = .ok (.aload_n 0, 1) := by decide +kernel
theorem dX11_nearest_60 : decode cX11_nearest 60 = .ok (.getfield 94, 3) := by decide +kernel
theorem dX11_nearest_63 : decode cX11_nearest 63 = .ok (.invokevirtual 305, 3) := by decide +kernel
theorem dX11_nearest_66 : decode cX11_nearest 66 = .ok (.ifCond .eq 20, 3) := by decide +kernel
theorem dX11_nearest_69 : decode cX11_nearest 69 = .ok (.aload_n 0, 1) := by decide +kernel
theorem dX11_nearest_70 : decode cX11_nearest 70 = .ok (.iload 4, 2) := by decide +kernel
theorem dX11_nearest_72 : decode cX11_nearest 72 = .ok (.iload 5, 2) := by decide +kernel
theorem dX11_nearest_74 : decode cX11_nearest 74 = .ok (.aload_n 0, 1) := by decide +kernel
theorem dX11_nearest_75 : decode cX11_nearest 75 = .ok (.iload_n 1, 1) := by decide +kernel
theorem dX11_nearest_76 : decode cX11_nearest 76 = .ok (.iload_n 2, 1) := by decide +kernel
theorem dX11_nearest_77 : decode cX11_nearest 77 = .ok (.invokevirtual 314, 3) := by decide +kernel
theorem dX11_nearest_80 : decode cX11_nearest 80 = .ok (.invokevirtual 317, 3) := by decide +kernel
theorem dX11_nearest_83 : decode cX11_nearest 83 = .ok (.iinc 4 1, 3) := by decide +kernel
theorem dX11_nearest_86 : decode cX11_nearest 86 = .ok (.iinc 5 1, 3) := by decide +kernel
theorem dX11_nearest_89 : decode cX11_nearest 89 = .ok (.goto (-44), 3) := by decide +kernel
theorem dX11_nearest_92 : decode cX11_nearest 92 = .ok (.aload_n 0, 1) := by decide +kernel
theorem dX11_nearest_93 : decode cX11_nearest 93 = .ok (.iload_n 3, 1) := by decide +kernel
theorem dX11_nearest_94 : decode cX11_nearest 94 = .ok (.iload 4, 2) := by decide +kernel
theorem dX11_nearest_96 : decode cX11_nearest 96 = .ok (.invokestatic 122, 3) := by decide +kernel
theorem dX11_nearest_99 : decode cX11_nearest 99 = .ok (.putfield 213, 3) := by decide +kernel
theorem dX11_nearest_102 : decode cX11_nearest 102 = .ok (.aload_n 0, 1) := by decide +kernel
theorem dX11_nearest_103 : decode cX11_nearest 103 = .ok (.getfield 213, 3) := by decide +kernel
theorem dX11_nearest_106 : decode cX11_nearest 106 = .ok (.ireturn, 1) := by decide +kernel
abbrev M_X11_nearest : MRec := (yX11_nearest, cX11_nearest, 6, (some Jvm.ClassFile.FieldType.int), [])
theorem m_X11_nearest : en_M M_X11_nearest 3 := ⟨t_2260, t_1, ⟨by decide +kernel, by decide +kernel⟩, by decide +kernel, by decide +kernel, by decide +kernel⟩
theorem dX11_found_0 : decode cX11_found 0 = .ok (.iload_n 1, 1) := by decide +kernel
theorem dX11_found_1 : decode cX11_found 1 = .ok (.ifCond .lt 11, 3) := by decide +kernel
theorem dX11_found_4 : decode cX11_found 4 = .ok (.iload_n 1, 1) := by decide +kernel
theorem dX11_found_5 : decode cX11_found 5 = .ok (.aload_n 0, 1) := by decide +kernel
theorem dX11_found_6 : decode cX11_found 6 = .ok (.getfield 213, 3) := by decide +kernel
theorem dX11_found_9 : decode cX11_found 9 = .ok (.if_icmp .lt 11, 3) := by decide +kernel
theorem dX11_found_12 : decode cX11_found 12 = .ok (.new 137, 3) := by decide +kernel
theorem dX11_found_15 : decode cX11_found 15 = .ok (.dup, 1) := by decide +kernel
theorem dX11_found_16 : decode cX11_found 16 = .ok (.invokespecial 139, 3) := by decide +kernel
theorem dX11_found_19 : decode cX11_found 19 = .ok (.athrow, 1) := by decide +kernel
theorem dX11_found_20 : decode cX11_found 20 = .ok (.aload_n 0, 1) := by decide +kernel
theorem dX11_found_21 : decode cX11_found 21 = .ok (.getfield 98, 3) := by decide +kernel
theorem dX11_found_24 : decode cX11_found 24 = .ok (.iload_n 1, 1) := by decide +kernel
theorem dX11_found_25 : decode cX11_found 25 = .ok (.iaload, 1) := by decide +kernel
theorem dX11_found_26 : decode cX11_found 26 = .ok (.ireturn, 1) := by decide +kernel
abbrev M_X11_found : MRec := (yX11_found, cX11_found, 2, (some Jvm.ClassFile.FieldType.int), [])
theorem m_X11_found : en_M M_X11_found 1 := ⟨t_2276, t_1, ⟨by decide +kernel, by decide +kernel⟩, by decide +kernel, by decide +kernel, by decide +kernel⟩
theorem dX11_isNoNumber_0 : decode cX11_isNoNumber 0 = .ok (.lload_n 0, 1) := by decide +kernel
theorem dX11_isNoNumber_1 : decode cX11_isNoNumber 1 = .ok (.bipush 52, 2) := by decide +kernel
theorem dX11_isNoNumber_3 : decode cX11_isNoNumber 3 = .ok (.lushr, 1) := by decide +kernel
theorem dX11_isNoNumber_4 : decode cX11_isNoNumber 4 = .ok (.ldc2_w 336, 3) := by decide +kernel
theorem dX11_isNoNumber_7 : decode cX11_isNoNumber 7 = .ok (.land, 1) := by decide +kernel
theorem dX11_isNoNumber_8 : decode cX11_isNoNumber 8 = .ok (.ldc2_w 336, 3) := by decide +kernel
theorem dX11_isNoNumber_11 : decode cX11_isNoNumber 11 = .ok (.lcmp, 1) := by decide +kernel
theorem dX11_isNoNumber_12 : decode cX11_isNoNumber 12 = .ok (.ifCond .ne 7, 3) := by decide +kernel
theorem dX11_isNoNumber_15 : decode cX11_isNoNumber 15 = .ok (.iconst 1, 1) := by decide +kernel
theorem dX11_isNoNumber_16 : decode cX11_isNoNumber 16 = .ok (.goto 4, 3) := by decide +kernel
theorem dX11_isNoNumber_19 : decode cX11_isNoNumber 19 = .ok (.iconst 0, 1) := by decide +kernel
theorem dX11_isNoNumber_20 : decode cX11_isNoNumber 20 = .ok (.ireturn, 1) := by decide +kernel
abbrev M_X11_isNoNumber : MRec := (yX11_isNoNumber, cX11_isNoNumber, 2, (some Jvm.ClassFile.FieldType.boolean), [])
theorem m_X11_isNoNumber : en_M M_X11_isNoNumber 1 := ⟨t_2314, t_1, ⟨by decide +kernel, by decide +kernel⟩, by decide +kernel, by decide +kernel, by decide +kernel⟩
theorem dX11_isNoSignPoint_0 : decode cX11_isNoSignPoint 0 = .ok (.iload_n 0, 1) := by decide +kernel
theorem dX11_isNoSignPoint_1 : decode cX11_isNoSignPoint 1 = .ok (.ifCond .lt 9, 3) := by decide +kernel
theorem dX11_isNoSignPoint_4 : decode cX11_isNoSignPoint 4 = .ok (.iload_n 0, 1) := by decide +kernel
theorem dX11_isNoSignPoint_5 : decode cX11_isNoSignPoint 5 = .ok (.bipush 32, 2) := by decide +kernel
theorem dX11_isNoSignPoint_7 : decode cX11_isNoSignPoint 7 = .ok (.if_icmp .lt 7, 3) := by decide +kernel
theorem dX11_isNoSignPoint_10 : decode cX11_isNoSignPoint 10 = .ok (.iconst 1, 1) := by decide +kernel
theorem dX11_isNoSignPoint_11 : decode cX11_isNoSignPoint 11 = .ok (.goto 4, 3) := by decide +kernel
theorem dX11_isNoSignPoint_14 : decode cX11_isNoSignPoint 14 = .ok (.iconst 0, 1) := by decide +kernel
theorem dX11_isNoSignPoint_15 : decode cX11_isNoSignPoint 15 = .ok (.ireturn, 1) := by decide +kernel
abbrev M_X11_isNoSignPoint : MRec := (yX11_isNoSignPoint, cX11_isNoSignPoint, 1, (some Jvm.ClassFile.FieldType.boolean), [])
theorem m_X11_isNoSignPoint : en_M M_X11_isNoSignPoint 1 := ⟨t_2311, t_1, ⟨by decide +kernel, by decide +kernel⟩, by decide +kernel, by decide +kernel, by decide +kernel⟩
theorem dX11_point_0 : decode cX11_point 0 = .ok (.iload_n 1, 1) := by decide +kernel
theorem dX11_point_1 : decode cX11_point 1 = .ok (.invokestatic 325, 3) := by decide +kernel
theorem dX11_point_4 : decode cX11_point 4 = .ok (.ifCond .eq 11, 3) := by decide +kernel
theorem dX11_point_7 : decode cX11_point 7 = .ok (.new 137, 3) := by decide +kernel
theorem dX11_point_10 : decode cX11_point 10 = .ok (.dup, 1) := by decide +kernel
theorem dX11_point_11 : decode cX11_point 11 = .ok (.invokespecial 139, 3) := by decide +kernel
theorem dX11_point_14 : decode cX11_point 14 = .ok (.athrow, 1) := by decide +kernel
theorem dX11_point_15 : decode cX11_point 15 = .ok (.lload_n 2, 1) := by decide +kernel
theorem dX11_point_16 : decode cX11_point 16 = .ok (.invokestatic 328, 3) := by decide +kernel
theorem dX11_point_19 : decode cX11_point 19 = .ok (.ifCond .ne 11, 3) := by decide +kernel
theorem dX11_point_22 : decode cX11_point 22 = .ok (.lload 4, 2) := by decide +kernel
theorem dX11_point_24 : decode cX11_point 24 = .ok (.invokestatic 328, 3) := by decide +kernel
theorem dX11_point_27 : decode cX11_point 27 = .ok (.ifCond .eq 11, 3) := by decide +kernel
theorem dX11_point_30 : decode cX11_point 30 = .ok (.new 116, 3) := by decide +kernel
theorem dX11_point_33 : decode cX11_point 33 = .ok (.dup, 1) := by decide +kernel
theorem dX11_point_34 : decode cX11_point 34 = .ok (.invokespecial 118, 3) := by decide +kernel
theorem dX11_point_37 : decode cX11_point 37 = .ok (.athrow, 1) := by decide +kernel
theorem dX11_point_38 : decode cX11_point 38 = .ok (.aload_n 0, 1) := by decide +kernel
theorem dX11_point_39 : decode cX11_point 39 = .ok (.getfield 90, 3) := by decide +kernel
theorem dX11_point_42 : decode cX11_point 42 = .ok (.getfield 332, 3) := by decide +kernel
theorem dX11_point_45 : decode cX11_point 45 = .ok (.iload_n 1, 1) := by decide +kernel
theorem dX11_point_46 : decode cX11_point 46 = .ok (.lload_n 2, 1) := by decide +kernel
theorem dX11_point_47 : decode cX11_point 47 = .ok (.lastore, 1) := by decide +kernel
theorem dX11_point_48 : decode cX11_point 48 = .ok (.aload_n 0, 1) := by decide +kernel
theorem dX11_point_49 : decode cX11_point 49 = .ok (.getfield 90, 3) := by decide +kernel
theorem dX11_point_52 : decode cX11_point 52 = .ok (.getfield 334, 3) := by decide +kernel
theorem dX11_point_55 : decode cX11_point 55 = .ok (.iload_n 1, 1) := by decide +kernel
theorem dX11_point_56 : decode cX11_point 56 = .ok (.lload 4, 2) := by decide +kernel
theorem dX11_point_58 : decode cX11_point 58 = .ok (.lastore, 1) := by decide +kernel
theorem dX11_point_59 : decode cX11_point 59 = .ok (.return_, 1) := by decide +kernel
abbrev M_X11_point : MRec := (yX11_point, cX11_point, 6, none, [])
theorem m_X11_point : en_M M_X11_point 3 := ⟨t_2308, t_1, ⟨by decide +kernel, by decide +kernel⟩, by decide +kernel, by decide +kernel, by decide +kernel⟩
theorem dX7_limbAt_0 : decode cX7_limbAt 0 = .ok (.iload_n 2, 1) := by decide +kernel
theorem dX7_limbAt_1 : decode cX7_limbAt 1 = .ok (.aload_n 0, 1) := by decide +kernel
theorem dX7_limbAt_2 : decode cX7_limbAt 2 = .ok (.getfield 23, 3) := by decide +kernel
theorem dX7_limbAt_5 : decode cX7_limbAt 5 = .ok (.iload_n 1, 1) := by decide +kernel
theorem dX7_limbAt_6 : decode cX7_limbAt 6 = .ok (.iaload, 1) := by decide +kernel
theorem dX7_limbAt_7 : decode cX7_limbAt 7 = .ok (.if_icmp .ge 19, 3) := by decide +kernel
theorem dX7_limbAt_10 : decode cX7_limbAt 10 = .ok (.aload_n 0, 1) := by decide +kernel
theorem dX7_limbAt_11 : decode cX7_limbAt 11 = .ok (.getfield 20, 3) := by decide +kernel
theorem dX7_limbAt_14 : decode cX7_limbAt 14 = .ok (.iload_n 1, 1) := by decide +kernel
theorem dX7_limbAt_15 : decode cX7_limbAt 15 = .ok (.aaload, 1) := by decide +kernel
theorem dX7_limbAt_16 : decode cX7_limbAt 16 = .ok (.iload_n 2, 1) := by decide +kernel
theorem dX7_limbAt_17 : decode cX7_limbAt 17 = .ok (.iaload, 1) := by decide +kernel
theorem dX7_limbAt_18 : decode cX7_limbAt 18 = .ok (.i2l, 1) := by decide +kernel
theorem dX7_limbAt_19 : decode cX7_limbAt 19 = .ok (.ldc2_w 63, 3) := by decide +kernel
theorem dX7_limbAt_22 : decode cX7_limbAt 22 = .ok (.land, 1) := by decide +kernel
theorem dX7_limbAt_23 : decode cX7_limbAt 23 = .ok (.goto 4, 3) := by decide +kernel
theorem dX7_limbAt_26 : decode cX7_limbAt 26 = .ok (.lconst 0, 1) := by decide +kernel
theorem dX7_limbAt_27 : decode cX7_limbAt 27 = .ok (.lreturn, 1) := by decide +kernel
abbrev M_X7_limbAt : MRec := (yX7_limbAt, cX7_limbAt, 3, (some Jvm.ClassFile.FieldType.long), [])
theorem m_X7_limbAt : en_M M_X7_limbAt 2 := ⟨t_2355, t_13, ⟨by decide +kernel, by decide +kernel⟩, by decide +kernel, by decide +kernel, by decide +kernel⟩
theorem dX7_addLimbs_0 : decode cX7_addLimbs 0 = .ok (.aload_n 0, 1) := by decide +kernel
theorem dX7_addLimbs_1 : decode cX7_addLimbs 1 = .ok (.getfield 23, 3) := by decide +kernel
theorem dX7_addLimbs_4 : decode cX7_addLimbs 4 = .ok (.iload_n 2, 1) := by decide +kernel
theorem dX7_addLimbs_5 : decode cX7_addLimbs 5 = .ok (.iaload, 1) := by decide +kernel
theorem dX7_addLimbs_6 : decode cX7_addLimbs 6 = .ok (.aload_n 0, 1) := by decide +kernel
theorem dX7_addLimbs_7 : decode cX7_addLimbs 7 = .ok (.getfield 23, 3) := by decide +kernel
theorem dX7_addLimbs_10 : decode cX7_addLimbs 10 = .ok (.iload_n 3, 1) := by decide +kernel
theorem dX7_addLimbs_11 : decode cX7_addLimbs 11 = .ok (.iaload, 1) := by decide +kernel
theorem dX7_addLimbs_12 : decode cX7_addLimbs 12 = .ok (.invokestatic 51, 3) := by decide +kernel
theorem dX7_addLimbs_15 : decode cX7_addLimbs 15 = .ok (.iconst 1, 1) := by decide +kernel
theorem dX7_addLimbs_16 : decode cX7_addLimbs 16 = .ok (.iadd, 1) := by decide +kernel
theorem dX7_addLimbs_17 : decode cX7_addLimbs 17 = .ok (.sipush 280, 3) := by decide +kernel
theorem dX7_addLimbs_20 : decode cX7_addLimbs 20 = .ok (.invokestatic 69, 3) := by decide +kernel
theorem dX7_addLimbs_23 : decode cX7_addLimbs 23 = .ok (.istore 5, 2) := by decide +kernel
theorem dX7_addLimbs_25 : decode cX7_addLimbs 25 = .ok (.lconst 0, 1) := by decide +kernel
theorem dX7_addLimbs_26 : decode cX7_addLimbs 26 = .ok (.lstore 6, 2) := by decide +kernel
theorem dX7_addLimbs_28 : decode cX7_addLimbs 28 = .ok (.iconst 0, 1) := by decide +kernel
theorem dX7_addLimbs_29 : decode cX7_addLimbs 29 = .ok (.istore 8, 2) := by decide +kernel
theorem dX7_addLimbs_31 : decode cX7_addLimbs 31 = .ok (.iload 8, 2) := by decide +kernel
theorem dX7_addLimbs_33 : decode cX7_addLimbs 33 = .ok (.iload 5, 2) := by decide +kernel
theorem dX7_addLimbs_35 : decode cX7_addLimbs 35 = .ok (.if_icmp .ge 52, 3) := by decide +kernel
theorem dX7_addLimbs_38 : decode cX7_addLimbs 38 = .ok (.aload_n 0, 1) := by decide +kernel
theorem dX7_addLimbs_39 : decode cX7_addLimbs 39 = .ok (.iload_n 2, 1) := by decide +kernel
theorem dX7_addLimbs_40 : decode cX7_addLimbs 40 = .ok (.iload 8, 2) := by decide +kernel
theorem dX7_addLimbs_42 : decode cX7_addLimbs 42 = .ok (.invokevirtual 72, 3) := by decide +kernel
theorem dX7_addLimbs_45 : decode cX7_addLimbs 45 = .ok (.iload 4, 2) := by decide +kernel
theorem dX7_addLimbs_47 : decode cX7_addLimbs 47 = .ok (.i2l, 1) := by decide +kernel
theorem dX7_addLimbs_48 : decode cX7_addLimbs 48 = .ok (.aload_n 0, 1) := by decide +kernel
theorem dX7_addLimbs_49 : decode cX7_addLimbs 49 = .ok (.iload_n 3, 1) := by decide +kernel
theorem dX7_addLimbs_50 : decode cX7_addLimbs 50 = .ok (.iload 8, 2) := by decide +kernel
theorem dX7_addLimbs_52 : decode cX7_addLimbs 52 = .ok (.invokevirtual 72, 3) := by decide +kernel
theorem dX7_addLimbs_55 : decode cX7_addLimbs 55 = .ok (.lmul, 1) := by decide +kernel
theorem dX7_addLimbs_56 : decode cX7_addLimbs 56 = .ok (.ladd, 1) := by decide +kernel
theorem dX7_addLimbs_57 : decode cX7_addLimbs 57 = .ok (.lload 6, 2) := by decide +kernel
theorem dX7_addLimbs_59 : decode cX7_addLimbs 59 = .ok (.ladd, 1) := by decide +kernel
theorem dX7_addLimbs_60 : decode cX7_addLimbs 60 = .ok (.lstore 9, 2) := by decide +kernel
theorem dX7_addLimbs_62 : decode cX7_addLimbs 62 = .ok (.aload_n 0, 1) := by decide +kernel
theorem dX7_addLimbs_63 : decode cX7_addLimbs 63 = .ok (.getfield 20, 3) := by decide +kernel
theorem dX7_addLimbs_66 : decode cX7_addLimbs 66 = .ok (.iload_n 1, 1) := by decide +kernel
theorem dX7_addLimbs_67 : decode cX7_addLimbs 67 = .ok (.aaload, 1) := by decide +kernel
theorem dX7_addLimbs_68 : decode cX7_addLimbs 68 = .ok (.iload 8, 2) := by decide +kernel
theorem dX7_addLimbs_70 : decode cX7_addLimbs 70 = .ok (.lload 9, 2) := by decide +kernel
theorem dX7_addLimbs_72 : decode cX7_addLimbs 72 = .ok (.l2i, 1) := by decide +kernel
theorem dX7_addLimbs_73 : decode cX7_addLimbs 73 = .ok (.iastore, 1) := by decide +kernel
theorem dX7_addLimbs_74 : decode cX7_addLimbs 74 = .ok (.lload 9, 2) := by decide +kernel
theorem dX7_addLimbs_76 : decode cX7_addLimbs 76 = .ok (.bipush 32, 2) := by decide +kernel
theorem dX7_addLimbs_78 : decode cX7_addLimbs 78 = .ok (.lshr, 1) := by decide +kernel
theorem dX7_addLimbs_79 : decode cX7_addLimbs 79 = .ok (.lstore 6, 2) := by decide +kernel
theorem dX7_addLimbs_81 : decode cX7_addLimbs 81 = .ok (.iinc 8 1, 3) := by decide +kernel
theorem dX7_addLimbs_84 : decode cX7_addLimbs 84 = .ok (.goto (-53), 3) := by decide +kernel
theorem dX7_addLimbs_87 : decode cX7_addLimbs 87 = .ok (.aload_n 0, 1) := by decide +kernel
theorem dX7_addLimbs_88 : decode cX7_addLimbs 88 = .ok (.getfield 23, 3) := by decide +kernel
theorem dX7_addLimbs_91 : decode cX7_addLimbs 91 = .ok (.iload_n 1, 1) := by decide +kernel
theorem dX7_addLimbs_92 : decode cX7_addLimbs 92 = .ok (.iload 5, 2) := by decide +kernel
theorem dX7_addLimbs_94 : decode cX7_addLimbs 94 = .ok (.iastore, 1) := by decide +kernel
theorem dX7_addLimbs_95 : decode cX7_addLimbs 95 = .ok (.return_, 1) := by decide +kernel
abbrev M_X7_addLimbs : MRec := (yX7_addLimbs, cX7_addLimbs, 11, none, [])
theorem m_X7_addLimbs : en_M M_X7_addLimbs 4 := ⟨t_2350, t_13, ⟨by decide +kernel, by decide +kernel⟩, by decide +kernel, by decide +kernel, by decide +kernel⟩
