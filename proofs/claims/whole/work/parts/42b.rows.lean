theorem dX6_rows_0 : decode cX6_rows 0 = .ok (.aload_n 0, 1) := by decide +kernel
theorem dX6_rows_1 : decode cX6_rows 1 = .ok (.getfield 11, 3) := by decide +kernel
theorem dX6_rows_4 : decode cX6_rows 4 = .ok (.iload_n 1, 1) := by decide +kernel
theorem dX6_rows_5 : decode cX6_rows 5 = .ok (.iaload, 1) := by decide +kernel
theorem dX6_rows_6 : decode cX6_rows 6 = .ok (.iconst 3, 1) := by decide +kernel
theorem dX6_rows_7 : decode cX6_rows 7 = .ok (.if_icmp .ne 12, 3) := by decide +kernel
theorem dX6_rows_10 : decode cX6_rows 10 = .ok (.aload_n 0, 1) := by decide +kernel
theorem dX6_rows_11 : decode cX6_rows 11 = .ok (.getfield 11, 3) := by decide +kernel
theorem dX6_rows_14 : decode cX6_rows 14 = .ok (.iload_n 1, 1) := by decide +kernel
theorem dX6_rows_15 : decode cX6_rows 15 = .ok (.iconst 1, 1) := by decide +kernel
theorem dX6_rows_16 : decode cX6_rows 16 = .ok (.iadd, 1) := by decide +kernel
theorem dX6_rows_17 : decode cX6_rows 17 = .ok (.iaload, 1) := by decide +kernel
theorem dX6_rows_18 : decode cX6_rows 18 = .ok (.ireturn, 1) := by decide +kernel
theorem dX6_rows_19 : decode cX6_rows 19 = .ok (.aload_n 0, 1) := by decide +kernel
theorem dX6_rows_20 : decode cX6_rows 20 = .ok (.getfield 11, 3) := by decide +kernel
theorem dX6_rows_23 : decode cX6_rows 23 = .ok (.iload_n 1, 1) := by decide +kernel
theorem dX6_rows_24 : decode cX6_rows 24 = .ok (.iaload, 1) := by decide +kernel
theorem dX6_rows_25 : decode cX6_rows 25 = .ok (.iconst 3, 1) := by decide +kernel
theorem dX6_rows_26 : decode cX6_rows 26 = .ok (.if_icmp .ge 7, 3) := by decide +kernel
theorem dX6_rows_29 : decode cX6_rows 29 = .ok (.iconst 1, 1) := by decide +kernel
theorem dX6_rows_30 : decode cX6_rows 30 = .ok (.goto 4, 3) := by decide +kernel
theorem dX6_rows_33 : decode cX6_rows 33 = .ok (.iconst 0, 1) := by decide +kernel
theorem dX6_rows_34 : decode cX6_rows 34 = .ok (.ireturn, 1) := by decide +kernel
abbrev M_X6_rows : MRec := (yX6_rows, cX6_rows, 2, (some Jvm.ClassFile.FieldType.int), [])
theorem m_X6_rows : en_M M_X6_rows 1 := ⟨t_1077, t_2, ⟨by decide +kernel, by decide +kernel⟩, by decide +kernel, by decide +kernel, by decide +kernel⟩
theorem dX1_layOut_0 : decode cX1_layOut 0 = .ok (.iload_n 3, 1) := by decide +kernel
theorem dX1_layOut_1 : decode cX1_layOut 1 = .ok (.istore 5, 2) := by decide +kernel
theorem dX1_layOut_3 : decode cX1_layOut 3 = .ok (.aload_n 0, 1) := by decide +kernel
theorem dX1_layOut_4 : decode cX1_layOut 4 = .ok (.getfield 41, 3) := by decide +kernel
theorem dX1_layOut_7 : decode cX1_layOut 7 = .ok (.iload 4, 2) := by decide +kernel
theorem dX1_layOut_9 : decode cX1_layOut 9 = .ok (.aload_n 0, 1) := by decide +kernel
theorem dX1_layOut_10 : decode cX1_layOut 10 = .ok (.getfield 88, 3) := by decide +kernel
theorem dX1_layOut_13 : decode cX1_layOut 13 = .ok (.iastore, 1) := by decide +kernel
theorem dX1_layOut_14 : decode cX1_layOut 14 = .ok (.iconst 0, 1) := by decide +kernel
theorem dX1_layOut_15 : decode cX1_layOut 15 = .ok (.istore 6, 2) := by decide +kernel
theorem dX1_layOut_17 : decode cX1_layOut 17 = .ok (.iload 6, 2) := by decide +kernel
theorem dX1_layOut_19 : decode cX1_layOut 19 = .ok (.aload_n 1, 1) := by decide +kernel
theorem dX1_layOut_20 : decode cX1_layOut 20 = .ok (.iload_n 2, 1) := by decide +kernel
theorem dX1_layOut_21 : decode cX1_layOut 21 = .ok (.invokevirtual 118, 3) := by decide +kernel
theorem dX1_layOut_24 : decode cX1_layOut 24 = .ok (.if_icmp .ge 188, 3) := by decide +kernel
theorem dX1_layOut_27 : decode cX1_layOut 27 = .ok (.aload_n 0, 1) := by decide +kernel
theorem dX1_layOut_28 : decode cX1_layOut 28 = .ok (.getfield 88, 3) := by decide +kernel
theorem dX1_layOut_31 : decode cX1_layOut 31 = .ok (.sipush 2048, 3) := by decide +kernel
theorem dX1_layOut_34 : decode cX1_layOut 34 = .ok (.if_icmp .ge 178, 3) := by decide +kernel
theorem dX1_layOut_37 : decode cX1_layOut 37 = .ok (.aload_n 1, 1) := by decide +kernel
theorem dX1_layOut_38 : decode cX1_layOut 38 = .ok (.iload_n 2, 1) := by decide +kernel
theorem dX1_layOut_39 : decode cX1_layOut 39 = .ok (.iload 6, 2) := by decide +kernel
theorem dX1_layOut_41 : decode cX1_layOut 41 = .ok (.invokevirtual 121, 3) := by decide +kernel
theorem dX1_layOut_44 : decode cX1_layOut 44 = .ok (.istore 7, 2) := by decide +kernel
theorem dX1_layOut_46 : decode cX1_layOut 46 = .ok (.aload_n 0, 1) := by decide +kernel
theorem dX1_layOut_47 : decode cX1_layOut 47 = .ok (.getfield 29, 3) := by decide +kernel
theorem dX1_layOut_50 : decode cX1_layOut 50 = .ok (.aload_n 0, 1) := by decide +kernel
theorem dX1_layOut_51 : decode cX1_layOut 51 = .ok (.getfield 88, 3) := by decide +kernel
theorem dX1_layOut_54 : decode cX1_layOut 54 = .ok (.iload 4, 2) := by decide +kernel
theorem dX1_layOut_56 : decode cX1_layOut 56 = .ok (.iastore, 1) := by decide +kernel
theorem dX1_layOut_57 : decode cX1_layOut 57 = .ok (.aload_n 0, 1) := by decide +kernel
theorem dX1_layOut_58 : decode cX1_layOut 58 = .ok (.getfield 32, 3) := by decide +kernel
theorem dX1_layOut_61 : decode cX1_layOut 61 = .ok (.aload_n 0, 1) := by decide +kernel
theorem dX1_layOut_62 : decode cX1_layOut 62 = .ok (.getfield 88, 3) := by decide +kernel
theorem dX1_layOut_65 : decode cX1_layOut 65 = .ok (.iload 6, 2) := by decide +kernel
theorem dX1_layOut_67 : decode cX1_layOut 67 = .ok (.iastore, 1) := by decide +kernel
theorem dX1_layOut_68 : decode cX1_layOut 68 = .ok (.aload_n 0, 1) := by decide +kernel
theorem dX1_layOut_69 : decode cX1_layOut 69 = .ok (.getfield 35, 3) := by decide +kernel
theorem dX1_layOut_72 : decode cX1_layOut 72 = .ok (.aload_n 0, 1) := by decide +kernel
theorem dX1_layOut_73 : decode cX1_layOut 73 = .ok (.getfield 88, 3) := by decide +kernel
theorem dX1_layOut_76 : decode cX1_layOut 76 = .ok (.aload_n 0, 1) := by decide +kernel
theorem dX1_layOut_77 : decode cX1_layOut 77 = .ok (.getfield 22, 3) := by decide +kernel
theorem dX1_layOut_80 : decode cX1_layOut 80 = .ok (.getfield 85, 3) := by decide +kernel
theorem dX1_layOut_83 : decode cX1_layOut 83 = .ok (.iastore, 1) := by decide +kernel
theorem dX1_layOut_84 : decode cX1_layOut 84 = .ok (.iconst 0, 1) := by decide +kernel
theorem dX1_layOut_85 : decode cX1_layOut 85 = .ok (.istore 8, 2) := by decide +kernel
theorem dX1_layOut_87 : decode cX1_layOut 87 = .ok (.iload 8, 2) := by decide +kernel
theorem dX1_layOut_89 : decode cX1_layOut 89 = .ok (.iconst 1, 1) := by decide +kernel
theorem dX1_layOut_90 : decode cX1_layOut 90 = .ok (.iadd, 1) := by decide +kernel
theorem dX1_layOut_91 : decode cX1_layOut 91 = .ok (.iload 7, 2) := by decide +kernel
theorem dX1_layOut_93 : decode cX1_layOut 93 = .ok (.if_icmp .ge 80, 3) := by decide +kernel
theorem dX1_layOut_96 : decode cX1_layOut 96 = .ok (.aload_n 0, 1) := by decide +kernel
theorem dX1_layOut_97 : decode cX1_layOut 97 = .ok (.getfield 22, 3) := by decide +kernel
theorem dX1_layOut_100 : decode cX1_layOut 100 = .ok (.getfield 85, 3) := by decide +kernel
theorem dX1_layOut_103 : decode cX1_layOut 103 = .ok (.sipush 2048, 3) := by decide +kernel
theorem dX1_layOut_106 : decode cX1_layOut 106 = .ok (.if_icmp .ge 67, 3) := by decide +kernel
theorem dX1_layOut_109 : decode cX1_layOut 109 = .ok (.aload_n 1, 1) := by decide +kernel
theorem dX1_layOut_110 : decode cX1_layOut 110 = .ok (.iload 5, 2) := by decide +kernel
theorem dX1_layOut_112 : decode cX1_layOut 112 = .ok (.iload 8, 2) := by decide +kernel
theorem dX1_layOut_114 : decode cX1_layOut 114 = .ok (.iadd, 1) := by decide +kernel
theorem dX1_layOut_115 : decode cX1_layOut 115 = .ok (.iload 5, 2) := by decide +kernel
theorem dX1_layOut_117 : decode cX1_layOut 117 = .ok (.iload 8, 2) := by decide +kernel
theorem dX1_layOut_119 : decode cX1_layOut 119 = .ok (.iadd, 1) := by decide +kernel
theorem dX1_layOut_120 : decode cX1_layOut 120 = .ok (.iconst 1, 1) := by decide +kernel
theorem dX1_layOut_121 : decode cX1_layOut 121 = .ok (.iadd, 1) := by decide +kernel
theorem dX1_layOut_122 : decode cX1_layOut 122 = .ok (.invokevirtual 81, 3) := by decide +kernel
theorem dX1_layOut_125 : decode cX1_layOut 125 = .ok (.ifCond .ne 42, 3) := by decide +kernel
theorem dX1_layOut_128 : decode cX1_layOut 128 = .ok (.aload_n 0, 1) := by decide +kernel
theorem dX1_layOut_129 : decode cX1_layOut 129 = .ok (.getfield 26, 3) := by decide +kernel
theorem dX1_layOut_132 : decode cX1_layOut 132 = .ok (.aload_n 0, 1) := by decide +kernel
theorem dX1_layOut_133 : decode cX1_layOut 133 = .ok (.getfield 22, 3) := by decide +kernel
theorem dX1_layOut_136 : decode cX1_layOut 136 = .ok (.getfield 85, 3) := by decide +kernel
theorem dX1_layOut_139 : decode cX1_layOut 139 = .ok (.iload 8, 2) := by decide +kernel
theorem dX1_layOut_141 : decode cX1_layOut 141 = .ok (.iastore, 1) := by decide +kernel
theorem dX1_layOut_142 : decode cX1_layOut 142 = .ok (.aload_n 0, 1) := by decide +kernel
theorem dX1_layOut_143 : decode cX1_layOut 143 = .ok (.getfield 22, 3) := by decide +kernel
theorem dX1_layOut_146 : decode cX1_layOut 146 = .ok (.aload_n 1, 1) := by decide +kernel
theorem dX1_layOut_147 : decode cX1_layOut 147 = .ok (.iload 5, 2) := by decide +kernel
theorem dX1_layOut_149 : decode cX1_layOut 149 = .ok (.iload 8, 2) := by decide +kernel
theorem dX1_layOut_151 : decode cX1_layOut 151 = .ok (.iadd, 1) := by decide +kernel
theorem dX1_layOut_152 : decode cX1_layOut 152 = .ok (.iload 5, 2) := by decide +kernel
theorem dX1_layOut_154 : decode cX1_layOut 154 = .ok (.iload 8, 2) := by decide +kernel
theorem dX1_layOut_156 : decode cX1_layOut 156 = .ok (.iadd, 1) := by decide +kernel
theorem dX1_layOut_157 : decode cX1_layOut 157 = .ok (.iconst 1, 1) := by decide +kernel
theorem dX1_layOut_158 : decode cX1_layOut 158 = .ok (.iadd, 1) := by decide +kernel
theorem dX1_layOut_159 : decode cX1_layOut 159 = .ok (.aload_n 0, 1) := by decide +kernel
theorem dX1_layOut_160 : decode cX1_layOut 160 = .ok (.getfield 88, 3) := by decide +kernel
theorem dX1_layOut_163 : decode cX1_layOut 163 = .ok (.invokevirtual 131, 3) := by decide +kernel
theorem dX1_layOut_166 : decode cX1_layOut 166 = .ok (.pop, 1) := by decide +kernel
theorem dX1_layOut_167 : decode cX1_layOut 167 = .ok (.iinc 8 1, 3) := by decide +kernel
theorem dX1_layOut_170 : decode cX1_layOut 170 = .ok (.goto (-83), 3) := by decide +kernel
theorem dX1_layOut_173 : decode cX1_layOut 173 = .ok (.aload_n 0, 1) := by decide +kernel
theorem dX1_layOut_174 : decode cX1_layOut 174 = .ok (.getfield 38, 3) := by decide +kernel
theorem dX1_layOut_177 : decode cX1_layOut 177 = .ok (.aload_n 0, 1) := by decide +kernel
theorem dX1_layOut_178 : decode cX1_layOut 178 = .ok (.getfield 88, 3) := by decide +kernel
theorem dX1_layOut_181 : decode cX1_layOut 181 = .ok (.aload_n 0, 1) := by decide +kernel
theorem dX1_layOut_182 : decode cX1_layOut 182 = .ok (.getfield 22, 3) := by decide +kernel
theorem dX1_layOut_185 : decode cX1_layOut 185 = .ok (.getfield 85, 3) := by decide +kernel
theorem dX1_layOut_188 : decode cX1_layOut 188 = .ok (.iastore, 1) := by decide +kernel
theorem dX1_layOut_189 : decode cX1_layOut 189 = .ok (.aload_n 0, 1) := by decide +kernel
theorem dX1_layOut_190 : decode cX1_layOut 190 = .ok (.dup, 1) := by decide +kernel
theorem dX1_layOut_191 : decode cX1_layOut 191 = .ok (.getfield 88, 3) := by decide +kernel
theorem dX1_layOut_194 : decode cX1_layOut 194 = .ok (.iconst 1, 1) := by decide +kernel
theorem dX1_layOut_195 : decode cX1_layOut 195 = .ok (.iadd, 1) := by decide +kernel
theorem dX1_layOut_196 : decode cX1_layOut 196 = .ok (.putfield 88, 3) := by decide +kernel
theorem dX1_layOut_199 : decode cX1_layOut 199 = .ok (.iload 5, 2) := by decide +kernel
theorem dX1_layOut_201 : decode cX1_layOut 201 = .ok (.iload 7, 2) := by decide +kernel
theorem dX1_layOut_203 : decode cX1_layOut 203 = .ok (.iadd, 1) := by decide +kernel
theorem dX1_layOut_204 : decode cX1_layOut 204 = .ok (.istore 5, 2) := by decide +kernel
theorem dX1_layOut_206 : decode cX1_layOut 206 = .ok (.iinc 6 1, 3) := by decide +kernel
theorem dX1_layOut_209 : decode cX1_layOut 209 = .ok (.goto (-192), 3) := by decide +kernel
theorem dX1_layOut_212 : decode cX1_layOut 212 = .ok (.aload_n 0, 1) := by decide +kernel
theorem dX1_layOut_213 : decode cX1_layOut 213 = .ok (.getfield 44, 3) := by decide +kernel
theorem dX1_layOut_216 : decode cX1_layOut 216 = .ok (.iload 4, 2) := by decide +kernel
theorem dX1_layOut_218 : decode cX1_layOut 218 = .ok (.aload_n 0, 1) := by decide +kernel
theorem dX1_layOut_219 : decode cX1_layOut 219 = .ok (.getfield 88, 3) := by decide +kernel
theorem dX1_layOut_222 : decode cX1_layOut 222 = .ok (.iastore, 1) := by decide +kernel
theorem dX1_layOut_223 : decode cX1_layOut 223 = .ok (.return_, 1) := by decide +kernel
abbrev M_X1_layOut : MRec := (yX1_layOut, cX1_layOut, 9, none, [])
theorem m_X1_layOut : en_M M_X1_layOut 4 := ⟨t_1216, t_6, ⟨by decide +kernel, by decide +kernel⟩, by decide +kernel, by decide +kernel, by decide +kernel⟩
theorem dX1_nextOf_0 : decode cX1_nextOf 0 = .ok (.aload_n 0, 1) := by decide +kernel
theorem dX1_nextOf_1 : decode cX1_nextOf 1 = .ok (.getfield 22, 3) := by decide +kernel
theorem dX1_nextOf_4 : decode cX1_nextOf 4 = .ok (.getfield 115, 3) := by decide +kernel
theorem dX1_nextOf_7 : decode cX1_nextOf 7 = .ok (.iload_n 1, 1) := by decide +kernel
theorem dX1_nextOf_8 : decode cX1_nextOf 8 = .ok (.iaload, 1) := by decide +kernel
theorem dX1_nextOf_9 : decode cX1_nextOf 9 = .ok (.istore_n 2, 1) := by decide +kernel
theorem dX1_nextOf_10 : decode cX1_nextOf 10 = .ok (.iload_n 1, 1) := by decide +kernel
theorem dX1_nextOf_11 : decode cX1_nextOf 11 = .ok (.iconst 1, 1) := by decide +kernel
theorem dX1_nextOf_12 : decode cX1_nextOf 12 = .ok (.iadd, 1) := by decide +kernel
theorem dX1_nextOf_13 : decode cX1_nextOf 13 = .ok (.aload_n 0, 1) := by decide +kernel
theorem dX1_nextOf_14 : decode cX1_nextOf 14 = .ok (.getfield 38, 3) := by decide +kernel
theorem dX1_nextOf_17 : decode cX1_nextOf 17 = .ok (.iload_n 2, 1) := by decide +kernel
theorem dX1_nextOf_18 : decode cX1_nextOf 18 = .ok (.iaload, 1) := by decide +kernel
theorem dX1_nextOf_19 : decode cX1_nextOf 19 = .ok (.if_icmp .ge 9, 3) := by decide +kernel
theorem dX1_nextOf_22 : decode cX1_nextOf 22 = .ok (.iload_n 1, 1) := by decide +kernel
theorem dX1_nextOf_23 : decode cX1_nextOf 23 = .ok (.iconst 1, 1) := by decide +kernel
theorem dX1_nextOf_24 : decode cX1_nextOf 24 = .ok (.iadd, 1) := by decide +kernel
theorem dX1_nextOf_25 : decode cX1_nextOf 25 = .ok (.goto 9, 3) := by decide +kernel
theorem dX1_nextOf_28 : decode cX1_nextOf 28 = .ok (.aload_n 0, 1) := by decide +kernel
theorem dX1_nextOf_29 : decode cX1_nextOf 29 = .ok (.getfield 35, 3) := by decide +kernel
theorem dX1_nextOf_32 : decode cX1_nextOf 32 = .ok (.iload_n 2, 1) := by decide +kernel
theorem dX1_nextOf_33 : decode cX1_nextOf 33 = .ok (.iaload, 1) := by decide +kernel
theorem dX1_nextOf_34 : decode cX1_nextOf 34 = .ok (.ireturn, 1) := by decide +kernel
abbrev M_X1_nextOf : MRec := (yX1_nextOf, cX1_nextOf, 3, (some Jvm.ClassFile.FieldType.int), [])
theorem m_X1_nextOf : en_M M_X1_nextOf 1 := ⟨t_1293, t_6, ⟨by decide +kernel, by decide +kernel⟩, by decide +kernel, by decide +kernel, by decide +kernel⟩
theorem dX5_ends_0 : decode cX5_ends 0 = .ok (.aload_n 0, 1) := by decide +kernel
theorem dX5_ends_1 : decode cX5_ends 1 = .ok (.getfield 16, 3) := by decide +kernel
theorem dX5_ends_4 : decode cX5_ends 4 = .ok (.iload_n 1, 1) := by decide +kernel
theorem dX5_ends_5 : decode cX5_ends 5 = .ok (.iaload, 1) := by decide +kernel
theorem dX5_ends_6 : decode cX5_ends 6 = .ok (.iload_n 2, 1) := by decide +kernel
theorem dX5_ends_7 : decode cX5_ends 7 = .ok (.if_icmp .ne 17, 3) := by decide +kernel
theorem dX5_ends_10 : decode cX5_ends 10 = .ok (.aload_n 0, 1) := by decide +kernel
theorem dX5_ends_11 : decode cX5_ends 11 = .ok (.getfield 19, 3) := by decide +kernel
theorem dX5_ends_14 : decode cX5_ends 14 = .ok (.iload_n 1, 1) := by decide +kernel
theorem dX5_ends_15 : decode cX5_ends 15 = .ok (.iaload, 1) := by decide +kernel
theorem dX5_ends_16 : decode cX5_ends 16 = .ok (.iload_n 3, 1) := by decide +kernel
theorem dX5_ends_17 : decode cX5_ends 17 = .ok (.if_icmp .ne 7, 3) := by decide +kernel
theorem dX5_ends_20 : decode cX5_ends 20 = .ok (.iconst 1, 1) := by decide +kernel
theorem dX5_ends_21 : decode cX5_ends 21 = .ok (.goto 4, 3) := by decide +kernel
theorem dX5_ends_24 : decode cX5_ends 24 = .ok (.iconst 0, 1) := by decide +kernel
theorem dX5_ends_25 : decode cX5_ends 25 = .ok (.ireturn, 1) := by decide +kernel
abbrev M_X5_ends : MRec := (yX5_ends, cX5_ends, 4, (some Jvm.ClassFile.FieldType.boolean), [])
theorem m_X5_ends : en_M M_X5_ends 3 := ⟨t_1289, t_7, ⟨by decide +kernel, by decide +kernel⟩, by decide +kernel, by decide +kernel, by decide +kernel⟩
theorem dX1_leadsOnTo_0 : decode cX1_leadsOnTo 0 = .ok (.aload_n 0, 1) := by decide +kernel
theorem dX1_leadsOnTo_1 : decode cX1_leadsOnTo 1 = .ok (.iload_n 1, 1) := by decide +kernel
theorem dX1_leadsOnTo_2 : decode cX1_leadsOnTo 2 = .ok (.invokevirtual 156, 3) := by decide +kernel
theorem dX1_leadsOnTo_5 : decode cX1_leadsOnTo 5 = .ok (.iload_n 2, 1) := by decide +kernel
theorem dX1_leadsOnTo_6 : decode cX1_leadsOnTo 6 = .ok (.if_icmp .ne 57, 3) := by decide +kernel
theorem dX1_leadsOnTo_9 : decode cX1_leadsOnTo 9 = .ok (.aload_n 0, 1) := by decide +kernel
theorem dX1_leadsOnTo_10 : decode cX1_leadsOnTo 10 = .ok (.getfield 22, 3) := by decide +kernel
theorem dX1_leadsOnTo_13 : decode cX1_leadsOnTo 13 = .ok (.iload_n 1, 1) := by decide +kernel
theorem dX1_leadsOnTo_14 : decode cX1_leadsOnTo 14 = .ok (.aload_n 0, 1) := by decide +kernel
theorem dX1_leadsOnTo_15 : decode cX1_leadsOnTo 15 = .ok (.getfield 22, 3) := by decide +kernel
theorem dX1_leadsOnTo_18 : decode cX1_leadsOnTo 18 = .ok (.getfield 159, 3) := by decide +kernel
theorem dX1_leadsOnTo_21 : decode cX1_leadsOnTo 21 = .ok (.aload_n 0, 1) := by decide +kernel
theorem dX1_leadsOnTo_22 : decode cX1_leadsOnTo 22 = .ok (.getfield 22, 3) := by decide +kernel
theorem dX1_leadsOnTo_25 : decode cX1_leadsOnTo 25 = .ok (.getfield 162, 3) := by decide +kernel
theorem dX1_leadsOnTo_28 : decode cX1_leadsOnTo 28 = .ok (.invokevirtual 165, 3) := by decide +kernel
theorem dX1_leadsOnTo_31 : decode cX1_leadsOnTo 31 = .ok (.ifCond .eq 32, 3) := by decide +kernel
theorem dX1_leadsOnTo_34 : decode cX1_leadsOnTo 34 = .ok (.aload_n 0, 1) := by decide +kernel
theorem dX1_leadsOnTo_35 : decode cX1_leadsOnTo 35 = .ok (.getfield 22, 3) := by decide +kernel
theorem dX1_leadsOnTo_38 : decode cX1_leadsOnTo 38 = .ok (.iload_n 2, 1) := by decide +kernel
theorem dX1_leadsOnTo_39 : decode cX1_leadsOnTo 39 = .ok (.aload_n 0, 1) := by decide +kernel
theorem dX1_leadsOnTo_40 : decode cX1_leadsOnTo 40 = .ok (.getfield 22, 3) := by decide +kernel
theorem dX1_leadsOnTo_43 : decode cX1_leadsOnTo 43 = .ok (.getfield 159, 3) := by decide +kernel
theorem dX1_leadsOnTo_46 : decode cX1_leadsOnTo 46 = .ok (.aload_n 0, 1) := by decide +kernel
theorem dX1_leadsOnTo_47 : decode cX1_leadsOnTo 47 = .ok (.getfield 22, 3) := by decide +kernel
theorem dX1_leadsOnTo_50 : decode cX1_leadsOnTo 50 = .ok (.getfield 162, 3) := by decide +kernel
theorem dX1_leadsOnTo_53 : decode cX1_leadsOnTo 53 = .ok (.invokevirtual 169, 3) := by decide +kernel
theorem dX1_leadsOnTo_56 : decode cX1_leadsOnTo 56 = .ok (.ifCond .eq 7, 3) := by decide +kernel
theorem dX1_leadsOnTo_59 : decode cX1_leadsOnTo 59 = .ok (.iconst 1, 1) := by decide +kernel
theorem dX1_leadsOnTo_60 : decode cX1_leadsOnTo 60 = .ok (.goto 4, 3) := by decide +kernel
theorem dX1_leadsOnTo_63 : decode cX1_leadsOnTo 63 = .ok (.iconst 0, 1) := by decide +kernel
theorem dX1_leadsOnTo_64 : decode cX1_leadsOnTo 64 = .ok (.ireturn, 1) := by decide +kernel
abbrev M_X1_leadsOnTo : MRec := (yX1_leadsOnTo, cX1_leadsOnTo, 3, (some Jvm.ClassFile.FieldType.boolean), [])
theorem m_X1_leadsOnTo : en_M M_X1_leadsOnTo 2 := ⟨t_1302, t_6, ⟨by decide +kernel, by decide +kernel⟩, by decide +kernel, by decide +kernel, by decide +kernel⟩
theorem dX1_isLeft_0 : decode cX1_isLeft 0 = .ok (.aload_n 0, 1) := by decide +kernel
theorem dX1_isLeft_1 : decode cX1_isLeft 1 = .ok (.getfield 22, 3) := by decide +kernel
theorem dX1_isLeft_4 : decode cX1_isLeft 4 = .ok (.getfield 159, 3) := by decide +kernel
theorem dX1_isLeft_7 : decode cX1_isLeft 7 = .ok (.istore 5, 2) := by decide +kernel
theorem dX1_isLeft_9 : decode cX1_isLeft 9 = .ok (.aload_n 0, 1) := by decide +kernel
theorem dX1_isLeft_10 : decode cX1_isLeft 10 = .ok (.getfield 22, 3) := by decide +kernel
theorem dX1_isLeft_13 : decode cX1_isLeft 13 = .ok (.getfield 162, 3) := by decide +kernel
theorem dX1_isLeft_16 : decode cX1_isLeft 16 = .ok (.istore 6, 2) := by decide +kernel
theorem dX1_isLeft_18 : decode cX1_isLeft 18 = .ok (.aload_n 0, 1) := by decide +kernel
theorem dX1_isLeft_19 : decode cX1_isLeft 19 = .ok (.getfield 22, 3) := by decide +kernel
theorem dX1_isLeft_22 : decode cX1_isLeft 22 = .ok (.getfield 172, 3) := by decide +kernel
theorem dX1_isLeft_25 : decode cX1_isLeft 25 = .ok (.iload_n 2, 1) := by decide +kernel
theorem dX1_isLeft_26 : decode cX1_isLeft 26 = .ok (.iaload, 1) := by decide +kernel
theorem dX1_isLeft_27 : decode cX1_isLeft 27 = .ok (.istore 7, 2) := by decide +kernel
theorem dX1_isLeft_29 : decode cX1_isLeft 29 = .ok (.aload_n 0, 1) := by decide +kernel
theorem dX1_isLeft_30 : decode cX1_isLeft 30 = .ok (.getfield 22, 3) := by decide +kernel
theorem dX1_isLeft_33 : decode cX1_isLeft 33 = .ok (.getfield 175, 3) := by decide +kernel
theorem dX1_isLeft_36 : decode cX1_isLeft 36 = .ok (.iload_n 2, 1) := by decide +kernel
theorem dX1_isLeft_37 : decode cX1_isLeft 37 = .ok (.iaload, 1) := by decide +kernel
theorem dX1_isLeft_38 : decode cX1_isLeft 38 = .ok (.istore 8, 2) := by decide +kernel
theorem dX1_isLeft_40 : decode cX1_isLeft 40 = .ok (.aload_n 0, 1) := by decide +kernel
theorem dX1_isLeft_41 : decode cX1_isLeft 41 = .ok (.getfield 22, 3) := by decide +kernel
theorem dX1_isLeft_44 : decode cX1_isLeft 44 = .ok (.getfield 182, 3) := by decide +kernel
theorem dX1_isLeft_47 : decode cX1_isLeft 47 = .ok (.iload_n 1, 1) := by decide +kernel
theorem dX1_isLeft_48 : decode cX1_isLeft 48 = .ok (.iaload, 1) := by decide +kernel
theorem dX1_isLeft_49 : decode cX1_isLeft 49 = .ok (.istore 9, 2) := by decide +kernel
theorem dX1_isLeft_51 : decode cX1_isLeft 51 = .ok (.aload_n 0, 1) := by decide +kernel
theorem dX1_isLeft_52 : decode cX1_isLeft 52 = .ok (.getfield 22, 3) := by decide +kernel
theorem dX1_isLeft_55 : decode cX1_isLeft 55 = .ok (.getfield 185, 3) := by decide +kernel
theorem dX1_isLeft_58 : decode cX1_isLeft 58 = .ok (.iload_n 1, 1) := by decide +kernel
theorem dX1_isLeft_59 : decode cX1_isLeft 59 = .ok (.iaload, 1) := by decide +kernel
theorem dX1_isLeft_60 : decode cX1_isLeft 60 = .ok (.istore 10, 2) := by decide +kernel
theorem dX1_isLeft_62 : decode cX1_isLeft 62 = .ok (.iload 5, 2) := by decide +kernel
theorem dX1_isLeft_64 : decode cX1_isLeft 64 = .ok (.i2l, 1) := by decide +kernel
theorem dX1_isLeft_65 : decode cX1_isLeft 65 = .ok (.iload 6, 2) := by decide +kernel
theorem dX1_isLeft_67 : decode cX1_isLeft 67 = .ok (.i2l, 1) := by decide +kernel
theorem dX1_isLeft_68 : decode cX1_isLeft 68 = .ok (.iload 7, 2) := by decide +kernel
theorem dX1_isLeft_70 : decode cX1_isLeft 70 = .ok (.i2l, 1) := by decide +kernel
theorem dX1_isLeft_71 : decode cX1_isLeft 71 = .ok (.iload 8, 2) := by decide +kernel
theorem dX1_isLeft_73 : decode cX1_isLeft 73 = .ok (.i2l, 1) := by decide +kernel
theorem dX1_isLeft_74 : decode cX1_isLeft 74 = .ok (.iload_n 3, 1) := by decide +kernel
theorem dX1_isLeft_75 : decode cX1_isLeft 75 = .ok (.i2l, 1) := by decide +kernel
theorem dX1_isLeft_76 : decode cX1_isLeft 76 = .ok (.iload 4, 2) := by decide +kernel
theorem dX1_isLeft_78 : decode cX1_isLeft 78 = .ok (.i2l, 1) := by decide +kernel
theorem dX1_isLeft_79 : decode cX1_isLeft 79 = .ok (.invokestatic 188, 3) := by decide +kernel
theorem dX1_isLeft_82 : decode cX1_isLeft 82 = .ok (.istore 11, 2) := by decide +kernel
theorem dX1_isLeft_84 : decode cX1_isLeft 84 = .ok (.iload 5, 2) := by decide +kernel
theorem dX1_isLeft_86 : decode cX1_isLeft 86 = .ok (.i2l, 1) := by decide +kernel
theorem dX1_isLeft_87 : decode cX1_isLeft 87 = .ok (.iload 6, 2) := by decide +kernel
theorem dX1_isLeft_89 : decode cX1_isLeft 89 = .ok (.i2l, 1) := by decide +kernel
theorem dX1_isLeft_90 : decode cX1_isLeft 90 = .ok (.iload 9, 2) := by decide +kernel
theorem dX1_isLeft_92 : decode cX1_isLeft 92 = .ok (.i2l, 1) := by decide +kernel
theorem dX1_isLeft_93 : decode cX1_isLeft 93 = .ok (.iload 10, 2) := by decide +kernel
theorem dX1_isLeft_95 : decode cX1_isLeft 95 = .ok (.i2l, 1) := by decide +kernel
theorem dX1_isLeft_96 : decode cX1_isLeft 96 = .ok (.iload_n 3, 1) := by decide +kernel
theorem dX1_isLeft_97 : decode cX1_isLeft 97 = .ok (.i2l, 1) := by decide +kernel
theorem dX1_isLeft_98 : decode cX1_isLeft 98 = .ok (.iload 4, 2) := by decide +kernel
theorem dX1_isLeft_100 : decode cX1_isLeft 100 = .ok (.i2l, 1) := by decide +kernel
theorem dX1_isLeft_101 : decode cX1_isLeft 101 = .ok (.invokestatic 188, 3) := by decide +kernel
theorem dX1_isLeft_104 : decode cX1_isLeft 104 = .ok (.istore 12, 2) := by decide +kernel
theorem dX1_isLeft_106 : decode cX1_isLeft 106 = .ok (.iload 5, 2) := by decide +kernel
theorem dX1_isLeft_108 : decode cX1_isLeft 108 = .ok (.i2l, 1) := by decide +kernel
theorem dX1_isLeft_109 : decode cX1_isLeft 109 = .ok (.iload 6, 2) := by decide +kernel
theorem dX1_isLeft_111 : decode cX1_isLeft 111 = .ok (.i2l, 1) := by decide +kernel
theorem dX1_isLeft_112 : decode cX1_isLeft 112 = .ok (.iload 7, 2) := by decide +kernel
theorem dX1_isLeft_114 : decode cX1_isLeft 114 = .ok (.i2l, 1) := by decide +kernel
theorem dX1_isLeft_115 : decode cX1_isLeft 115 = .ok (.iload 8, 2) := by decide +kernel
theorem dX1_isLeft_117 : decode cX1_isLeft 117 = .ok (.i2l, 1) := by decide +kernel
theorem dX1_isLeft_118 : decode cX1_isLeft 118 = .ok (.iload 9, 2) := by decide +kernel
theorem dX1_isLeft_120 : decode cX1_isLeft 120 = .ok (.i2l, 1) := by decide +kernel
theorem dX1_isLeft_121 : decode cX1_isLeft 121 = .ok (.iload 10, 2) := by decide +kernel
theorem dX1_isLeft_123 : decode cX1_isLeft 123 = .ok (.i2l, 1) := by decide +kernel
theorem dX1_isLeft_124 : decode cX1_isLeft 124 = .ok (.invokestatic 188, 3) := by decide +kernel
theorem dX1_isLeft_127 : decode cX1_isLeft 127 = .ok (.istore 13, 2) := by decide +kernel
theorem dX1_isLeft_129 : decode cX1_isLeft 129 = .ok (.iload 13, 2) := by decide +kernel
theorem dX1_isLeft_131 : decode cX1_isLeft 131 = .ok (.ifCond .le 19, 3) := by decide +kernel
theorem dX1_isLeft_134 : decode cX1_isLeft 134 = .ok (.iload 11, 2) := by decide +kernel
theorem dX1_isLeft_136 : decode cX1_isLeft 136 = .ok (.ifCond .le 12, 3) := by decide +kernel
theorem dX1_isLeft_139 : decode cX1_isLeft 139 = .ok (.iload 12, 2) := by decide +kernel
theorem dX1_isLeft_141 : decode cX1_isLeft 141 = .ok (.ifCond .ge 7, 3) := by decide +kernel
theorem dX1_isLeft_144 : decode cX1_isLeft 144 = .ok (.iconst 1, 1) := by decide +kernel
theorem dX1_isLeft_145 : decode cX1_isLeft 145 = .ok (.goto 4, 3) := by decide +kernel
theorem dX1_isLeft_148 : decode cX1_isLeft 148 = .ok (.iconst 0, 1) := by decide +kernel
theorem dX1_isLeft_149 : decode cX1_isLeft 149 = .ok (.ireturn, 1) := by decide +kernel
theorem dX1_isLeft_150 : decode cX1_isLeft 150 = .ok (.iload 13, 2) := by decide +kernel
theorem dX1_isLeft_152 : decode cX1_isLeft 152 = .ok (.ifCond .ge 19, 3) := by decide +kernel
theorem dX1_isLeft_155 : decode cX1_isLeft 155 = .ok (.iload 11, 2) := by decide +kernel
theorem dX1_isLeft_157 : decode cX1_isLeft 157 = .ok (.ifCond .gt 8, 3) := by decide +kernel
theorem dX1_isLeft_160 : decode cX1_isLeft 160 = .ok (.iload 12, 2) := by decide +kernel
theorem dX1_isLeft_162 : decode cX1_isLeft 162 = .ok (.ifCond .ge 7, 3) := by decide +kernel
theorem dX1_isLeft_165 : decode cX1_isLeft 165 = .ok (.iconst 1, 1) := by decide +kernel
theorem dX1_isLeft_166 : decode cX1_isLeft 166 = .ok (.goto 4, 3) := by decide +kernel
theorem dX1_isLeft_169 : decode cX1_isLeft 169 = .ok (.iconst 0, 1) := by decide +kernel
theorem dX1_isLeft_170 : decode cX1_isLeft 170 = .ok (.ireturn, 1) := by decide +kernel
theorem dX1_isLeft_171 : decode cX1_isLeft 171 = .ok (.iload 7, 2) := by decide +kernel
theorem dX1_isLeft_173 : decode cX1_isLeft 173 = .ok (.iload 5, 2) := by decide +kernel
theorem dX1_isLeft_175 : decode cX1_isLeft 175 = .ok (.if_icmp .le 7, 3) := by decide +kernel
theorem dX1_isLeft_178 : decode cX1_isLeft 178 = .ok (.iconst 1, 1) := by decide +kernel
theorem dX1_isLeft_179 : decode cX1_isLeft 179 = .ok (.goto 4, 3) := by decide +kernel
theorem dX1_isLeft_182 : decode cX1_isLeft 182 = .ok (.iconst 0, 1) := by decide +kernel
theorem dX1_isLeft_183 : decode cX1_isLeft 183 = .ok (.iload 9, 2) := by decide +kernel
theorem dX1_isLeft_185 : decode cX1_isLeft 185 = .ok (.iload 5, 2) := by decide +kernel
theorem dX1_isLeft_187 : decode cX1_isLeft 187 = .ok (.if_icmp .le 7, 3) := by decide +kernel
theorem dX1_isLeft_190 : decode cX1_isLeft 190 = .ok (.iconst 1, 1) := by decide +kernel
theorem dX1_isLeft_191 : decode cX1_isLeft 191 = .ok (.goto 4, 3) := by decide +kernel
theorem dX1_isLeft_194 : decode cX1_isLeft 194 = .ok (.iconst 0, 1) := by decide +kernel
theorem dX1_isLeft_195 : decode cX1_isLeft 195 = .ok (.if_icmp .ne 88, 3) := by decide +kernel
theorem dX1_isLeft_198 : decode cX1_isLeft 198 = .ok (.iload 7, 2) := by decide +kernel
theorem dX1_isLeft_200 : decode cX1_isLeft 200 = .ok (.iload 5, 2) := by decide +kernel
theorem dX1_isLeft_202 : decode cX1_isLeft 202 = .ok (.if_icmp .ge 7, 3) := by decide +kernel
theorem dX1_isLeft_205 : decode cX1_isLeft 205 = .ok (.iconst 1, 1) := by decide +kernel
theorem dX1_isLeft_206 : decode cX1_isLeft 206 = .ok (.goto 4, 3) := by decide +kernel
theorem dX1_isLeft_209 : decode cX1_isLeft 209 = .ok (.iconst 0, 1) := by decide +kernel
theorem dX1_isLeft_210 : decode cX1_isLeft 210 = .ok (.iload 9, 2) := by decide +kernel
theorem dX1_isLeft_212 : decode cX1_isLeft 212 = .ok (.iload 5, 2) := by decide +kernel
theorem dX1_isLeft_214 : decode cX1_isLeft 214 = .ok (.if_icmp .ge 7, 3) := by decide +kernel
theorem dX1_isLeft_217 : decode cX1_isLeft 217 = .ok (.iconst 1, 1) := by decide +kernel
theorem dX1_isLeft_218 : decode cX1_isLeft 218 = .ok (.goto 4, 3) := by decide +kernel
theorem dX1_isLeft_221 : decode cX1_isLeft 221 = .ok (.iconst 0, 1) := by decide +kernel
theorem dX1_isLeft_222 : decode cX1_isLeft 222 = .ok (.if_icmp .ne 61, 3) := by decide +kernel
theorem dX1_isLeft_225 : decode cX1_isLeft 225 = .ok (.iload 8, 2) := by decide +kernel
theorem dX1_isLeft_227 : decode cX1_isLeft 227 = .ok (.iload 6, 2) := by decide +kernel
theorem dX1_isLeft_229 : decode cX1_isLeft 229 = .ok (.if_icmp .le 7, 3) := by decide +kernel
theorem dX1_isLeft_232 : decode cX1_isLeft 232 = .ok (.iconst 1, 1) := by decide +kernel
theorem dX1_isLeft_233 : decode cX1_isLeft 233 = .ok (.goto 4, 3) := by decide +kernel
theorem dX1_isLeft_236 : decode cX1_isLeft 236 = .ok (.iconst 0, 1) := by decide +kernel
theorem dX1_isLeft_237 : decode cX1_isLeft 237 = .ok (.iload 10, 2) := by decide +kernel
theorem dX1_isLeft_239 : decode cX1_isLeft 239 = .ok (.iload 6, 2) := by decide +kernel
theorem dX1_isLeft_241 : decode cX1_isLeft 241 = .ok (.if_icmp .le 7, 3) := by decide +kernel
theorem dX1_isLeft_244 : decode cX1_isLeft 244 = .ok (.iconst 1, 1) := by decide +kernel
theorem dX1_isLeft_245 : decode cX1_isLeft 245 = .ok (.goto 4, 3) := by decide +kernel
theorem dX1_isLeft_248 : decode cX1_isLeft 248 = .ok (.iconst 0, 1) := by decide +kernel
theorem dX1_isLeft_249 : decode cX1_isLeft 249 = .ok (.if_icmp .ne 34, 3) := by decide +kernel
theorem dX1_isLeft_252 : decode cX1_isLeft 252 = .ok (.iload 8, 2) := by decide +kernel
theorem dX1_isLeft_254 : decode cX1_isLeft 254 = .ok (.iload 6, 2) := by decide +kernel
theorem dX1_isLeft_256 : decode cX1_isLeft 256 = .ok (.if_icmp .ge 7, 3) := by decide +kernel
theorem dX1_isLeft_259 : decode cX1_isLeft 259 = .ok (.iconst 1, 1) := by decide +kernel
theorem dX1_isLeft_260 : decode cX1_isLeft 260 = .ok (.goto 4, 3) := by decide +kernel
theorem dX1_isLeft_263 : decode cX1_isLeft 263 = .ok (.iconst 0, 1) := by decide +kernel
theorem dX1_isLeft_264 : decode cX1_isLeft 264 = .ok (.iload 10, 2) := by decide +kernel
theorem dX1_isLeft_266 : decode cX1_isLeft 266 = .ok (.iload 6, 2) := by decide +kernel
theorem dX1_isLeft_268 : decode cX1_isLeft 268 = .ok (.if_icmp .ge 7, 3) := by decide +kernel
theorem dX1_isLeft_271 : decode cX1_isLeft 271 = .ok (.iconst 1, 1) := by decide +kernel
theorem dX1_isLeft_272 : decode cX1_isLeft 272 = .ok (.goto 4, 3) := by decide +kernel
theorem dX1_isLeft_275 : decode cX1_isLeft 275 = .ok (.iconst 0, 1) := by decide +kernel
theorem dX1_isLeft_276 : decode cX1_isLeft 276 = .ok (.if_icmp .ne 7, 3) := by decide +kernel
theorem dX1_isLeft_279 : decode cX1_isLeft 279 = .ok (.iconst 1, 1) := by decide +kernel
theorem dX1_isLeft_280 : decode cX1_isLeft 280 = .ok (.goto 4, 3) := by decide +kernel
theorem dX1_isLeft_283 : decode cX1_isLeft 283 = .ok (.iconst 0, 1) := by decide +kernel
theorem dX1_isLeft_284 : decode cX1_isLeft 284 = .ok (.istore 14, 2) := by decide +kernel
theorem dX1_isLeft_286 : decode cX1_isLeft 286 = .ok (.iload 14, 2) := by decide +kernel
theorem dX1_isLeft_288 : decode cX1_isLeft 288 = .ok (.ifCond .ne 12, 3) := by decide +kernel
theorem dX1_isLeft_291 : decode cX1_isLeft 291 = .ok (.iload 11, 2) := by decide +kernel
theorem dX1_isLeft_293 : decode cX1_isLeft 293 = .ok (.ifCond .le 7, 3) := by decide +kernel
theorem dX1_isLeft_296 : decode cX1_isLeft 296 = .ok (.iconst 1, 1) := by decide +kernel
theorem dX1_isLeft_297 : decode cX1_isLeft 297 = .ok (.goto 4, 3) := by decide +kernel
theorem dX1_isLeft_300 : decode cX1_isLeft 300 = .ok (.iconst 0, 1) := by decide +kernel
theorem dX1_isLeft_301 : decode cX1_isLeft 301 = .ok (.ireturn, 1) := by decide +kernel
abbrev M_X1_isLeft : MRec := (yX1_isLeft, cX1_isLeft, 15, (some Jvm.ClassFile.FieldType.boolean), [])
theorem m_X1_isLeft : en_M M_X1_isLeft 4 := ⟨t_1297, t_6, ⟨by decide +kernel, by decide +kernel⟩, by decide +kernel, by decide +kernel, by decide +kernel⟩
theorem dX1_ringsCrossBehind_0 : decode cX1_ringsCrossBehind 0 = .ok (.aload_n 0, 1) := by decide +kernel
theorem dX1_ringsCrossBehind_1 : decode cX1_ringsCrossBehind 1 = .ok (.getfield 22, 3) := by decide +kernel
theorem dX1_ringsCrossBehind_4 : decode cX1_ringsCrossBehind 4 = .ok (.getfield 159, 3) := by decide +kernel
theorem dX1_ringsCrossBehind_7 : decode cX1_ringsCrossBehind 7 = .ok (.istore_n 3, 1) := by decide +kernel
theorem dX1_ringsCrossBehind_8 : decode cX1_ringsCrossBehind 8 = .ok (.aload_n 0, 1) := by decide +kernel
theorem dX1_ringsCrossBehind_9 : decode cX1_ringsCrossBehind 9 = .ok (.getfield 22, 3) := by decide +kernel
theorem dX1_ringsCrossBehind_12 : decode cX1_ringsCrossBehind 12 = .ok (.getfield 162, 3) := by decide +kernel
theorem dX1_ringsCrossBehind_15 : decode cX1_ringsCrossBehind 15 = .ok (.istore 4, 2) := by decide +kernel
theorem dX1_ringsCrossBehind_17 : decode cX1_ringsCrossBehind 17 = .ok (.aload_n 0, 1) := by decide +kernel
theorem dX1_ringsCrossBehind_18 : decode cX1_ringsCrossBehind 18 = .ok (.getfield 22, 3) := by decide +kernel
theorem dX1_ringsCrossBehind_21 : decode cX1_ringsCrossBehind 21 = .ok (.iload_n 1, 1) := by decide +kernel
theorem dX1_ringsCrossBehind_22 : decode cX1_ringsCrossBehind 22 = .ok (.iload_n 3, 1) := by decide +kernel
theorem dX1_ringsCrossBehind_23 : decode cX1_ringsCrossBehind 23 = .ok (.iload 4, 2) := by decide +kernel
theorem dX1_ringsCrossBehind_25 : decode cX1_ringsCrossBehind 25 = .ok (.invokevirtual 169, 3) := by decide +kernel
theorem dX1_ringsCrossBehind_28 : decode cX1_ringsCrossBehind 28 = .ok (.ifCond .ne 17, 3) := by decide +kernel
theorem dX1_ringsCrossBehind_31 : decode cX1_ringsCrossBehind 31 = .ok (.aload_n 0, 1) := by decide +kernel
theorem dX1_ringsCrossBehind_32 : decode cX1_ringsCrossBehind 32 = .ok (.getfield 22, 3) := by decide +kernel
theorem dX1_ringsCrossBehind_35 : decode cX1_ringsCrossBehind 35 = .ok (.iload_n 2, 1) := by decide +kernel
theorem dX1_ringsCrossBehind_36 : decode cX1_ringsCrossBehind 36 = .ok (.iload_n 3, 1) := by decide +kernel
theorem dX1_ringsCrossBehind_37 : decode cX1_ringsCrossBehind 37 = .ok (.iload 4, 2) := by decide +kernel
theorem dX1_ringsCrossBehind_39 : decode cX1_ringsCrossBehind 39 = .ok (.invokevirtual 169, 3) := by decide +kernel
theorem dX1_ringsCrossBehind_42 : decode cX1_ringsCrossBehind 42 = .ok (.ifCond .eq 5, 3) := by decide +kernel
theorem dX1_ringsCrossBehind_45 : decode cX1_ringsCrossBehind 45 = .ok (.iconst 0, 1) := by decide +kernel
theorem dX1_ringsCrossBehind_46 : decode cX1_ringsCrossBehind 46 = .ok (.ireturn, 1) := by decide +kernel
theorem dX1_ringsCrossBehind_47 : decode cX1_ringsCrossBehind 47 = .ok (.aload_n 0, 1) := by decide +kernel
theorem dX1_ringsCrossBehind_48 : decode cX1_ringsCrossBehind 48 = .ok (.getfield 22, 3) := by decide +kernel
theorem dX1_ringsCrossBehind_51 : decode cX1_ringsCrossBehind 51 = .ok (.iload_n 1, 1) := by decide +kernel
theorem dX1_ringsCrossBehind_52 : decode cX1_ringsCrossBehind 52 = .ok (.iload_n 3, 1) := by decide +kernel
theorem dX1_ringsCrossBehind_53 : decode cX1_ringsCrossBehind 53 = .ok (.iload 4, 2) := by decide +kernel
theorem dX1_ringsCrossBehind_55 : decode cX1_ringsCrossBehind 55 = .ok (.invokevirtual 165, 3) := by decide +kernel
theorem dX1_ringsCrossBehind_58 : decode cX1_ringsCrossBehind 58 = .ok (.ifCond .eq 11, 3) := by decide +kernel
theorem dX1_ringsCrossBehind_61 : decode cX1_ringsCrossBehind 61 = .ok (.aload_n 0, 1) := by decide +kernel
theorem dX1_ringsCrossBehind_62 : decode cX1_ringsCrossBehind 62 = .ok (.iload_n 1, 1) := by decide +kernel
theorem dX1_ringsCrossBehind_63 : decode cX1_ringsCrossBehind 63 = .ok (.invokevirtual 156, 3) := by decide +kernel
theorem dX1_ringsCrossBehind_66 : decode cX1_ringsCrossBehind 66 = .ok (.goto 4, 3) := by decide +kernel
theorem dX1_ringsCrossBehind_69 : decode cX1_ringsCrossBehind 69 = .ok (.iload_n 1, 1) := by decide +kernel
theorem dX1_ringsCrossBehind_70 : decode cX1_ringsCrossBehind 70 = .ok (.istore 5, 2) := by decide +kernel
theorem dX1_ringsCrossBehind_72 : decode cX1_ringsCrossBehind 72 = .ok (.aload_n 0, 1) := by decide +kernel
theorem dX1_ringsCrossBehind_73 : decode cX1_ringsCrossBehind 73 = .ok (.getfield 22, 3) := by decide +kernel
theorem dX1_ringsCrossBehind_76 : decode cX1_ringsCrossBehind 76 = .ok (.iload_n 2, 1) := by decide +kernel
theorem dX1_ringsCrossBehind_77 : decode cX1_ringsCrossBehind 77 = .ok (.iload_n 3, 1) := by decide +kernel
theorem dX1_ringsCrossBehind_78 : decode cX1_ringsCrossBehind 78 = .ok (.iload 4, 2) := by decide +kernel
theorem dX1_ringsCrossBehind_80 : decode cX1_ringsCrossBehind 80 = .ok (.invokevirtual 165, 3) := by decide +kernel
theorem dX1_ringsCrossBehind_83 : decode cX1_ringsCrossBehind 83 = .ok (.ifCond .eq 11, 3) := by decide +kernel
theorem dX1_ringsCrossBehind_86 : decode cX1_ringsCrossBehind 86 = .ok (.aload_n 0, 1) := by decide +kernel
theorem dX1_ringsCrossBehind_87 : decode cX1_ringsCrossBehind 87 = .ok (.iload_n 2, 1) := by decide +kernel
theorem dX1_ringsCrossBehind_88 : decode cX1_ringsCrossBehind 88 = .ok (.invokevirtual 156, 3) := by decide +kernel
theorem dX1_ringsCrossBehind_91 : decode cX1_ringsCrossBehind 91 = .ok (.goto 4, 3) := by decide +kernel
theorem dX1_ringsCrossBehind_94 : decode cX1_ringsCrossBehind 94 = .ok (.iload_n 2, 1) := by decide +kernel
theorem dX1_ringsCrossBehind_95 : decode cX1_ringsCrossBehind 95 = .ok (.istore 6, 2) := by decide +kernel
theorem dX1_ringsCrossBehind_97 : decode cX1_ringsCrossBehind 97 = .ok (.aload_n 0, 1) := by decide +kernel
theorem dX1_ringsCrossBehind_98 : decode cX1_ringsCrossBehind 98 = .ok (.iload_n 1, 1) := by decide +kernel
theorem dX1_ringsCrossBehind_99 : decode cX1_ringsCrossBehind 99 = .ok (.iload 5, 2) := by decide +kernel
theorem dX1_ringsCrossBehind_101 : decode cX1_ringsCrossBehind 101 = .ok (.aload_n 0, 1) := by decide +kernel
theorem dX1_ringsCrossBehind_102 : decode cX1_ringsCrossBehind 102 = .ok (.getfield 22, 3) := by decide +kernel
theorem dX1_ringsCrossBehind_105 : decode cX1_ringsCrossBehind 105 = .ok (.getfield 172, 3) := by decide +kernel
theorem dX1_ringsCrossBehind_108 : decode cX1_ringsCrossBehind 108 = .ok (.iload 6, 2) := by decide +kernel
theorem dX1_ringsCrossBehind_110 : decode cX1_ringsCrossBehind 110 = .ok (.iaload, 1) := by decide +kernel
theorem dX1_ringsCrossBehind_111 : decode cX1_ringsCrossBehind 111 = .ok (.aload_n 0, 1) := by decide +kernel
theorem dX1_ringsCrossBehind_112 : decode cX1_ringsCrossBehind 112 = .ok (.getfield 22, 3) := by decide +kernel
theorem dX1_ringsCrossBehind_115 : decode cX1_ringsCrossBehind 115 = .ok (.getfield 175, 3) := by decide +kernel
theorem dX1_ringsCrossBehind_118 : decode cX1_ringsCrossBehind 118 = .ok (.iload 6, 2) := by decide +kernel
theorem dX1_ringsCrossBehind_120 : decode cX1_ringsCrossBehind 120 = .ok (.iaload, 1) := by decide +kernel
theorem dX1_ringsCrossBehind_121 : decode cX1_ringsCrossBehind 121 = .ok (.invokevirtual 178, 3) := by decide +kernel
theorem dX1_ringsCrossBehind_124 : decode cX1_ringsCrossBehind 124 = .ok (.aload_n 0, 1) := by decide +kernel
theorem dX1_ringsCrossBehind_125 : decode cX1_ringsCrossBehind 125 = .ok (.iload_n 1, 1) := by decide +kernel
theorem dX1_ringsCrossBehind_126 : decode cX1_ringsCrossBehind 126 = .ok (.iload 5, 2) := by decide +kernel
theorem dX1_ringsCrossBehind_128 : decode cX1_ringsCrossBehind 128 = .ok (.aload_n 0, 1) := by decide +kernel
theorem dX1_ringsCrossBehind_129 : decode cX1_ringsCrossBehind 129 = .ok (.getfield 22, 3) := by decide +kernel
theorem dX1_ringsCrossBehind_132 : decode cX1_ringsCrossBehind 132 = .ok (.getfield 182, 3) := by decide +kernel
theorem dX1_ringsCrossBehind_135 : decode cX1_ringsCrossBehind 135 = .ok (.iload_n 2, 1) := by decide +kernel
theorem dX1_ringsCrossBehind_136 : decode cX1_ringsCrossBehind 136 = .ok (.iaload, 1) := by decide +kernel
theorem dX1_ringsCrossBehind_137 : decode cX1_ringsCrossBehind 137 = .ok (.aload_n 0, 1) := by decide +kernel
theorem dX1_ringsCrossBehind_138 : decode cX1_ringsCrossBehind 138 = .ok (.getfield 22, 3) := by decide +kernel
theorem dX1_ringsCrossBehind_141 : decode cX1_ringsCrossBehind 141 = .ok (.getfield 185, 3) := by decide +kernel
theorem dX1_ringsCrossBehind_144 : decode cX1_ringsCrossBehind 144 = .ok (.iload_n 2, 1) := by decide +kernel
theorem dX1_ringsCrossBehind_145 : decode cX1_ringsCrossBehind 145 = .ok (.iaload, 1) := by decide +kernel
theorem dX1_ringsCrossBehind_146 : decode cX1_ringsCrossBehind 146 = .ok (.invokevirtual 178, 3) := by decide +kernel
theorem dX1_ringsCrossBehind_149 : decode cX1_ringsCrossBehind 149 = .ok (.if_icmp .eq 7, 3) := by decide +kernel
theorem dX1_ringsCrossBehind_152 : decode cX1_ringsCrossBehind 152 = .ok (.iconst 1, 1) := by decide +kernel
theorem dX1_ringsCrossBehind_153 : decode cX1_ringsCrossBehind 153 = .ok (.goto 4, 3) := by decide +kernel
theorem dX1_ringsCrossBehind_156 : decode cX1_ringsCrossBehind 156 = .ok (.iconst 0, 1) := by decide +kernel
theorem dX1_ringsCrossBehind_157 : decode cX1_ringsCrossBehind 157 = .ok (.ireturn, 1) := by decide +kernel
abbrev M_X1_ringsCrossBehind : MRec := (yX1_ringsCrossBehind, cX1_ringsCrossBehind, 7, (some Jvm.ClassFile.FieldType.boolean), [])
theorem m_X1_ringsCrossBehind : en_M M_X1_ringsCrossBehind 2 := ⟨t_1281, t_6, ⟨by decide +kernel, by decide +kernel⟩, by decide +kernel, by decide +kernel, by decide +kernel⟩
theorem dX5_highX_0 : decode cX5_highX 0 = .ok (.aload_n 0, 1) := by decide +kernel
theorem dX5_highX_1 : decode cX5_highX 1 = .ok (.getfield 7, 3) := by decide +kernel
theorem dX5_highX_4 : decode cX5_highX 4 = .ok (.iload_n 1, 1) := by decide +kernel
theorem dX5_highX_5 : decode cX5_highX 5 = .ok (.iaload, 1) := by decide +kernel
theorem dX5_highX_6 : decode cX5_highX 6 = .ok (.aload_n 0, 1) := by decide +kernel
theorem dX5_highX_7 : decode cX5_highX 7 = .ok (.getfield 16, 3) := by decide +kernel
theorem dX5_highX_10 : decode cX5_highX 10 = .ok (.iload_n 1, 1) := by decide +kernel
theorem dX5_highX_11 : decode cX5_highX 11 = .ok (.iaload, 1) := by decide +kernel
theorem dX5_highX_12 : decode cX5_highX 12 = .ok (.invokestatic 43, 3) := by decide +kernel
theorem dX5_highX_15 : decode cX5_highX 15 = .ok (.ireturn, 1) := by decide +kernel
abbrev M_X5_highX : MRec := (yX5_highX, cX5_highX, 2, (some Jvm.ClassFile.FieldType.int), [])
theorem m_X5_highX : en_M M_X5_highX 1 := ⟨t_1241, t_7, ⟨by decide +kernel, by decide +kernel⟩, by decide +kernel, by decide +kernel, by decide +kernel⟩
theorem dX5_highY_0 : decode cX5_highY 0 = .ok (.aload_n 0, 1) := by decide +kernel
theorem dX5_highY_1 : decode cX5_highY 1 = .ok (.getfield 13, 3) := by decide +kernel
theorem dX5_highY_4 : decode cX5_highY 4 = .ok (.iload_n 1, 1) := by decide +kernel
theorem dX5_highY_5 : decode cX5_highY 5 = .ok (.iaload, 1) := by decide +kernel
theorem dX5_highY_6 : decode cX5_highY 6 = .ok (.aload_n 0, 1) := by decide +kernel
theorem dX5_highY_7 : decode cX5_highY 7 = .ok (.getfield 19, 3) := by decide +kernel
theorem dX5_highY_10 : decode cX5_highY 10 = .ok (.iload_n 1, 1) := by decide +kernel
theorem dX5_highY_11 : decode cX5_highY 11 = .ok (.iaload, 1) := by decide +kernel
theorem dX5_highY_12 : decode cX5_highY 12 = .ok (.invokestatic 43, 3) := by decide +kernel
theorem dX5_highY_15 : decode cX5_highY 15 = .ok (.ireturn, 1) := by decide +kernel
abbrev M_X5_highY : MRec := (yX5_highY, cX5_highY, 2, (some Jvm.ClassFile.FieldType.int), [])
theorem m_X5_highY : en_M M_X5_highY 1 := ⟨t_1250, t_7, ⟨by decide +kernel, by decide +kernel⟩, by decide +kernel, by decide +kernel, by decide +kernel⟩
theorem dX5_lowX_0 : decode cX5_lowX 0 = .ok (.aload_n 0, 1) := by decide +kernel
theorem dX5_lowX_1 : decode cX5_lowX 1 = .ok (.getfield 7, 3) := by decide +kernel
theorem dX5_lowX_4 : decode cX5_lowX 4 = .ok (.iload_n 1, 1) := by decide +kernel
theorem dX5_lowX_5 : decode cX5_lowX 5 = .ok (.iaload, 1) := by decide +kernel
theorem dX5_lowX_6 : decode cX5_lowX 6 = .ok (.aload_n 0, 1) := by decide +kernel
theorem dX5_lowX_7 : decode cX5_lowX 7 = .ok (.getfield 16, 3) := by decide +kernel
theorem dX5_lowX_10 : decode cX5_lowX 10 = .ok (.iload_n 1, 1) := by decide +kernel
theorem dX5_lowX_11 : decode cX5_lowX 11 = .ok (.iaload, 1) := by decide +kernel
theorem dX5_lowX_12 : decode cX5_lowX 12 = .ok (.invokestatic 37, 3) := by decide +kernel
theorem dX5_lowX_15 : decode cX5_lowX 15 = .ok (.ireturn, 1) := by decide +kernel
abbrev M_X5_lowX : MRec := (yX5_lowX, cX5_lowX, 2, (some Jvm.ClassFile.FieldType.int), [])
theorem m_X5_lowX : en_M M_X5_lowX 1 := ⟨t_1236, t_7, ⟨by decide +kernel, by decide +kernel⟩, by decide +kernel, by decide +kernel, by decide +kernel⟩
theorem dX5_lowY_0 : decode cX5_lowY 0 = .ok (.aload_n 0, 1) := by decide +kernel
theorem dX5_lowY_1 : decode cX5_lowY 1 = .ok (.getfield 13, 3) := by decide +kernel
theorem dX5_lowY_4 : decode cX5_lowY 4 = .ok (.iload_n 1, 1) := by decide +kernel
theorem dX5_lowY_5 : decode cX5_lowY 5 = .ok (.iaload, 1) := by decide +kernel
theorem dX5_lowY_6 : decode cX5_lowY 6 = .ok (.aload_n 0, 1) := by decide +kernel
theorem dX5_lowY_7 : decode cX5_lowY 7 = .ok (.getfield 19, 3) := by decide +kernel
theorem dX5_lowY_10 : decode cX5_lowY 10 = .ok (.iload_n 1, 1) := by decide +kernel
theorem dX5_lowY_11 : decode cX5_lowY 11 = .ok (.iaload, 1) := by decide +kernel
theorem dX5_lowY_12 : decode cX5_lowY 12 = .ok (.invokestatic 37, 3) := by decide +kernel
theorem dX5_lowY_15 : decode cX5_lowY 15 = .ok (.ireturn, 1) := by decide +kernel
abbrev M_X5_lowY : MRec := (yX5_lowY, cX5_lowY, 2, (some Jvm.ClassFile.FieldType.int), [])
theorem m_X5_lowY : en_M M_X5_lowY 1 := ⟨t_1246, t_7, ⟨by decide +kernel, by decide +kernel⟩, by decide +kernel, by decide +kernel, by decide +kernel⟩
theorem dX5_areApart_0 : decode cX5_areApart 0 = .ok (.aload_n 0, 1) := by decide +kernel
theorem dX5_areApart_1 : decode cX5_areApart 1 = .ok (.iload_n 1, 1) := by decide +kernel
theorem dX5_areApart_2 : decode cX5_areApart 2 = .ok (.invokevirtual 46, 3) := by decide +kernel
theorem dX5_areApart_5 : decode cX5_areApart 5 = .ok (.aload_n 0, 1) := by decide +kernel
theorem dX5_areApart_6 : decode cX5_areApart 6 = .ok (.iload_n 2, 1) := by decide +kernel
theorem dX5_areApart_7 : decode cX5_areApart 7 = .ok (.invokevirtual 50, 3) := by decide +kernel
theorem dX5_areApart_10 : decode cX5_areApart 10 = .ok (.if_icmp .gt 42, 3) := by decide +kernel
theorem dX5_areApart_13 : decode cX5_areApart 13 = .ok (.aload_n 0, 1) := by decide +kernel
theorem dX5_areApart_14 : decode cX5_areApart 14 = .ok (.iload_n 2, 1) := by decide +kernel
theorem dX5_areApart_15 : decode cX5_areApart 15 = .ok (.invokevirtual 46, 3) := by decide +kernel
theorem dX5_areApart_18 : decode cX5_areApart 18 = .ok (.aload_n 0, 1) := by decide +kernel
theorem dX5_areApart_19 : decode cX5_areApart 19 = .ok (.iload_n 1, 1) := by decide +kernel
theorem dX5_areApart_20 : decode cX5_areApart 20 = .ok (.invokevirtual 50, 3) := by decide +kernel
theorem dX5_areApart_23 : decode cX5_areApart 23 = .ok (.if_icmp .gt 29, 3) := by decide +kernel
theorem dX5_areApart_26 : decode cX5_areApart 26 = .ok (.aload_n 0, 1) := by decide +kernel
theorem dX5_areApart_27 : decode cX5_areApart 27 = .ok (.iload_n 1, 1) := by decide +kernel
theorem dX5_areApart_28 : decode cX5_areApart 28 = .ok (.invokevirtual 53, 3) := by decide +kernel
theorem dX5_areApart_31 : decode cX5_areApart 31 = .ok (.aload_n 0, 1) := by decide +kernel
theorem dX5_areApart_32 : decode cX5_areApart 32 = .ok (.iload_n 2, 1) := by decide +kernel
theorem dX5_areApart_33 : decode cX5_areApart 33 = .ok (.invokevirtual 56, 3) := by decide +kernel
theorem dX5_areApart_36 : decode cX5_areApart 36 = .ok (.if_icmp .gt 16, 3) := by decide +kernel
theorem dX5_areApart_39 : decode cX5_areApart 39 = .ok (.aload_n 0, 1) := by decide +kernel
theorem dX5_areApart_40 : decode cX5_areApart 40 = .ok (.iload_n 2, 1) := by decide +kernel
theorem dX5_areApart_41 : decode cX5_areApart 41 = .ok (.invokevirtual 53, 3) := by decide +kernel
theorem dX5_areApart_44 : decode cX5_areApart 44 = .ok (.aload_n 0, 1) := by decide +kernel
theorem dX5_areApart_45 : decode cX5_areApart 45 = .ok (.iload_n 1, 1) := by decide +kernel
theorem dX5_areApart_46 : decode cX5_areApart 46 = .ok (.invokevirtual 56, 3) := by decide +kernel
theorem dX5_areApart_49 : decode cX5_areApart 49 = .ok (.if_icmp .le 7, 3) := by decide +kernel
theorem dX5_areApart_52 : decode cX5_areApart 52 = .ok (.iconst 1, 1) := by decide +kernel
theorem dX5_areApart_53 : decode cX5_areApart 53 = .ok (.goto 4, 3) := by decide +kernel
theorem dX5_areApart_56 : decode cX5_areApart 56 = .ok (.iconst 0, 1) := by decide +kernel
theorem dX5_areApart_57 : decode cX5_areApart 57 = .ok (.ireturn, 1) := by decide +kernel
abbrev M_X5_areApart : MRec := (yX5_areApart, cX5_areApart, 3, (some Jvm.ClassFile.FieldType.boolean), [])
theorem m_X5_areApart : en_M M_X5_areApart 2 := ⟨t_1232, t_7, ⟨by decide +kernel, by decide +kernel⟩, by decide +kernel, by decide +kernel, by decide +kernel⟩
theorem dX5_touchAtEnd_0 : decode cX5_touchAtEnd 0 = .ok (.aload_n 0, 1) := by decide +kernel
theorem dX5_touchAtEnd_1 : decode cX5_touchAtEnd 1 = .ok (.iload_n 2, 1) := by decide +kernel
theorem dX5_touchAtEnd_2 : decode cX5_touchAtEnd 2 = .ok (.ifCond .eq 12, 3) := by decide +kernel
theorem dX5_touchAtEnd_5 : decode cX5_touchAtEnd 5 = .ok (.aload_n 0, 1) := by decide +kernel
theorem dX5_touchAtEnd_6 : decode cX5_touchAtEnd 6 = .ok (.getfield 7, 3) := by decide +kernel
theorem dX5_touchAtEnd_9 : decode cX5_touchAtEnd 9 = .ok (.iload_n 1, 1) := by decide +kernel
theorem dX5_touchAtEnd_10 : decode cX5_touchAtEnd 10 = .ok (.iaload, 1) := by decide +kernel
theorem dX5_touchAtEnd_11 : decode cX5_touchAtEnd 11 = .ok (.goto 9, 3) := by decide +kernel
theorem dX5_touchAtEnd_14 : decode cX5_touchAtEnd 14 = .ok (.aload_n 0, 1) := by decide +kernel
theorem dX5_touchAtEnd_15 : decode cX5_touchAtEnd 15 = .ok (.getfield 16, 3) := by decide +kernel
theorem dX5_touchAtEnd_18 : decode cX5_touchAtEnd 18 = .ok (.iload_n 1, 1) := by decide +kernel
theorem dX5_touchAtEnd_19 : decode cX5_touchAtEnd 19 = .ok (.iaload, 1) := by decide +kernel
theorem dX5_touchAtEnd_20 : decode cX5_touchAtEnd 20 = .ok (.putfield 84, 3) := by decide +kernel
theorem dX5_touchAtEnd_23 : decode cX5_touchAtEnd 23 = .ok (.aload_n 0, 1) := by decide +kernel
theorem dX5_touchAtEnd_24 : decode cX5_touchAtEnd 24 = .ok (.iload_n 2, 1) := by decide +kernel
theorem dX5_touchAtEnd_25 : decode cX5_touchAtEnd 25 = .ok (.ifCond .eq 12, 3) := by decide +kernel
theorem dX5_touchAtEnd_28 : decode cX5_touchAtEnd 28 = .ok (.aload_n 0, 1) := by decide +kernel
theorem dX5_touchAtEnd_29 : decode cX5_touchAtEnd 29 = .ok (.getfield 13, 3) := by decide +kernel
theorem dX5_touchAtEnd_32 : decode cX5_touchAtEnd 32 = .ok (.iload_n 1, 1) := by decide +kernel
theorem dX5_touchAtEnd_33 : decode cX5_touchAtEnd 33 = .ok (.iaload, 1) := by decide +kernel
theorem dX5_touchAtEnd_34 : decode cX5_touchAtEnd 34 = .ok (.goto 9, 3) := by decide +kernel
theorem dX5_touchAtEnd_37 : decode cX5_touchAtEnd 37 = .ok (.aload_n 0, 1) := by decide +kernel
theorem dX5_touchAtEnd_38 : decode cX5_touchAtEnd 38 = .ok (.getfield 19, 3) := by decide +kernel
theorem dX5_touchAtEnd_41 : decode cX5_touchAtEnd 41 = .ok (.iload_n 1, 1) := by decide +kernel
theorem dX5_touchAtEnd_42 : decode cX5_touchAtEnd 42 = .ok (.iaload, 1) := by decide +kernel
theorem dX5_touchAtEnd_43 : decode cX5_touchAtEnd 43 = .ok (.putfield 87, 3) := by decide +kernel
theorem dX5_touchAtEnd_46 : decode cX5_touchAtEnd 46 = .ok (.iconst 2, 1) := by decide +kernel
theorem dX5_touchAtEnd_47 : decode cX5_touchAtEnd 47 = .ok (.ireturn, 1) := by decide +kernel
abbrev M_X5_touchAtEnd : MRec := (yX5_touchAtEnd, cX5_touchAtEnd, 3, (some Jvm.ClassFile.FieldType.int), [])
theorem m_X5_touchAtEnd : en_M M_X5_touchAtEnd 2 := ⟨t_1277, t_7, ⟨by decide +kernel, by decide +kernel⟩, by decide +kernel, by decide +kernel, by decide +kernel⟩
theorem dX5_meetOnOneLine_0 : decode cX5_meetOnOneLine 0 = .ok (.aload_n 0, 1) := by decide +kernel
theorem dX5_meetOnOneLine_1 : decode cX5_meetOnOneLine 1 = .ok (.getfield 7, 3) := by decide +kernel
theorem dX5_meetOnOneLine_4 : decode cX5_meetOnOneLine 4 = .ok (.iload_n 1, 1) := by decide +kernel
theorem dX5_meetOnOneLine_5 : decode cX5_meetOnOneLine 5 = .ok (.iaload, 1) := by decide +kernel
theorem dX5_meetOnOneLine_6 : decode cX5_meetOnOneLine 6 = .ok (.aload_n 0, 1) := by decide +kernel
theorem dX5_meetOnOneLine_7 : decode cX5_meetOnOneLine 7 = .ok (.getfield 16, 3) := by decide +kernel
theorem dX5_meetOnOneLine_10 : decode cX5_meetOnOneLine 10 = .ok (.iload_n 1, 1) := by decide +kernel
theorem dX5_meetOnOneLine_11 : decode cX5_meetOnOneLine 11 = .ok (.iaload, 1) := by decide +kernel
theorem dX5_meetOnOneLine_12 : decode cX5_meetOnOneLine 12 = .ok (.if_icmp .ne 7, 3) := by decide +kernel
theorem dX5_meetOnOneLine_15 : decode cX5_meetOnOneLine 15 = .ok (.iconst 1, 1) := by decide +kernel
theorem dX5_meetOnOneLine_16 : decode cX5_meetOnOneLine 16 = .ok (.goto 4, 3) := by decide +kernel
theorem dX5_meetOnOneLine_19 : decode cX5_meetOnOneLine 19 = .ok (.iconst 0, 1) := by decide +kernel
theorem dX5_meetOnOneLine_20 : decode cX5_meetOnOneLine 20 = .ok (.istore_n 3, 1) := by decide +kernel
theorem dX5_meetOnOneLine_21 : decode cX5_meetOnOneLine 21 = .ok (.iload_n 3, 1) := by decide +kernel
theorem dX5_meetOnOneLine_22 : decode cX5_meetOnOneLine 22 = .ok (.ifCond .eq 19, 3) := by decide +kernel
theorem dX5_meetOnOneLine_25 : decode cX5_meetOnOneLine 25 = .ok (.aload_n 0, 1) := by decide +kernel
theorem dX5_meetOnOneLine_26 : decode cX5_meetOnOneLine 26 = .ok (.iload_n 1, 1) := by decide +kernel
theorem dX5_meetOnOneLine_27 : decode cX5_meetOnOneLine 27 = .ok (.invokevirtual 53, 3) := by decide +kernel
theorem dX5_meetOnOneLine_30 : decode cX5_meetOnOneLine 30 = .ok (.aload_n 0, 1) := by decide +kernel
theorem dX5_meetOnOneLine_31 : decode cX5_meetOnOneLine 31 = .ok (.iload_n 2, 1) := by decide +kernel
theorem dX5_meetOnOneLine_32 : decode cX5_meetOnOneLine 32 = .ok (.invokevirtual 53, 3) := by decide +kernel
theorem dX5_meetOnOneLine_35 : decode cX5_meetOnOneLine 35 = .ok (.invokestatic 43, 3) := by decide +kernel
theorem dX5_meetOnOneLine_38 : decode cX5_meetOnOneLine 38 = .ok (.goto 16, 3) := by decide +kernel
theorem dX5_meetOnOneLine_41 : decode cX5_meetOnOneLine 41 = .ok (.aload_n 0, 1) := by decide +kernel
theorem dX5_meetOnOneLine_42 : decode cX5_meetOnOneLine 42 = .ok (.iload_n 1, 1) := by decide +kernel
theorem dX5_meetOnOneLine_43 : decode cX5_meetOnOneLine 43 = .ok (.invokevirtual 46, 3) := by decide +kernel
theorem dX5_meetOnOneLine_46 : decode cX5_meetOnOneLine 46 = .ok (.aload_n 0, 1) := by decide +kernel
theorem dX5_meetOnOneLine_47 : decode cX5_meetOnOneLine 47 = .ok (.iload_n 2, 1) := by decide +kernel
theorem dX5_meetOnOneLine_48 : decode cX5_meetOnOneLine 48 = .ok (.invokevirtual 46, 3) := by decide +kernel
theorem dX5_meetOnOneLine_51 : decode cX5_meetOnOneLine 51 = .ok (.invokestatic 43, 3) := by decide +kernel
theorem dX5_meetOnOneLine_54 : decode cX5_meetOnOneLine 54 = .ok (.istore 4, 2) := by decide +kernel
theorem dX5_meetOnOneLine_56 : decode cX5_meetOnOneLine 56 = .ok (.iload_n 3, 1) := by decide +kernel
theorem dX5_meetOnOneLine_57 : decode cX5_meetOnOneLine 57 = .ok (.ifCond .eq 19, 3) := by decide +kernel
theorem dX5_meetOnOneLine_60 : decode cX5_meetOnOneLine 60 = .ok (.aload_n 0, 1) := by decide +kernel
theorem dX5_meetOnOneLine_61 : decode cX5_meetOnOneLine 61 = .ok (.iload_n 1, 1) := by decide +kernel
theorem dX5_meetOnOneLine_62 : decode cX5_meetOnOneLine 62 = .ok (.invokevirtual 56, 3) := by decide +kernel
theorem dX5_meetOnOneLine_65 : decode cX5_meetOnOneLine 65 = .ok (.aload_n 0, 1) := by decide +kernel
theorem dX5_meetOnOneLine_66 : decode cX5_meetOnOneLine 66 = .ok (.iload_n 2, 1) := by decide +kernel
theorem dX5_meetOnOneLine_67 : decode cX5_meetOnOneLine 67 = .ok (.invokevirtual 56, 3) := by decide +kernel
theorem dX5_meetOnOneLine_70 : decode cX5_meetOnOneLine 70 = .ok (.invokestatic 37, 3) := by decide +kernel
theorem dX5_meetOnOneLine_73 : decode cX5_meetOnOneLine 73 = .ok (.goto 16, 3) := by decide +kernel
theorem dX5_meetOnOneLine_76 : decode cX5_meetOnOneLine 76 = .ok (.aload_n 0, 1) := by decide +kernel
theorem dX5_meetOnOneLine_77 : decode cX5_meetOnOneLine 77 = .ok (.iload_n 1, 1) := by decide +kernel
theorem dX5_meetOnOneLine_78 : decode cX5_meetOnOneLine 78 = .ok (.invokevirtual 50, 3) := by decide +kernel
theorem dX5_meetOnOneLine_81 : decode cX5_meetOnOneLine 81 = .ok (.aload_n 0, 1) := by decide +kernel
theorem dX5_meetOnOneLine_82 : decode cX5_meetOnOneLine 82 = .ok (.iload_n 2, 1) := by decide +kernel
theorem dX5_meetOnOneLine_83 : decode cX5_meetOnOneLine 83 = .ok (.invokevirtual 50, 3) := by decide +kernel
theorem dX5_meetOnOneLine_86 : decode cX5_meetOnOneLine 86 = .ok (.invokestatic 37, 3) := by decide +kernel
theorem dX5_meetOnOneLine_89 : decode cX5_meetOnOneLine 89 = .ok (.istore 5, 2) := by decide +kernel
theorem dX5_meetOnOneLine_91 : decode cX5_meetOnOneLine 91 = .ok (.iload 4, 2) := by decide +kernel
theorem dX5_meetOnOneLine_93 : decode cX5_meetOnOneLine 93 = .ok (.iload 5, 2) := by decide +kernel
theorem dX5_meetOnOneLine_95 : decode cX5_meetOnOneLine 95 = .ok (.if_icmp .le 5, 3) := by decide +kernel
theorem dX5_meetOnOneLine_98 : decode cX5_meetOnOneLine 98 = .ok (.iconst 0, 1) := by decide +kernel
theorem dX5_meetOnOneLine_99 : decode cX5_meetOnOneLine 99 = .ok (.ireturn, 1) := by decide +kernel
theorem dX5_meetOnOneLine_100 : decode cX5_meetOnOneLine 100 = .ok (.iload 4, 2) := by decide +kernel
theorem dX5_meetOnOneLine_102 : decode cX5_meetOnOneLine 102 = .ok (.iload 5, 2) := by decide +kernel
theorem dX5_meetOnOneLine_104 : decode cX5_meetOnOneLine 104 = .ok (.if_icmp .ge 7, 3) := by decide +kernel
theorem dX5_meetOnOneLine_107 : decode cX5_meetOnOneLine 107 = .ok (.iconst 3, 1) := by decide +kernel
theorem dX5_meetOnOneLine_108 : decode cX5_meetOnOneLine 108 = .ok (.goto 37, 3) := by decide +kernel
theorem dX5_meetOnOneLine_111 : decode cX5_meetOnOneLine 111 = .ok (.aload_n 0, 1) := by decide +kernel
theorem dX5_meetOnOneLine_112 : decode cX5_meetOnOneLine 112 = .ok (.iload_n 1, 1) := by decide +kernel
theorem dX5_meetOnOneLine_113 : decode cX5_meetOnOneLine 113 = .ok (.iload_n 3, 1) := by decide +kernel
theorem dX5_meetOnOneLine_114 : decode cX5_meetOnOneLine 114 = .ok (.ifCond .eq 12, 3) := by decide +kernel
theorem dX5_meetOnOneLine_117 : decode cX5_meetOnOneLine 117 = .ok (.aload_n 0, 1) := by decide +kernel
theorem dX5_meetOnOneLine_118 : decode cX5_meetOnOneLine 118 = .ok (.getfield 13, 3) := by decide +kernel
theorem dX5_meetOnOneLine_121 : decode cX5_meetOnOneLine 121 = .ok (.iload_n 1, 1) := by decide +kernel
theorem dX5_meetOnOneLine_122 : decode cX5_meetOnOneLine 122 = .ok (.iaload, 1) := by decide +kernel
theorem dX5_meetOnOneLine_123 : decode cX5_meetOnOneLine 123 = .ok (.goto 9, 3) := by decide +kernel
theorem dX5_meetOnOneLine_126 : decode cX5_meetOnOneLine 126 = .ok (.aload_n 0, 1) := by decide +kernel
theorem dX5_meetOnOneLine_127 : decode cX5_meetOnOneLine 127 = .ok (.getfield 7, 3) := by decide +kernel
theorem dX5_meetOnOneLine_130 : decode cX5_meetOnOneLine 130 = .ok (.iload_n 1, 1) := by decide +kernel
theorem dX5_meetOnOneLine_131 : decode cX5_meetOnOneLine 131 = .ok (.iaload, 1) := by decide +kernel
theorem dX5_meetOnOneLine_132 : decode cX5_meetOnOneLine 132 = .ok (.iload 4, 2) := by decide +kernel
theorem dX5_meetOnOneLine_134 : decode cX5_meetOnOneLine 134 = .ok (.if_icmp .ne 7, 3) := by decide +kernel
theorem dX5_meetOnOneLine_137 : decode cX5_meetOnOneLine 137 = .ok (.iconst 1, 1) := by decide +kernel
theorem dX5_meetOnOneLine_138 : decode cX5_meetOnOneLine 138 = .ok (.goto 4, 3) := by decide +kernel
theorem dX5_meetOnOneLine_141 : decode cX5_meetOnOneLine 141 = .ok (.iconst 0, 1) := by decide +kernel
theorem dX5_meetOnOneLine_142 : decode cX5_meetOnOneLine 142 = .ok (.invokevirtual 80, 3) := by decide +kernel
theorem dX5_meetOnOneLine_145 : decode cX5_meetOnOneLine 145 = .ok (.ireturn, 1) := by decide +kernel
abbrev M_X5_meetOnOneLine : MRec := (yX5_meetOnOneLine, cX5_meetOnOneLine, 6, (some Jvm.ClassFile.FieldType.int), [])
theorem m_X5_meetOnOneLine : en_M M_X5_meetOnOneLine 2 := ⟨t_1273, t_7, ⟨by decide +kernel, by decide +kernel⟩, by decide +kernel, by decide +kernel, by decide +kernel⟩
theorem dX5_meet_0 : decode cX5_meet 0 = .ok (.aload_n 0, 1) := by decide +kernel
theorem dX5_meet_1 : decode cX5_meet 1 = .ok (.iload_n 1, 1) := by decide +kernel
theorem dX5_meet_2 : decode cX5_meet 2 = .ok (.iload_n 2, 1) := by decide +kernel
theorem dX5_meet_3 : decode cX5_meet 3 = .ok (.invokevirtual 69, 3) := by decide +kernel
theorem dX5_meet_6 : decode cX5_meet 6 = .ok (.ifCond .eq 5, 3) := by decide +kernel
theorem dX5_meet_9 : decode cX5_meet 9 = .ok (.iconst 0, 1) := by decide +kernel
theorem dX5_meet_10 : decode cX5_meet 10 = .ok (.ireturn, 1) := by decide +kernel
theorem dX5_meet_11 : decode cX5_meet 11 = .ok (.aload_n 0, 1) := by decide +kernel
theorem dX5_meet_12 : decode cX5_meet 12 = .ok (.iload_n 1, 1) := by decide +kernel
theorem dX5_meet_13 : decode cX5_meet 13 = .ok (.aload_n 0, 1) := by decide +kernel
theorem dX5_meet_14 : decode cX5_meet 14 = .ok (.getfield 7, 3) := by decide +kernel
theorem dX5_meet_17 : decode cX5_meet 17 = .ok (.iload_n 2, 1) := by decide +kernel
theorem dX5_meet_18 : decode cX5_meet 18 = .ok (.iaload, 1) := by decide +kernel
theorem dX5_meet_19 : decode cX5_meet 19 = .ok (.aload_n 0, 1) := by decide +kernel
theorem dX5_meet_20 : decode cX5_meet 20 = .ok (.getfield 13, 3) := by decide +kernel
theorem dX5_meet_23 : decode cX5_meet 23 = .ok (.iload_n 2, 1) := by decide +kernel
theorem dX5_meet_24 : decode cX5_meet 24 = .ok (.iaload, 1) := by decide +kernel
theorem dX5_meet_25 : decode cX5_meet 25 = .ok (.invokevirtual 73, 3) := by decide +kernel
theorem dX5_meet_28 : decode cX5_meet 28 = .ok (.istore_n 3, 1) := by decide +kernel
theorem dX5_meet_29 : decode cX5_meet 29 = .ok (.aload_n 0, 1) := by decide +kernel
theorem dX5_meet_30 : decode cX5_meet 30 = .ok (.iload_n 1, 1) := by decide +kernel
theorem dX5_meet_31 : decode cX5_meet 31 = .ok (.aload_n 0, 1) := by decide +kernel
theorem dX5_meet_32 : decode cX5_meet 32 = .ok (.getfield 16, 3) := by decide +kernel
theorem dX5_meet_35 : decode cX5_meet 35 = .ok (.iload_n 2, 1) := by decide +kernel
theorem dX5_meet_36 : decode cX5_meet 36 = .ok (.iaload, 1) := by decide +kernel
theorem dX5_meet_37 : decode cX5_meet 37 = .ok (.aload_n 0, 1) := by decide +kernel
theorem dX5_meet_38 : decode cX5_meet 38 = .ok (.getfield 19, 3) := by decide +kernel
theorem dX5_meet_41 : decode cX5_meet 41 = .ok (.iload_n 2, 1) := by decide +kernel
theorem dX5_meet_42 : decode cX5_meet 42 = .ok (.iaload, 1) := by decide +kernel
theorem dX5_meet_43 : decode cX5_meet 43 = .ok (.invokevirtual 73, 3) := by decide +kernel
theorem dX5_meet_46 : decode cX5_meet 46 = .ok (.istore 4, 2) := by decide +kernel
theorem dX5_meet_48 : decode cX5_meet 48 = .ok (.iload_n 3, 1) := by decide +kernel
theorem dX5_meet_49 : decode cX5_meet 49 = .ok (.ifCond .ne 15, 3) := by decide +kernel
theorem dX5_meet_52 : decode cX5_meet 52 = .ok (.iload 4, 2) := by decide +kernel
theorem dX5_meet_54 : decode cX5_meet 54 = .ok (.ifCond .ne 10, 3) := by decide +kernel
theorem dX5_meet_57 : decode cX5_meet 57 = .ok (.aload_n 0, 1) := by decide +kernel
theorem dX5_meet_58 : decode cX5_meet 58 = .ok (.iload_n 1, 1) := by decide +kernel
theorem dX5_meet_59 : decode cX5_meet 59 = .ok (.iload_n 2, 1) := by decide +kernel
theorem dX5_meet_60 : decode cX5_meet 60 = .ok (.invokevirtual 77, 3) := by decide +kernel
theorem dX5_meet_63 : decode cX5_meet 63 = .ok (.ireturn, 1) := by decide +kernel
theorem dX5_meet_64 : decode cX5_meet 64 = .ok (.iload_n 3, 1) := by decide +kernel
theorem dX5_meet_65 : decode cX5_meet 65 = .ok (.iload 4, 2) := by decide +kernel
theorem dX5_meet_67 : decode cX5_meet 67 = .ok (.imul, 1) := by decide +kernel
theorem dX5_meet_68 : decode cX5_meet 68 = .ok (.ifCond .le 5, 3) := by decide +kernel
theorem dX5_meet_71 : decode cX5_meet 71 = .ok (.iconst 0, 1) := by decide +kernel
theorem dX5_meet_72 : decode cX5_meet 72 = .ok (.ireturn, 1) := by decide +kernel
theorem dX5_meet_73 : decode cX5_meet 73 = .ok (.aload_n 0, 1) := by decide +kernel
theorem dX5_meet_74 : decode cX5_meet 74 = .ok (.iload_n 2, 1) := by decide +kernel
theorem dX5_meet_75 : decode cX5_meet 75 = .ok (.aload_n 0, 1) := by decide +kernel
theorem dX5_meet_76 : decode cX5_meet 76 = .ok (.getfield 7, 3) := by decide +kernel
theorem dX5_meet_79 : decode cX5_meet 79 = .ok (.iload_n 1, 1) := by decide +kernel
theorem dX5_meet_80 : decode cX5_meet 80 = .ok (.iaload, 1) := by decide +kernel
theorem dX5_meet_81 : decode cX5_meet 81 = .ok (.aload_n 0, 1) := by decide +kernel
theorem dX5_meet_82 : decode cX5_meet 82 = .ok (.getfield 13, 3) := by decide +kernel
theorem dX5_meet_85 : decode cX5_meet 85 = .ok (.iload_n 1, 1) := by decide +kernel
theorem dX5_meet_86 : decode cX5_meet 86 = .ok (.iaload, 1) := by decide +kernel
theorem dX5_meet_87 : decode cX5_meet 87 = .ok (.invokevirtual 73, 3) := by decide +kernel
theorem dX5_meet_90 : decode cX5_meet 90 = .ok (.istore 5, 2) := by decide +kernel
theorem dX5_meet_92 : decode cX5_meet 92 = .ok (.aload_n 0, 1) := by decide +kernel
theorem dX5_meet_93 : decode cX5_meet 93 = .ok (.iload_n 2, 1) := by decide +kernel
theorem dX5_meet_94 : decode cX5_meet 94 = .ok (.aload_n 0, 1) := by decide +kernel
theorem dX5_meet_95 : decode cX5_meet 95 = .ok (.getfield 16, 3) := by decide +kernel
theorem dX5_meet_98 : decode cX5_meet 98 = .ok (.iload_n 1, 1) := by decide +kernel
theorem dX5_meet_99 : decode cX5_meet 99 = .ok (.iaload, 1) := by decide +kernel
theorem dX5_meet_100 : decode cX5_meet 100 = .ok (.aload_n 0, 1) := by decide +kernel
theorem dX5_meet_101 : decode cX5_meet 101 = .ok (.getfield 19, 3) := by decide +kernel
theorem dX5_meet_104 : decode cX5_meet 104 = .ok (.iload_n 1, 1) := by decide +kernel
theorem dX5_meet_105 : decode cX5_meet 105 = .ok (.iaload, 1) := by decide +kernel
theorem dX5_meet_106 : decode cX5_meet 106 = .ok (.invokevirtual 73, 3) := by decide +kernel
theorem dX5_meet_109 : decode cX5_meet 109 = .ok (.istore 6, 2) := by decide +kernel
theorem dX5_meet_111 : decode cX5_meet 111 = .ok (.iload 5, 2) := by decide +kernel
theorem dX5_meet_113 : decode cX5_meet 113 = .ok (.iload 6, 2) := by decide +kernel
theorem dX5_meet_115 : decode cX5_meet 115 = .ok (.imul, 1) := by decide +kernel
theorem dX5_meet_116 : decode cX5_meet 116 = .ok (.ifCond .le 5, 3) := by decide +kernel
theorem dX5_meet_119 : decode cX5_meet 119 = .ok (.iconst 0, 1) := by decide +kernel
theorem dX5_meet_120 : decode cX5_meet 120 = .ok (.ireturn, 1) := by decide +kernel
theorem dX5_meet_121 : decode cX5_meet 121 = .ok (.iload_n 3, 1) := by decide +kernel
theorem dX5_meet_122 : decode cX5_meet 122 = .ok (.iload 4, 2) := by decide +kernel
theorem dX5_meet_124 : decode cX5_meet 124 = .ok (.imul, 1) := by decide +kernel
theorem dX5_meet_125 : decode cX5_meet 125 = .ok (.ifCond .ge 13, 3) := by decide +kernel
theorem dX5_meet_128 : decode cX5_meet 128 = .ok (.iload 5, 2) := by decide +kernel
theorem dX5_meet_130 : decode cX5_meet 130 = .ok (.iload 6, 2) := by decide +kernel
theorem dX5_meet_132 : decode cX5_meet 132 = .ok (.imul, 1) := by decide +kernel
theorem dX5_meet_133 : decode cX5_meet 133 = .ok (.ifCond .ge 5, 3) := by decide +kernel
theorem dX5_meet_136 : decode cX5_meet 136 = .ok (.iconst 1, 1) := by decide +kernel
theorem dX5_meet_137 : decode cX5_meet 137 = .ok (.ireturn, 1) := by decide +kernel
theorem dX5_meet_138 : decode cX5_meet 138 = .ok (.iload_n 3, 1) := by decide +kernel
theorem dX5_meet_139 : decode cX5_meet 139 = .ok (.ifCond .eq 8, 3) := by decide +kernel
theorem dX5_meet_142 : decode cX5_meet 142 = .ok (.iload 4, 2) := by decide +kernel
theorem dX5_meet_144 : decode cX5_meet 144 = .ok (.ifCond .ne 18, 3) := by decide +kernel
theorem dX5_meet_147 : decode cX5_meet 147 = .ok (.aload_n 0, 1) := by decide +kernel
theorem dX5_meet_148 : decode cX5_meet 148 = .ok (.iload_n 2, 1) := by decide +kernel
theorem dX5_meet_149 : decode cX5_meet 149 = .ok (.iload_n 3, 1) := by decide +kernel
theorem dX5_meet_150 : decode cX5_meet 150 = .ok (.ifCond .ne 7, 3) := by decide +kernel
theorem dX5_meet_153 : decode cX5_meet 153 = .ok (.iconst 1, 1) := by decide +kernel
theorem dX5_meet_154 : decode cX5_meet 154 = .ok (.goto 4, 3) := by decide +kernel
theorem dX5_meet_157 : decode cX5_meet 157 = .ok (.iconst 0, 1) := by decide +kernel
theorem dX5_meet_158 : decode cX5_meet 158 = .ok (.invokevirtual 80, 3) := by decide +kernel
theorem dX5_meet_161 : decode cX5_meet 161 = .ok (.ireturn, 1) := by decide +kernel
theorem dX5_meet_162 : decode cX5_meet 162 = .ok (.aload_n 0, 1) := by decide +kernel
theorem dX5_meet_163 : decode cX5_meet 163 = .ok (.iload_n 1, 1) := by decide +kernel
theorem dX5_meet_164 : decode cX5_meet 164 = .ok (.iload 5, 2) := by decide +kernel
theorem dX5_meet_166 : decode cX5_meet 166 = .ok (.ifCond .ne 7, 3) := by decide +kernel
theorem dX5_meet_169 : decode cX5_meet 169 = .ok (.iconst 1, 1) := by decide +kernel
theorem dX5_meet_170 : decode cX5_meet 170 = .ok (.goto 4, 3) := by decide +kernel
theorem dX5_meet_173 : decode cX5_meet 173 = .ok (.iconst 0, 1) := by decide +kernel
theorem dX5_meet_174 : decode cX5_meet 174 = .ok (.invokevirtual 80, 3) := by decide +kernel
theorem dX5_meet_177 : decode cX5_meet 177 = .ok (.ireturn, 1) := by decide +kernel
abbrev M_X5_meet : MRec := (yX5_meet, cX5_meet, 7, (some Jvm.ClassFile.FieldType.int), [])
theorem m_X5_meet : en_M M_X5_meet 2 := ⟨t_1258, t_7, ⟨by decide +kernel, by decide +kernel⟩, by decide +kernel, by decide +kernel, by decide +kernel⟩
theorem dX1_pairFault_0 : decode cX1_pairFault 0 = .ok (.aload_n 0, 1) := by decide +kernel
theorem dX1_pairFault_1 : decode cX1_pairFault 1 = .ok (.getfield 22, 3) := by decide +kernel
theorem dX1_pairFault_4 : decode cX1_pairFault 4 = .ok (.iload_n 1, 1) := by decide +kernel
theorem dX1_pairFault_5 : decode cX1_pairFault 5 = .ok (.iload_n 2, 1) := by decide +kernel
theorem dX1_pairFault_6 : decode cX1_pairFault 6 = .ok (.invokevirtual 147, 3) := by decide +kernel
theorem dX1_pairFault_9 : decode cX1_pairFault 9 = .ok (.istore_n 3, 1) := by decide +kernel
theorem dX1_pairFault_10 : decode cX1_pairFault 10 = .ok (.iload_n 3, 1) := by decide +kernel
theorem dX1_pairFault_11 : decode cX1_pairFault 11 = .ok (.ifCond .ne 5, 3) := by decide +kernel
theorem dX1_pairFault_14 : decode cX1_pairFault 14 = .ok (.iconst 0, 1) := by decide +kernel
theorem dX1_pairFault_15 : decode cX1_pairFault 15 = .ok (.ireturn, 1) := by decide +kernel
theorem dX1_pairFault_16 : decode cX1_pairFault 16 = .ok (.iload_n 3, 1) := by decide +kernel
theorem dX1_pairFault_17 : decode cX1_pairFault 17 = .ok (.iconst 3, 1) := by decide +kernel
theorem dX1_pairFault_18 : decode cX1_pairFault 18 = .ok (.if_icmp .ne 5, 3) := by decide +kernel
theorem dX1_pairFault_21 : decode cX1_pairFault 21 = .ok (.iconst 3, 1) := by decide +kernel
theorem dX1_pairFault_22 : decode cX1_pairFault 22 = .ok (.ireturn, 1) := by decide +kernel
theorem dX1_pairFault_23 : decode cX1_pairFault 23 = .ok (.iload_n 3, 1) := by decide +kernel
theorem dX1_pairFault_24 : decode cX1_pairFault 24 = .ok (.iconst 1, 1) := by decide +kernel
theorem dX1_pairFault_25 : decode cX1_pairFault 25 = .ok (.if_icmp .ne 5, 3) := by decide +kernel
theorem dX1_pairFault_28 : decode cX1_pairFault 28 = .ok (.iconst 4, 1) := by decide +kernel
theorem dX1_pairFault_29 : decode cX1_pairFault 29 = .ok (.ireturn, 1) := by decide +kernel
theorem dX1_pairFault_30 : decode cX1_pairFault 30 = .ok (.aload_n 0, 1) := by decide +kernel
theorem dX1_pairFault_31 : decode cX1_pairFault 31 = .ok (.getfield 22, 3) := by decide +kernel
theorem dX1_pairFault_34 : decode cX1_pairFault 34 = .ok (.getfield 115, 3) := by decide +kernel
theorem dX1_pairFault_37 : decode cX1_pairFault 37 = .ok (.iload_n 1, 1) := by decide +kernel
theorem dX1_pairFault_38 : decode cX1_pairFault 38 = .ok (.iaload, 1) := by decide +kernel
theorem dX1_pairFault_39 : decode cX1_pairFault 39 = .ok (.aload_n 0, 1) := by decide +kernel
theorem dX1_pairFault_40 : decode cX1_pairFault 40 = .ok (.getfield 22, 3) := by decide +kernel
theorem dX1_pairFault_43 : decode cX1_pairFault 43 = .ok (.getfield 115, 3) := by decide +kernel
theorem dX1_pairFault_46 : decode cX1_pairFault 46 = .ok (.iload_n 2, 1) := by decide +kernel
theorem dX1_pairFault_47 : decode cX1_pairFault 47 = .ok (.iaload, 1) := by decide +kernel
theorem dX1_pairFault_48 : decode cX1_pairFault 48 = .ok (.if_icmp .eq 18, 3) := by decide +kernel
theorem dX1_pairFault_51 : decode cX1_pairFault 51 = .ok (.aload_n 0, 1) := by decide +kernel
theorem dX1_pairFault_52 : decode cX1_pairFault 52 = .ok (.iload_n 1, 1) := by decide +kernel
theorem dX1_pairFault_53 : decode cX1_pairFault 53 = .ok (.iload_n 2, 1) := by decide +kernel
theorem dX1_pairFault_54 : decode cX1_pairFault 54 = .ok (.invokevirtual 150, 3) := by decide +kernel
theorem dX1_pairFault_57 : decode cX1_pairFault 57 = .ok (.ifCond .eq 7, 3) := by decide +kernel
theorem dX1_pairFault_60 : decode cX1_pairFault 60 = .ok (.iconst 4, 1) := by decide +kernel
theorem dX1_pairFault_61 : decode cX1_pairFault 61 = .ok (.goto 4, 3) := by decide +kernel
theorem dX1_pairFault_64 : decode cX1_pairFault 64 = .ok (.iconst 0, 1) := by decide +kernel
theorem dX1_pairFault_65 : decode cX1_pairFault 65 = .ok (.ireturn, 1) := by decide +kernel
theorem dX1_pairFault_66 : decode cX1_pairFault 66 = .ok (.aload_n 0, 1) := by decide +kernel
theorem dX1_pairFault_67 : decode cX1_pairFault 67 = .ok (.iload_n 1, 1) := by decide +kernel
theorem dX1_pairFault_68 : decode cX1_pairFault 68 = .ok (.iload_n 2, 1) := by decide +kernel
theorem dX1_pairFault_69 : decode cX1_pairFault 69 = .ok (.invokevirtual 153, 3) := by decide +kernel
theorem dX1_pairFault_72 : decode cX1_pairFault 72 = .ok (.ifCond .ne 12, 3) := by decide +kernel
theorem dX1_pairFault_75 : decode cX1_pairFault 75 = .ok (.aload_n 0, 1) := by decide +kernel
theorem dX1_pairFault_76 : decode cX1_pairFault 76 = .ok (.iload_n 2, 1) := by decide +kernel
theorem dX1_pairFault_77 : decode cX1_pairFault 77 = .ok (.iload_n 1, 1) := by decide +kernel
theorem dX1_pairFault_78 : decode cX1_pairFault 78 = .ok (.invokevirtual 153, 3) := by decide +kernel
theorem dX1_pairFault_81 : decode cX1_pairFault 81 = .ok (.ifCond .eq 7, 3) := by decide +kernel
theorem dX1_pairFault_84 : decode cX1_pairFault 84 = .ok (.iconst 0, 1) := by decide +kernel
theorem dX1_pairFault_85 : decode cX1_pairFault 85 = .ok (.goto 4, 3) := by decide +kernel
theorem dX1_pairFault_88 : decode cX1_pairFault 88 = .ok (.iconst 5, 1) := by decide +kernel
theorem dX1_pairFault_89 : decode cX1_pairFault 89 = .ok (.ireturn, 1) := by decide +kernel
abbrev M_X1_pairFault : MRec := (yX1_pairFault, cX1_pairFault, 4, (some Jvm.ClassFile.FieldType.int), [])
theorem m_X1_pairFault : en_M M_X1_pairFault 2 := ⟨t_1254, t_6, ⟨by decide +kernel, by decide +kernel⟩, by decide +kernel, by decide +kernel, by decide +kernel⟩
