theorem dX12_same_0 : decode cX12_same 0 = .ok (.aload_n 0, 1) := by decide +kernel
theorem dX12_same_1 : decode cX12_same 1 = .ok (.iconst 0, 1) := by decide +kernel
theorem dX12_same_2 : decode cX12_same 2 = .ok (.putfield 271, 3) := by decide +kernel
theorem dX12_same_5 : decode cX12_same 5 = .ok (.aload_n 0, 1) := by decide +kernel
theorem dX12_same_6 : decode cX12_same 6 = .ok (.iload_n 1, 1) := by decide +kernel
theorem dX12_same_7 : decode cX12_same 7 = .ok (.invokestatic 440, 3) := by decide +kernel
theorem dX12_same_10 : decode cX12_same 10 = .ok (.ifCond .eq 10, 3) := by decide +kernel
theorem dX12_same_13 : decode cX12_same 13 = .ok (.iload_n 2, 1) := by decide +kernel
theorem dX12_same_14 : decode cX12_same 14 = .ok (.invokestatic 440, 3) := by decide +kernel
theorem dX12_same_17 : decode cX12_same 17 = .ok (.ifCond .ne 7, 3) := by decide +kernel
theorem dX12_same_20 : decode cX12_same 20 = .ok (.iconst 1, 1) := by decide +kernel
theorem dX12_same_21 : decode cX12_same 21 = .ok (.goto 4, 3) := by decide +kernel
theorem dX12_same_24 : decode cX12_same 24 = .ok (.iconst 0, 1) := by decide +kernel
theorem dX12_same_25 : decode cX12_same 25 = .ok (.iconst 1, 1) := by decide +kernel
theorem dX12_same_26 : decode cX12_same 26 = .ok (.invokevirtual 277, 3) := by decide +kernel
theorem dX12_same_29 : decode cX12_same 29 = .ok (.ifCond .eq 5, 3) := by decide +kernel
theorem dX12_same_32 : decode cX12_same 32 = .ok (.iconst 0, 1) := by decide +kernel
theorem dX12_same_33 : decode cX12_same 33 = .ok (.ireturn, 1) := by decide +kernel
theorem dX12_same_34 : decode cX12_same 34 = .ok (.aload_n 0, 1) := by decide +kernel
theorem dX12_same_35 : decode cX12_same 35 = .ok (.getfield 18, 3) := by decide +kernel
theorem dX12_same_38 : decode cX12_same 38 = .ok (.iload_n 1, 1) := by decide +kernel
theorem dX12_same_39 : decode cX12_same 39 = .ok (.iaload, 1) := by decide +kernel
theorem dX12_same_40 : decode cX12_same 40 = .ok (.aload_n 0, 1) := by decide +kernel
theorem dX12_same_41 : decode cX12_same 41 = .ok (.getfield 18, 3) := by decide +kernel
theorem dX12_same_44 : decode cX12_same 44 = .ok (.iload_n 2, 1) := by decide +kernel
theorem dX12_same_45 : decode cX12_same 45 = .ok (.iaload, 1) := by decide +kernel
theorem dX12_same_46 : decode cX12_same 46 = .ok (.if_icmp .ne 22, 3) := by decide +kernel
theorem dX12_same_49 : decode cX12_same 49 = .ok (.aload_n 0, 1) := by decide +kernel
theorem dX12_same_50 : decode cX12_same 50 = .ok (.getfield 26, 3) := by decide +kernel
theorem dX12_same_53 : decode cX12_same 53 = .ok (.iload_n 1, 1) := by decide +kernel
theorem dX12_same_54 : decode cX12_same 54 = .ok (.iaload, 1) := by decide +kernel
theorem dX12_same_55 : decode cX12_same 55 = .ok (.aload_n 0, 1) := by decide +kernel
theorem dX12_same_56 : decode cX12_same 56 = .ok (.getfield 26, 3) := by decide +kernel
theorem dX12_same_59 : decode cX12_same 59 = .ok (.iload_n 2, 1) := by decide +kernel
theorem dX12_same_60 : decode cX12_same 60 = .ok (.iaload, 1) := by decide +kernel
theorem dX12_same_61 : decode cX12_same 61 = .ok (.if_icmp .ne 7, 3) := by decide +kernel
theorem dX12_same_64 : decode cX12_same 64 = .ok (.iconst 1, 1) := by decide +kernel
theorem dX12_same_65 : decode cX12_same 65 = .ok (.goto 4, 3) := by decide +kernel
theorem dX12_same_68 : decode cX12_same 68 = .ok (.iconst 0, 1) := by decide +kernel
theorem dX12_same_69 : decode cX12_same 69 = .ok (.istore_n 3, 1) := by decide +kernel
theorem dX12_same_70 : decode cX12_same 70 = .ok (.iconst 0, 1) := by decide +kernel
theorem dX12_same_71 : decode cX12_same 71 = .ok (.istore 4, 2) := by decide +kernel
theorem dX12_same_73 : decode cX12_same 73 = .ok (.iload_n 3, 1) := by decide +kernel
theorem dX12_same_74 : decode cX12_same 74 = .ok (.ifCond .eq 55, 3) := by decide +kernel
theorem dX12_same_77 : decode cX12_same 77 = .ok (.iload 4, 2) := by decide +kernel
theorem dX12_same_79 : decode cX12_same 79 = .ok (.aload_n 0, 1) := by decide +kernel
theorem dX12_same_80 : decode cX12_same 80 = .ok (.getfield 18, 3) := by decide +kernel
theorem dX12_same_83 : decode cX12_same 83 = .ok (.iload_n 1, 1) := by decide +kernel
theorem dX12_same_84 : decode cX12_same 84 = .ok (.iaload, 1) := by decide +kernel
theorem dX12_same_85 : decode cX12_same 85 = .ok (.if_icmp .ge 44, 3) := by decide +kernel
theorem dX12_same_88 : decode cX12_same 88 = .ok (.aload_n 0, 1) := by decide +kernel
theorem dX12_same_89 : decode cX12_same 89 = .ok (.getfield 23, 3) := by decide +kernel
theorem dX12_same_92 : decode cX12_same 92 = .ok (.sipush 2048, 3) := by decide +kernel
theorem dX12_same_95 : decode cX12_same 95 = .ok (.iload_n 1, 1) := by decide +kernel
theorem dX12_same_96 : decode cX12_same 96 = .ok (.imul, 1) := by decide +kernel
theorem dX12_same_97 : decode cX12_same 97 = .ok (.iload 4, 2) := by decide +kernel
theorem dX12_same_99 : decode cX12_same 99 = .ok (.iadd, 1) := by decide +kernel
theorem dX12_same_100 : decode cX12_same 100 = .ok (.iaload, 1) := by decide +kernel
theorem dX12_same_101 : decode cX12_same 101 = .ok (.aload_n 0, 1) := by decide +kernel
theorem dX12_same_102 : decode cX12_same 102 = .ok (.getfield 23, 3) := by decide +kernel
theorem dX12_same_105 : decode cX12_same 105 = .ok (.sipush 2048, 3) := by decide +kernel
theorem dX12_same_108 : decode cX12_same 108 = .ok (.iload_n 2, 1) := by decide +kernel
theorem dX12_same_109 : decode cX12_same 109 = .ok (.imul, 1) := by decide +kernel
theorem dX12_same_110 : decode cX12_same 110 = .ok (.iload 4, 2) := by decide +kernel
theorem dX12_same_112 : decode cX12_same 112 = .ok (.iadd, 1) := by decide +kernel
theorem dX12_same_113 : decode cX12_same 113 = .ok (.iaload, 1) := by decide +kernel
theorem dX12_same_114 : decode cX12_same 114 = .ok (.if_icmp .ne 7, 3) := by decide +kernel
theorem dX12_same_117 : decode cX12_same 117 = .ok (.iconst 1, 1) := by decide +kernel
theorem dX12_same_118 : decode cX12_same 118 = .ok (.goto 4, 3) := by decide +kernel
theorem dX12_same_121 : decode cX12_same 121 = .ok (.iconst 0, 1) := by decide +kernel
theorem dX12_same_122 : decode cX12_same 122 = .ok (.istore_n 3, 1) := by decide +kernel
theorem dX12_same_123 : decode cX12_same 123 = .ok (.iinc 4 1, 3) := by decide +kernel
theorem dX12_same_126 : decode cX12_same 126 = .ok (.goto (-53), 3) := by decide +kernel
theorem dX12_same_129 : decode cX12_same 129 = .ok (.iconst 0, 1) := by decide +kernel
theorem dX12_same_130 : decode cX12_same 130 = .ok (.istore 4, 2) := by decide +kernel
theorem dX12_same_132 : decode cX12_same 132 = .ok (.iload_n 3, 1) := by decide +kernel
theorem dX12_same_133 : decode cX12_same 133 = .ok (.ifCond .eq 84, 3) := by decide +kernel
theorem dX12_same_136 : decode cX12_same 136 = .ok (.iload 4, 2) := by decide +kernel
theorem dX12_same_138 : decode cX12_same 138 = .ok (.aload_n 0, 1) := by decide +kernel
theorem dX12_same_139 : decode cX12_same 139 = .ok (.getfield 26, 3) := by decide +kernel
theorem dX12_same_142 : decode cX12_same 142 = .ok (.iload_n 1, 1) := by decide +kernel
theorem dX12_same_143 : decode cX12_same 143 = .ok (.iaload, 1) := by decide +kernel
theorem dX12_same_144 : decode cX12_same 144 = .ok (.if_icmp .ge 73, 3) := by decide +kernel
theorem dX12_same_147 : decode cX12_same 147 = .ok (.aload_n 0, 1) := by decide +kernel
theorem dX12_same_148 : decode cX12_same 148 = .ok (.getfield 29, 3) := by decide +kernel
theorem dX12_same_151 : decode cX12_same 151 = .ok (.sipush 2048, 3) := by decide +kernel
theorem dX12_same_154 : decode cX12_same 154 = .ok (.iload_n 1, 1) := by decide +kernel
theorem dX12_same_155 : decode cX12_same 155 = .ok (.imul, 1) := by decide +kernel
theorem dX12_same_156 : decode cX12_same 156 = .ok (.iload 4, 2) := by decide +kernel
theorem dX12_same_158 : decode cX12_same 158 = .ok (.iadd, 1) := by decide +kernel
theorem dX12_same_159 : decode cX12_same 159 = .ok (.iaload, 1) := by decide +kernel
theorem dX12_same_160 : decode cX12_same 160 = .ok (.aload_n 0, 1) := by decide +kernel
theorem dX12_same_161 : decode cX12_same 161 = .ok (.getfield 29, 3) := by decide +kernel
theorem dX12_same_164 : decode cX12_same 164 = .ok (.sipush 2048, 3) := by decide +kernel
theorem dX12_same_167 : decode cX12_same 167 = .ok (.iload_n 2, 1) := by decide +kernel
theorem dX12_same_168 : decode cX12_same 168 = .ok (.imul, 1) := by decide +kernel
theorem dX12_same_169 : decode cX12_same 169 = .ok (.iload 4, 2) := by decide +kernel
theorem dX12_same_171 : decode cX12_same 171 = .ok (.iadd, 1) := by decide +kernel
theorem dX12_same_172 : decode cX12_same 172 = .ok (.iaload, 1) := by decide +kernel
theorem dX12_same_173 : decode cX12_same 173 = .ok (.if_icmp .ne 36, 3) := by decide +kernel
theorem dX12_same_176 : decode cX12_same 176 = .ok (.aload_n 0, 1) := by decide +kernel
theorem dX12_same_177 : decode cX12_same 177 = .ok (.getfield 32, 3) := by decide +kernel
theorem dX12_same_180 : decode cX12_same 180 = .ok (.sipush 2048, 3) := by decide +kernel
theorem dX12_same_183 : decode cX12_same 183 = .ok (.iload_n 1, 1) := by decide +kernel
theorem dX12_same_184 : decode cX12_same 184 = .ok (.imul, 1) := by decide +kernel
theorem dX12_same_185 : decode cX12_same 185 = .ok (.iload 4, 2) := by decide +kernel
theorem dX12_same_187 : decode cX12_same 187 = .ok (.iadd, 1) := by decide +kernel
theorem dX12_same_188 : decode cX12_same 188 = .ok (.iaload, 1) := by decide +kernel
theorem dX12_same_189 : decode cX12_same 189 = .ok (.aload_n 0, 1) := by decide +kernel
theorem dX12_same_190 : decode cX12_same 190 = .ok (.getfield 32, 3) := by decide +kernel
theorem dX12_same_193 : decode cX12_same 193 = .ok (.sipush 2048, 3) := by decide +kernel
theorem dX12_same_196 : decode cX12_same 196 = .ok (.iload_n 2, 1) := by decide +kernel
theorem dX12_same_197 : decode cX12_same 197 = .ok (.imul, 1) := by decide +kernel
theorem dX12_same_198 : decode cX12_same 198 = .ok (.iload 4, 2) := by decide +kernel
theorem dX12_same_200 : decode cX12_same 200 = .ok (.iadd, 1) := by decide +kernel
theorem dX12_same_201 : decode cX12_same 201 = .ok (.iaload, 1) := by decide +kernel
theorem dX12_same_202 : decode cX12_same 202 = .ok (.if_icmp .ne 7, 3) := by decide +kernel
theorem dX12_same_205 : decode cX12_same 205 = .ok (.iconst 1, 1) := by decide +kernel
theorem dX12_same_206 : decode cX12_same 206 = .ok (.goto 4, 3) := by decide +kernel
theorem dX12_same_209 : decode cX12_same 209 = .ok (.iconst 0, 1) := by decide +kernel
theorem dX12_same_210 : decode cX12_same 210 = .ok (.istore_n 3, 1) := by decide +kernel
theorem dX12_same_211 : decode cX12_same 211 = .ok (.iinc 4 1, 3) := by decide +kernel
theorem dX12_same_214 : decode cX12_same 214 = .ok (.goto (-82), 3) := by decide +kernel
theorem dX12_same_217 : decode cX12_same 217 = .ok (.iload_n 3, 1) := by decide +kernel
theorem dX12_same_218 : decode cX12_same 218 = .ok (.ireturn, 1) := by decide +kernel
theorem dX12_plan_0 : decode cX12_plan 0 = .ok (.aload_n 0, 1) := by decide +kernel
theorem dX12_plan_1 : decode cX12_plan 1 = .ok (.iconst 0, 1) := by decide +kernel
theorem dX12_plan_2 : decode cX12_plan 2 = .ok (.putfield 271, 3) := by decide +kernel
theorem dX12_plan_5 : decode cX12_plan 5 = .ok (.aload_n 0, 1) := by decide +kernel
theorem dX12_plan_6 : decode cX12_plan 6 = .ok (.iload_n 1, 1) := by decide +kernel
theorem dX12_plan_7 : decode cX12_plan 7 = .ok (.invokestatic 440, 3) := by decide +kernel
theorem dX12_plan_10 : decode cX12_plan 10 = .ok (.ifCond .ne 7, 3) := by decide +kernel
theorem dX12_plan_13 : decode cX12_plan 13 = .ok (.iconst 1, 1) := by decide +kernel
theorem dX12_plan_14 : decode cX12_plan 14 = .ok (.goto 4, 3) := by decide +kernel
theorem dX12_plan_17 : decode cX12_plan 17 = .ok (.iconst 0, 1) := by decide +kernel
theorem dX12_plan_18 : decode cX12_plan 18 = .ok (.iconst 1, 1) := by decide +kernel
theorem dX12_plan_19 : decode cX12_plan 19 = .ok (.invokevirtual 277, 3) := by decide +kernel
theorem dX12_plan_22 : decode cX12_plan 22 = .ok (.ifCond .ne 34, 3) := by decide +kernel
theorem dX12_plan_25 : decode cX12_plan 25 = .ok (.aload_n 0, 1) := by decide +kernel
theorem dX12_plan_26 : decode cX12_plan 26 = .ok (.iload_n 2, 1) := by decide +kernel
theorem dX12_plan_27 : decode cX12_plan 27 = .ok (.i2l, 1) := by decide +kernel
theorem dX12_plan_28 : decode cX12_plan 28 = .ok (.lconst 0, 1) := by decide +kernel
theorem dX12_plan_29 : decode cX12_plan 29 = .ok (.aload_n 0, 1) := by decide +kernel
theorem dX12_plan_30 : decode cX12_plan 30 = .ok (.getfield 18, 3) := by decide +kernel
theorem dX12_plan_33 : decode cX12_plan 33 = .ok (.iload_n 1, 1) := by decide +kernel
theorem dX12_plan_34 : decode cX12_plan 34 = .ok (.iaload, 1) := by decide +kernel
theorem dX12_plan_35 : decode cX12_plan 35 = .ok (.iconst 1, 1) := by decide +kernel
theorem dX12_plan_36 : decode cX12_plan 36 = .ok (.isub, 1) := by decide +kernel
theorem dX12_plan_37 : decode cX12_plan 37 = .ok (.i2l, 1) := by decide +kernel
theorem dX12_plan_38 : decode cX12_plan 38 = .ok (.invokestatic 287, 3) := by decide +kernel
theorem dX12_plan_41 : decode cX12_plan 41 = .ok (.ifCond .ne 7, 3) := by decide +kernel
theorem dX12_plan_44 : decode cX12_plan 44 = .ok (.iconst 1, 1) := by decide +kernel
theorem dX12_plan_45 : decode cX12_plan 45 = .ok (.goto 4, 3) := by decide +kernel
theorem dX12_plan_48 : decode cX12_plan 48 = .ok (.iconst 0, 1) := by decide +kernel
theorem dX12_plan_49 : decode cX12_plan 49 = .ok (.iconst 1, 1) := by decide +kernel
theorem dX12_plan_50 : decode cX12_plan 50 = .ok (.invokevirtual 277, 3) := by decide +kernel
theorem dX12_plan_53 : decode cX12_plan 53 = .ok (.ifCond .eq 5, 3) := by decide +kernel
theorem dX12_plan_56 : decode cX12_plan 56 = .ok (.iconst 0, 1) := by decide +kernel
theorem dX12_plan_57 : decode cX12_plan 57 = .ok (.ireturn, 1) := by decide +kernel
theorem dX12_plan_58 : decode cX12_plan 58 = .ok (.aload_n 0, 1) := by decide +kernel
theorem dX12_plan_59 : decode cX12_plan 59 = .ok (.getfield 23, 3) := by decide +kernel
theorem dX12_plan_62 : decode cX12_plan 62 = .ok (.sipush 2048, 3) := by decide +kernel
theorem dX12_plan_65 : decode cX12_plan 65 = .ok (.iload_n 1, 1) := by decide +kernel
theorem dX12_plan_66 : decode cX12_plan 66 = .ok (.imul, 1) := by decide +kernel
theorem dX12_plan_67 : decode cX12_plan 67 = .ok (.iload_n 2, 1) := by decide +kernel
theorem dX12_plan_68 : decode cX12_plan 68 = .ok (.iadd, 1) := by decide +kernel
theorem dX12_plan_69 : decode cX12_plan 69 = .ok (.iaload, 1) := by decide +kernel
theorem dX12_plan_70 : decode cX12_plan 70 = .ok (.ireturn, 1) := by decide +kernel
theorem dX12_ordinate_0 : decode cX12_ordinate 0 = .ok (.aload_n 0, 1) := by decide +kernel
theorem dX12_ordinate_1 : decode cX12_ordinate 1 = .ok (.iconst 0, 1) := by decide +kernel
theorem dX12_ordinate_2 : decode cX12_ordinate 2 = .ok (.putfield 271, 3) := by decide +kernel
theorem dX12_ordinate_5 : decode cX12_ordinate 5 = .ok (.aload_n 0, 1) := by decide +kernel
theorem dX12_ordinate_6 : decode cX12_ordinate 6 = .ok (.iload_n 1, 1) := by decide +kernel
theorem dX12_ordinate_7 : decode cX12_ordinate 7 = .ok (.invokestatic 440, 3) := by decide +kernel
theorem dX12_ordinate_10 : decode cX12_ordinate 10 = .ok (.ifCond .ne 7, 3) := by decide +kernel
theorem dX12_ordinate_13 : decode cX12_ordinate 13 = .ok (.iconst 1, 1) := by decide +kernel
theorem dX12_ordinate_14 : decode cX12_ordinate 14 = .ok (.goto 4, 3) := by decide +kernel
theorem dX12_ordinate_17 : decode cX12_ordinate 17 = .ok (.iconst 0, 1) := by decide +kernel
theorem dX12_ordinate_18 : decode cX12_ordinate 18 = .ok (.iconst 1, 1) := by decide +kernel
theorem dX12_ordinate_19 : decode cX12_ordinate 19 = .ok (.invokevirtual 277, 3) := by decide +kernel
theorem dX12_ordinate_22 : decode cX12_ordinate 22 = .ok (.ifCond .ne 44, 3) := by decide +kernel
theorem dX12_ordinate_25 : decode cX12_ordinate 25 = .ok (.aload_n 0, 1) := by decide +kernel
theorem dX12_ordinate_26 : decode cX12_ordinate 26 = .ok (.iload_n 2, 1) := by decide +kernel
theorem dX12_ordinate_27 : decode cX12_ordinate 27 = .ok (.i2l, 1) := by decide +kernel
theorem dX12_ordinate_28 : decode cX12_ordinate 28 = .ok (.lconst 0, 1) := by decide +kernel
theorem dX12_ordinate_29 : decode cX12_ordinate 29 = .ok (.aload_n 0, 1) := by decide +kernel
theorem dX12_ordinate_30 : decode cX12_ordinate 30 = .ok (.getfield 26, 3) := by decide +kernel
theorem dX12_ordinate_33 : decode cX12_ordinate 33 = .ok (.iload_n 1, 1) := by decide +kernel
theorem dX12_ordinate_34 : decode cX12_ordinate 34 = .ok (.iaload, 1) := by decide +kernel
theorem dX12_ordinate_35 : decode cX12_ordinate 35 = .ok (.iconst 1, 1) := by decide +kernel
theorem dX12_ordinate_36 : decode cX12_ordinate 36 = .ok (.isub, 1) := by decide +kernel
theorem dX12_ordinate_37 : decode cX12_ordinate 37 = .ok (.i2l, 1) := by decide +kernel
theorem dX12_ordinate_38 : decode cX12_ordinate 38 = .ok (.invokestatic 287, 3) := by decide +kernel
theorem dX12_ordinate_41 : decode cX12_ordinate 41 = .ok (.ifCond .eq 13, 3) := by decide +kernel
theorem dX12_ordinate_44 : decode cX12_ordinate 44 = .ok (.iload_n 3, 1) := by decide +kernel
theorem dX12_ordinate_45 : decode cX12_ordinate 45 = .ok (.i2l, 1) := by decide +kernel
theorem dX12_ordinate_46 : decode cX12_ordinate 46 = .ok (.lconst 0, 1) := by decide +kernel
theorem dX12_ordinate_47 : decode cX12_ordinate 47 = .ok (.lconst 1, 1) := by decide +kernel
theorem dX12_ordinate_48 : decode cX12_ordinate 48 = .ok (.invokestatic 287, 3) := by decide +kernel
theorem dX12_ordinate_51 : decode cX12_ordinate 51 = .ok (.ifCond .ne 7, 3) := by decide +kernel
theorem dX12_ordinate_54 : decode cX12_ordinate 54 = .ok (.iconst 1, 1) := by decide +kernel
theorem dX12_ordinate_55 : decode cX12_ordinate 55 = .ok (.goto 4, 3) := by decide +kernel
theorem dX12_ordinate_58 : decode cX12_ordinate 58 = .ok (.iconst 0, 1) := by decide +kernel
theorem dX12_ordinate_59 : decode cX12_ordinate 59 = .ok (.iconst 1, 1) := by decide +kernel
theorem dX12_ordinate_60 : decode cX12_ordinate 60 = .ok (.invokevirtual 277, 3) := by decide +kernel
theorem dX12_ordinate_63 : decode cX12_ordinate 63 = .ok (.ifCond .eq 5, 3) := by decide +kernel
theorem dX12_ordinate_66 : decode cX12_ordinate 66 = .ok (.iconst 0, 1) := by decide +kernel
theorem dX12_ordinate_67 : decode cX12_ordinate 67 = .ok (.ireturn, 1) := by decide +kernel
theorem dX12_ordinate_68 : decode cX12_ordinate 68 = .ok (.iload_n 3, 1) := by decide +kernel
theorem dX12_ordinate_69 : decode cX12_ordinate 69 = .ok (.ifCond .ne 18, 3) := by decide +kernel
theorem dX12_ordinate_72 : decode cX12_ordinate 72 = .ok (.aload_n 0, 1) := by decide +kernel
theorem dX12_ordinate_73 : decode cX12_ordinate 73 = .ok (.getfield 29, 3) := by decide +kernel
theorem dX12_ordinate_76 : decode cX12_ordinate 76 = .ok (.sipush 2048, 3) := by decide +kernel
theorem dX12_ordinate_79 : decode cX12_ordinate 79 = .ok (.iload_n 1, 1) := by decide +kernel
theorem dX12_ordinate_80 : decode cX12_ordinate 80 = .ok (.imul, 1) := by decide +kernel
theorem dX12_ordinate_81 : decode cX12_ordinate 81 = .ok (.iload_n 2, 1) := by decide +kernel
theorem dX12_ordinate_82 : decode cX12_ordinate 82 = .ok (.iadd, 1) := by decide +kernel
theorem dX12_ordinate_83 : decode cX12_ordinate 83 = .ok (.iaload, 1) := by decide +kernel
theorem dX12_ordinate_84 : decode cX12_ordinate 84 = .ok (.goto 15, 3) := by decide +kernel
theorem dX12_ordinate_87 : decode cX12_ordinate 87 = .ok (.aload_n 0, 1) := by decide +kernel
theorem dX12_ordinate_88 : decode cX12_ordinate 88 = .ok (.getfield 32, 3) := by decide +kernel
theorem dX12_ordinate_91 : decode cX12_ordinate 91 = .ok (.sipush 2048, 3) := by decide +kernel
theorem dX12_ordinate_94 : decode cX12_ordinate 94 = .ok (.iload_n 1, 1) := by decide +kernel
theorem dX12_ordinate_95 : decode cX12_ordinate 95 = .ok (.imul, 1) := by decide +kernel
theorem dX12_ordinate_96 : decode cX12_ordinate 96 = .ok (.iload_n 2, 1) := by decide +kernel
theorem dX12_ordinate_97 : decode cX12_ordinate 97 = .ok (.iadd, 1) := by decide +kernel
theorem dX12_ordinate_98 : decode cX12_ordinate 98 = .ok (.iaload, 1) := by decide +kernel
theorem dX12_ordinate_99 : decode cX12_ordinate 99 = .ok (.ireturn, 1) := by decide +kernel
theorem dX12_count_0 : decode cX12_count 0 = .ok (.aload_n 0, 1) := by decide +kernel
theorem dX12_count_1 : decode cX12_count 1 = .ok (.iconst 0, 1) := by decide +kernel
theorem dX12_count_2 : decode cX12_count 2 = .ok (.putfield 271, 3) := by decide +kernel
theorem dX12_count_5 : decode cX12_count 5 = .ok (.aload_n 0, 1) := by decide +kernel
theorem dX12_count_6 : decode cX12_count 6 = .ok (.iload_n 1, 1) := by decide +kernel
theorem dX12_count_7 : decode cX12_count 7 = .ok (.invokestatic 440, 3) := by decide +kernel
theorem dX12_count_10 : decode cX12_count 10 = .ok (.ifCond .eq 15, 3) := by decide +kernel
theorem dX12_count_13 : decode cX12_count 13 = .ok (.iload_n 2, 1) := by decide +kernel
theorem dX12_count_14 : decode cX12_count 14 = .ok (.i2l, 1) := by decide +kernel
theorem dX12_count_15 : decode cX12_count 15 = .ok (.lconst 0, 1) := by decide +kernel
theorem dX12_count_16 : decode cX12_count 16 = .ok (.ldc2_w 573, 3) := by decide +kernel
theorem dX12_count_19 : decode cX12_count 19 = .ok (.invokestatic 287, 3) := by decide +kernel
theorem dX12_count_22 : decode cX12_count 22 = .ok (.ifCond .ne 7, 3) := by decide +kernel
theorem dX12_count_25 : decode cX12_count 25 = .ok (.iconst 1, 1) := by decide +kernel
theorem dX12_count_26 : decode cX12_count 26 = .ok (.goto 4, 3) := by decide +kernel
theorem dX12_count_29 : decode cX12_count 29 = .ok (.iconst 0, 1) := by decide +kernel
theorem dX12_count_30 : decode cX12_count 30 = .ok (.iconst 1, 1) := by decide +kernel
theorem dX12_count_31 : decode cX12_count 31 = .ok (.invokevirtual 277, 3) := by decide +kernel
theorem dX12_count_34 : decode cX12_count 34 = .ok (.ifCond .eq 5, 3) := by decide +kernel
theorem dX12_count_37 : decode cX12_count 37 = .ok (.iconst 0, 1) := by decide +kernel
theorem dX12_count_38 : decode cX12_count 38 = .ok (.ireturn, 1) := by decide +kernel
theorem dX12_count_39 : decode cX12_count 39 = .ok (.iload_n 2, 1) := by decide +kernel
theorem dX12_count_40 : decode cX12_count 40 = .ok (.tableswitch 97 0 4 #[36, 43, 50, 55, 60], 36) := by decide +kernel
theorem dX12_count_76 : decode cX12_count 76 = .ok (.aload_n 0, 1) := by decide +kernel
theorem dX12_count_77 : decode cX12_count 77 = .ok (.getfield 18, 3) := by decide +kernel
theorem dX12_count_80 : decode cX12_count 80 = .ok (.iload_n 1, 1) := by decide +kernel
theorem dX12_count_81 : decode cX12_count 81 = .ok (.iaload, 1) := by decide +kernel
theorem dX12_count_82 : decode cX12_count 82 = .ok (.ireturn, 1) := by decide +kernel
theorem dX12_count_83 : decode cX12_count 83 = .ok (.aload_n 0, 1) := by decide +kernel
theorem dX12_count_84 : decode cX12_count 84 = .ok (.getfield 26, 3) := by decide +kernel
theorem dX12_count_87 : decode cX12_count 87 = .ok (.iload_n 1, 1) := by decide +kernel
theorem dX12_count_88 : decode cX12_count 88 = .ok (.iaload, 1) := by decide +kernel
theorem dX12_count_89 : decode cX12_count 89 = .ok (.ireturn, 1) := by decide +kernel
theorem dX12_count_90 : decode cX12_count 90 = .ok (.aload_n 0, 1) := by decide +kernel
theorem dX12_count_91 : decode cX12_count 91 = .ok (.getfield 274, 3) := by decide +kernel
theorem dX12_count_94 : decode cX12_count 94 = .ok (.ireturn, 1) := by decide +kernel
theorem dX12_count_95 : decode cX12_count 95 = .ok (.aload_n 0, 1) := by decide +kernel
theorem dX12_count_96 : decode cX12_count 96 = .ok (.getfield 291, 3) := by decide +kernel
theorem dX12_count_99 : decode cX12_count 99 = .ok (.ireturn, 1) := by decide +kernel
theorem dX12_count_100 : decode cX12_count 100 = .ok (.iconst 0, 1) := by decide +kernel
theorem dX12_count_101 : decode cX12_count 101 = .ok (.istore_n 3, 1) := by decide +kernel
theorem dX12_count_102 : decode cX12_count 102 = .ok (.iconst 0, 1) := by decide +kernel
theorem dX12_count_103 : decode cX12_count 103 = .ok (.istore 4, 2) := by decide +kernel
theorem dX12_count_105 : decode cX12_count 105 = .ok (.iload 4, 2) := by decide +kernel
theorem dX12_count_107 : decode cX12_count 107 = .ok (.bipush 32, 2) := by decide +kernel
theorem dX12_count_109 : decode cX12_count 109 = .ok (.if_icmp .ge 26, 3) := by decide +kernel
theorem dX12_count_112 : decode cX12_count 112 = .ok (.aload_n 0, 1) := by decide +kernel
theorem dX12_count_113 : decode cX12_count 113 = .ok (.iload 4, 2) := by decide +kernel
theorem dX12_count_115 : decode cX12_count 115 = .ok (.invokevirtual 545, 3) := by decide +kernel
theorem dX12_count_118 : decode cX12_count 118 = .ok (.ifCond .eq 9, 3) := by decide +kernel
theorem dX12_count_121 : decode cX12_count 121 = .ok (.iload_n 3, 1) := by decide +kernel
theorem dX12_count_122 : decode cX12_count 122 = .ok (.iconst 1, 1) := by decide +kernel
theorem dX12_count_123 : decode cX12_count 123 = .ok (.iadd, 1) := by decide +kernel
theorem dX12_count_124 : decode cX12_count 124 = .ok (.goto 4, 3) := by decide +kernel
theorem dX12_count_127 : decode cX12_count 127 = .ok (.iload_n 3, 1) := by decide +kernel
theorem dX12_count_128 : decode cX12_count 128 = .ok (.istore_n 3, 1) := by decide +kernel
theorem dX12_count_129 : decode cX12_count 129 = .ok (.iinc 4 1, 3) := by decide +kernel
theorem dX12_count_132 : decode cX12_count 132 = .ok (.goto (-27), 3) := by decide +kernel
theorem dX12_count_135 : decode cX12_count 135 = .ok (.iload_n 3, 1) := by decide +kernel
theorem dX12_count_136 : decode cX12_count 136 = .ok (.ireturn, 1) := by decide +kernel
theorem dX12_count_137 : decode cX12_count 137 = .ok (.aload_n 0, 1) := by decide +kernel
theorem dX12_count_138 : decode cX12_count 138 = .ok (.getfield 575, 3) := by decide +kernel
theorem dX12_count_141 : decode cX12_count 141 = .ok (.ireturn, 1) := by decide +kernel
theorem dX12_box_0 : decode cX12_box 0 = .ok (.aload_n 0, 1) := by decide +kernel
theorem dX12_box_1 : decode cX12_box 1 = .ok (.getfield 26, 3) := by decide +kernel
theorem dX12_box_4 : decode cX12_box 4 = .ok (.iload_n 1, 1) := by decide +kernel
theorem dX12_box_5 : decode cX12_box 5 = .ok (.iaload, 1) := by decide +kernel
theorem dX12_box_6 : decode cX12_box 6 = .ok (.ifCond .ne 5, 3) := by decide +kernel
theorem dX12_box_9 : decode cX12_box 9 = .ok (.iconst 0, 1) := by decide +kernel
theorem dX12_box_10 : decode cX12_box 10 = .ok (.ireturn, 1) := by decide +kernel
theorem dX12_box_11 : decode cX12_box 11 = .ok (.aload_n 0, 1) := by decide +kernel
theorem dX12_box_12 : decode cX12_box 12 = .ok (.getfield 51, 3) := by decide +kernel
theorem dX12_box_15 : decode cX12_box 15 = .ok (.iload_n 1, 1) := by decide +kernel
theorem dX12_box_16 : decode cX12_box 16 = .ok (.ldc2_w 438, 3) := by decide +kernel
theorem dX12_box_19 : decode cX12_box 19 = .ok (.lastore, 1) := by decide +kernel
theorem dX12_box_20 : decode cX12_box 20 = .ok (.aload_n 0, 1) := by decide +kernel
theorem dX12_box_21 : decode cX12_box 21 = .ok (.getfield 54, 3) := by decide +kernel
theorem dX12_box_24 : decode cX12_box 24 = .ok (.iload_n 1, 1) := by decide +kernel
theorem dX12_box_25 : decode cX12_box 25 = .ok (.ldc2_w 438, 3) := by decide +kernel
theorem dX12_box_28 : decode cX12_box 28 = .ok (.lastore, 1) := by decide +kernel
theorem dX12_box_29 : decode cX12_box 29 = .ok (.aload_n 0, 1) := by decide +kernel
theorem dX12_box_30 : decode cX12_box 30 = .ok (.getfield 57, 3) := by decide +kernel
theorem dX12_box_33 : decode cX12_box 33 = .ok (.iload_n 1, 1) := by decide +kernel
theorem dX12_box_34 : decode cX12_box 34 = .ok (.ldc2_w 578, 3) := by decide +kernel
theorem dX12_box_37 : decode cX12_box 37 = .ok (.lastore, 1) := by decide +kernel
theorem dX12_box_38 : decode cX12_box 38 = .ok (.aload_n 0, 1) := by decide +kernel
theorem dX12_box_39 : decode cX12_box 39 = .ok (.getfield 60, 3) := by decide +kernel
theorem dX12_box_42 : decode cX12_box 42 = .ok (.iload_n 1, 1) := by decide +kernel
theorem dX12_box_43 : decode cX12_box 43 = .ok (.ldc2_w 578, 3) := by decide +kernel
theorem dX12_box_46 : decode cX12_box 46 = .ok (.lastore, 1) := by decide +kernel
theorem dX12_box_47 : decode cX12_box 47 = .ok (.sipush 2048, 3) := by decide +kernel
theorem dX12_box_50 : decode cX12_box 50 = .ok (.iload_n 1, 1) := by decide +kernel
theorem dX12_box_51 : decode cX12_box 51 = .ok (.imul, 1) := by decide +kernel
theorem dX12_box_52 : decode cX12_box 52 = .ok (.istore_n 2, 1) := by decide +kernel
theorem dX12_box_53 : decode cX12_box 53 = .ok (.iload_n 2, 1) := by decide +kernel
theorem dX12_box_54 : decode cX12_box 54 = .ok (.sipush 2048, 3) := by decide +kernel
theorem dX12_box_57 : decode cX12_box 57 = .ok (.iload_n 1, 1) := by decide +kernel
theorem dX12_box_58 : decode cX12_box 58 = .ok (.imul, 1) := by decide +kernel
theorem dX12_box_59 : decode cX12_box 59 = .ok (.aload_n 0, 1) := by decide +kernel
theorem dX12_box_60 : decode cX12_box 60 = .ok (.getfield 26, 3) := by decide +kernel
theorem dX12_box_63 : decode cX12_box 63 = .ok (.iload_n 1, 1) := by decide +kernel
theorem dX12_box_64 : decode cX12_box 64 = .ok (.iaload, 1) := by decide +kernel
theorem dX12_box_65 : decode cX12_box 65 = .ok (.iadd, 1) := by decide +kernel
theorem dX12_box_66 : decode cX12_box 66 = .ok (.if_icmp .ge 165, 3) := by decide +kernel
theorem dX12_box_69 : decode cX12_box 69 = .ok (.aload_n 0, 1) := by decide +kernel
theorem dX12_box_70 : decode cX12_box 70 = .ok (.getfield 51, 3) := by decide +kernel
theorem dX12_box_73 : decode cX12_box 73 = .ok (.iload_n 1, 1) := by decide +kernel
theorem dX12_box_74 : decode cX12_box 74 = .ok (.aload_n 0, 1) := by decide +kernel
theorem dX12_box_75 : decode cX12_box 75 = .ok (.getfield 29, 3) := by decide +kernel
theorem dX12_box_78 : decode cX12_box 78 = .ok (.iload_n 2, 1) := by decide +kernel
theorem dX12_box_79 : decode cX12_box 79 = .ok (.iaload, 1) := by decide +kernel
theorem dX12_box_80 : decode cX12_box 80 = .ok (.i2l, 1) := by decide +kernel
theorem dX12_box_81 : decode cX12_box 81 = .ok (.aload_n 0, 1) := by decide +kernel
theorem dX12_box_82 : decode cX12_box 82 = .ok (.getfield 51, 3) := by decide +kernel
theorem dX12_box_85 : decode cX12_box 85 = .ok (.iload_n 1, 1) := by decide +kernel
theorem dX12_box_86 : decode cX12_box 86 = .ok (.laload, 1) := by decide +kernel
theorem dX12_box_87 : decode cX12_box 87 = .ok (.lcmp, 1) := by decide +kernel
theorem dX12_box_88 : decode cX12_box 88 = .ok (.ifCond .ge 13, 3) := by decide +kernel
theorem dX12_box_91 : decode cX12_box 91 = .ok (.aload_n 0, 1) := by decide +kernel
theorem dX12_box_92 : decode cX12_box 92 = .ok (.getfield 29, 3) := by decide +kernel
theorem dX12_box_95 : decode cX12_box 95 = .ok (.iload_n 2, 1) := by decide +kernel
theorem dX12_box_96 : decode cX12_box 96 = .ok (.iaload, 1) := by decide +kernel
theorem dX12_box_97 : decode cX12_box 97 = .ok (.i2l, 1) := by decide +kernel
theorem dX12_box_98 : decode cX12_box 98 = .ok (.goto 9, 3) := by decide +kernel
theorem dX12_box_101 : decode cX12_box 101 = .ok (.aload_n 0, 1) := by decide +kernel
theorem dX12_box_102 : decode cX12_box 102 = .ok (.getfield 51, 3) := by decide +kernel
theorem dX12_box_105 : decode cX12_box 105 = .ok (.iload_n 1, 1) := by decide +kernel
theorem dX12_box_106 : decode cX12_box 106 = .ok (.laload, 1) := by decide +kernel
theorem dX12_box_107 : decode cX12_box 107 = .ok (.lastore, 1) := by decide +kernel
theorem dX12_box_108 : decode cX12_box 108 = .ok (.aload_n 0, 1) := by decide +kernel
theorem dX12_box_109 : decode cX12_box 109 = .ok (.getfield 54, 3) := by decide +kernel
theorem dX12_box_112 : decode cX12_box 112 = .ok (.iload_n 1, 1) := by decide +kernel
theorem dX12_box_113 : decode cX12_box 113 = .ok (.aload_n 0, 1) := by decide +kernel
theorem dX12_box_114 : decode cX12_box 114 = .ok (.getfield 32, 3) := by decide +kernel
theorem dX12_box_117 : decode cX12_box 117 = .ok (.iload_n 2, 1) := by decide +kernel
theorem dX12_box_118 : decode cX12_box 118 = .ok (.iaload, 1) := by decide +kernel
theorem dX12_box_119 : decode cX12_box 119 = .ok (.i2l, 1) := by decide +kernel
theorem dX12_box_120 : decode cX12_box 120 = .ok (.aload_n 0, 1) := by decide +kernel
theorem dX12_box_121 : decode cX12_box 121 = .ok (.getfield 54, 3) := by decide +kernel
theorem dX12_box_124 : decode cX12_box 124 = .ok (.iload_n 1, 1) := by decide +kernel
theorem dX12_box_125 : decode cX12_box 125 = .ok (.laload, 1) := by decide +kernel
theorem dX12_box_126 : decode cX12_box 126 = .ok (.lcmp, 1) := by decide +kernel
theorem dX12_box_127 : decode cX12_box 127 = .ok (.ifCond .ge 13, 3) := by decide +kernel
theorem dX12_box_130 : decode cX12_box 130 = .ok (.aload_n 0, 1) := by decide +kernel
theorem dX12_box_131 : decode cX12_box 131 = .ok (.getfield 32, 3) := by decide +kernel
theorem dX12_box_134 : decode cX12_box 134 = .ok (.iload_n 2, 1) := by decide +kernel
theorem dX12_box_135 : decode cX12_box 135 = .ok (.iaload, 1) := by decide +kernel
theorem dX12_box_136 : decode cX12_box 136 = .ok (.i2l, 1) := by decide +kernel
theorem dX12_box_137 : decode cX12_box 137 = .ok (.goto 9, 3) := by decide +kernel
theorem dX12_box_140 : decode cX12_box 140 = .ok (.aload_n 0, 1) := by decide +kernel
theorem dX12_box_141 : decode cX12_box 141 = .ok (.getfield 54, 3) := by decide +kernel
theorem dX12_box_144 : decode cX12_box 144 = .ok (.iload_n 1, 1) := by decide +kernel
theorem dX12_box_145 : decode cX12_box 145 = .ok (.laload, 1) := by decide +kernel
theorem dX12_box_146 : decode cX12_box 146 = .ok (.lastore, 1) := by decide +kernel
theorem dX12_box_147 : decode cX12_box 147 = .ok (.aload_n 0, 1) := by decide +kernel
theorem dX12_box_148 : decode cX12_box 148 = .ok (.getfield 57, 3) := by decide +kernel
theorem dX12_box_151 : decode cX12_box 151 = .ok (.iload_n 1, 1) := by decide +kernel
theorem dX12_box_152 : decode cX12_box 152 = .ok (.aload_n 0, 1) := by decide +kernel
theorem dX12_box_153 : decode cX12_box 153 = .ok (.getfield 29, 3) := by decide +kernel
theorem dX12_box_156 : decode cX12_box 156 = .ok (.iload_n 2, 1) := by decide +kernel
theorem dX12_box_157 : decode cX12_box 157 = .ok (.iaload, 1) := by decide +kernel
theorem dX12_box_158 : decode cX12_box 158 = .ok (.i2l, 1) := by decide +kernel
theorem dX12_box_159 : decode cX12_box 159 = .ok (.aload_n 0, 1) := by decide +kernel
theorem dX12_box_160 : decode cX12_box 160 = .ok (.getfield 57, 3) := by decide +kernel
theorem dX12_box_163 : decode cX12_box 163 = .ok (.iload_n 1, 1) := by decide +kernel
theorem dX12_box_164 : decode cX12_box 164 = .ok (.laload, 1) := by decide +kernel
theorem dX12_box_165 : decode cX12_box 165 = .ok (.lcmp, 1) := by decide +kernel
theorem dX12_box_166 : decode cX12_box 166 = .ok (.ifCond .le 13, 3) := by decide +kernel
theorem dX12_box_169 : decode cX12_box 169 = .ok (.aload_n 0, 1) := by decide +kernel
theorem dX12_box_170 : decode cX12_box 170 = .ok (.getfield 29, 3) := by decide +kernel
theorem dX12_box_173 : decode cX12_box 173 = .ok (.iload_n 2, 1) := by decide +kernel
theorem dX12_box_174 : decode cX12_box 174 = .ok (.iaload, 1) := by decide +kernel
theorem dX12_box_175 : decode cX12_box 175 = .ok (.i2l, 1) := by decide +kernel
theorem dX12_box_176 : decode cX12_box 176 = .ok (.goto 9, 3) := by decide +kernel
theorem dX12_box_179 : decode cX12_box 179 = .ok (.aload_n 0, 1) := by decide +kernel
theorem dX12_box_180 : decode cX12_box 180 = .ok (.getfield 57, 3) := by decide +kernel
theorem dX12_box_183 : decode cX12_box 183 = .ok (.iload_n 1, 1) := by decide +kernel
theorem dX12_box_184 : decode cX12_box 184 = .ok (.laload, 1) := by decide +kernel
theorem dX12_box_185 : decode cX12_box 185 = .ok (.lastore, 1) := by decide +kernel
theorem dX12_box_186 : decode cX12_box 186 = .ok (.aload_n 0, 1) := by decide +kernel
theorem dX12_box_187 : decode cX12_box 187 = .ok (.getfield 60, 3) := by decide +kernel
theorem dX12_box_190 : decode cX12_box 190 = .ok (.iload_n 1, 1) := by decide +kernel
theorem dX12_box_191 : decode cX12_box 191 = .ok (.aload_n 0, 1) := by decide +kernel
theorem dX12_box_192 : decode cX12_box 192 = .ok (.getfield 32, 3) := by decide +kernel
theorem dX12_box_195 : decode cX12_box 195 = .ok (.iload_n 2, 1) := by decide +kernel
theorem dX12_box_196 : decode cX12_box 196 = .ok (.iaload, 1) := by decide +kernel
theorem dX12_box_197 : decode cX12_box 197 = .ok (.i2l, 1) := by decide +kernel
theorem dX12_box_198 : decode cX12_box 198 = .ok (.aload_n 0, 1) := by decide +kernel
theorem dX12_box_199 : decode cX12_box 199 = .ok (.getfield 60, 3) := by decide +kernel
theorem dX12_box_202 : decode cX12_box 202 = .ok (.iload_n 1, 1) := by decide +kernel
theorem dX12_box_203 : decode cX12_box 203 = .ok (.laload, 1) := by decide +kernel
theorem dX12_box_204 : decode cX12_box 204 = .ok (.lcmp, 1) := by decide +kernel
theorem dX12_box_205 : decode cX12_box 205 = .ok (.ifCond .le 13, 3) := by decide +kernel
theorem dX12_box_208 : decode cX12_box 208 = .ok (.aload_n 0, 1) := by decide +kernel
theorem dX12_box_209 : decode cX12_box 209 = .ok (.getfield 32, 3) := by decide +kernel
theorem dX12_box_212 : decode cX12_box 212 = .ok (.iload_n 2, 1) := by decide +kernel
theorem dX12_box_213 : decode cX12_box 213 = .ok (.iaload, 1) := by decide +kernel
theorem dX12_box_214 : decode cX12_box 214 = .ok (.i2l, 1) := by decide +kernel
theorem dX12_box_215 : decode cX12_box 215 = .ok (.goto 9, 3) := by decide +kernel
theorem dX12_box_218 : decode cX12_box 218 = .ok (.aload_n 0, 1) := by decide +kernel
theorem dX12_box_219 : decode cX12_box 219 = .ok (.getfield 60, 3) := by decide +kernel
theorem dX12_box_222 : decode cX12_box 222 = .ok (.iload_n 1, 1) := by decide +kernel
theorem dX12_box_223 : decode cX12_box 223 = .ok (.laload, 1) := by decide +kernel
theorem dX12_box_224 : decode cX12_box 224 = .ok (.lastore, 1) := by decide +kernel
theorem dX12_box_225 : decode cX12_box 225 = .ok (.iinc 2 1, 3) := by decide +kernel
theorem dX12_box_228 : decode cX12_box 228 = .ok (.goto (-175), 3) := by decide +kernel
theorem dX12_box_231 : decode cX12_box 231 = .ok (.iconst 1, 1) := by decide +kernel
theorem dX12_box_232 : decode cX12_box 232 = .ok (.ireturn, 1) := by decide +kernel
theorem dX12_bounds_0 : decode cX12_bounds 0 = .ok (.aload_n 0, 1) := by decide +kernel
theorem dX12_bounds_1 : decode cX12_bounds 1 = .ok (.iconst 0, 1) := by decide +kernel
theorem dX12_bounds_2 : decode cX12_bounds 2 = .ok (.putfield 271, 3) := by decide +kernel
theorem dX12_bounds_5 : decode cX12_bounds 5 = .ok (.aload_n 0, 1) := by decide +kernel
theorem dX12_bounds_6 : decode cX12_bounds 6 = .ok (.iload_n 1, 1) := by decide +kernel
theorem dX12_bounds_7 : decode cX12_bounds 7 = .ok (.invokestatic 440, 3) := by decide +kernel
theorem dX12_bounds_10 : decode cX12_bounds 10 = .ok (.ifCond .ne 7, 3) := by decide +kernel
theorem dX12_bounds_13 : decode cX12_bounds 13 = .ok (.iconst 1, 1) := by decide +kernel
theorem dX12_bounds_14 : decode cX12_bounds 14 = .ok (.goto 4, 3) := by decide +kernel
theorem dX12_bounds_17 : decode cX12_bounds 17 = .ok (.iconst 0, 1) := by decide +kernel
theorem dX12_bounds_18 : decode cX12_bounds 18 = .ok (.iconst 1, 1) := by decide +kernel
theorem dX12_bounds_19 : decode cX12_bounds 19 = .ok (.invokevirtual 277, 3) := by decide +kernel
theorem dX12_bounds_22 : decode cX12_bounds 22 = .ok (.ifCond .ne 57, 3) := by decide +kernel
theorem dX12_bounds_25 : decode cX12_bounds 25 = .ok (.aload_n 0, 1) := by decide +kernel
theorem dX12_bounds_26 : decode cX12_bounds 26 = .ok (.aload_n 0, 1) := by decide +kernel
theorem dX12_bounds_27 : decode cX12_bounds 27 = .ok (.iload_n 1, 1) := by decide +kernel
theorem dX12_bounds_28 : decode cX12_bounds 28 = .ok (.invokevirtual 545, 3) := by decide +kernel
theorem dX12_bounds_31 : decode cX12_bounds 31 = .ok (.ifCond .ne 7, 3) := by decide +kernel
theorem dX12_bounds_34 : decode cX12_bounds 34 = .ok (.iconst 1, 1) := by decide +kernel
theorem dX12_bounds_35 : decode cX12_bounds 35 = .ok (.goto 4, 3) := by decide +kernel
theorem dX12_bounds_38 : decode cX12_bounds 38 = .ok (.iconst 0, 1) := by decide +kernel
theorem dX12_bounds_39 : decode cX12_bounds 39 = .ok (.iconst 2, 1) := by decide +kernel
theorem dX12_bounds_40 : decode cX12_bounds 40 = .ok (.invokevirtual 277, 3) := by decide +kernel
theorem dX12_bounds_43 : decode cX12_bounds 43 = .ok (.ifCond .ne 36, 3) := by decide +kernel
theorem dX12_bounds_46 : decode cX12_bounds 46 = .ok (.aload_n 0, 1) := by decide +kernel
theorem dX12_bounds_47 : decode cX12_bounds 47 = .ok (.iload_n 2, 1) := by decide +kernel
theorem dX12_bounds_48 : decode cX12_bounds 48 = .ok (.i2l, 1) := by decide +kernel
theorem dX12_bounds_49 : decode cX12_bounds 49 = .ok (.lconst 0, 1) := by decide +kernel
theorem dX12_bounds_50 : decode cX12_bounds 50 = .ok (.ldc2_w 580, 3) := by decide +kernel
theorem dX12_bounds_53 : decode cX12_bounds 53 = .ok (.invokestatic 287, 3) := by decide +kernel
theorem dX12_bounds_56 : decode cX12_bounds 56 = .ok (.ifCond .eq 11, 3) := by decide +kernel
theorem dX12_bounds_59 : decode cX12_bounds 59 = .ok (.aload_n 0, 1) := by decide +kernel
theorem dX12_bounds_60 : decode cX12_bounds 60 = .ok (.iload_n 1, 1) := by decide +kernel
theorem dX12_bounds_61 : decode cX12_bounds 61 = .ok (.invokevirtual 582, 3) := by decide +kernel
theorem dX12_bounds_64 : decode cX12_bounds 64 = .ok (.ifCond .ne 7, 3) := by decide +kernel
theorem dX12_bounds_67 : decode cX12_bounds 67 = .ok (.iconst 1, 1) := by decide +kernel
theorem dX12_bounds_68 : decode cX12_bounds 68 = .ok (.goto 4, 3) := by decide +kernel
theorem dX12_bounds_71 : decode cX12_bounds 71 = .ok (.iconst 0, 1) := by decide +kernel
theorem dX12_bounds_72 : decode cX12_bounds 72 = .ok (.iconst 3, 1) := by decide +kernel
theorem dX12_bounds_73 : decode cX12_bounds 73 = .ok (.invokevirtual 277, 3) := by decide +kernel
theorem dX12_bounds_76 : decode cX12_bounds 76 = .ok (.ifCond .eq 5, 3) := by decide +kernel
theorem dX12_bounds_79 : decode cX12_bounds 79 = .ok (.iconst 0, 1) := by decide +kernel
theorem dX12_bounds_80 : decode cX12_bounds 80 = .ok (.ireturn, 1) := by decide +kernel
theorem dX12_bounds_81 : decode cX12_bounds 81 = .ok (.iload_n 2, 1) := by decide +kernel
theorem dX12_bounds_82 : decode cX12_bounds 82 = .ok (.ifCond .ne 12, 3) := by decide +kernel
theorem dX12_bounds_85 : decode cX12_bounds 85 = .ok (.aload_n 0, 1) := by decide +kernel
theorem dX12_bounds_86 : decode cX12_bounds 86 = .ok (.getfield 51, 3) := by decide +kernel
theorem dX12_bounds_89 : decode cX12_bounds 89 = .ok (.iload_n 1, 1) := by decide +kernel
theorem dX12_bounds_90 : decode cX12_bounds 90 = .ok (.laload, 1) := by decide +kernel
theorem dX12_bounds_91 : decode cX12_bounds 91 = .ok (.goto 37, 3) := by decide +kernel
theorem dX12_bounds_94 : decode cX12_bounds 94 = .ok (.iload_n 2, 1) := by decide +kernel
theorem dX12_bounds_95 : decode cX12_bounds 95 = .ok (.iconst 1, 1) := by decide +kernel
theorem dX12_bounds_96 : decode cX12_bounds 96 = .ok (.if_icmp .ne 12, 3) := by decide +kernel
theorem dX12_bounds_99 : decode cX12_bounds 99 = .ok (.aload_n 0, 1) := by decide +kernel
theorem dX12_bounds_100 : decode cX12_bounds 100 = .ok (.getfield 54, 3) := by decide +kernel
theorem dX12_bounds_103 : decode cX12_bounds 103 = .ok (.iload_n 1, 1) := by decide +kernel
theorem dX12_bounds_104 : decode cX12_bounds 104 = .ok (.laload, 1) := by decide +kernel
theorem dX12_bounds_105 : decode cX12_bounds 105 = .ok (.goto 23, 3) := by decide +kernel
theorem dX12_bounds_108 : decode cX12_bounds 108 = .ok (.iload_n 2, 1) := by decide +kernel
theorem dX12_bounds_109 : decode cX12_bounds 109 = .ok (.iconst 2, 1) := by decide +kernel
theorem dX12_bounds_110 : decode cX12_bounds 110 = .ok (.if_icmp .ne 12, 3) := by decide +kernel
theorem dX12_bounds_113 : decode cX12_bounds 113 = .ok (.aload_n 0, 1) := by decide +kernel
theorem dX12_bounds_114 : decode cX12_bounds 114 = .ok (.getfield 57, 3) := by decide +kernel
theorem dX12_bounds_117 : decode cX12_bounds 117 = .ok (.iload_n 1, 1) := by decide +kernel
theorem dX12_bounds_118 : decode cX12_bounds 118 = .ok (.laload, 1) := by decide +kernel
theorem dX12_bounds_119 : decode cX12_bounds 119 = .ok (.goto 9, 3) := by decide +kernel
theorem dX12_bounds_122 : decode cX12_bounds 122 = .ok (.aload_n 0, 1) := by decide +kernel
theorem dX12_bounds_123 : decode cX12_bounds 123 = .ok (.getfield 60, 3) := by decide +kernel
theorem dX12_bounds_126 : decode cX12_bounds 126 = .ok (.iload_n 1, 1) := by decide +kernel
theorem dX12_bounds_127 : decode cX12_bounds 127 = .ok (.laload, 1) := by decide +kernel
theorem dX12_bounds_128 : decode cX12_bounds 128 = .ok (.lstore_n 3, 1) := by decide +kernel
theorem dX12_bounds_129 : decode cX12_bounds 129 = .ok (.lload_n 3, 1) := by decide +kernel
theorem dX12_bounds_130 : decode cX12_bounds 130 = .ok (.l2i, 1) := by decide +kernel
theorem dX12_bounds_131 : decode cX12_bounds 131 = .ok (.ireturn, 1) := by decide +kernel
theorem dX12_isFar_0 : decode cX12_isFar 0 = .ok (.lload_n 0, 1) := by decide +kernel
theorem dX12_isFar_1 : decode cX12_isFar 1 = .ok (.ldc2_w 585, 3) := by decide +kernel
theorem dX12_isFar_4 : decode cX12_isFar 4 = .ok (.ldc2_w 436, 3) := by decide +kernel
theorem dX12_isFar_7 : decode cX12_isFar 7 = .ok (.invokestatic 287, 3) := by decide +kernel
theorem dX12_isFar_10 : decode cX12_isFar 10 = .ok (.ireturn, 1) := by decide +kernel
theorem dX12_find_0 : decode cX12_find 0 = .ok (.aload_n 0, 1) := by decide +kernel
theorem dX12_find_1 : decode cX12_find 1 = .ok (.iconst 0, 1) := by decide +kernel
theorem dX12_find_2 : decode cX12_find 2 = .ok (.putfield 271, 3) := by decide +kernel
theorem dX12_find_5 : decode cX12_find 5 = .ok (.iload_n 1, 1) := by decide +kernel
theorem dX12_find_6 : decode cX12_find 6 = .ok (.i2l, 1) := by decide +kernel
theorem dX12_find_7 : decode cX12_find 7 = .ok (.lconst 0, 1) := by decide +kernel
theorem dX12_find_8 : decode cX12_find 8 = .ok (.ldc2_w 554, 3) := by decide +kernel
theorem dX12_find_11 : decode cX12_find 11 = .ok (.invokestatic 287, 3) := by decide +kernel
theorem dX12_find_14 : decode cX12_find 14 = .ok (.ifCond .eq 53, 3) := by decide +kernel
theorem dX12_find_17 : decode cX12_find 17 = .ok (.iload_n 2, 1) := by decide +kernel
theorem dX12_find_18 : decode cX12_find 18 = .ok (.i2l, 1) := by decide +kernel
theorem dX12_find_19 : decode cX12_find 19 = .ok (.invokestatic 587, 3) := by decide +kernel
theorem dX12_find_22 : decode cX12_find 22 = .ok (.ifCond .eq 45, 3) := by decide +kernel
theorem dX12_find_25 : decode cX12_find 25 = .ok (.iload_n 3, 1) := by decide +kernel
theorem dX12_find_26 : decode cX12_find 26 = .ok (.i2l, 1) := by decide +kernel
theorem dX12_find_27 : decode cX12_find 27 = .ok (.invokestatic 587, 3) := by decide +kernel
theorem dX12_find_30 : decode cX12_find 30 = .ok (.ifCond .eq 37, 3) := by decide +kernel
theorem dX12_find_33 : decode cX12_find 33 = .ok (.iload 4, 2) := by decide +kernel
theorem dX12_find_35 : decode cX12_find 35 = .ok (.i2l, 1) := by decide +kernel
theorem dX12_find_36 : decode cX12_find 36 = .ok (.invokestatic 587, 3) := by decide +kernel
theorem dX12_find_39 : decode cX12_find 39 = .ok (.ifCond .eq 28, 3) := by decide +kernel
theorem dX12_find_42 : decode cX12_find 42 = .ok (.iload 5, 2) := by decide +kernel
theorem dX12_find_44 : decode cX12_find 44 = .ok (.i2l, 1) := by decide +kernel
theorem dX12_find_45 : decode cX12_find 45 = .ok (.invokestatic 587, 3) := by decide +kernel
theorem dX12_find_48 : decode cX12_find 48 = .ok (.ifCond .eq 19, 3) := by decide +kernel
theorem dX12_find_51 : decode cX12_find 51 = .ok (.iload_n 2, 1) := by decide +kernel
theorem dX12_find_52 : decode cX12_find 52 = .ok (.iload 4, 2) := by decide +kernel
theorem dX12_find_54 : decode cX12_find 54 = .ok (.if_icmp .gt 13, 3) := by decide +kernel
theorem dX12_find_57 : decode cX12_find 57 = .ok (.iload_n 3, 1) := by decide +kernel
theorem dX12_find_58 : decode cX12_find 58 = .ok (.iload 5, 2) := by decide +kernel
theorem dX12_find_60 : decode cX12_find 60 = .ok (.if_icmp .gt 7, 3) := by decide +kernel
theorem dX12_find_63 : decode cX12_find 63 = .ok (.iconst 1, 1) := by decide +kernel
theorem dX12_find_64 : decode cX12_find 64 = .ok (.goto 4, 3) := by decide +kernel
theorem dX12_find_67 : decode cX12_find 67 = .ok (.iconst 0, 1) := by decide +kernel
theorem dX12_find_68 : decode cX12_find 68 = .ok (.istore 6, 2) := by decide +kernel
theorem dX12_find_70 : decode cX12_find 70 = .ok (.aload_n 0, 1) := by decide +kernel
theorem dX12_find_71 : decode cX12_find 71 = .ok (.iload 6, 2) := by decide +kernel
theorem dX12_find_73 : decode cX12_find 73 = .ok (.ifCond .ne 7, 3) := by decide +kernel
theorem dX12_find_76 : decode cX12_find 76 = .ok (.iconst 1, 1) := by decide +kernel
theorem dX12_find_77 : decode cX12_find 77 = .ok (.goto 4, 3) := by decide +kernel
theorem dX12_find_80 : decode cX12_find 80 = .ok (.iconst 0, 1) := by decide +kernel
theorem dX12_find_81 : decode cX12_find 81 = .ok (.iconst 1, 1) := by decide +kernel
theorem dX12_find_82 : decode cX12_find 82 = .ok (.invokevirtual 277, 3) := by decide +kernel
theorem dX12_find_85 : decode cX12_find 85 = .ok (.ifCond .eq 5, 3) := by decide +kernel
theorem dX12_find_88 : decode cX12_find 88 = .ok (.iconst 0, 1) := by decide +kernel
theorem dX12_find_89 : decode cX12_find 89 = .ok (.ireturn, 1) := by decide +kernel
theorem dX12_find_90 : decode cX12_find 90 = .ok (.aload_n 0, 1) := by decide +kernel
theorem dX12_find_91 : decode cX12_find 91 = .ok (.iconst 0, 1) := by decide +kernel
theorem dX12_find_92 : decode cX12_find 92 = .ok (.putfield 575, 3) := by decide +kernel
theorem dX12_find_95 : decode cX12_find 95 = .ok (.iconst 0, 1) := by decide +kernel
theorem dX12_find_96 : decode cX12_find 96 = .ok (.istore 7, 2) := by decide +kernel
theorem dX12_find_98 : decode cX12_find 98 = .ok (.iload 7, 2) := by decide +kernel
theorem dX12_find_100 : decode cX12_find 100 = .ok (.bipush 32, 2) := by decide +kernel
theorem dX12_find_102 : decode cX12_find 102 = .ok (.if_icmp .ge 258, 3) := by decide +kernel
theorem dX12_find_105 : decode cX12_find 105 = .ok (.aload_n 0, 1) := by decide +kernel
theorem dX12_find_106 : decode cX12_find 106 = .ok (.iload 7, 2) := by decide +kernel
theorem dX12_find_108 : decode cX12_find 108 = .ok (.invokevirtual 582, 3) := by decide +kernel
theorem dX12_find_111 : decode cX12_find 111 = .ok (.ifCond .ne 6, 3) := by decide +kernel
theorem dX12_find_114 : decode cX12_find 114 = .ok (.goto 240, 3) := by decide +kernel
theorem dX12_find_117 : decode cX12_find 117 = .ok (.aload_n 0, 1) := by decide +kernel
theorem dX12_find_118 : decode cX12_find 118 = .ok (.getfield 51, 3) := by decide +kernel
theorem dX12_find_121 : decode cX12_find 121 = .ok (.iload 7, 2) := by decide +kernel
theorem dX12_find_123 : decode cX12_find 123 = .ok (.laload, 1) := by decide +kernel
theorem dX12_find_124 : decode cX12_find 124 = .ok (.iload 4, 2) := by decide +kernel
theorem dX12_find_126 : decode cX12_find 126 = .ok (.i2l, 1) := by decide +kernel
theorem dX12_find_127 : decode cX12_find 127 = .ok (.lcmp, 1) := by decide +kernel
theorem dX12_find_128 : decode cX12_find 128 = .ok (.ifCond .gt 47, 3) := by decide +kernel
theorem dX12_find_131 : decode cX12_find 131 = .ok (.aload_n 0, 1) := by decide +kernel
theorem dX12_find_132 : decode cX12_find 132 = .ok (.getfield 57, 3) := by decide +kernel
theorem dX12_find_135 : decode cX12_find 135 = .ok (.iload 7, 2) := by decide +kernel
theorem dX12_find_137 : decode cX12_find 137 = .ok (.laload, 1) := by decide +kernel
theorem dX12_find_138 : decode cX12_find 138 = .ok (.iload_n 2, 1) := by decide +kernel
theorem dX12_find_139 : decode cX12_find 139 = .ok (.i2l, 1) := by decide +kernel
theorem dX12_find_140 : decode cX12_find 140 = .ok (.lcmp, 1) := by decide +kernel
theorem dX12_find_141 : decode cX12_find 141 = .ok (.ifCond .lt 34, 3) := by decide +kernel
theorem dX12_find_144 : decode cX12_find 144 = .ok (.aload_n 0, 1) := by decide +kernel
theorem dX12_find_145 : decode cX12_find 145 = .ok (.getfield 54, 3) := by decide +kernel
theorem dX12_find_148 : decode cX12_find 148 = .ok (.iload 7, 2) := by decide +kernel
theorem dX12_find_150 : decode cX12_find 150 = .ok (.laload, 1) := by decide +kernel
theorem dX12_find_151 : decode cX12_find 151 = .ok (.iload 5, 2) := by decide +kernel
theorem dX12_find_153 : decode cX12_find 153 = .ok (.i2l, 1) := by decide +kernel
theorem dX12_find_154 : decode cX12_find 154 = .ok (.lcmp, 1) := by decide +kernel
theorem dX12_find_155 : decode cX12_find 155 = .ok (.ifCond .gt 20, 3) := by decide +kernel
theorem dX12_find_158 : decode cX12_find 158 = .ok (.aload_n 0, 1) := by decide +kernel
theorem dX12_find_159 : decode cX12_find 159 = .ok (.getfield 60, 3) := by decide +kernel
theorem dX12_find_162 : decode cX12_find 162 = .ok (.iload 7, 2) := by decide +kernel
theorem dX12_find_164 : decode cX12_find 164 = .ok (.laload, 1) := by decide +kernel
theorem dX12_find_165 : decode cX12_find 165 = .ok (.iload_n 3, 1) := by decide +kernel
theorem dX12_find_166 : decode cX12_find 166 = .ok (.i2l, 1) := by decide +kernel
theorem dX12_find_167 : decode cX12_find 167 = .ok (.lcmp, 1) := by decide +kernel
theorem dX12_find_168 : decode cX12_find 168 = .ok (.ifCond .lt 7, 3) := by decide +kernel
theorem dX12_find_171 : decode cX12_find 171 = .ok (.iconst 1, 1) := by decide +kernel
theorem dX12_find_172 : decode cX12_find 172 = .ok (.goto 4, 3) := by decide +kernel
theorem dX12_find_175 : decode cX12_find 175 = .ok (.iconst 0, 1) := by decide +kernel
theorem dX12_find_176 : decode cX12_find 176 = .ok (.istore 8, 2) := by decide +kernel
theorem dX12_find_178 : decode cX12_find 178 = .ok (.aload_n 0, 1) := by decide +kernel
theorem dX12_find_179 : decode cX12_find 179 = .ok (.getfield 51, 3) := by decide +kernel
theorem dX12_find_182 : decode cX12_find 182 = .ok (.iload 7, 2) := by decide +kernel
theorem dX12_find_184 : decode cX12_find 184 = .ok (.laload, 1) := by decide +kernel
theorem dX12_find_185 : decode cX12_find 185 = .ok (.iload_n 2, 1) := by decide +kernel
theorem dX12_find_186 : decode cX12_find 186 = .ok (.i2l, 1) := by decide +kernel
theorem dX12_find_187 : decode cX12_find 187 = .ok (.lcmp, 1) := by decide +kernel
theorem dX12_find_188 : decode cX12_find 188 = .ok (.ifCond .lt 48, 3) := by decide +kernel
theorem dX12_find_191 : decode cX12_find 191 = .ok (.aload_n 0, 1) := by decide +kernel
theorem dX12_find_192 : decode cX12_find 192 = .ok (.getfield 57, 3) := by decide +kernel
theorem dX12_find_195 : decode cX12_find 195 = .ok (.iload 7, 2) := by decide +kernel
theorem dX12_find_197 : decode cX12_find 197 = .ok (.laload, 1) := by decide +kernel
theorem dX12_find_198 : decode cX12_find 198 = .ok (.iload 4, 2) := by decide +kernel
theorem dX12_find_200 : decode cX12_find 200 = .ok (.i2l, 1) := by decide +kernel
theorem dX12_find_201 : decode cX12_find 201 = .ok (.lcmp, 1) := by decide +kernel
theorem dX12_find_202 : decode cX12_find 202 = .ok (.ifCond .gt 34, 3) := by decide +kernel
theorem dX12_find_205 : decode cX12_find 205 = .ok (.aload_n 0, 1) := by decide +kernel
theorem dX12_find_206 : decode cX12_find 206 = .ok (.getfield 54, 3) := by decide +kernel
theorem dX12_find_209 : decode cX12_find 209 = .ok (.iload 7, 2) := by decide +kernel
theorem dX12_find_211 : decode cX12_find 211 = .ok (.laload, 1) := by decide +kernel
theorem dX12_find_212 : decode cX12_find 212 = .ok (.iload_n 3, 1) := by decide +kernel
theorem dX12_find_213 : decode cX12_find 213 = .ok (.i2l, 1) := by decide +kernel
theorem dX12_find_214 : decode cX12_find 214 = .ok (.lcmp, 1) := by decide +kernel
theorem dX12_find_215 : decode cX12_find 215 = .ok (.ifCond .lt 21, 3) := by decide +kernel
theorem dX12_find_218 : decode cX12_find 218 = .ok (.aload_n 0, 1) := by decide +kernel
theorem dX12_find_219 : decode cX12_find 219 = .ok (.getfield 60, 3) := by decide +kernel
theorem dX12_find_222 : decode cX12_find 222 = .ok (.iload 7, 2) := by decide +kernel
theorem dX12_find_224 : decode cX12_find 224 = .ok (.laload, 1) := by decide +kernel
theorem dX12_find_225 : decode cX12_find 225 = .ok (.iload 5, 2) := by decide +kernel
theorem dX12_find_227 : decode cX12_find 227 = .ok (.i2l, 1) := by decide +kernel
theorem dX12_find_228 : decode cX12_find 228 = .ok (.lcmp, 1) := by decide +kernel
theorem dX12_find_229 : decode cX12_find 229 = .ok (.ifCond .gt 7, 3) := by decide +kernel
theorem dX12_find_232 : decode cX12_find 232 = .ok (.iconst 1, 1) := by decide +kernel
theorem dX12_find_233 : decode cX12_find 233 = .ok (.goto 4, 3) := by decide +kernel
theorem dX12_find_236 : decode cX12_find 236 = .ok (.iconst 0, 1) := by decide +kernel
theorem dX12_find_237 : decode cX12_find 237 = .ok (.istore 9, 2) := by decide +kernel
theorem dX12_find_239 : decode cX12_find 239 = .ok (.aload_n 0, 1) := by decide +kernel
theorem dX12_find_240 : decode cX12_find 240 = .ok (.getfield 51, 3) := by decide +kernel
theorem dX12_find_243 : decode cX12_find 243 = .ok (.iload 7, 2) := by decide +kernel
theorem dX12_find_245 : decode cX12_find 245 = .ok (.laload, 1) := by decide +kernel
theorem dX12_find_246 : decode cX12_find 246 = .ok (.iload_n 2, 1) := by decide +kernel
theorem dX12_find_247 : decode cX12_find 247 = .ok (.i2l, 1) := by decide +kernel
theorem dX12_find_248 : decode cX12_find 248 = .ok (.lcmp, 1) := by decide +kernel
theorem dX12_find_249 : decode cX12_find 249 = .ok (.ifCond .gt 48, 3) := by decide +kernel
theorem dX12_find_252 : decode cX12_find 252 = .ok (.aload_n 0, 1) := by decide +kernel
theorem dX12_find_253 : decode cX12_find 253 = .ok (.getfield 57, 3) := by decide +kernel
theorem dX12_find_256 : decode cX12_find 256 = .ok (.iload 7, 2) := by decide +kernel
theorem dX12_find_258 : decode cX12_find 258 = .ok (.laload, 1) := by decide +kernel
theorem dX12_find_259 : decode cX12_find 259 = .ok (.iload 4, 2) := by decide +kernel
theorem dX12_find_261 : decode cX12_find 261 = .ok (.i2l, 1) := by decide +kernel
theorem dX12_find_262 : decode cX12_find 262 = .ok (.lcmp, 1) := by decide +kernel
theorem dX12_find_263 : decode cX12_find 263 = .ok (.ifCond .lt 34, 3) := by decide +kernel
theorem dX12_find_266 : decode cX12_find 266 = .ok (.aload_n 0, 1) := by decide +kernel
theorem dX12_find_267 : decode cX12_find 267 = .ok (.getfield 54, 3) := by decide +kernel
theorem dX12_find_270 : decode cX12_find 270 = .ok (.iload 7, 2) := by decide +kernel
theorem dX12_find_272 : decode cX12_find 272 = .ok (.laload, 1) := by decide +kernel
theorem dX12_find_273 : decode cX12_find 273 = .ok (.iload_n 3, 1) := by decide +kernel
theorem dX12_find_274 : decode cX12_find 274 = .ok (.i2l, 1) := by decide +kernel
theorem dX12_find_275 : decode cX12_find 275 = .ok (.lcmp, 1) := by decide +kernel
theorem dX12_find_276 : decode cX12_find 276 = .ok (.ifCond .gt 21, 3) := by decide +kernel
theorem dX12_find_279 : decode cX12_find 279 = .ok (.aload_n 0, 1) := by decide +kernel
theorem dX12_find_280 : decode cX12_find 280 = .ok (.getfield 60, 3) := by decide +kernel
theorem dX12_find_283 : decode cX12_find 283 = .ok (.iload 7, 2) := by decide +kernel
theorem dX12_find_285 : decode cX12_find 285 = .ok (.laload, 1) := by decide +kernel
theorem dX12_find_286 : decode cX12_find 286 = .ok (.iload 5, 2) := by decide +kernel
theorem dX12_find_288 : decode cX12_find 288 = .ok (.i2l, 1) := by decide +kernel
theorem dX12_find_289 : decode cX12_find 289 = .ok (.lcmp, 1) := by decide +kernel
theorem dX12_find_290 : decode cX12_find 290 = .ok (.ifCond .lt 7, 3) := by decide +kernel
theorem dX12_find_293 : decode cX12_find 293 = .ok (.iconst 1, 1) := by decide +kernel
theorem dX12_find_294 : decode cX12_find 294 = .ok (.goto 4, 3) := by decide +kernel
theorem dX12_find_297 : decode cX12_find 297 = .ok (.iconst 0, 1) := by decide +kernel
theorem dX12_find_298 : decode cX12_find 298 = .ok (.istore 10, 2) := by decide +kernel
theorem dX12_find_300 : decode cX12_find 300 = .ok (.iload_n 1, 1) := by decide +kernel
theorem dX12_find_301 : decode cX12_find 301 = .ok (.ifCond .ne 11, 3) := by decide +kernel
theorem dX12_find_304 : decode cX12_find 304 = .ok (.iload 8, 2) := by decide +kernel
theorem dX12_find_306 : decode cX12_find 306 = .ok (.ifCond .ne 27, 3) := by decide +kernel
theorem dX12_find_309 : decode cX12_find 309 = .ok (.goto 45, 3) := by decide +kernel
theorem dX12_find_312 : decode cX12_find 312 = .ok (.iload_n 1, 1) := by decide +kernel
theorem dX12_find_313 : decode cX12_find 313 = .ok (.iconst 1, 1) := by decide +kernel
theorem dX12_find_314 : decode cX12_find 314 = .ok (.if_icmp .ne 11, 3) := by decide +kernel
theorem dX12_find_317 : decode cX12_find 317 = .ok (.iload 9, 2) := by decide +kernel
theorem dX12_find_319 : decode cX12_find 319 = .ok (.ifCond .ne 14, 3) := by decide +kernel
theorem dX12_find_322 : decode cX12_find 322 = .ok (.goto 32, 3) := by decide +kernel
theorem dX12_find_325 : decode cX12_find 325 = .ok (.iload 10, 2) := by decide +kernel
theorem dX12_find_327 : decode cX12_find 327 = .ok (.ifCond .ne 6, 3) := by decide +kernel
theorem dX12_find_330 : decode cX12_find 330 = .ok (.goto 24, 3) := by decide +kernel
theorem dX12_find_333 : decode cX12_find 333 = .ok (.aload_n 0, 1) := by decide +kernel
theorem dX12_find_334 : decode cX12_find 334 = .ok (.getfield 38, 3) := by decide +kernel
theorem dX12_find_337 : decode cX12_find 337 = .ok (.aload_n 0, 1) := by decide +kernel
theorem dX12_find_338 : decode cX12_find 338 = .ok (.getfield 575, 3) := by decide +kernel
theorem dX12_find_341 : decode cX12_find 341 = .ok (.iload 7, 2) := by decide +kernel
theorem dX12_find_343 : decode cX12_find 343 = .ok (.iastore, 1) := by decide +kernel
theorem dX12_find_344 : decode cX12_find 344 = .ok (.aload_n 0, 1) := by decide +kernel
theorem dX12_find_345 : decode cX12_find 345 = .ok (.dup, 1) := by decide +kernel
theorem dX12_find_346 : decode cX12_find 346 = .ok (.getfield 575, 3) := by decide +kernel
theorem dX12_find_349 : decode cX12_find 349 = .ok (.iconst 1, 1) := by decide +kernel
theorem dX12_find_350 : decode cX12_find 350 = .ok (.iadd, 1) := by decide +kernel
theorem dX12_find_351 : decode cX12_find 351 = .ok (.putfield 575, 3) := by decide +kernel
theorem dX12_find_354 : decode cX12_find 354 = .ok (.iinc 7 1, 3) := by decide +kernel
theorem dX12_find_357 : decode cX12_find 357 = .ok (.goto (-259), 3) := by decide +kernel
theorem dX12_find_360 : decode cX12_find 360 = .ok (.aload_n 0, 1) := by decide +kernel
theorem dX12_find_361 : decode cX12_find 361 = .ok (.getfield 575, 3) := by decide +kernel
theorem dX12_find_364 : decode cX12_find 364 = .ok (.ireturn, 1) := by decide +kernel
theorem dX12_gap_0 : decode cX12_gap 0 = .ok (.lload_n 0, 1) := by decide +kernel
theorem dX12_gap_1 : decode cX12_gap 1 = .ok (.lload_n 2, 1) := by decide +kernel
theorem dX12_gap_2 : decode cX12_gap 2 = .ok (.lcmp, 1) := by decide +kernel
theorem dX12_gap_3 : decode cX12_gap 3 = .ok (.ifCond .ge 9, 3) := by decide +kernel
theorem dX12_gap_6 : decode cX12_gap 6 = .ok (.lload_n 2, 1) := by decide +kernel
theorem dX12_gap_7 : decode cX12_gap 7 = .ok (.lload_n 0, 1) := by decide +kernel
theorem dX12_gap_8 : decode cX12_gap 8 = .ok (.lsub, 1) := by decide +kernel
theorem dX12_gap_9 : decode cX12_gap 9 = .ok (.goto 18, 3) := by decide +kernel
theorem dX12_gap_12 : decode cX12_gap 12 = .ok (.lload_n 0, 1) := by decide +kernel
theorem dX12_gap_13 : decode cX12_gap 13 = .ok (.lload 4, 2) := by decide +kernel
theorem dX12_gap_15 : decode cX12_gap 15 = .ok (.lcmp, 1) := by decide +kernel
theorem dX12_gap_16 : decode cX12_gap 16 = .ok (.ifCond .le 10, 3) := by decide +kernel
theorem dX12_gap_19 : decode cX12_gap 19 = .ok (.lload_n 0, 1) := by decide +kernel
theorem dX12_gap_20 : decode cX12_gap 20 = .ok (.lload 4, 2) := by decide +kernel
theorem dX12_gap_22 : decode cX12_gap 22 = .ok (.lsub, 1) := by decide +kernel
theorem dX12_gap_23 : decode cX12_gap 23 = .ok (.goto 4, 3) := by decide +kernel
theorem dX12_gap_26 : decode cX12_gap 26 = .ok (.lconst 0, 1) := by decide +kernel
theorem dX12_gap_27 : decode cX12_gap 27 = .ok (.lreturn, 1) := by decide +kernel
theorem dX12_nearest_0 : decode cX12_nearest 0 = .ok (.aload_n 0, 1) := by decide +kernel
theorem dX12_nearest_1 : decode cX12_nearest 1 = .ok (.iconst 0, 1) := by decide +kernel
theorem dX12_nearest_2 : decode cX12_nearest 2 = .ok (.putfield 271, 3) := by decide +kernel
theorem dX12_nearest_5 : decode cX12_nearest 5 = .ok (.aload_n 0, 1) := by decide +kernel
theorem dX12_nearest_6 : decode cX12_nearest 6 = .ok (.iload_n 3, 1) := by decide +kernel
theorem dX12_nearest_7 : decode cX12_nearest 7 = .ok (.i2l, 1) := by decide +kernel
theorem dX12_nearest_8 : decode cX12_nearest 8 = .ok (.lconst 1, 1) := by decide +kernel
theorem dX12_nearest_9 : decode cX12_nearest 9 = .ok (.ldc2_w 590, 3) := by decide +kernel
theorem dX12_nearest_12 : decode cX12_nearest 12 = .ok (.invokestatic 287, 3) := by decide +kernel
theorem dX12_nearest_15 : decode cX12_nearest 15 = .ok (.ifCond .eq 19, 3) := by decide +kernel
theorem dX12_nearest_18 : decode cX12_nearest 18 = .ok (.iload_n 1, 1) := by decide +kernel
theorem dX12_nearest_19 : decode cX12_nearest 19 = .ok (.i2l, 1) := by decide +kernel
theorem dX12_nearest_20 : decode cX12_nearest 20 = .ok (.invokestatic 587, 3) := by decide +kernel
theorem dX12_nearest_23 : decode cX12_nearest 23 = .ok (.ifCond .eq 11, 3) := by decide +kernel
theorem dX12_nearest_26 : decode cX12_nearest 26 = .ok (.iload_n 2, 1) := by decide +kernel
theorem dX12_nearest_27 : decode cX12_nearest 27 = .ok (.i2l, 1) := by decide +kernel
theorem dX12_nearest_28 : decode cX12_nearest 28 = .ok (.invokestatic 587, 3) := by decide +kernel
theorem dX12_nearest_31 : decode cX12_nearest 31 = .ok (.ifCond .ne 7, 3) := by decide +kernel
theorem dX12_nearest_34 : decode cX12_nearest 34 = .ok (.iconst 1, 1) := by decide +kernel
theorem dX12_nearest_35 : decode cX12_nearest 35 = .ok (.goto 4, 3) := by decide +kernel
theorem dX12_nearest_38 : decode cX12_nearest 38 = .ok (.iconst 0, 1) := by decide +kernel
theorem dX12_nearest_39 : decode cX12_nearest 39 = .ok (.iconst 1, 1) := by decide +kernel
theorem dX12_nearest_40 : decode cX12_nearest 40 = .ok (.invokevirtual 277, 3) := by decide +kernel
theorem dX12_nearest_43 : decode cX12_nearest 43 = .ok (.ifCond .eq 5, 3) := by decide +kernel
theorem dX12_nearest_46 : decode cX12_nearest 46 = .ok (.iconst 0, 1) := by decide +kernel
theorem dX12_nearest_47 : decode cX12_nearest 47 = .ok (.ireturn, 1) := by decide +kernel
theorem dX12_nearest_48 : decode cX12_nearest 48 = .ok (.aload_n 0, 1) := by decide +kernel
theorem dX12_nearest_49 : decode cX12_nearest 49 = .ok (.iconst 0, 1) := by decide +kernel
theorem dX12_nearest_50 : decode cX12_nearest 50 = .ok (.putfield 575, 3) := by decide +kernel
theorem dX12_nearest_53 : decode cX12_nearest 53 = .ok (.ldc2_w 592, 3) := by decide +kernel
theorem dX12_nearest_56 : decode cX12_nearest 56 = .ok (.lstore 4, 2) := by decide +kernel
theorem dX12_nearest_58 : decode cX12_nearest 58 = .ok (.iconst (-1), 1) := by decide +kernel
theorem dX12_nearest_59 : decode cX12_nearest 59 = .ok (.istore 6, 2) := by decide +kernel
theorem dX12_nearest_61 : decode cX12_nearest 61 = .ok (.iconst 0, 1) := by decide +kernel
theorem dX12_nearest_62 : decode cX12_nearest 62 = .ok (.istore 7, 2) := by decide +kernel
theorem dX12_nearest_64 : decode cX12_nearest 64 = .ok (.iload 7, 2) := by decide +kernel
theorem dX12_nearest_66 : decode cX12_nearest 66 = .ok (.iload_n 3, 1) := by decide +kernel
theorem dX12_nearest_67 : decode cX12_nearest 67 = .ok (.if_icmp .ge 198, 3) := by decide +kernel
theorem dX12_nearest_70 : decode cX12_nearest 70 = .ok (.lconst 0, 1) := by decide +kernel
theorem dX12_nearest_71 : decode cX12_nearest 71 = .ok (.lstore 8, 2) := by decide +kernel
theorem dX12_nearest_73 : decode cX12_nearest 73 = .ok (.iconst (-1), 1) := by decide +kernel
theorem dX12_nearest_74 : decode cX12_nearest 74 = .ok (.istore 10, 2) := by decide +kernel
theorem dX12_nearest_76 : decode cX12_nearest 76 = .ok (.iconst 0, 1) := by decide +kernel
theorem dX12_nearest_77 : decode cX12_nearest 77 = .ok (.istore 11, 2) := by decide +kernel
theorem dX12_nearest_79 : decode cX12_nearest 79 = .ok (.iload 11, 2) := by decide +kernel
theorem dX12_nearest_81 : decode cX12_nearest 81 = .ok (.bipush 32, 2) := by decide +kernel
theorem dX12_nearest_83 : decode cX12_nearest 83 = .ok (.if_icmp .ge 136, 3) := by decide +kernel
theorem dX12_nearest_86 : decode cX12_nearest 86 = .ok (.aload_n 0, 1) := by decide +kernel
theorem dX12_nearest_87 : decode cX12_nearest 87 = .ok (.iload 11, 2) := by decide +kernel
theorem dX12_nearest_89 : decode cX12_nearest 89 = .ok (.invokevirtual 582, 3) := by decide +kernel
theorem dX12_nearest_92 : decode cX12_nearest 92 = .ok (.ifCond .ne 6, 3) := by decide +kernel
theorem dX12_nearest_95 : decode cX12_nearest 95 = .ok (.goto 118, 3) := by decide +kernel
theorem dX12_nearest_98 : decode cX12_nearest 98 = .ok (.iload_n 1, 1) := by decide +kernel
theorem dX12_nearest_99 : decode cX12_nearest 99 = .ok (.i2l, 1) := by decide +kernel
theorem dX12_nearest_100 : decode cX12_nearest 100 = .ok (.aload_n 0, 1) := by decide +kernel
theorem dX12_nearest_101 : decode cX12_nearest 101 = .ok (.getfield 51, 3) := by decide +kernel
theorem dX12_nearest_104 : decode cX12_nearest 104 = .ok (.iload 11, 2) := by decide +kernel
theorem dX12_nearest_106 : decode cX12_nearest 106 = .ok (.laload, 1) := by decide +kernel
theorem dX12_nearest_107 : decode cX12_nearest 107 = .ok (.aload_n 0, 1) := by decide +kernel
theorem dX12_nearest_108 : decode cX12_nearest 108 = .ok (.getfield 57, 3) := by decide +kernel
theorem dX12_nearest_111 : decode cX12_nearest 111 = .ok (.iload 11, 2) := by decide +kernel
theorem dX12_nearest_113 : decode cX12_nearest 113 = .ok (.laload, 1) := by decide +kernel
theorem dX12_nearest_114 : decode cX12_nearest 114 = .ok (.invokestatic 594, 3) := by decide +kernel
theorem dX12_nearest_117 : decode cX12_nearest 117 = .ok (.lstore 12, 2) := by decide +kernel
theorem dX12_nearest_119 : decode cX12_nearest 119 = .ok (.iload_n 2, 1) := by decide +kernel
theorem dX12_nearest_120 : decode cX12_nearest 120 = .ok (.i2l, 1) := by decide +kernel
theorem dX12_nearest_121 : decode cX12_nearest 121 = .ok (.aload_n 0, 1) := by decide +kernel
theorem dX12_nearest_122 : decode cX12_nearest 122 = .ok (.getfield 54, 3) := by decide +kernel
theorem dX12_nearest_125 : decode cX12_nearest 125 = .ok (.iload 11, 2) := by decide +kernel
theorem dX12_nearest_127 : decode cX12_nearest 127 = .ok (.laload, 1) := by decide +kernel
theorem dX12_nearest_128 : decode cX12_nearest 128 = .ok (.aload_n 0, 1) := by decide +kernel
theorem dX12_nearest_129 : decode cX12_nearest 129 = .ok (.getfield 60, 3) := by decide +kernel
theorem dX12_nearest_132 : decode cX12_nearest 132 = .ok (.iload 11, 2) := by decide +kernel
theorem dX12_nearest_134 : decode cX12_nearest 134 = .ok (.laload, 1) := by decide +kernel
theorem dX12_nearest_135 : decode cX12_nearest 135 = .ok (.invokestatic 594, 3) := by decide +kernel
theorem dX12_nearest_138 : decode cX12_nearest 138 = .ok (.lstore 14, 2) := by decide +kernel
theorem dX12_nearest_140 : decode cX12_nearest 140 = .ok (.lload 12, 2) := by decide +kernel
theorem dX12_nearest_142 : decode cX12_nearest 142 = .ok (.lload 12, 2) := by decide +kernel
theorem dX12_nearest_144 : decode cX12_nearest 144 = .ok (.lmul, 1) := by decide +kernel
theorem dX12_nearest_145 : decode cX12_nearest 145 = .ok (.lload 14, 2) := by decide +kernel
theorem dX12_nearest_147 : decode cX12_nearest 147 = .ok (.lload 14, 2) := by decide +kernel
theorem dX12_nearest_149 : decode cX12_nearest 149 = .ok (.lmul, 1) := by decide +kernel
theorem dX12_nearest_150 : decode cX12_nearest 150 = .ok (.ladd, 1) := by decide +kernel
theorem dX12_nearest_151 : decode cX12_nearest 151 = .ok (.lstore 16, 2) := by decide +kernel
theorem dX12_nearest_153 : decode cX12_nearest 153 = .ok (.lload 16, 2) := by decide +kernel
theorem dX12_nearest_155 : decode cX12_nearest 155 = .ok (.lload 4, 2) := by decide +kernel
theorem dX12_nearest_157 : decode cX12_nearest 157 = .ok (.lcmp, 1) := by decide +kernel
theorem dX12_nearest_158 : decode cX12_nearest 158 = .ok (.ifCond .gt 18, 3) := by decide +kernel
theorem dX12_nearest_161 : decode cX12_nearest 161 = .ok (.lload 16, 2) := by decide +kernel
theorem dX12_nearest_163 : decode cX12_nearest 163 = .ok (.lload 4, 2) := by decide +kernel
theorem dX12_nearest_165 : decode cX12_nearest 165 = .ok (.lcmp, 1) := by decide +kernel
theorem dX12_nearest_166 : decode cX12_nearest 166 = .ok (.ifCond .ne 14, 3) := by decide +kernel
theorem dX12_nearest_169 : decode cX12_nearest 169 = .ok (.iload 11, 2) := by decide +kernel
theorem dX12_nearest_171 : decode cX12_nearest 171 = .ok (.iload 6, 2) := by decide +kernel
theorem dX12_nearest_173 : decode cX12_nearest 173 = .ok (.if_icmp .le 7, 3) := by decide +kernel
theorem dX12_nearest_176 : decode cX12_nearest 176 = .ok (.iconst 1, 1) := by decide +kernel
theorem dX12_nearest_177 : decode cX12_nearest 177 = .ok (.goto 4, 3) := by decide +kernel
theorem dX12_nearest_180 : decode cX12_nearest 180 = .ok (.iconst 0, 1) := by decide +kernel
theorem dX12_nearest_181 : decode cX12_nearest 181 = .ok (.istore 18, 2) := by decide +kernel
theorem dX12_nearest_183 : decode cX12_nearest 183 = .ok (.iload 18, 2) := by decide +kernel
theorem dX12_nearest_185 : decode cX12_nearest 185 = .ok (.ifCond .eq 28, 3) := by decide +kernel
theorem dX12_nearest_188 : decode cX12_nearest 188 = .ok (.iload 10, 2) := by decide +kernel
theorem dX12_nearest_190 : decode cX12_nearest 190 = .ok (.iconst (-1), 1) := by decide +kernel
theorem dX12_nearest_191 : decode cX12_nearest 191 = .ok (.if_icmp .eq 14, 3) := by decide +kernel
theorem dX12_nearest_194 : decode cX12_nearest 194 = .ok (.lload 16, 2) := by decide +kernel
theorem dX12_nearest_196 : decode cX12_nearest 196 = .ok (.lload 8, 2) := by decide +kernel
theorem dX12_nearest_198 : decode cX12_nearest 198 = .ok (.lcmp, 1) := by decide +kernel
theorem dX12_nearest_199 : decode cX12_nearest 199 = .ok (.ifCond .lt 6, 3) := by decide +kernel
theorem dX12_nearest_202 : decode cX12_nearest 202 = .ok (.goto 11, 3) := by decide +kernel
theorem dX12_nearest_205 : decode cX12_nearest 205 = .ok (.lload 16, 2) := by decide +kernel
theorem dX12_nearest_207 : decode cX12_nearest 207 = .ok (.lstore 8, 2) := by decide +kernel
theorem dX12_nearest_209 : decode cX12_nearest 209 = .ok (.iload 11, 2) := by decide +kernel
theorem dX12_nearest_211 : decode cX12_nearest 211 = .ok (.istore 10, 2) := by decide +kernel
theorem dX12_nearest_213 : decode cX12_nearest 213 = .ok (.iinc 11 1, 3) := by decide +kernel
theorem dX12_nearest_216 : decode cX12_nearest 216 = .ok (.goto (-137), 3) := by decide +kernel
theorem dX12_nearest_219 : decode cX12_nearest 219 = .ok (.iload 10, 2) := by decide +kernel
theorem dX12_nearest_221 : decode cX12_nearest 221 = .ok (.iconst (-1), 1) := by decide +kernel
theorem dX12_nearest_222 : decode cX12_nearest 222 = .ok (.if_icmp .ne 8, 3) := by decide +kernel
theorem dX12_nearest_225 : decode cX12_nearest 225 = .ok (.aload_n 0, 1) := by decide +kernel
theorem dX12_nearest_226 : decode cX12_nearest 226 = .ok (.getfield 575, 3) := by decide +kernel
theorem dX12_nearest_229 : decode cX12_nearest 229 = .ok (.ireturn, 1) := by decide +kernel
theorem dX12_nearest_230 : decode cX12_nearest 230 = .ok (.aload_n 0, 1) := by decide +kernel
theorem dX12_nearest_231 : decode cX12_nearest 231 = .ok (.getfield 38, 3) := by decide +kernel
theorem dX12_nearest_234 : decode cX12_nearest 234 = .ok (.aload_n 0, 1) := by decide +kernel
theorem dX12_nearest_235 : decode cX12_nearest 235 = .ok (.getfield 575, 3) := by decide +kernel
theorem dX12_nearest_238 : decode cX12_nearest 238 = .ok (.iload 10, 2) := by decide +kernel
theorem dX12_nearest_240 : decode cX12_nearest 240 = .ok (.iastore, 1) := by decide +kernel
theorem dX12_nearest_241 : decode cX12_nearest 241 = .ok (.aload_n 0, 1) := by decide +kernel
theorem dX12_nearest_242 : decode cX12_nearest 242 = .ok (.dup, 1) := by decide +kernel
theorem dX12_nearest_243 : decode cX12_nearest 243 = .ok (.getfield 575, 3) := by decide +kernel
theorem dX12_nearest_246 : decode cX12_nearest 246 = .ok (.iconst 1, 1) := by decide +kernel
theorem dX12_nearest_247 : decode cX12_nearest 247 = .ok (.iadd, 1) := by decide +kernel
theorem dX12_nearest_248 : decode cX12_nearest 248 = .ok (.putfield 575, 3) := by decide +kernel
theorem dX12_nearest_251 : decode cX12_nearest 251 = .ok (.lload 8, 2) := by decide +kernel
theorem dX12_nearest_253 : decode cX12_nearest 253 = .ok (.lstore 4, 2) := by decide +kernel
theorem dX12_nearest_255 : decode cX12_nearest 255 = .ok (.iload 10, 2) := by decide +kernel
theorem dX12_nearest_257 : decode cX12_nearest 257 = .ok (.istore 6, 2) := by decide +kernel
theorem dX12_nearest_259 : decode cX12_nearest 259 = .ok (.iinc 7 1, 3) := by decide +kernel
theorem dX12_nearest_262 : decode cX12_nearest 262 = .ok (.goto (-198), 3) := by decide +kernel
theorem dX12_nearest_265 : decode cX12_nearest 265 = .ok (.aload_n 0, 1) := by decide +kernel
theorem dX12_nearest_266 : decode cX12_nearest 266 = .ok (.getfield 575, 3) := by decide +kernel
theorem dX12_nearest_269 : decode cX12_nearest 269 = .ok (.ireturn, 1) := by decide +kernel
theorem dX12_found_0 : decode cX12_found 0 = .ok (.aload_n 0, 1) := by decide +kernel
theorem dX12_found_1 : decode cX12_found 1 = .ok (.iconst 0, 1) := by decide +kernel
theorem dX12_found_2 : decode cX12_found 2 = .ok (.putfield 271, 3) := by decide +kernel
theorem dX12_found_5 : decode cX12_found 5 = .ok (.aload_n 0, 1) := by decide +kernel
theorem dX12_found_6 : decode cX12_found 6 = .ok (.iload_n 1, 1) := by decide +kernel
theorem dX12_found_7 : decode cX12_found 7 = .ok (.i2l, 1) := by decide +kernel
theorem dX12_found_8 : decode cX12_found 8 = .ok (.lconst 0, 1) := by decide +kernel
theorem dX12_found_9 : decode cX12_found 9 = .ok (.aload_n 0, 1) := by decide +kernel
theorem dX12_found_10 : decode cX12_found 10 = .ok (.getfield 575, 3) := by decide +kernel
theorem dX12_found_13 : decode cX12_found 13 = .ok (.iconst 1, 1) := by decide +kernel
theorem dX12_found_14 : decode cX12_found 14 = .ok (.isub, 1) := by decide +kernel
theorem dX12_found_15 : decode cX12_found 15 = .ok (.i2l, 1) := by decide +kernel
theorem dX12_found_16 : decode cX12_found 16 = .ok (.invokestatic 287, 3) := by decide +kernel
theorem dX12_found_19 : decode cX12_found 19 = .ok (.ifCond .ne 7, 3) := by decide +kernel
theorem dX12_found_22 : decode cX12_found 22 = .ok (.iconst 1, 1) := by decide +kernel
theorem dX12_found_23 : decode cX12_found 23 = .ok (.goto 4, 3) := by decide +kernel
theorem dX12_found_26 : decode cX12_found 26 = .ok (.iconst 0, 1) := by decide +kernel
theorem dX12_found_27 : decode cX12_found 27 = .ok (.iconst 1, 1) := by decide +kernel
theorem dX12_found_28 : decode cX12_found 28 = .ok (.invokevirtual 277, 3) := by decide +kernel
theorem dX12_found_31 : decode cX12_found 31 = .ok (.ifCond .eq 5, 3) := by decide +kernel
theorem dX12_found_34 : decode cX12_found 34 = .ok (.iconst 0, 1) := by decide +kernel
theorem dX12_found_35 : decode cX12_found 35 = .ok (.ireturn, 1) := by decide +kernel
theorem dX12_found_36 : decode cX12_found 36 = .ok (.aload_n 0, 1) := by decide +kernel
theorem dX12_found_37 : decode cX12_found 37 = .ok (.getfield 38, 3) := by decide +kernel
theorem dX12_found_40 : decode cX12_found 40 = .ok (.iload_n 1, 1) := by decide +kernel
theorem dX12_found_41 : decode cX12_found 41 = .ok (.iaload, 1) := by decide +kernel
theorem dX12_found_42 : decode cX12_found 42 = .ok (.ireturn, 1) := by decide +kernel
theorem dX12_trim_0 : decode cX12_trim 0 = .ok (.aload_n 0, 1) := by decide +kernel
theorem dX12_trim_1 : decode cX12_trim 1 = .ok (.getfield 66, 3) := by decide +kernel
theorem dX12_trim_4 : decode cX12_trim 4 = .ok (.iload_n 1, 1) := by decide +kernel
theorem dX12_trim_5 : decode cX12_trim 5 = .ok (.iaload, 1) := by decide +kernel
theorem dX12_trim_6 : decode cX12_trim 6 = .ok (.ifCond .le 40, 3) := by decide +kernel
theorem dX12_trim_9 : decode cX12_trim 9 = .ok (.aload_n 0, 1) := by decide +kernel
theorem dX12_trim_10 : decode cX12_trim 10 = .ok (.getfield 63, 3) := by decide +kernel
theorem dX12_trim_13 : decode cX12_trim 13 = .ok (.sipush 300, 3) := by decide +kernel
theorem dX12_trim_16 : decode cX12_trim 16 = .ok (.iload_n 1, 1) := by decide +kernel
theorem dX12_trim_17 : decode cX12_trim 17 = .ok (.imul, 1) := by decide +kernel
theorem dX12_trim_18 : decode cX12_trim 18 = .ok (.aload_n 0, 1) := by decide +kernel
theorem dX12_trim_19 : decode cX12_trim 19 = .ok (.getfield 66, 3) := by decide +kernel
theorem dX12_trim_22 : decode cX12_trim 22 = .ok (.iload_n 1, 1) := by decide +kernel
theorem dX12_trim_23 : decode cX12_trim 23 = .ok (.iaload, 1) := by decide +kernel
theorem dX12_trim_24 : decode cX12_trim 24 = .ok (.iadd, 1) := by decide +kernel
theorem dX12_trim_25 : decode cX12_trim 25 = .ok (.iconst 1, 1) := by decide +kernel
theorem dX12_trim_26 : decode cX12_trim 26 = .ok (.isub, 1) := by decide +kernel
theorem dX12_trim_27 : decode cX12_trim 27 = .ok (.laload, 1) := by decide +kernel
theorem dX12_trim_28 : decode cX12_trim 28 = .ok (.lconst 0, 1) := by decide +kernel
theorem dX12_trim_29 : decode cX12_trim 29 = .ok (.lcmp, 1) := by decide +kernel
theorem dX12_trim_30 : decode cX12_trim 30 = .ok (.ifCond .ne 16, 3) := by decide +kernel
theorem dX12_trim_33 : decode cX12_trim 33 = .ok (.aload_n 0, 1) := by decide +kernel
theorem dX12_trim_34 : decode cX12_trim 34 = .ok (.getfield 66, 3) := by decide +kernel
theorem dX12_trim_37 : decode cX12_trim 37 = .ok (.iload_n 1, 1) := by decide +kernel
theorem dX12_trim_38 : decode cX12_trim 38 = .ok (.dup2, 1) := by decide +kernel
theorem dX12_trim_39 : decode cX12_trim 39 = .ok (.iaload, 1) := by decide +kernel
theorem dX12_trim_40 : decode cX12_trim 40 = .ok (.iconst 1, 1) := by decide +kernel
theorem dX12_trim_41 : decode cX12_trim 41 = .ok (.isub, 1) := by decide +kernel
theorem dX12_trim_42 : decode cX12_trim 42 = .ok (.iastore, 1) := by decide +kernel
theorem dX12_trim_43 : decode cX12_trim 43 = .ok (.goto (-43), 3) := by decide +kernel
theorem dX12_trim_46 : decode cX12_trim 46 = .ok (.aload_n 0, 1) := by decide +kernel
theorem dX12_trim_47 : decode cX12_trim 47 = .ok (.getfield 66, 3) := by decide +kernel
theorem dX12_trim_50 : decode cX12_trim 50 = .ok (.iload_n 1, 1) := by decide +kernel
theorem dX12_trim_51 : decode cX12_trim 51 = .ok (.iaload, 1) := by decide +kernel
theorem dX12_trim_52 : decode cX12_trim 52 = .ok (.ifCond .ne 10, 3) := by decide +kernel
theorem dX12_trim_55 : decode cX12_trim 55 = .ok (.aload_n 0, 1) := by decide +kernel
theorem dX12_trim_56 : decode cX12_trim 56 = .ok (.getfield 69, 3) := by decide +kernel
theorem dX12_trim_59 : decode cX12_trim 59 = .ok (.iload_n 1, 1) := by decide +kernel
theorem dX12_trim_60 : decode cX12_trim 60 = .ok (.iconst 0, 1) := by decide +kernel
theorem dX12_trim_61 : decode cX12_trim 61 = .ok (.iastore, 1) := by decide +kernel
theorem dX12_trim_62 : decode cX12_trim 62 = .ok (.return_, 1) := by decide +kernel
theorem dX12_set_0 : decode cX12_set 0 = .ok (.lload_n 2, 1) := by decide +kernel
theorem dX12_set_1 : decode cX12_set 1 = .ok (.lconst 0, 1) := by decide +kernel
theorem dX12_set_2 : decode cX12_set 2 = .ok (.lcmp, 1) := by decide +kernel
theorem dX12_set_3 : decode cX12_set 3 = .ok (.ifCond .ge 8, 3) := by decide +kernel
theorem dX12_set_6 : decode cX12_set 6 = .ok (.lload_n 2, 1) := by decide +kernel
theorem dX12_set_7 : decode cX12_set 7 = .ok (.lneg, 1) := by decide +kernel
theorem dX12_set_8 : decode cX12_set 8 = .ok (.goto 4, 3) := by decide +kernel
theorem dX12_set_11 : decode cX12_set 11 = .ok (.lload_n 2, 1) := by decide +kernel
theorem dX12_set_12 : decode cX12_set 12 = .ok (.lstore 4, 2) := by decide +kernel
theorem dX12_set_14 : decode cX12_set 14 = .ok (.aload_n 0, 1) := by decide +kernel
theorem dX12_set_15 : decode cX12_set 15 = .ok (.getfield 63, 3) := by decide +kernel
theorem dX12_set_18 : decode cX12_set 18 = .ok (.sipush 300, 3) := by decide +kernel
theorem dX12_set_21 : decode cX12_set 21 = .ok (.iload_n 1, 1) := by decide +kernel
theorem dX12_set_22 : decode cX12_set 22 = .ok (.imul, 1) := by decide +kernel
theorem dX12_set_23 : decode cX12_set 23 = .ok (.lload 4, 2) := by decide +kernel
theorem dX12_set_25 : decode cX12_set 25 = .ok (.ldc2_w 598, 3) := by decide +kernel
theorem dX12_set_28 : decode cX12_set 28 = .ok (.land, 1) := by decide +kernel
theorem dX12_set_29 : decode cX12_set 29 = .ok (.lastore, 1) := by decide +kernel
theorem dX12_set_30 : decode cX12_set 30 = .ok (.aload_n 0, 1) := by decide +kernel
theorem dX12_set_31 : decode cX12_set 31 = .ok (.getfield 63, 3) := by decide +kernel
theorem dX12_set_34 : decode cX12_set 34 = .ok (.sipush 300, 3) := by decide +kernel
theorem dX12_set_37 : decode cX12_set 37 = .ok (.iload_n 1, 1) := by decide +kernel
theorem dX12_set_38 : decode cX12_set 38 = .ok (.imul, 1) := by decide +kernel
theorem dX12_set_39 : decode cX12_set 39 = .ok (.iconst 1, 1) := by decide +kernel
theorem dX12_set_40 : decode cX12_set 40 = .ok (.iadd, 1) := by decide +kernel
theorem dX12_set_41 : decode cX12_set 41 = .ok (.lload 4, 2) := by decide +kernel
theorem dX12_set_43 : decode cX12_set 43 = .ok (.bipush 32, 2) := by decide +kernel
theorem dX12_set_45 : decode cX12_set 45 = .ok (.lushr, 1) := by decide +kernel
theorem dX12_set_46 : decode cX12_set 46 = .ok (.lastore, 1) := by decide +kernel
theorem dX12_set_47 : decode cX12_set 47 = .ok (.aload_n 0, 1) := by decide +kernel
theorem dX12_set_48 : decode cX12_set 48 = .ok (.getfield 66, 3) := by decide +kernel
theorem dX12_set_51 : decode cX12_set 51 = .ok (.iload_n 1, 1) := by decide +kernel
theorem dX12_set_52 : decode cX12_set 52 = .ok (.iconst 2, 1) := by decide +kernel
theorem dX12_set_53 : decode cX12_set 53 = .ok (.iastore, 1) := by decide +kernel
theorem dX12_set_54 : decode cX12_set 54 = .ok (.aload_n 0, 1) := by decide +kernel
theorem dX12_set_55 : decode cX12_set 55 = .ok (.getfield 69, 3) := by decide +kernel
theorem dX12_set_58 : decode cX12_set 58 = .ok (.iload_n 1, 1) := by decide +kernel
theorem dX12_set_59 : decode cX12_set 59 = .ok (.lload_n 2, 1) := by decide +kernel
theorem dX12_set_60 : decode cX12_set 60 = .ok (.lconst 0, 1) := by decide +kernel
theorem dX12_set_61 : decode cX12_set 61 = .ok (.lcmp, 1) := by decide +kernel
theorem dX12_set_62 : decode cX12_set 62 = .ok (.ifCond .ge 7, 3) := by decide +kernel
theorem dX12_set_65 : decode cX12_set 65 = .ok (.iconst (-1), 1) := by decide +kernel
theorem dX12_set_66 : decode cX12_set 66 = .ok (.goto 4, 3) := by decide +kernel
theorem dX12_set_69 : decode cX12_set 69 = .ok (.iconst 1, 1) := by decide +kernel
theorem dX12_set_70 : decode cX12_set 70 = .ok (.iastore, 1) := by decide +kernel
theorem dX12_set_71 : decode cX12_set 71 = .ok (.aload_n 0, 1) := by decide +kernel
theorem dX12_set_72 : decode cX12_set 72 = .ok (.iload_n 1, 1) := by decide +kernel
theorem dX12_set_73 : decode cX12_set 73 = .ok (.invokevirtual 600, 3) := by decide +kernel
theorem dX12_set_76 : decode cX12_set 76 = .ok (.return_, 1) := by decide +kernel
theorem dX12_limb_0 : decode cX12_limb 0 = .ok (.iload_n 2, 1) := by decide +kernel
theorem dX12_limb_1 : decode cX12_limb 1 = .ok (.aload_n 0, 1) := by decide +kernel
theorem dX12_limb_2 : decode cX12_limb 2 = .ok (.getfield 66, 3) := by decide +kernel
theorem dX12_limb_5 : decode cX12_limb 5 = .ok (.iload_n 1, 1) := by decide +kernel
theorem dX12_limb_6 : decode cX12_limb 6 = .ok (.iaload, 1) := by decide +kernel
theorem dX12_limb_7 : decode cX12_limb 7 = .ok (.if_icmp .ge 18, 3) := by decide +kernel
theorem dX12_limb_10 : decode cX12_limb 10 = .ok (.aload_n 0, 1) := by decide +kernel
theorem dX12_limb_11 : decode cX12_limb 11 = .ok (.getfield 63, 3) := by decide +kernel
theorem dX12_limb_14 : decode cX12_limb 14 = .ok (.sipush 300, 3) := by decide +kernel
theorem dX12_limb_17 : decode cX12_limb 17 = .ok (.iload_n 1, 1) := by decide +kernel
theorem dX12_limb_18 : decode cX12_limb 18 = .ok (.imul, 1) := by decide +kernel
theorem dX12_limb_19 : decode cX12_limb 19 = .ok (.iload_n 2, 1) := by decide +kernel
theorem dX12_limb_20 : decode cX12_limb 20 = .ok (.iadd, 1) := by decide +kernel
theorem dX12_limb_21 : decode cX12_limb 21 = .ok (.laload, 1) := by decide +kernel
theorem dX12_limb_22 : decode cX12_limb 22 = .ok (.goto 4, 3) := by decide +kernel
theorem dX12_limb_25 : decode cX12_limb 25 = .ok (.lconst 0, 1) := by decide +kernel
theorem dX12_limb_26 : decode cX12_limb 26 = .ok (.lreturn, 1) := by decide +kernel
theorem dX12_sizes_0 : decode cX12_sizes 0 = .ok (.aload_n 0, 1) := by decide +kernel
theorem dX12_sizes_1 : decode cX12_sizes 1 = .ok (.getfield 66, 3) := by decide +kernel
theorem dX12_sizes_4 : decode cX12_sizes 4 = .ok (.iload_n 1, 1) := by decide +kernel
theorem dX12_sizes_5 : decode cX12_sizes 5 = .ok (.iaload, 1) := by decide +kernel
theorem dX12_sizes_6 : decode cX12_sizes 6 = .ok (.aload_n 0, 1) := by decide +kernel
theorem dX12_sizes_7 : decode cX12_sizes 7 = .ok (.getfield 66, 3) := by decide +kernel
theorem dX12_sizes_10 : decode cX12_sizes 10 = .ok (.iload_n 2, 1) := by decide +kernel
theorem dX12_sizes_11 : decode cX12_sizes 11 = .ok (.iaload, 1) := by decide +kernel
theorem dX12_sizes_12 : decode cX12_sizes 12 = .ok (.if_icmp .eq 24, 3) := by decide +kernel
theorem dX12_sizes_15 : decode cX12_sizes 15 = .ok (.aload_n 0, 1) := by decide +kernel
theorem dX12_sizes_16 : decode cX12_sizes 16 = .ok (.getfield 66, 3) := by decide +kernel
theorem dX12_sizes_19 : decode cX12_sizes 19 = .ok (.iload_n 1, 1) := by decide +kernel
theorem dX12_sizes_20 : decode cX12_sizes 20 = .ok (.iaload, 1) := by decide +kernel
theorem dX12_sizes_21 : decode cX12_sizes 21 = .ok (.aload_n 0, 1) := by decide +kernel
theorem dX12_sizes_22 : decode cX12_sizes 22 = .ok (.getfield 66, 3) := by decide +kernel
theorem dX12_sizes_25 : decode cX12_sizes 25 = .ok (.iload_n 2, 1) := by decide +kernel
theorem dX12_sizes_26 : decode cX12_sizes 26 = .ok (.iaload, 1) := by decide +kernel
theorem dX12_sizes_27 : decode cX12_sizes 27 = .ok (.if_icmp .ge 7, 3) := by decide +kernel
theorem dX12_sizes_30 : decode cX12_sizes 30 = .ok (.iconst (-1), 1) := by decide +kernel
theorem dX12_sizes_31 : decode cX12_sizes 31 = .ok (.goto 4, 3) := by decide +kernel
theorem dX12_sizes_34 : decode cX12_sizes 34 = .ok (.iconst 1, 1) := by decide +kernel
theorem dX12_sizes_35 : decode cX12_sizes 35 = .ok (.ireturn, 1) := by decide +kernel
theorem dX12_sizes_36 : decode cX12_sizes 36 = .ok (.aload_n 0, 1) := by decide +kernel
theorem dX12_sizes_37 : decode cX12_sizes 37 = .ok (.getfield 66, 3) := by decide +kernel
theorem dX12_sizes_40 : decode cX12_sizes 40 = .ok (.iload_n 1, 1) := by decide +kernel
theorem dX12_sizes_41 : decode cX12_sizes 41 = .ok (.iaload, 1) := by decide +kernel
theorem dX12_sizes_42 : decode cX12_sizes 42 = .ok (.iconst 1, 1) := by decide +kernel
theorem dX12_sizes_43 : decode cX12_sizes 43 = .ok (.isub, 1) := by decide +kernel
theorem dX12_sizes_44 : decode cX12_sizes 44 = .ok (.istore_n 3, 1) := by decide +kernel
theorem dX12_sizes_45 : decode cX12_sizes 45 = .ok (.iload_n 3, 1) := by decide +kernel
theorem dX12_sizes_46 : decode cX12_sizes 46 = .ok (.ifCond .lt 37, 3) := by decide +kernel
theorem dX12_sizes_49 : decode cX12_sizes 49 = .ok (.aload_n 0, 1) := by decide +kernel
theorem dX12_sizes_50 : decode cX12_sizes 50 = .ok (.getfield 63, 3) := by decide +kernel
theorem dX12_sizes_53 : decode cX12_sizes 53 = .ok (.sipush 300, 3) := by decide +kernel
theorem dX12_sizes_56 : decode cX12_sizes 56 = .ok (.iload_n 1, 1) := by decide +kernel
theorem dX12_sizes_57 : decode cX12_sizes 57 = .ok (.imul, 1) := by decide +kernel
theorem dX12_sizes_58 : decode cX12_sizes 58 = .ok (.iload_n 3, 1) := by decide +kernel
theorem dX12_sizes_59 : decode cX12_sizes 59 = .ok (.iadd, 1) := by decide +kernel
theorem dX12_sizes_60 : decode cX12_sizes 60 = .ok (.laload, 1) := by decide +kernel
theorem dX12_sizes_61 : decode cX12_sizes 61 = .ok (.aload_n 0, 1) := by decide +kernel
theorem dX12_sizes_62 : decode cX12_sizes 62 = .ok (.getfield 63, 3) := by decide +kernel
theorem dX12_sizes_65 : decode cX12_sizes 65 = .ok (.sipush 300, 3) := by decide +kernel
theorem dX12_sizes_68 : decode cX12_sizes 68 = .ok (.iload_n 2, 1) := by decide +kernel
theorem dX12_sizes_69 : decode cX12_sizes 69 = .ok (.imul, 1) := by decide +kernel
theorem dX12_sizes_70 : decode cX12_sizes 70 = .ok (.iload_n 3, 1) := by decide +kernel
theorem dX12_sizes_71 : decode cX12_sizes 71 = .ok (.iadd, 1) := by decide +kernel
theorem dX12_sizes_72 : decode cX12_sizes 72 = .ok (.laload, 1) := by decide +kernel
theorem dX12_sizes_73 : decode cX12_sizes 73 = .ok (.lcmp, 1) := by decide +kernel
theorem dX12_sizes_74 : decode cX12_sizes 74 = .ok (.ifCond .ne 9, 3) := by decide +kernel
theorem dX12_sizes_77 : decode cX12_sizes 77 = .ok (.iinc 3 (-1), 3) := by decide +kernel
theorem dX12_sizes_80 : decode cX12_sizes 80 = .ok (.goto (-35), 3) := by decide +kernel
theorem dX12_sizes_83 : decode cX12_sizes 83 = .ok (.iload_n 3, 1) := by decide +kernel
theorem dX12_sizes_84 : decode cX12_sizes 84 = .ok (.ifCond .ge 7, 3) := by decide +kernel
theorem dX12_sizes_87 : decode cX12_sizes 87 = .ok (.iconst 0, 1) := by decide +kernel
theorem dX12_sizes_88 : decode cX12_sizes 88 = .ok (.goto 36, 3) := by decide +kernel
theorem dX12_sizes_91 : decode cX12_sizes 91 = .ok (.aload_n 0, 1) := by decide +kernel
theorem dX12_sizes_92 : decode cX12_sizes 92 = .ok (.getfield 63, 3) := by decide +kernel
theorem dX12_sizes_95 : decode cX12_sizes 95 = .ok (.sipush 300, 3) := by decide +kernel
theorem dX12_sizes_98 : decode cX12_sizes 98 = .ok (.iload_n 1, 1) := by decide +kernel
theorem dX12_sizes_99 : decode cX12_sizes 99 = .ok (.imul, 1) := by decide +kernel
theorem dX12_sizes_100 : decode cX12_sizes 100 = .ok (.iload_n 3, 1) := by decide +kernel
theorem dX12_sizes_101 : decode cX12_sizes 101 = .ok (.iadd, 1) := by decide +kernel
theorem dX12_sizes_102 : decode cX12_sizes 102 = .ok (.laload, 1) := by decide +kernel
theorem dX12_sizes_103 : decode cX12_sizes 103 = .ok (.aload_n 0, 1) := by decide +kernel
theorem dX12_sizes_104 : decode cX12_sizes 104 = .ok (.getfield 63, 3) := by decide +kernel
theorem dX12_sizes_107 : decode cX12_sizes 107 = .ok (.sipush 300, 3) := by decide +kernel
theorem dX12_sizes_110 : decode cX12_sizes 110 = .ok (.iload_n 2, 1) := by decide +kernel
theorem dX12_sizes_111 : decode cX12_sizes 111 = .ok (.imul, 1) := by decide +kernel
theorem dX12_sizes_112 : decode cX12_sizes 112 = .ok (.iload_n 3, 1) := by decide +kernel
theorem dX12_sizes_113 : decode cX12_sizes 113 = .ok (.iadd, 1) := by decide +kernel
theorem dX12_sizes_114 : decode cX12_sizes 114 = .ok (.laload, 1) := by decide +kernel
theorem dX12_sizes_115 : decode cX12_sizes 115 = .ok (.lcmp, 1) := by decide +kernel
theorem dX12_sizes_116 : decode cX12_sizes 116 = .ok (.ifCond .ge 7, 3) := by decide +kernel
theorem dX12_sizes_119 : decode cX12_sizes 119 = .ok (.iconst (-1), 1) := by decide +kernel
theorem dX12_sizes_120 : decode cX12_sizes 120 = .ok (.goto 4, 3) := by decide +kernel
theorem dX12_sizes_123 : decode cX12_sizes 123 = .ok (.iconst 1, 1) := by decide +kernel
theorem dX12_sizes_124 : decode cX12_sizes 124 = .ok (.ireturn, 1) := by decide +kernel
theorem dX12_addSizes_0 : decode cX12_addSizes 0 = .ok (.aload_n 0, 1) := by decide +kernel
theorem dX12_addSizes_1 : decode cX12_addSizes 1 = .ok (.getfield 66, 3) := by decide +kernel
theorem dX12_addSizes_4 : decode cX12_addSizes 4 = .ok (.iload_n 2, 1) := by decide +kernel
theorem dX12_addSizes_5 : decode cX12_addSizes 5 = .ok (.iaload, 1) := by decide +kernel
theorem dX12_addSizes_6 : decode cX12_addSizes 6 = .ok (.aload_n 0, 1) := by decide +kernel
theorem dX12_addSizes_7 : decode cX12_addSizes 7 = .ok (.getfield 66, 3) := by decide +kernel
theorem dX12_addSizes_10 : decode cX12_addSizes 10 = .ok (.iload_n 3, 1) := by decide +kernel
theorem dX12_addSizes_11 : decode cX12_addSizes 11 = .ok (.iaload, 1) := by decide +kernel
theorem dX12_addSizes_12 : decode cX12_addSizes 12 = .ok (.if_icmp .le 12, 3) := by decide +kernel
theorem dX12_addSizes_15 : decode cX12_addSizes 15 = .ok (.aload_n 0, 1) := by decide +kernel
theorem dX12_addSizes_16 : decode cX12_addSizes 16 = .ok (.getfield 66, 3) := by decide +kernel
theorem dX12_addSizes_19 : decode cX12_addSizes 19 = .ok (.iload_n 2, 1) := by decide +kernel
theorem dX12_addSizes_20 : decode cX12_addSizes 20 = .ok (.iaload, 1) := by decide +kernel
theorem dX12_addSizes_21 : decode cX12_addSizes 21 = .ok (.goto 9, 3) := by decide +kernel
theorem dX12_addSizes_24 : decode cX12_addSizes 24 = .ok (.aload_n 0, 1) := by decide +kernel
theorem dX12_addSizes_25 : decode cX12_addSizes 25 = .ok (.getfield 66, 3) := by decide +kernel
theorem dX12_addSizes_28 : decode cX12_addSizes 28 = .ok (.iload_n 3, 1) := by decide +kernel
theorem dX12_addSizes_29 : decode cX12_addSizes 29 = .ok (.iaload, 1) := by decide +kernel
theorem dX12_addSizes_30 : decode cX12_addSizes 30 = .ok (.iconst 1, 1) := by decide +kernel
theorem dX12_addSizes_31 : decode cX12_addSizes 31 = .ok (.iadd, 1) := by decide +kernel
theorem dX12_addSizes_32 : decode cX12_addSizes 32 = .ok (.istore 4, 2) := by decide +kernel
theorem dX12_addSizes_34 : decode cX12_addSizes 34 = .ok (.lconst 0, 1) := by decide +kernel
theorem dX12_addSizes_35 : decode cX12_addSizes 35 = .ok (.lstore 5, 2) := by decide +kernel
theorem dX12_addSizes_37 : decode cX12_addSizes 37 = .ok (.iconst 0, 1) := by decide +kernel
theorem dX12_addSizes_38 : decode cX12_addSizes 38 = .ok (.istore 7, 2) := by decide +kernel
theorem dX12_addSizes_40 : decode cX12_addSizes 40 = .ok (.iload 7, 2) := by decide +kernel
theorem dX12_addSizes_42 : decode cX12_addSizes 42 = .ok (.iload 4, 2) := by decide +kernel
theorem dX12_addSizes_44 : decode cX12_addSizes 44 = .ok (.if_icmp .ge 55, 3) := by decide +kernel
theorem dX12_addSizes_47 : decode cX12_addSizes 47 = .ok (.lload 5, 2) := by decide +kernel
theorem dX12_addSizes_49 : decode cX12_addSizes 49 = .ok (.aload_n 0, 1) := by decide +kernel
theorem dX12_addSizes_50 : decode cX12_addSizes 50 = .ok (.iload_n 2, 1) := by decide +kernel
theorem dX12_addSizes_51 : decode cX12_addSizes 51 = .ok (.iload 7, 2) := by decide +kernel
theorem dX12_addSizes_53 : decode cX12_addSizes 53 = .ok (.invokevirtual 603, 3) := by decide +kernel
theorem dX12_addSizes_56 : decode cX12_addSizes 56 = .ok (.aload_n 0, 1) := by decide +kernel
theorem dX12_addSizes_57 : decode cX12_addSizes 57 = .ok (.iload_n 3, 1) := by decide +kernel
theorem dX12_addSizes_58 : decode cX12_addSizes 58 = .ok (.iload 7, 2) := by decide +kernel
theorem dX12_addSizes_60 : decode cX12_addSizes 60 = .ok (.invokevirtual 603, 3) := by decide +kernel
theorem dX12_addSizes_63 : decode cX12_addSizes 63 = .ok (.ladd, 1) := by decide +kernel
theorem dX12_addSizes_64 : decode cX12_addSizes 64 = .ok (.ladd, 1) := by decide +kernel
theorem dX12_addSizes_65 : decode cX12_addSizes 65 = .ok (.lstore 5, 2) := by decide +kernel
theorem dX12_addSizes_67 : decode cX12_addSizes 67 = .ok (.aload_n 0, 1) := by decide +kernel
theorem dX12_addSizes_68 : decode cX12_addSizes 68 = .ok (.getfield 63, 3) := by decide +kernel
theorem dX12_addSizes_71 : decode cX12_addSizes 71 = .ok (.sipush 300, 3) := by decide +kernel
theorem dX12_addSizes_74 : decode cX12_addSizes 74 = .ok (.iload_n 1, 1) := by decide +kernel
theorem dX12_addSizes_75 : decode cX12_addSizes 75 = .ok (.imul, 1) := by decide +kernel
theorem dX12_addSizes_76 : decode cX12_addSizes 76 = .ok (.iload 7, 2) := by decide +kernel
theorem dX12_addSizes_78 : decode cX12_addSizes 78 = .ok (.iadd, 1) := by decide +kernel
theorem dX12_addSizes_79 : decode cX12_addSizes 79 = .ok (.lload 5, 2) := by decide +kernel
theorem dX12_addSizes_81 : decode cX12_addSizes 81 = .ok (.ldc2_w 598, 3) := by decide +kernel
theorem dX12_addSizes_84 : decode cX12_addSizes 84 = .ok (.land, 1) := by decide +kernel
theorem dX12_addSizes_85 : decode cX12_addSizes 85 = .ok (.lastore, 1) := by decide +kernel
theorem dX12_addSizes_86 : decode cX12_addSizes 86 = .ok (.lload 5, 2) := by decide +kernel
theorem dX12_addSizes_88 : decode cX12_addSizes 88 = .ok (.bipush 32, 2) := by decide +kernel
theorem dX12_addSizes_90 : decode cX12_addSizes 90 = .ok (.lushr, 1) := by decide +kernel
theorem dX12_addSizes_91 : decode cX12_addSizes 91 = .ok (.lstore 5, 2) := by decide +kernel
theorem dX12_addSizes_93 : decode cX12_addSizes 93 = .ok (.iinc 7 1, 3) := by decide +kernel
theorem dX12_addSizes_96 : decode cX12_addSizes 96 = .ok (.goto (-56), 3) := by decide +kernel
theorem dX12_addSizes_99 : decode cX12_addSizes 99 = .ok (.aload_n 0, 1) := by decide +kernel
theorem dX12_addSizes_100 : decode cX12_addSizes 100 = .ok (.getfield 66, 3) := by decide +kernel
theorem dX12_addSizes_103 : decode cX12_addSizes 103 = .ok (.iload_n 1, 1) := by decide +kernel
theorem dX12_addSizes_104 : decode cX12_addSizes 104 = .ok (.iload 4, 2) := by decide +kernel
theorem dX12_addSizes_106 : decode cX12_addSizes 106 = .ok (.iastore, 1) := by decide +kernel
theorem dX12_addSizes_107 : decode cX12_addSizes 107 = .ok (.return_, 1) := by decide +kernel
theorem dX12_lessSizes_0 : decode cX12_lessSizes 0 = .ok (.aload_n 0, 1) := by decide +kernel
theorem dX12_lessSizes_1 : decode cX12_lessSizes 1 = .ok (.getfield 66, 3) := by decide +kernel
theorem dX12_lessSizes_4 : decode cX12_lessSizes 4 = .ok (.iload_n 2, 1) := by decide +kernel
theorem dX12_lessSizes_5 : decode cX12_lessSizes 5 = .ok (.iaload, 1) := by decide +kernel
theorem dX12_lessSizes_6 : decode cX12_lessSizes 6 = .ok (.istore 4, 2) := by decide +kernel
theorem dX12_lessSizes_8 : decode cX12_lessSizes 8 = .ok (.lconst 0, 1) := by decide +kernel
theorem dX12_lessSizes_9 : decode cX12_lessSizes 9 = .ok (.lstore 5, 2) := by decide +kernel
theorem dX12_lessSizes_11 : decode cX12_lessSizes 11 = .ok (.iconst 0, 1) := by decide +kernel
theorem dX12_lessSizes_12 : decode cX12_lessSizes 12 = .ok (.istore 7, 2) := by decide +kernel
theorem dX12_lessSizes_14 : decode cX12_lessSizes 14 = .ok (.iload 7, 2) := by decide +kernel
theorem dX12_lessSizes_16 : decode cX12_lessSizes 16 = .ok (.iload 4, 2) := by decide +kernel
theorem dX12_lessSizes_18 : decode cX12_lessSizes 18 = .ok (.if_icmp .ge 62, 3) := by decide +kernel
theorem dX12_lessSizes_21 : decode cX12_lessSizes 21 = .ok (.aload_n 0, 1) := by decide +kernel
theorem dX12_lessSizes_22 : decode cX12_lessSizes 22 = .ok (.iload_n 2, 1) := by decide +kernel
theorem dX12_lessSizes_23 : decode cX12_lessSizes 23 = .ok (.iload 7, 2) := by decide +kernel
theorem dX12_lessSizes_25 : decode cX12_lessSizes 25 = .ok (.invokevirtual 603, 3) := by decide +kernel
theorem dX12_lessSizes_28 : decode cX12_lessSizes 28 = .ok (.aload_n 0, 1) := by decide +kernel
theorem dX12_lessSizes_29 : decode cX12_lessSizes 29 = .ok (.iload_n 3, 1) := by decide +kernel
theorem dX12_lessSizes_30 : decode cX12_lessSizes 30 = .ok (.iload 7, 2) := by decide +kernel
theorem dX12_lessSizes_32 : decode cX12_lessSizes 32 = .ok (.invokevirtual 603, 3) := by decide +kernel
theorem dX12_lessSizes_35 : decode cX12_lessSizes 35 = .ok (.lsub, 1) := by decide +kernel
theorem dX12_lessSizes_36 : decode cX12_lessSizes 36 = .ok (.lload 5, 2) := by decide +kernel
theorem dX12_lessSizes_38 : decode cX12_lessSizes 38 = .ok (.lsub, 1) := by decide +kernel
theorem dX12_lessSizes_39 : decode cX12_lessSizes 39 = .ok (.lstore 8, 2) := by decide +kernel
theorem dX12_lessSizes_41 : decode cX12_lessSizes 41 = .ok (.lload 8, 2) := by decide +kernel
theorem dX12_lessSizes_43 : decode cX12_lessSizes 43 = .ok (.lconst 0, 1) := by decide +kernel
theorem dX12_lessSizes_44 : decode cX12_lessSizes 44 = .ok (.lcmp, 1) := by decide +kernel
theorem dX12_lessSizes_45 : decode cX12_lessSizes 45 = .ok (.ifCond .ge 7, 3) := by decide +kernel
theorem dX12_lessSizes_48 : decode cX12_lessSizes 48 = .ok (.lconst 1, 1) := by decide +kernel
theorem dX12_lessSizes_49 : decode cX12_lessSizes 49 = .ok (.goto 4, 3) := by decide +kernel
theorem dX12_lessSizes_52 : decode cX12_lessSizes 52 = .ok (.lconst 0, 1) := by decide +kernel
theorem dX12_lessSizes_53 : decode cX12_lessSizes 53 = .ok (.lstore 5, 2) := by decide +kernel
theorem dX12_lessSizes_55 : decode cX12_lessSizes 55 = .ok (.aload_n 0, 1) := by decide +kernel
theorem dX12_lessSizes_56 : decode cX12_lessSizes 56 = .ok (.getfield 63, 3) := by decide +kernel
theorem dX12_lessSizes_59 : decode cX12_lessSizes 59 = .ok (.sipush 300, 3) := by decide +kernel
theorem dX12_lessSizes_62 : decode cX12_lessSizes 62 = .ok (.iload_n 1, 1) := by decide +kernel
theorem dX12_lessSizes_63 : decode cX12_lessSizes 63 = .ok (.imul, 1) := by decide +kernel
theorem dX12_lessSizes_64 : decode cX12_lessSizes 64 = .ok (.iload 7, 2) := by decide +kernel
theorem dX12_lessSizes_66 : decode cX12_lessSizes 66 = .ok (.iadd, 1) := by decide +kernel
theorem dX12_lessSizes_67 : decode cX12_lessSizes 67 = .ok (.lload 8, 2) := by decide +kernel
theorem dX12_lessSizes_69 : decode cX12_lessSizes 69 = .ok (.ldc2_w 598, 3) := by decide +kernel
theorem dX12_lessSizes_72 : decode cX12_lessSizes 72 = .ok (.land, 1) := by decide +kernel
theorem dX12_lessSizes_73 : decode cX12_lessSizes 73 = .ok (.lastore, 1) := by decide +kernel
theorem dX12_lessSizes_74 : decode cX12_lessSizes 74 = .ok (.iinc 7 1, 3) := by decide +kernel
theorem dX12_lessSizes_77 : decode cX12_lessSizes 77 = .ok (.goto (-63), 3) := by decide +kernel
theorem dX12_lessSizes_80 : decode cX12_lessSizes 80 = .ok (.aload_n 0, 1) := by decide +kernel
theorem dX12_lessSizes_81 : decode cX12_lessSizes 81 = .ok (.getfield 66, 3) := by decide +kernel
theorem dX12_lessSizes_84 : decode cX12_lessSizes 84 = .ok (.iload_n 1, 1) := by decide +kernel
theorem dX12_lessSizes_85 : decode cX12_lessSizes 85 = .ok (.iload 4, 2) := by decide +kernel
theorem dX12_lessSizes_87 : decode cX12_lessSizes 87 = .ok (.iastore, 1) := by decide +kernel
theorem dX12_lessSizes_88 : decode cX12_lessSizes 88 = .ok (.return_, 1) := by decide +kernel
theorem dX12_add_0 : decode cX12_add 0 = .ok (.aload_n 0, 1) := by decide +kernel
theorem dX12_add_1 : decode cX12_add 1 = .ok (.getfield 69, 3) := by decide +kernel
theorem dX12_add_4 : decode cX12_add 4 = .ok (.iload_n 2, 1) := by decide +kernel
theorem dX12_add_5 : decode cX12_add 5 = .ok (.iaload, 1) := by decide +kernel
theorem dX12_add_6 : decode cX12_add 6 = .ok (.istore 5, 2) := by decide +kernel
theorem dX12_add_8 : decode cX12_add 8 = .ok (.iload 4, 2) := by decide +kernel
theorem dX12_add_10 : decode cX12_add 10 = .ok (.ifCond .eq 13, 3) := by decide +kernel
theorem dX12_add_13 : decode cX12_add 13 = .ok (.aload_n 0, 1) := by decide +kernel
theorem dX12_add_14 : decode cX12_add 14 = .ok (.getfield 69, 3) := by decide +kernel
theorem dX12_add_17 : decode cX12_add 17 = .ok (.iload_n 3, 1) := by decide +kernel
theorem dX12_add_18 : decode cX12_add 18 = .ok (.iaload, 1) := by decide +kernel
theorem dX12_add_19 : decode cX12_add 19 = .ok (.ineg, 1) := by decide +kernel
theorem dX12_add_20 : decode cX12_add 20 = .ok (.goto 9, 3) := by decide +kernel
theorem dX12_add_23 : decode cX12_add 23 = .ok (.aload_n 0, 1) := by decide +kernel
theorem dX12_add_24 : decode cX12_add 24 = .ok (.getfield 69, 3) := by decide +kernel
theorem dX12_add_27 : decode cX12_add 27 = .ok (.iload_n 3, 1) := by decide +kernel
theorem dX12_add_28 : decode cX12_add 28 = .ok (.iaload, 1) := by decide +kernel
theorem dX12_add_29 : decode cX12_add 29 = .ok (.istore 6, 2) := by decide +kernel
theorem dX12_add_31 : decode cX12_add 31 = .ok (.iload 5, 2) := by decide +kernel
theorem dX12_add_33 : decode cX12_add 33 = .ok (.ifCond .eq 15, 3) := by decide +kernel
theorem dX12_add_36 : decode cX12_add 36 = .ok (.iload 6, 2) := by decide +kernel
theorem dX12_add_38 : decode cX12_add 38 = .ok (.ifCond .eq 10, 3) := by decide +kernel
theorem dX12_add_41 : decode cX12_add 41 = .ok (.iload 5, 2) := by decide +kernel
theorem dX12_add_43 : decode cX12_add 43 = .ok (.iload 6, 2) := by decide +kernel
theorem dX12_add_45 : decode cX12_add 45 = .ok (.if_icmp .ne 31, 3) := by decide +kernel
theorem dX12_add_48 : decode cX12_add 48 = .ok (.aload_n 0, 1) := by decide +kernel
theorem dX12_add_49 : decode cX12_add 49 = .ok (.iload_n 1, 1) := by decide +kernel
theorem dX12_add_50 : decode cX12_add 50 = .ok (.iload_n 2, 1) := by decide +kernel
theorem dX12_add_51 : decode cX12_add 51 = .ok (.iload_n 3, 1) := by decide +kernel
theorem dX12_add_52 : decode cX12_add 52 = .ok (.invokevirtual 606, 3) := by decide +kernel
theorem dX12_add_55 : decode cX12_add 55 = .ok (.aload_n 0, 1) := by decide +kernel
theorem dX12_add_56 : decode cX12_add 56 = .ok (.getfield 69, 3) := by decide +kernel
theorem dX12_add_59 : decode cX12_add 59 = .ok (.iload_n 1, 1) := by decide +kernel
theorem dX12_add_60 : decode cX12_add 60 = .ok (.iload 5, 2) := by decide +kernel
theorem dX12_add_62 : decode cX12_add 62 = .ok (.ifCond .ne 8, 3) := by decide +kernel
theorem dX12_add_65 : decode cX12_add 65 = .ok (.iload 6, 2) := by decide +kernel
theorem dX12_add_67 : decode cX12_add 67 = .ok (.goto 5, 3) := by decide +kernel
theorem dX12_add_70 : decode cX12_add 70 = .ok (.iload 5, 2) := by decide +kernel
theorem dX12_add_72 : decode cX12_add 72 = .ok (.iastore, 1) := by decide +kernel
theorem dX12_add_73 : decode cX12_add 73 = .ok (.goto 45, 3) := by decide +kernel
theorem dX12_add_76 : decode cX12_add 76 = .ok (.aload_n 0, 1) := by decide +kernel
theorem dX12_add_77 : decode cX12_add 77 = .ok (.iload_n 2, 1) := by decide +kernel
theorem dX12_add_78 : decode cX12_add 78 = .ok (.iload_n 3, 1) := by decide +kernel
theorem dX12_add_79 : decode cX12_add 79 = .ok (.invokevirtual 610, 3) := by decide +kernel
theorem dX12_add_82 : decode cX12_add 82 = .ok (.ifCond .lt 21, 3) := by decide +kernel
theorem dX12_add_85 : decode cX12_add 85 = .ok (.aload_n 0, 1) := by decide +kernel
theorem dX12_add_86 : decode cX12_add 86 = .ok (.iload_n 1, 1) := by decide +kernel
theorem dX12_add_87 : decode cX12_add 87 = .ok (.iload_n 2, 1) := by decide +kernel
theorem dX12_add_88 : decode cX12_add 88 = .ok (.iload_n 3, 1) := by decide +kernel
theorem dX12_add_89 : decode cX12_add 89 = .ok (.invokevirtual 614, 3) := by decide +kernel
theorem dX12_add_92 : decode cX12_add 92 = .ok (.aload_n 0, 1) := by decide +kernel
theorem dX12_add_93 : decode cX12_add 93 = .ok (.getfield 69, 3) := by decide +kernel
theorem dX12_add_96 : decode cX12_add 96 = .ok (.iload_n 1, 1) := by decide +kernel
theorem dX12_add_97 : decode cX12_add 97 = .ok (.iload 5, 2) := by decide +kernel
theorem dX12_add_99 : decode cX12_add 99 = .ok (.iastore, 1) := by decide +kernel
theorem dX12_add_100 : decode cX12_add 100 = .ok (.goto 18, 3) := by decide +kernel
theorem dX12_add_103 : decode cX12_add 103 = .ok (.aload_n 0, 1) := by decide +kernel
theorem dX12_add_104 : decode cX12_add 104 = .ok (.iload_n 1, 1) := by decide +kernel
theorem dX12_add_105 : decode cX12_add 105 = .ok (.iload_n 3, 1) := by decide +kernel
theorem dX12_add_106 : decode cX12_add 106 = .ok (.iload_n 2, 1) := by decide +kernel
theorem dX12_add_107 : decode cX12_add 107 = .ok (.invokevirtual 614, 3) := by decide +kernel
theorem dX12_add_110 : decode cX12_add 110 = .ok (.aload_n 0, 1) := by decide +kernel
theorem dX12_add_111 : decode cX12_add 111 = .ok (.getfield 69, 3) := by decide +kernel
theorem dX12_add_114 : decode cX12_add 114 = .ok (.iload_n 1, 1) := by decide +kernel
theorem dX12_add_115 : decode cX12_add 115 = .ok (.iload 6, 2) := by decide +kernel
theorem dX12_add_117 : decode cX12_add 117 = .ok (.iastore, 1) := by decide +kernel
theorem dX12_add_118 : decode cX12_add 118 = .ok (.aload_n 0, 1) := by decide +kernel
theorem dX12_add_119 : decode cX12_add 119 = .ok (.iload_n 1, 1) := by decide +kernel
theorem dX12_add_120 : decode cX12_add 120 = .ok (.invokevirtual 600, 3) := by decide +kernel
theorem dX12_add_123 : decode cX12_add 123 = .ok (.return_, 1) := by decide +kernel
theorem dX12_times_0 : decode cX12_times 0 = .ok (.aload_n 0, 1) := by decide +kernel
theorem dX12_times_1 : decode cX12_times 1 = .ok (.getfield 66, 3) := by decide +kernel
theorem dX12_times_4 : decode cX12_times 4 = .ok (.iload_n 2, 1) := by decide +kernel
theorem dX12_times_5 : decode cX12_times 5 = .ok (.iaload, 1) := by decide +kernel
theorem dX12_times_6 : decode cX12_times 6 = .ok (.aload_n 0, 1) := by decide +kernel
theorem dX12_times_7 : decode cX12_times 7 = .ok (.getfield 66, 3) := by decide +kernel
theorem dX12_times_10 : decode cX12_times 10 = .ok (.iload_n 3, 1) := by decide +kernel
theorem dX12_times_11 : decode cX12_times 11 = .ok (.iaload, 1) := by decide +kernel
theorem dX12_times_12 : decode cX12_times 12 = .ok (.iadd, 1) := by decide +kernel
theorem dX12_times_13 : decode cX12_times 13 = .ok (.istore 4, 2) := by decide +kernel
theorem dX12_times_15 : decode cX12_times 15 = .ok (.iconst 0, 1) := by decide +kernel
theorem dX12_times_16 : decode cX12_times 16 = .ok (.istore 5, 2) := by decide +kernel
theorem dX12_times_18 : decode cX12_times 18 = .ok (.iload 5, 2) := by decide +kernel
theorem dX12_times_20 : decode cX12_times 20 = .ok (.iload 4, 2) := by decide +kernel
theorem dX12_times_22 : decode cX12_times 22 = .ok (.if_icmp .ge 23, 3) := by decide +kernel
theorem dX12_times_25 : decode cX12_times 25 = .ok (.aload_n 0, 1) := by decide +kernel
theorem dX12_times_26 : decode cX12_times 26 = .ok (.getfield 63, 3) := by decide +kernel
theorem dX12_times_29 : decode cX12_times 29 = .ok (.sipush 300, 3) := by decide +kernel
theorem dX12_times_32 : decode cX12_times 32 = .ok (.iload_n 1, 1) := by decide +kernel
theorem dX12_times_33 : decode cX12_times 33 = .ok (.imul, 1) := by decide +kernel
theorem dX12_times_34 : decode cX12_times 34 = .ok (.iload 5, 2) := by decide +kernel
theorem dX12_times_36 : decode cX12_times 36 = .ok (.iadd, 1) := by decide +kernel
theorem dX12_times_37 : decode cX12_times 37 = .ok (.lconst 0, 1) := by decide +kernel
theorem dX12_times_38 : decode cX12_times 38 = .ok (.lastore, 1) := by decide +kernel
theorem dX12_times_39 : decode cX12_times 39 = .ok (.iinc 5 1, 3) := by decide +kernel
theorem dX12_times_42 : decode cX12_times 42 = .ok (.goto (-24), 3) := by decide +kernel
theorem dX12_times_45 : decode cX12_times 45 = .ok (.iconst 0, 1) := by decide +kernel
theorem dX12_times_46 : decode cX12_times 46 = .ok (.istore 5, 2) := by decide +kernel
theorem dX12_times_48 : decode cX12_times 48 = .ok (.iload 5, 2) := by decide +kernel
theorem dX12_times_50 : decode cX12_times 50 = .ok (.aload_n 0, 1) := by decide +kernel
theorem dX12_times_51 : decode cX12_times 51 = .ok (.getfield 66, 3) := by decide +kernel
theorem dX12_times_54 : decode cX12_times 54 = .ok (.iload_n 2, 1) := by decide +kernel
theorem dX12_times_55 : decode cX12_times 55 = .ok (.iaload, 1) := by decide +kernel
theorem dX12_times_56 : decode cX12_times 56 = .ok (.if_icmp .ge 132, 3) := by decide +kernel
theorem dX12_times_59 : decode cX12_times 59 = .ok (.lconst 0, 1) := by decide +kernel
theorem dX12_times_60 : decode cX12_times 60 = .ok (.lstore 6, 2) := by decide +kernel
theorem dX12_times_62 : decode cX12_times 62 = .ok (.iconst 0, 1) := by decide +kernel
theorem dX12_times_63 : decode cX12_times 63 = .ok (.istore 8, 2) := by decide +kernel
theorem dX12_times_65 : decode cX12_times 65 = .ok (.iload 8, 2) := by decide +kernel
theorem dX12_times_67 : decode cX12_times 67 = .ok (.aload_n 0, 1) := by decide +kernel
theorem dX12_times_68 : decode cX12_times 68 = .ok (.getfield 66, 3) := by decide +kernel
theorem dX12_times_71 : decode cX12_times 71 = .ok (.iload_n 3, 1) := by decide +kernel
theorem dX12_times_72 : decode cX12_times 72 = .ok (.iaload, 1) := by decide +kernel
theorem dX12_times_73 : decode cX12_times 73 = .ok (.if_icmp .ge 87, 3) := by decide +kernel
theorem dX12_times_76 : decode cX12_times 76 = .ok (.aload_n 0, 1) := by decide +kernel
theorem dX12_times_77 : decode cX12_times 77 = .ok (.getfield 63, 3) := by decide +kernel
theorem dX12_times_80 : decode cX12_times 80 = .ok (.sipush 300, 3) := by decide +kernel
theorem dX12_times_83 : decode cX12_times 83 = .ok (.iload_n 2, 1) := by decide +kernel
theorem dX12_times_84 : decode cX12_times 84 = .ok (.imul, 1) := by decide +kernel
theorem dX12_times_85 : decode cX12_times 85 = .ok (.iload 5, 2) := by decide +kernel
theorem dX12_times_87 : decode cX12_times 87 = .ok (.iadd, 1) := by decide +kernel
theorem dX12_times_88 : decode cX12_times 88 = .ok (.laload, 1) := by decide +kernel
theorem dX12_times_89 : decode cX12_times 89 = .ok (.aload_n 0, 1) := by decide +kernel
theorem dX12_times_90 : decode cX12_times 90 = .ok (.getfield 63, 3) := by decide +kernel
theorem dX12_times_93 : decode cX12_times 93 = .ok (.sipush 300, 3) := by decide +kernel
theorem dX12_times_96 : decode cX12_times 96 = .ok (.iload_n 3, 1) := by decide +kernel
theorem dX12_times_97 : decode cX12_times 97 = .ok (.imul, 1) := by decide +kernel
theorem dX12_times_98 : decode cX12_times 98 = .ok (.iload 8, 2) := by decide +kernel
theorem dX12_times_100 : decode cX12_times 100 = .ok (.iadd, 1) := by decide +kernel
theorem dX12_times_101 : decode cX12_times 101 = .ok (.laload, 1) := by decide +kernel
theorem dX12_times_102 : decode cX12_times 102 = .ok (.lmul, 1) := by decide +kernel
theorem dX12_times_103 : decode cX12_times 103 = .ok (.aload_n 0, 1) := by decide +kernel
theorem dX12_times_104 : decode cX12_times 104 = .ok (.getfield 63, 3) := by decide +kernel
theorem dX12_times_107 : decode cX12_times 107 = .ok (.sipush 300, 3) := by decide +kernel
theorem dX12_times_110 : decode cX12_times 110 = .ok (.iload_n 1, 1) := by decide +kernel
theorem dX12_times_111 : decode cX12_times 111 = .ok (.imul, 1) := by decide +kernel
theorem dX12_times_112 : decode cX12_times 112 = .ok (.iload 5, 2) := by decide +kernel
theorem dX12_times_114 : decode cX12_times 114 = .ok (.iadd, 1) := by decide +kernel
theorem dX12_times_115 : decode cX12_times 115 = .ok (.iload 8, 2) := by decide +kernel
theorem dX12_times_117 : decode cX12_times 117 = .ok (.iadd, 1) := by decide +kernel
theorem dX12_times_118 : decode cX12_times 118 = .ok (.laload, 1) := by decide +kernel
theorem dX12_times_119 : decode cX12_times 119 = .ok (.ladd, 1) := by decide +kernel
theorem dX12_times_120 : decode cX12_times 120 = .ok (.lload 6, 2) := by decide +kernel
theorem dX12_times_122 : decode cX12_times 122 = .ok (.ladd, 1) := by decide +kernel
theorem dX12_times_123 : decode cX12_times 123 = .ok (.lstore 9, 2) := by decide +kernel
theorem dX12_times_125 : decode cX12_times 125 = .ok (.aload_n 0, 1) := by decide +kernel
theorem dX12_times_126 : decode cX12_times 126 = .ok (.getfield 63, 3) := by decide +kernel
theorem dX12_times_129 : decode cX12_times 129 = .ok (.sipush 300, 3) := by decide +kernel
theorem dX12_times_132 : decode cX12_times 132 = .ok (.iload_n 1, 1) := by decide +kernel
theorem dX12_times_133 : decode cX12_times 133 = .ok (.imul, 1) := by decide +kernel
theorem dX12_times_134 : decode cX12_times 134 = .ok (.iload 5, 2) := by decide +kernel
theorem dX12_times_136 : decode cX12_times 136 = .ok (.iadd, 1) := by decide +kernel
theorem dX12_times_137 : decode cX12_times 137 = .ok (.iload 8, 2) := by decide +kernel
theorem dX12_times_139 : decode cX12_times 139 = .ok (.iadd, 1) := by decide +kernel
theorem dX12_times_140 : decode cX12_times 140 = .ok (.lload 9, 2) := by decide +kernel
theorem dX12_times_142 : decode cX12_times 142 = .ok (.ldc2_w 598, 3) := by decide +kernel
theorem dX12_times_145 : decode cX12_times 145 = .ok (.land, 1) := by decide +kernel
theorem dX12_times_146 : decode cX12_times 146 = .ok (.lastore, 1) := by decide +kernel
theorem dX12_times_147 : decode cX12_times 147 = .ok (.lload 9, 2) := by decide +kernel
theorem dX12_times_149 : decode cX12_times 149 = .ok (.bipush 32, 2) := by decide +kernel
theorem dX12_times_151 : decode cX12_times 151 = .ok (.lushr, 1) := by decide +kernel
theorem dX12_times_152 : decode cX12_times 152 = .ok (.lstore 6, 2) := by decide +kernel
theorem dX12_times_154 : decode cX12_times 154 = .ok (.iinc 8 1, 3) := by decide +kernel
theorem dX12_times_157 : decode cX12_times 157 = .ok (.goto (-92), 3) := by decide +kernel
theorem dX12_times_160 : decode cX12_times 160 = .ok (.aload_n 0, 1) := by decide +kernel
theorem dX12_times_161 : decode cX12_times 161 = .ok (.getfield 63, 3) := by decide +kernel
theorem dX12_times_164 : decode cX12_times 164 = .ok (.sipush 300, 3) := by decide +kernel
theorem dX12_times_167 : decode cX12_times 167 = .ok (.iload_n 1, 1) := by decide +kernel
theorem dX12_times_168 : decode cX12_times 168 = .ok (.imul, 1) := by decide +kernel
theorem dX12_times_169 : decode cX12_times 169 = .ok (.iload 5, 2) := by decide +kernel
theorem dX12_times_171 : decode cX12_times 171 = .ok (.iadd, 1) := by decide +kernel
theorem dX12_times_172 : decode cX12_times 172 = .ok (.aload_n 0, 1) := by decide +kernel
theorem dX12_times_173 : decode cX12_times 173 = .ok (.getfield 66, 3) := by decide +kernel
theorem dX12_times_176 : decode cX12_times 176 = .ok (.iload_n 3, 1) := by decide +kernel
theorem dX12_times_177 : decode cX12_times 177 = .ok (.iaload, 1) := by decide +kernel
theorem dX12_times_178 : decode cX12_times 178 = .ok (.iadd, 1) := by decide +kernel
theorem dX12_times_179 : decode cX12_times 179 = .ok (.lload 6, 2) := by decide +kernel
theorem dX12_times_181 : decode cX12_times 181 = .ok (.lastore, 1) := by decide +kernel
theorem dX12_times_182 : decode cX12_times 182 = .ok (.iinc 5 1, 3) := by decide +kernel
theorem dX12_times_185 : decode cX12_times 185 = .ok (.goto (-137), 3) := by decide +kernel
theorem dX12_times_188 : decode cX12_times 188 = .ok (.aload_n 0, 1) := by decide +kernel
theorem dX12_times_189 : decode cX12_times 189 = .ok (.getfield 66, 3) := by decide +kernel
theorem dX12_times_192 : decode cX12_times 192 = .ok (.iload_n 1, 1) := by decide +kernel
theorem dX12_times_193 : decode cX12_times 193 = .ok (.iload 4, 2) := by decide +kernel
theorem dX12_times_195 : decode cX12_times 195 = .ok (.iastore, 1) := by decide +kernel
theorem dX12_times_196 : decode cX12_times 196 = .ok (.aload_n 0, 1) := by decide +kernel
theorem dX12_times_197 : decode cX12_times 197 = .ok (.getfield 69, 3) := by decide +kernel
theorem dX12_times_200 : decode cX12_times 200 = .ok (.iload_n 1, 1) := by decide +kernel
theorem dX12_times_201 : decode cX12_times 201 = .ok (.aload_n 0, 1) := by decide +kernel
theorem dX12_times_202 : decode cX12_times 202 = .ok (.getfield 69, 3) := by decide +kernel
theorem dX12_times_205 : decode cX12_times 205 = .ok (.iload_n 2, 1) := by decide +kernel
theorem dX12_times_206 : decode cX12_times 206 = .ok (.iaload, 1) := by decide +kernel
theorem dX12_times_207 : decode cX12_times 207 = .ok (.aload_n 0, 1) := by decide +kernel
theorem dX12_times_208 : decode cX12_times 208 = .ok (.getfield 69, 3) := by decide +kernel
theorem dX12_times_211 : decode cX12_times 211 = .ok (.iload_n 3, 1) := by decide +kernel
theorem dX12_times_212 : decode cX12_times 212 = .ok (.iaload, 1) := by decide +kernel
theorem dX12_times_213 : decode cX12_times 213 = .ok (.imul, 1) := by decide +kernel
theorem dX12_times_214 : decode cX12_times 214 = .ok (.iastore, 1) := by decide +kernel
theorem dX12_times_215 : decode cX12_times 215 = .ok (.aload_n 0, 1) := by decide +kernel
theorem dX12_times_216 : decode cX12_times 216 = .ok (.iload_n 1, 1) := by decide +kernel
theorem dX12_times_217 : decode cX12_times 217 = .ok (.invokevirtual 600, 3) := by decide +kernel
theorem dX12_times_220 : decode cX12_times 220 = .ok (.return_, 1) := by decide +kernel
