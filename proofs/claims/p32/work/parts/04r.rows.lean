theorem dX12_relate_0 : decode cX12_relate 0 = .ok (.aload_n 0, 1) := by decide +kernel
theorem dX12_relate_1 : decode cX12_relate 1 = .ok (.iconst 0, 1) := by decide +kernel
theorem dX12_relate_2 : decode cX12_relate 2 = .ok (.putfield 271, 3) := by decide +kernel
theorem dX12_relate_5 : decode cX12_relate 5 = .ok (.aload_n 0, 1) := by decide +kernel
theorem dX12_relate_6 : decode cX12_relate 6 = .ok (.iload_n 1, 1) := by decide +kernel
theorem dX12_relate_7 : decode cX12_relate 7 = .ok (.invokestatic 440, 3) := by decide +kernel
theorem dX12_relate_10 : decode cX12_relate 10 = .ok (.ifCond .eq 10, 3) := by decide +kernel
theorem dX12_relate_13 : decode cX12_relate 13 = .ok (.iload_n 2, 1) := by decide +kernel
theorem dX12_relate_14 : decode cX12_relate 14 = .ok (.invokestatic 440, 3) := by decide +kernel
theorem dX12_relate_17 : decode cX12_relate 17 = .ok (.ifCond .ne 7, 3) := by decide +kernel
theorem dX12_relate_20 : decode cX12_relate 20 = .ok (.iconst 1, 1) := by decide +kernel
theorem dX12_relate_21 : decode cX12_relate 21 = .ok (.goto 4, 3) := by decide +kernel
theorem dX12_relate_24 : decode cX12_relate 24 = .ok (.iconst 0, 1) := by decide +kernel
theorem dX12_relate_25 : decode cX12_relate 25 = .ok (.iconst 1, 1) := by decide +kernel
theorem dX12_relate_26 : decode cX12_relate 26 = .ok (.invokevirtual 277, 3) := by decide +kernel
theorem dX12_relate_29 : decode cX12_relate 29 = .ok (.ifCond .ne 32, 3) := by decide +kernel
theorem dX12_relate_32 : decode cX12_relate 32 = .ok (.aload_n 0, 1) := by decide +kernel
theorem dX12_relate_33 : decode cX12_relate 33 = .ok (.aload_n 0, 1) := by decide +kernel
theorem dX12_relate_34 : decode cX12_relate 34 = .ok (.iload_n 1, 1) := by decide +kernel
theorem dX12_relate_35 : decode cX12_relate 35 = .ok (.invokevirtual 545, 3) := by decide +kernel
theorem dX12_relate_38 : decode cX12_relate 38 = .ok (.ifCond .eq 11, 3) := by decide +kernel
theorem dX12_relate_41 : decode cX12_relate 41 = .ok (.aload_n 0, 1) := by decide +kernel
theorem dX12_relate_42 : decode cX12_relate 42 = .ok (.iload_n 2, 1) := by decide +kernel
theorem dX12_relate_43 : decode cX12_relate 43 = .ok (.invokevirtual 545, 3) := by decide +kernel
theorem dX12_relate_46 : decode cX12_relate 46 = .ok (.ifCond .ne 7, 3) := by decide +kernel
theorem dX12_relate_49 : decode cX12_relate 49 = .ok (.iconst 1, 1) := by decide +kernel
theorem dX12_relate_50 : decode cX12_relate 50 = .ok (.goto 4, 3) := by decide +kernel
theorem dX12_relate_53 : decode cX12_relate 53 = .ok (.iconst 0, 1) := by decide +kernel
theorem dX12_relate_54 : decode cX12_relate 54 = .ok (.iconst 2, 1) := by decide +kernel
theorem dX12_relate_55 : decode cX12_relate 55 = .ok (.invokevirtual 277, 3) := by decide +kernel
theorem dX12_relate_58 : decode cX12_relate 58 = .ok (.ifCond .eq 5, 3) := by decide +kernel
theorem dX12_relate_61 : decode cX12_relate 61 = .ok (.iconst 0, 1) := by decide +kernel
theorem dX12_relate_62 : decode cX12_relate 62 = .ok (.ireturn, 1) := by decide +kernel
theorem dX12_relate_63 : decode cX12_relate 63 = .ok (.aload_n 0, 1) := by decide +kernel
theorem dX12_relate_64 : decode cX12_relate 64 = .ok (.aload_n 0, 1) := by decide +kernel
theorem dX12_relate_65 : decode cX12_relate 65 = .ok (.iload_n 1, 1) := by decide +kernel
theorem dX12_relate_66 : decode cX12_relate 66 = .ok (.invokevirtual 1023, 3) := by decide +kernel
theorem dX12_relate_69 : decode cX12_relate 69 = .ok (.ifCond .eq 11, 3) := by decide +kernel
theorem dX12_relate_72 : decode cX12_relate 72 = .ok (.aload_n 0, 1) := by decide +kernel
theorem dX12_relate_73 : decode cX12_relate 73 = .ok (.iload_n 2, 1) := by decide +kernel
theorem dX12_relate_74 : decode cX12_relate 74 = .ok (.invokevirtual 1023, 3) := by decide +kernel
theorem dX12_relate_77 : decode cX12_relate 77 = .ok (.ifCond .ne 7, 3) := by decide +kernel
theorem dX12_relate_80 : decode cX12_relate 80 = .ok (.iconst 1, 1) := by decide +kernel
theorem dX12_relate_81 : decode cX12_relate 81 = .ok (.goto 4, 3) := by decide +kernel
theorem dX12_relate_84 : decode cX12_relate 84 = .ok (.iconst 0, 1) := by decide +kernel
theorem dX12_relate_85 : decode cX12_relate 85 = .ok (.iconst 3, 1) := by decide +kernel
theorem dX12_relate_86 : decode cX12_relate 86 = .ok (.invokevirtual 277, 3) := by decide +kernel
theorem dX12_relate_89 : decode cX12_relate 89 = .ok (.ifCond .ne 25, 3) := by decide +kernel
theorem dX12_relate_92 : decode cX12_relate 92 = .ok (.aload_n 0, 1) := by decide +kernel
theorem dX12_relate_93 : decode cX12_relate 93 = .ok (.aload_n 0, 1) := by decide +kernel
theorem dX12_relate_94 : decode cX12_relate 94 = .ok (.iload_n 1, 1) := by decide +kernel
theorem dX12_relate_95 : decode cX12_relate 95 = .ok (.iload_n 2, 1) := by decide +kernel
theorem dX12_relate_96 : decode cX12_relate 96 = .ok (.invokevirtual 1026, 3) := by decide +kernel
theorem dX12_relate_99 : decode cX12_relate 99 = .ok (.ifCond .ne 7, 3) := by decide +kernel
theorem dX12_relate_102 : decode cX12_relate 102 = .ok (.iconst 1, 1) := by decide +kernel
theorem dX12_relate_103 : decode cX12_relate 103 = .ok (.goto 4, 3) := by decide +kernel
theorem dX12_relate_106 : decode cX12_relate 106 = .ok (.iconst 0, 1) := by decide +kernel
theorem dX12_relate_107 : decode cX12_relate 107 = .ok (.iconst 4, 1) := by decide +kernel
theorem dX12_relate_108 : decode cX12_relate 108 = .ok (.invokevirtual 277, 3) := by decide +kernel
theorem dX12_relate_111 : decode cX12_relate 111 = .ok (.ifCond .eq 5, 3) := by decide +kernel
theorem dX12_relate_114 : decode cX12_relate 114 = .ok (.iconst 0, 1) := by decide +kernel
theorem dX12_relate_115 : decode cX12_relate 115 = .ok (.ireturn, 1) := by decide +kernel
theorem dX12_relate_116 : decode cX12_relate 116 = .ok (.iconst 0, 1) := by decide +kernel
theorem dX12_relate_117 : decode cX12_relate 117 = .ok (.istore_n 3, 1) := by decide +kernel
theorem dX12_relate_118 : decode cX12_relate 118 = .ok (.iconst 0, 1) := by decide +kernel
theorem dX12_relate_119 : decode cX12_relate 119 = .ok (.istore 4, 2) := by decide +kernel
theorem dX12_relate_121 : decode cX12_relate 121 = .ok (.iload 4, 2) := by decide +kernel
theorem dX12_relate_123 : decode cX12_relate 123 = .ok (.bipush 9, 2) := by decide +kernel
theorem dX12_relate_125 : decode cX12_relate 125 = .ok (.if_icmp .ge 23, 3) := by decide +kernel
theorem dX12_relate_128 : decode cX12_relate 128 = .ok (.iconst 4, 1) := by decide +kernel
theorem dX12_relate_129 : decode cX12_relate 129 = .ok (.iload_n 3, 1) := by decide +kernel
theorem dX12_relate_130 : decode cX12_relate 130 = .ok (.imul, 1) := by decide +kernel
theorem dX12_relate_131 : decode cX12_relate 131 = .ok (.aload_n 0, 1) := by decide +kernel
theorem dX12_relate_132 : decode cX12_relate 132 = .ok (.getfield 212, 3) := by decide +kernel
theorem dX12_relate_135 : decode cX12_relate 135 = .ok (.iload 4, 2) := by decide +kernel
theorem dX12_relate_137 : decode cX12_relate 137 = .ok (.iaload, 1) := by decide +kernel
theorem dX12_relate_138 : decode cX12_relate 138 = .ok (.iadd, 1) := by decide +kernel
theorem dX12_relate_139 : decode cX12_relate 139 = .ok (.iconst 1, 1) := by decide +kernel
theorem dX12_relate_140 : decode cX12_relate 140 = .ok (.iadd, 1) := by decide +kernel
theorem dX12_relate_141 : decode cX12_relate 141 = .ok (.istore_n 3, 1) := by decide +kernel
theorem dX12_relate_142 : decode cX12_relate 142 = .ok (.iinc 4 1, 3) := by decide +kernel
theorem dX12_relate_145 : decode cX12_relate 145 = .ok (.goto (-24), 3) := by decide +kernel
theorem dX12_relate_148 : decode cX12_relate 148 = .ok (.iload_n 3, 1) := by decide +kernel
theorem dX12_relate_149 : decode cX12_relate 149 = .ok (.ireturn, 1) := by decide +kernel
theorem dX12_dimension_0 : decode cX12_dimension 0 = .ok (.aload_n 0, 1) := by decide +kernel
theorem dX12_dimension_1 : decode cX12_dimension 1 = .ok (.getfield 194, 3) := by decide +kernel
theorem dX12_dimension_4 : decode cX12_dimension 4 = .ok (.iload_n 1, 1) := by decide +kernel
theorem dX12_dimension_5 : decode cX12_dimension 5 = .ok (.iaload, 1) := by decide +kernel
theorem dX12_dimension_6 : decode cX12_dimension 6 = .ok (.ifCond .ne 23, 3) := by decide +kernel
theorem dX12_dimension_9 : decode cX12_dimension 9 = .ok (.aload_n 0, 1) := by decide +kernel
theorem dX12_dimension_10 : decode cX12_dimension 10 = .ok (.getfield 26, 3) := by decide +kernel
theorem dX12_dimension_13 : decode cX12_dimension 13 = .ok (.aload_n 0, 1) := by decide +kernel
theorem dX12_dimension_14 : decode cX12_dimension 14 = .ok (.getfield 191, 3) := by decide +kernel
theorem dX12_dimension_17 : decode cX12_dimension 17 = .ok (.iload_n 1, 1) := by decide +kernel
theorem dX12_dimension_18 : decode cX12_dimension 18 = .ok (.iaload, 1) := by decide +kernel
theorem dX12_dimension_19 : decode cX12_dimension 19 = .ok (.iaload, 1) := by decide +kernel
theorem dX12_dimension_20 : decode cX12_dimension 20 = .ok (.ifCond .le 7, 3) := by decide +kernel
theorem dX12_dimension_23 : decode cX12_dimension 23 = .ok (.iconst 0, 1) := by decide +kernel
theorem dX12_dimension_24 : decode cX12_dimension 24 = .ok (.goto 4, 3) := by decide +kernel
theorem dX12_dimension_27 : decode cX12_dimension 27 = .ok (.iconst (-1), 1) := by decide +kernel
theorem dX12_dimension_28 : decode cX12_dimension 28 = .ok (.ireturn, 1) := by decide +kernel
theorem dX12_dimension_29 : decode cX12_dimension 29 = .ok (.aload_n 0, 1) := by decide +kernel
theorem dX12_dimension_30 : decode cX12_dimension 30 = .ok (.getfield 194, 3) := by decide +kernel
theorem dX12_dimension_33 : decode cX12_dimension 33 = .ok (.iload_n 1, 1) := by decide +kernel
theorem dX12_dimension_34 : decode cX12_dimension 34 = .ok (.iaload, 1) := by decide +kernel
theorem dX12_dimension_35 : decode cX12_dimension 35 = .ok (.iconst 1, 1) := by decide +kernel
theorem dX12_dimension_36 : decode cX12_dimension 36 = .ok (.if_icmp .ne 18, 3) := by decide +kernel
theorem dX12_dimension_39 : decode cX12_dimension 39 = .ok (.aload_n 0, 1) := by decide +kernel
theorem dX12_dimension_40 : decode cX12_dimension 40 = .ok (.getfield 200, 3) := by decide +kernel
theorem dX12_dimension_43 : decode cX12_dimension 43 = .ok (.iload_n 1, 1) := by decide +kernel
theorem dX12_dimension_44 : decode cX12_dimension 44 = .ok (.iaload, 1) := by decide +kernel
theorem dX12_dimension_45 : decode cX12_dimension 45 = .ok (.ifCond .le 7, 3) := by decide +kernel
theorem dX12_dimension_48 : decode cX12_dimension 48 = .ok (.iconst 1, 1) := by decide +kernel
theorem dX12_dimension_49 : decode cX12_dimension 49 = .ok (.goto 4, 3) := by decide +kernel
theorem dX12_dimension_52 : decode cX12_dimension 52 = .ok (.iconst (-1), 1) := by decide +kernel
theorem dX12_dimension_53 : decode cX12_dimension 53 = .ok (.ireturn, 1) := by decide +kernel
theorem dX12_dimension_54 : decode cX12_dimension 54 = .ok (.aload_n 0, 1) := by decide +kernel
theorem dX12_dimension_55 : decode cX12_dimension 55 = .ok (.getfield 203, 3) := by decide +kernel
theorem dX12_dimension_58 : decode cX12_dimension 58 = .ok (.iload_n 1, 1) := by decide +kernel
theorem dX12_dimension_59 : decode cX12_dimension 59 = .ok (.baload, 1) := by decide +kernel
theorem dX12_dimension_60 : decode cX12_dimension 60 = .ok (.ifCond .eq 7, 3) := by decide +kernel
theorem dX12_dimension_63 : decode cX12_dimension 63 = .ok (.iconst 2, 1) := by decide +kernel
theorem dX12_dimension_64 : decode cX12_dimension 64 = .ok (.goto 4, 3) := by decide +kernel
theorem dX12_dimension_67 : decode cX12_dimension 67 = .ok (.iconst (-1), 1) := by decide +kernel
theorem dX12_dimension_68 : decode cX12_dimension 68 = .ok (.ireturn, 1) := by decide +kernel
theorem dX12_m_0 : decode cX12_m 0 = .ok (.aload_n 0, 1) := by decide +kernel
theorem dX12_m_1 : decode cX12_m 1 = .ok (.getfield 212, 3) := by decide +kernel
theorem dX12_m_4 : decode cX12_m 4 = .ok (.iload_n 1, 1) := by decide +kernel
theorem dX12_m_5 : decode cX12_m 5 = .ok (.iaload, 1) := by decide +kernel
theorem dX12_m_6 : decode cX12_m 6 = .ok (.ifCond .lt 7, 3) := by decide +kernel
theorem dX12_m_9 : decode cX12_m 9 = .ok (.iconst 1, 1) := by decide +kernel
theorem dX12_m_10 : decode cX12_m 10 = .ok (.goto 4, 3) := by decide +kernel
theorem dX12_m_13 : decode cX12_m 13 = .ok (.iconst 0, 1) := by decide +kernel
theorem dX12_m_14 : decode cX12_m 14 = .ok (.ireturn, 1) := by decide +kernel
theorem dX12_isSo_0 : decode cX12_isSo 0 = .ok (.aload_n 0, 1) := by decide +kernel
theorem dX12_isSo_1 : decode cX12_isSo 1 = .ok (.iconst 0, 1) := by decide +kernel
theorem dX12_isSo_2 : decode cX12_isSo 2 = .ok (.invokevirtual 1029, 3) := by decide +kernel
theorem dX12_isSo_5 : decode cX12_isSo 5 = .ok (.istore_n 2, 1) := by decide +kernel
theorem dX12_isSo_6 : decode cX12_isSo 6 = .ok (.aload_n 0, 1) := by decide +kernel
theorem dX12_isSo_7 : decode cX12_isSo 7 = .ok (.iconst 1, 1) := by decide +kernel
theorem dX12_isSo_8 : decode cX12_isSo 8 = .ok (.invokevirtual 1029, 3) := by decide +kernel
theorem dX12_isSo_11 : decode cX12_isSo 11 = .ok (.istore_n 3, 1) := by decide +kernel
theorem dX12_isSo_12 : decode cX12_isSo 12 = .ok (.aload_n 0, 1) := by decide +kernel
theorem dX12_isSo_13 : decode cX12_isSo 13 = .ok (.iconst 0, 1) := by decide +kernel
theorem dX12_isSo_14 : decode cX12_isSo 14 = .ok (.invokevirtual 1032, 3) := by decide +kernel
theorem dX12_isSo_17 : decode cX12_isSo 17 = .ok (.ifCond .ne 27, 3) := by decide +kernel
theorem dX12_isSo_20 : decode cX12_isSo 20 = .ok (.aload_n 0, 1) := by decide +kernel
theorem dX12_isSo_21 : decode cX12_isSo 21 = .ok (.iconst 1, 1) := by decide +kernel
theorem dX12_isSo_22 : decode cX12_isSo 22 = .ok (.invokevirtual 1032, 3) := by decide +kernel
theorem dX12_isSo_25 : decode cX12_isSo 25 = .ok (.ifCond .ne 19, 3) := by decide +kernel
theorem dX12_isSo_28 : decode cX12_isSo 28 = .ok (.aload_n 0, 1) := by decide +kernel
theorem dX12_isSo_29 : decode cX12_isSo 29 = .ok (.iconst 3, 1) := by decide +kernel
theorem dX12_isSo_30 : decode cX12_isSo 30 = .ok (.invokevirtual 1032, 3) := by decide +kernel
theorem dX12_isSo_33 : decode cX12_isSo 33 = .ok (.ifCond .ne 11, 3) := by decide +kernel
theorem dX12_isSo_36 : decode cX12_isSo 36 = .ok (.aload_n 0, 1) := by decide +kernel
theorem dX12_isSo_37 : decode cX12_isSo 37 = .ok (.iconst 4, 1) := by decide +kernel
theorem dX12_isSo_38 : decode cX12_isSo 38 = .ok (.invokevirtual 1032, 3) := by decide +kernel
theorem dX12_isSo_41 : decode cX12_isSo 41 = .ok (.ifCond .eq 7, 3) := by decide +kernel
theorem dX12_isSo_44 : decode cX12_isSo 44 = .ok (.iconst 1, 1) := by decide +kernel
theorem dX12_isSo_45 : decode cX12_isSo 45 = .ok (.goto 4, 3) := by decide +kernel
theorem dX12_isSo_48 : decode cX12_isSo 48 = .ok (.iconst 0, 1) := by decide +kernel
theorem dX12_isSo_49 : decode cX12_isSo 49 = .ok (.istore 4, 2) := by decide +kernel
theorem dX12_isSo_51 : decode cX12_isSo 51 = .ok (.aload_n 0, 1) := by decide +kernel
theorem dX12_isSo_52 : decode cX12_isSo 52 = .ok (.iconst 2, 1) := by decide +kernel
theorem dX12_isSo_53 : decode cX12_isSo 53 = .ok (.invokevirtual 1032, 3) := by decide +kernel
theorem dX12_isSo_56 : decode cX12_isSo 56 = .ok (.ifCond .ne 15, 3) := by decide +kernel
theorem dX12_isSo_59 : decode cX12_isSo 59 = .ok (.aload_n 0, 1) := by decide +kernel
theorem dX12_isSo_60 : decode cX12_isSo 60 = .ok (.iconst 5, 1) := by decide +kernel
theorem dX12_isSo_61 : decode cX12_isSo 61 = .ok (.invokevirtual 1032, 3) := by decide +kernel
theorem dX12_isSo_64 : decode cX12_isSo 64 = .ok (.ifCond .ne 7, 3) := by decide +kernel
theorem dX12_isSo_67 : decode cX12_isSo 67 = .ok (.iconst 1, 1) := by decide +kernel
theorem dX12_isSo_68 : decode cX12_isSo 68 = .ok (.goto 4, 3) := by decide +kernel
theorem dX12_isSo_71 : decode cX12_isSo 71 = .ok (.iconst 0, 1) := by decide +kernel
theorem dX12_isSo_72 : decode cX12_isSo 72 = .ok (.istore 5, 2) := by decide +kernel
theorem dX12_isSo_74 : decode cX12_isSo 74 = .ok (.aload_n 0, 1) := by decide +kernel
theorem dX12_isSo_75 : decode cX12_isSo 75 = .ok (.bipush 6, 2) := by decide +kernel
theorem dX12_isSo_77 : decode cX12_isSo 77 = .ok (.invokevirtual 1032, 3) := by decide +kernel
theorem dX12_isSo_80 : decode cX12_isSo 80 = .ok (.ifCond .ne 16, 3) := by decide +kernel
theorem dX12_isSo_83 : decode cX12_isSo 83 = .ok (.aload_n 0, 1) := by decide +kernel
theorem dX12_isSo_84 : decode cX12_isSo 84 = .ok (.bipush 7, 2) := by decide +kernel
theorem dX12_isSo_86 : decode cX12_isSo 86 = .ok (.invokevirtual 1032, 3) := by decide +kernel
theorem dX12_isSo_89 : decode cX12_isSo 89 = .ok (.ifCond .ne 7, 3) := by decide +kernel
theorem dX12_isSo_92 : decode cX12_isSo 92 = .ok (.iconst 1, 1) := by decide +kernel
theorem dX12_isSo_93 : decode cX12_isSo 93 = .ok (.goto 4, 3) := by decide +kernel
theorem dX12_isSo_96 : decode cX12_isSo 96 = .ok (.iconst 0, 1) := by decide +kernel
theorem dX12_isSo_97 : decode cX12_isSo 97 = .ok (.istore 6, 2) := by decide +kernel
theorem dX12_isSo_99 : decode cX12_isSo 99 = .ok (.iload_n 1, 1) := by decide +kernel
theorem dX12_isSo_100 : decode cX12_isSo 100 = .ok (.tableswitch 288 0 7 #[48, 82, 93, 112, 191, 210, 229, 272], 48) := by decide +kernel
theorem dX12_isSo_148 : decode cX12_isSo 148 = .ok (.iload_n 2, 1) := by decide +kernel
theorem dX12_isSo_149 : decode cX12_isSo 149 = .ok (.iconst (-1), 1) := by decide +kernel
theorem dX12_isSo_150 : decode cX12_isSo 150 = .ok (.if_icmp .ne 8, 3) := by decide +kernel
theorem dX12_isSo_153 : decode cX12_isSo 153 = .ok (.iload_n 3, 1) := by decide +kernel
theorem dX12_isSo_154 : decode cX12_isSo 154 = .ok (.iconst (-1), 1) := by decide +kernel
theorem dX12_isSo_155 : decode cX12_isSo 155 = .ok (.if_icmp .eq 21, 3) := by decide +kernel
theorem dX12_isSo_158 : decode cX12_isSo 158 = .ok (.aload_n 0, 1) := by decide +kernel
theorem dX12_isSo_159 : decode cX12_isSo 159 = .ok (.iconst 0, 1) := by decide +kernel
theorem dX12_isSo_160 : decode cX12_isSo 160 = .ok (.invokevirtual 1032, 3) := by decide +kernel
theorem dX12_isSo_163 : decode cX12_isSo 163 = .ok (.ifCond .eq 17, 3) := by decide +kernel
theorem dX12_isSo_166 : decode cX12_isSo 166 = .ok (.iload 5, 2) := by decide +kernel
theorem dX12_isSo_168 : decode cX12_isSo 168 = .ok (.ifCond .eq 12, 3) := by decide +kernel
theorem dX12_isSo_171 : decode cX12_isSo 171 = .ok (.iload 6, 2) := by decide +kernel
theorem dX12_isSo_173 : decode cX12_isSo 173 = .ok (.ifCond .eq 7, 3) := by decide +kernel
theorem dX12_isSo_176 : decode cX12_isSo 176 = .ok (.iconst 1, 1) := by decide +kernel
theorem dX12_isSo_177 : decode cX12_isSo 177 = .ok (.goto 4, 3) := by decide +kernel
theorem dX12_isSo_180 : decode cX12_isSo 180 = .ok (.iconst 0, 1) := by decide +kernel
theorem dX12_isSo_181 : decode cX12_isSo 181 = .ok (.ireturn, 1) := by decide +kernel
theorem dX12_isSo_182 : decode cX12_isSo 182 = .ok (.iload 4, 2) := by decide +kernel
theorem dX12_isSo_184 : decode cX12_isSo 184 = .ok (.ifCond .ne 7, 3) := by decide +kernel
theorem dX12_isSo_187 : decode cX12_isSo 187 = .ok (.iconst 1, 1) := by decide +kernel
theorem dX12_isSo_188 : decode cX12_isSo 188 = .ok (.goto 4, 3) := by decide +kernel
theorem dX12_isSo_191 : decode cX12_isSo 191 = .ok (.iconst 0, 1) := by decide +kernel
theorem dX12_isSo_192 : decode cX12_isSo 192 = .ok (.ireturn, 1) := by decide +kernel
theorem dX12_isSo_193 : decode cX12_isSo 193 = .ok (.aload_n 0, 1) := by decide +kernel
theorem dX12_isSo_194 : decode cX12_isSo 194 = .ok (.iconst 0, 1) := by decide +kernel
theorem dX12_isSo_195 : decode cX12_isSo 195 = .ok (.invokevirtual 1032, 3) := by decide +kernel
theorem dX12_isSo_198 : decode cX12_isSo 198 = .ok (.ifCond .ne 12, 3) := by decide +kernel
theorem dX12_isSo_201 : decode cX12_isSo 201 = .ok (.iload 4, 2) := by decide +kernel
theorem dX12_isSo_203 : decode cX12_isSo 203 = .ok (.ifCond .eq 7, 3) := by decide +kernel
theorem dX12_isSo_206 : decode cX12_isSo 206 = .ok (.iconst 1, 1) := by decide +kernel
theorem dX12_isSo_207 : decode cX12_isSo 207 = .ok (.goto 4, 3) := by decide +kernel
theorem dX12_isSo_210 : decode cX12_isSo 210 = .ok (.iconst 0, 1) := by decide +kernel
theorem dX12_isSo_211 : decode cX12_isSo 211 = .ok (.ireturn, 1) := by decide +kernel
theorem dX12_isSo_212 : decode cX12_isSo 212 = .ok (.iload_n 2, 1) := by decide +kernel
theorem dX12_isSo_213 : decode cX12_isSo 213 = .ok (.iload_n 3, 1) := by decide +kernel
theorem dX12_isSo_214 : decode cX12_isSo 214 = .ok (.if_icmp .ge 27, 3) := by decide +kernel
theorem dX12_isSo_217 : decode cX12_isSo 217 = .ok (.aload_n 0, 1) := by decide +kernel
theorem dX12_isSo_218 : decode cX12_isSo 218 = .ok (.iconst 0, 1) := by decide +kernel
theorem dX12_isSo_219 : decode cX12_isSo 219 = .ok (.invokevirtual 1032, 3) := by decide +kernel
theorem dX12_isSo_222 : decode cX12_isSo 222 = .ok (.ifCond .eq 15, 3) := by decide +kernel
theorem dX12_isSo_225 : decode cX12_isSo 225 = .ok (.aload_n 0, 1) := by decide +kernel
theorem dX12_isSo_226 : decode cX12_isSo 226 = .ok (.iconst 2, 1) := by decide +kernel
theorem dX12_isSo_227 : decode cX12_isSo 227 = .ok (.invokevirtual 1032, 3) := by decide +kernel
theorem dX12_isSo_230 : decode cX12_isSo 230 = .ok (.ifCond .eq 7, 3) := by decide +kernel
theorem dX12_isSo_233 : decode cX12_isSo 233 = .ok (.iconst 1, 1) := by decide +kernel
theorem dX12_isSo_234 : decode cX12_isSo 234 = .ok (.goto 56, 3) := by decide +kernel
theorem dX12_isSo_237 : decode cX12_isSo 237 = .ok (.iconst 0, 1) := by decide +kernel
theorem dX12_isSo_238 : decode cX12_isSo 238 = .ok (.goto 52, 3) := by decide +kernel
theorem dX12_isSo_241 : decode cX12_isSo 241 = .ok (.iload_n 2, 1) := by decide +kernel
theorem dX12_isSo_242 : decode cX12_isSo 242 = .ok (.iload_n 3, 1) := by decide +kernel
theorem dX12_isSo_243 : decode cX12_isSo 243 = .ok (.if_icmp .le 28, 3) := by decide +kernel
theorem dX12_isSo_246 : decode cX12_isSo 246 = .ok (.aload_n 0, 1) := by decide +kernel
theorem dX12_isSo_247 : decode cX12_isSo 247 = .ok (.iconst 0, 1) := by decide +kernel
theorem dX12_isSo_248 : decode cX12_isSo 248 = .ok (.invokevirtual 1032, 3) := by decide +kernel
theorem dX12_isSo_251 : decode cX12_isSo 251 = .ok (.ifCond .eq 16, 3) := by decide +kernel
theorem dX12_isSo_254 : decode cX12_isSo 254 = .ok (.aload_n 0, 1) := by decide +kernel
theorem dX12_isSo_255 : decode cX12_isSo 255 = .ok (.bipush 6, 2) := by decide +kernel
theorem dX12_isSo_257 : decode cX12_isSo 257 = .ok (.invokevirtual 1032, 3) := by decide +kernel
theorem dX12_isSo_260 : decode cX12_isSo 260 = .ok (.ifCond .eq 7, 3) := by decide +kernel
theorem dX12_isSo_263 : decode cX12_isSo 263 = .ok (.iconst 1, 1) := by decide +kernel
theorem dX12_isSo_264 : decode cX12_isSo 264 = .ok (.goto 26, 3) := by decide +kernel
theorem dX12_isSo_267 : decode cX12_isSo 267 = .ok (.iconst 0, 1) := by decide +kernel
theorem dX12_isSo_268 : decode cX12_isSo 268 = .ok (.goto 22, 3) := by decide +kernel
theorem dX12_isSo_271 : decode cX12_isSo 271 = .ok (.iload_n 2, 1) := by decide +kernel
theorem dX12_isSo_272 : decode cX12_isSo 272 = .ok (.iconst 1, 1) := by decide +kernel
theorem dX12_isSo_273 : decode cX12_isSo 273 = .ok (.if_icmp .ne 16, 3) := by decide +kernel
theorem dX12_isSo_276 : decode cX12_isSo 276 = .ok (.aload_n 0, 1) := by decide +kernel
theorem dX12_isSo_277 : decode cX12_isSo 277 = .ok (.getfield 212, 3) := by decide +kernel
theorem dX12_isSo_280 : decode cX12_isSo 280 = .ok (.iconst 0, 1) := by decide +kernel
theorem dX12_isSo_281 : decode cX12_isSo 281 = .ok (.iaload, 1) := by decide +kernel
theorem dX12_isSo_282 : decode cX12_isSo 282 = .ok (.ifCond .ne 7, 3) := by decide +kernel
theorem dX12_isSo_285 : decode cX12_isSo 285 = .ok (.iconst 1, 1) := by decide +kernel
theorem dX12_isSo_286 : decode cX12_isSo 286 = .ok (.goto 4, 3) := by decide +kernel
theorem dX12_isSo_289 : decode cX12_isSo 289 = .ok (.iconst 0, 1) := by decide +kernel
theorem dX12_isSo_290 : decode cX12_isSo 290 = .ok (.ireturn, 1) := by decide +kernel
theorem dX12_isSo_291 : decode cX12_isSo 291 = .ok (.aload_n 0, 1) := by decide +kernel
theorem dX12_isSo_292 : decode cX12_isSo 292 = .ok (.iconst 0, 1) := by decide +kernel
theorem dX12_isSo_293 : decode cX12_isSo 293 = .ok (.invokevirtual 1032, 3) := by decide +kernel
theorem dX12_isSo_296 : decode cX12_isSo 296 = .ok (.ifCond .eq 12, 3) := by decide +kernel
theorem dX12_isSo_299 : decode cX12_isSo 299 = .ok (.iload 5, 2) := by decide +kernel
theorem dX12_isSo_301 : decode cX12_isSo 301 = .ok (.ifCond .eq 7, 3) := by decide +kernel
theorem dX12_isSo_304 : decode cX12_isSo 304 = .ok (.iconst 1, 1) := by decide +kernel
theorem dX12_isSo_305 : decode cX12_isSo 305 = .ok (.goto 4, 3) := by decide +kernel
theorem dX12_isSo_308 : decode cX12_isSo 308 = .ok (.iconst 0, 1) := by decide +kernel
theorem dX12_isSo_309 : decode cX12_isSo 309 = .ok (.ireturn, 1) := by decide +kernel
theorem dX12_isSo_310 : decode cX12_isSo 310 = .ok (.aload_n 0, 1) := by decide +kernel
theorem dX12_isSo_311 : decode cX12_isSo 311 = .ok (.iconst 0, 1) := by decide +kernel
theorem dX12_isSo_312 : decode cX12_isSo 312 = .ok (.invokevirtual 1032, 3) := by decide +kernel
theorem dX12_isSo_315 : decode cX12_isSo 315 = .ok (.ifCond .eq 12, 3) := by decide +kernel
theorem dX12_isSo_318 : decode cX12_isSo 318 = .ok (.iload 6, 2) := by decide +kernel
theorem dX12_isSo_320 : decode cX12_isSo 320 = .ok (.ifCond .eq 7, 3) := by decide +kernel
theorem dX12_isSo_323 : decode cX12_isSo 323 = .ok (.iconst 1, 1) := by decide +kernel
theorem dX12_isSo_324 : decode cX12_isSo 324 = .ok (.goto 4, 3) := by decide +kernel
theorem dX12_isSo_327 : decode cX12_isSo 327 = .ok (.iconst 0, 1) := by decide +kernel
theorem dX12_isSo_328 : decode cX12_isSo 328 = .ok (.ireturn, 1) := by decide +kernel
theorem dX12_isSo_329 : decode cX12_isSo 329 = .ok (.iload_n 2, 1) := by decide +kernel
theorem dX12_isSo_330 : decode cX12_isSo 330 = .ok (.iload_n 3, 1) := by decide +kernel
theorem dX12_isSo_331 : decode cX12_isSo 331 = .ok (.if_icmp .ne 39, 3) := by decide +kernel
theorem dX12_isSo_334 : decode cX12_isSo 334 = .ok (.iload_n 2, 1) := by decide +kernel
theorem dX12_isSo_335 : decode cX12_isSo 335 = .ok (.iconst (-1), 1) := by decide +kernel
theorem dX12_isSo_336 : decode cX12_isSo 336 = .ok (.if_icmp .eq 34, 3) := by decide +kernel
theorem dX12_isSo_339 : decode cX12_isSo 339 = .ok (.aload_n 0, 1) := by decide +kernel
theorem dX12_isSo_340 : decode cX12_isSo 340 = .ok (.getfield 212, 3) := by decide +kernel
theorem dX12_isSo_343 : decode cX12_isSo 343 = .ok (.iconst 0, 1) := by decide +kernel
theorem dX12_isSo_344 : decode cX12_isSo 344 = .ok (.iaload, 1) := by decide +kernel
theorem dX12_isSo_345 : decode cX12_isSo 345 = .ok (.iload_n 2, 1) := by decide +kernel
theorem dX12_isSo_346 : decode cX12_isSo 346 = .ok (.if_icmp .ne 24, 3) := by decide +kernel
theorem dX12_isSo_349 : decode cX12_isSo 349 = .ok (.aload_n 0, 1) := by decide +kernel
theorem dX12_isSo_350 : decode cX12_isSo 350 = .ok (.iconst 2, 1) := by decide +kernel
theorem dX12_isSo_351 : decode cX12_isSo 351 = .ok (.invokevirtual 1032, 3) := by decide +kernel
theorem dX12_isSo_354 : decode cX12_isSo 354 = .ok (.ifCond .eq 16, 3) := by decide +kernel
theorem dX12_isSo_357 : decode cX12_isSo 357 = .ok (.aload_n 0, 1) := by decide +kernel
theorem dX12_isSo_358 : decode cX12_isSo 358 = .ok (.bipush 6, 2) := by decide +kernel
theorem dX12_isSo_360 : decode cX12_isSo 360 = .ok (.invokevirtual 1032, 3) := by decide +kernel
theorem dX12_isSo_363 : decode cX12_isSo 363 = .ok (.ifCond .eq 7, 3) := by decide +kernel
theorem dX12_isSo_366 : decode cX12_isSo 366 = .ok (.iconst 1, 1) := by decide +kernel
theorem dX12_isSo_367 : decode cX12_isSo 367 = .ok (.goto 4, 3) := by decide +kernel
theorem dX12_isSo_370 : decode cX12_isSo 370 = .ok (.iconst 0, 1) := by decide +kernel
theorem dX12_isSo_371 : decode cX12_isSo 371 = .ok (.ireturn, 1) := by decide +kernel
theorem dX12_isSo_372 : decode cX12_isSo 372 = .ok (.iload 4, 2) := by decide +kernel
theorem dX12_isSo_374 : decode cX12_isSo 374 = .ok (.ifCond .eq 12, 3) := by decide +kernel
theorem dX12_isSo_377 : decode cX12_isSo 377 = .ok (.iload 5, 2) := by decide +kernel
theorem dX12_isSo_379 : decode cX12_isSo 379 = .ok (.ifCond .eq 7, 3) := by decide +kernel
theorem dX12_isSo_382 : decode cX12_isSo 382 = .ok (.iconst 1, 1) := by decide +kernel
theorem dX12_isSo_383 : decode cX12_isSo 383 = .ok (.goto 4, 3) := by decide +kernel
theorem dX12_isSo_386 : decode cX12_isSo 386 = .ok (.iconst 0, 1) := by decide +kernel
theorem dX12_isSo_387 : decode cX12_isSo 387 = .ok (.ireturn, 1) := by decide +kernel
theorem dX12_isSo_388 : decode cX12_isSo 388 = .ok (.iload 4, 2) := by decide +kernel
theorem dX12_isSo_390 : decode cX12_isSo 390 = .ok (.ifCond .eq 12, 3) := by decide +kernel
theorem dX12_isSo_393 : decode cX12_isSo 393 = .ok (.iload 6, 2) := by decide +kernel
theorem dX12_isSo_395 : decode cX12_isSo 395 = .ok (.ifCond .eq 7, 3) := by decide +kernel
theorem dX12_isSo_398 : decode cX12_isSo 398 = .ok (.iconst 1, 1) := by decide +kernel
theorem dX12_isSo_399 : decode cX12_isSo 399 = .ok (.goto 4, 3) := by decide +kernel
theorem dX12_isSo_402 : decode cX12_isSo 402 = .ok (.iconst 0, 1) := by decide +kernel
theorem dX12_isSo_403 : decode cX12_isSo 403 = .ok (.ireturn, 1) := by decide +kernel
theorem dX12_is_0 : decode cX12_is 0 = .ok (.aload_n 0, 1) := by decide +kernel
theorem dX12_is_1 : decode cX12_is 1 = .ok (.iconst 0, 1) := by decide +kernel
theorem dX12_is_2 : decode cX12_is 2 = .ok (.putfield 271, 3) := by decide +kernel
theorem dX12_is_5 : decode cX12_is 5 = .ok (.aload_n 0, 1) := by decide +kernel
theorem dX12_is_6 : decode cX12_is 6 = .ok (.iload_n 2, 1) := by decide +kernel
theorem dX12_is_7 : decode cX12_is 7 = .ok (.invokestatic 440, 3) := by decide +kernel
theorem dX12_is_10 : decode cX12_is 10 = .ok (.ifCond .eq 10, 3) := by decide +kernel
theorem dX12_is_13 : decode cX12_is 13 = .ok (.iload_n 3, 1) := by decide +kernel
theorem dX12_is_14 : decode cX12_is 14 = .ok (.invokestatic 440, 3) := by decide +kernel
theorem dX12_is_17 : decode cX12_is 17 = .ok (.ifCond .ne 7, 3) := by decide +kernel
theorem dX12_is_20 : decode cX12_is 20 = .ok (.iconst 1, 1) := by decide +kernel
theorem dX12_is_21 : decode cX12_is 21 = .ok (.goto 4, 3) := by decide +kernel
theorem dX12_is_24 : decode cX12_is 24 = .ok (.iconst 0, 1) := by decide +kernel
theorem dX12_is_25 : decode cX12_is 25 = .ok (.iconst 1, 1) := by decide +kernel
theorem dX12_is_26 : decode cX12_is 26 = .ok (.invokevirtual 277, 3) := by decide +kernel
theorem dX12_is_29 : decode cX12_is 29 = .ok (.ifCond .ne 32, 3) := by decide +kernel
theorem dX12_is_32 : decode cX12_is 32 = .ok (.aload_n 0, 1) := by decide +kernel
theorem dX12_is_33 : decode cX12_is 33 = .ok (.aload_n 0, 1) := by decide +kernel
theorem dX12_is_34 : decode cX12_is 34 = .ok (.iload_n 2, 1) := by decide +kernel
theorem dX12_is_35 : decode cX12_is 35 = .ok (.invokevirtual 545, 3) := by decide +kernel
theorem dX12_is_38 : decode cX12_is 38 = .ok (.ifCond .eq 11, 3) := by decide +kernel
theorem dX12_is_41 : decode cX12_is 41 = .ok (.aload_n 0, 1) := by decide +kernel
theorem dX12_is_42 : decode cX12_is 42 = .ok (.iload_n 3, 1) := by decide +kernel
theorem dX12_is_43 : decode cX12_is 43 = .ok (.invokevirtual 545, 3) := by decide +kernel
theorem dX12_is_46 : decode cX12_is 46 = .ok (.ifCond .ne 7, 3) := by decide +kernel
theorem dX12_is_49 : decode cX12_is 49 = .ok (.iconst 1, 1) := by decide +kernel
theorem dX12_is_50 : decode cX12_is 50 = .ok (.goto 4, 3) := by decide +kernel
theorem dX12_is_53 : decode cX12_is 53 = .ok (.iconst 0, 1) := by decide +kernel
theorem dX12_is_54 : decode cX12_is 54 = .ok (.iconst 2, 1) := by decide +kernel
theorem dX12_is_55 : decode cX12_is 55 = .ok (.invokevirtual 277, 3) := by decide +kernel
theorem dX12_is_58 : decode cX12_is 58 = .ok (.ifCond .eq 5, 3) := by decide +kernel
theorem dX12_is_61 : decode cX12_is 61 = .ok (.iconst 0, 1) := by decide +kernel
theorem dX12_is_62 : decode cX12_is 62 = .ok (.ireturn, 1) := by decide +kernel
theorem dX12_is_63 : decode cX12_is 63 = .ok (.aload_n 0, 1) := by decide +kernel
theorem dX12_is_64 : decode cX12_is 64 = .ok (.iload_n 1, 1) := by decide +kernel
theorem dX12_is_65 : decode cX12_is 65 = .ok (.i2l, 1) := by decide +kernel
theorem dX12_is_66 : decode cX12_is 66 = .ok (.lconst 0, 1) := by decide +kernel
theorem dX12_is_67 : decode cX12_is 67 = .ok (.ldc2_w 1035, 3) := by decide +kernel
theorem dX12_is_70 : decode cX12_is 70 = .ok (.invokestatic 287, 3) := by decide +kernel
theorem dX12_is_73 : decode cX12_is 73 = .ok (.ifCond .eq 19, 3) := by decide +kernel
theorem dX12_is_76 : decode cX12_is 76 = .ok (.aload_n 0, 1) := by decide +kernel
theorem dX12_is_77 : decode cX12_is 77 = .ok (.iload_n 2, 1) := by decide +kernel
theorem dX12_is_78 : decode cX12_is 78 = .ok (.invokevirtual 1023, 3) := by decide +kernel
theorem dX12_is_81 : decode cX12_is 81 = .ok (.ifCond .eq 11, 3) := by decide +kernel
theorem dX12_is_84 : decode cX12_is 84 = .ok (.aload_n 0, 1) := by decide +kernel
theorem dX12_is_85 : decode cX12_is 85 = .ok (.iload_n 3, 1) := by decide +kernel
theorem dX12_is_86 : decode cX12_is 86 = .ok (.invokevirtual 1023, 3) := by decide +kernel
theorem dX12_is_89 : decode cX12_is 89 = .ok (.ifCond .ne 7, 3) := by decide +kernel
theorem dX12_is_92 : decode cX12_is 92 = .ok (.iconst 1, 1) := by decide +kernel
theorem dX12_is_93 : decode cX12_is 93 = .ok (.goto 4, 3) := by decide +kernel
theorem dX12_is_96 : decode cX12_is 96 = .ok (.iconst 0, 1) := by decide +kernel
theorem dX12_is_97 : decode cX12_is 97 = .ok (.iconst 3, 1) := by decide +kernel
theorem dX12_is_98 : decode cX12_is 98 = .ok (.invokevirtual 277, 3) := by decide +kernel
theorem dX12_is_101 : decode cX12_is 101 = .ok (.ifCond .ne 25, 3) := by decide +kernel
theorem dX12_is_104 : decode cX12_is 104 = .ok (.aload_n 0, 1) := by decide +kernel
theorem dX12_is_105 : decode cX12_is 105 = .ok (.aload_n 0, 1) := by decide +kernel
theorem dX12_is_106 : decode cX12_is 106 = .ok (.iload_n 2, 1) := by decide +kernel
theorem dX12_is_107 : decode cX12_is 107 = .ok (.iload_n 3, 1) := by decide +kernel
theorem dX12_is_108 : decode cX12_is 108 = .ok (.invokevirtual 1026, 3) := by decide +kernel
theorem dX12_is_111 : decode cX12_is 111 = .ok (.ifCond .ne 7, 3) := by decide +kernel
theorem dX12_is_114 : decode cX12_is 114 = .ok (.iconst 1, 1) := by decide +kernel
theorem dX12_is_115 : decode cX12_is 115 = .ok (.goto 4, 3) := by decide +kernel
theorem dX12_is_118 : decode cX12_is 118 = .ok (.iconst 0, 1) := by decide +kernel
theorem dX12_is_119 : decode cX12_is 119 = .ok (.iconst 4, 1) := by decide +kernel
theorem dX12_is_120 : decode cX12_is 120 = .ok (.invokevirtual 277, 3) := by decide +kernel
theorem dX12_is_123 : decode cX12_is 123 = .ok (.ifCond .eq 5, 3) := by decide +kernel
theorem dX12_is_126 : decode cX12_is 126 = .ok (.iconst 0, 1) := by decide +kernel
theorem dX12_is_127 : decode cX12_is 127 = .ok (.ireturn, 1) := by decide +kernel
theorem dX12_is_128 : decode cX12_is 128 = .ok (.aload_n 0, 1) := by decide +kernel
theorem dX12_is_129 : decode cX12_is 129 = .ok (.iload_n 1, 1) := by decide +kernel
theorem dX12_is_130 : decode cX12_is 130 = .ok (.invokevirtual 1037, 3) := by decide +kernel
theorem dX12_is_133 : decode cX12_is 133 = .ok (.ireturn, 1) := by decide +kernel
theorem dX12_locate_0 : decode cX12_locate 0 = .ok (.aload_n 0, 1) := by decide +kernel
theorem dX12_locate_1 : decode cX12_locate 1 = .ok (.iconst 0, 1) := by decide +kernel
theorem dX12_locate_2 : decode cX12_locate 2 = .ok (.putfield 271, 3) := by decide +kernel
theorem dX12_locate_5 : decode cX12_locate 5 = .ok (.aload_n 0, 1) := by decide +kernel
theorem dX12_locate_6 : decode cX12_locate 6 = .ok (.iload_n 1, 1) := by decide +kernel
theorem dX12_locate_7 : decode cX12_locate 7 = .ok (.invokestatic 440, 3) := by decide +kernel
theorem dX12_locate_10 : decode cX12_locate 10 = .ok (.ifCond .ne 7, 3) := by decide +kernel
theorem dX12_locate_13 : decode cX12_locate 13 = .ok (.iconst 1, 1) := by decide +kernel
theorem dX12_locate_14 : decode cX12_locate 14 = .ok (.goto 4, 3) := by decide +kernel
theorem dX12_locate_17 : decode cX12_locate 17 = .ok (.iconst 0, 1) := by decide +kernel
theorem dX12_locate_18 : decode cX12_locate 18 = .ok (.iconst 1, 1) := by decide +kernel
theorem dX12_locate_19 : decode cX12_locate 19 = .ok (.invokevirtual 277, 3) := by decide +kernel
theorem dX12_locate_22 : decode cX12_locate 22 = .ok (.ifCond .ne 24, 3) := by decide +kernel
theorem dX12_locate_25 : decode cX12_locate 25 = .ok (.aload_n 0, 1) := by decide +kernel
theorem dX12_locate_26 : decode cX12_locate 26 = .ok (.aload_n 0, 1) := by decide +kernel
theorem dX12_locate_27 : decode cX12_locate 27 = .ok (.iload_n 1, 1) := by decide +kernel
theorem dX12_locate_28 : decode cX12_locate 28 = .ok (.invokevirtual 545, 3) := by decide +kernel
theorem dX12_locate_31 : decode cX12_locate 31 = .ok (.ifCond .ne 7, 3) := by decide +kernel
theorem dX12_locate_34 : decode cX12_locate 34 = .ok (.iconst 1, 1) := by decide +kernel
theorem dX12_locate_35 : decode cX12_locate 35 = .ok (.goto 4, 3) := by decide +kernel
theorem dX12_locate_38 : decode cX12_locate 38 = .ok (.iconst 0, 1) := by decide +kernel
theorem dX12_locate_39 : decode cX12_locate 39 = .ok (.iconst 2, 1) := by decide +kernel
theorem dX12_locate_40 : decode cX12_locate 40 = .ok (.invokevirtual 277, 3) := by decide +kernel
theorem dX12_locate_43 : decode cX12_locate 43 = .ok (.ifCond .eq 5, 3) := by decide +kernel
theorem dX12_locate_46 : decode cX12_locate 46 = .ok (.iconst 0, 1) := by decide +kernel
theorem dX12_locate_47 : decode cX12_locate 47 = .ok (.ireturn, 1) := by decide +kernel
theorem dX12_locate_48 : decode cX12_locate 48 = .ok (.aload_n 0, 1) := by decide +kernel
theorem dX12_locate_49 : decode cX12_locate 49 = .ok (.iload_n 2, 1) := by decide +kernel
theorem dX12_locate_50 : decode cX12_locate 50 = .ok (.i2l, 1) := by decide +kernel
theorem dX12_locate_51 : decode cX12_locate 51 = .ok (.ldc2_w 780, 3) := by decide +kernel
theorem dX12_locate_54 : decode cX12_locate 54 = .ok (.ldc2_w 782, 3) := by decide +kernel
theorem dX12_locate_57 : decode cX12_locate 57 = .ok (.invokestatic 287, 3) := by decide +kernel
theorem dX12_locate_60 : decode cX12_locate 60 = .ok (.ifCond .eq 25, 3) := by decide +kernel
theorem dX12_locate_63 : decode cX12_locate 63 = .ok (.iload_n 3, 1) := by decide +kernel
theorem dX12_locate_64 : decode cX12_locate 64 = .ok (.i2l, 1) := by decide +kernel
theorem dX12_locate_65 : decode cX12_locate 65 = .ok (.ldc2_w 780, 3) := by decide +kernel
theorem dX12_locate_68 : decode cX12_locate 68 = .ok (.ldc2_w 782, 3) := by decide +kernel
theorem dX12_locate_71 : decode cX12_locate 71 = .ok (.invokestatic 287, 3) := by decide +kernel
theorem dX12_locate_74 : decode cX12_locate 74 = .ok (.ifCond .eq 11, 3) := by decide +kernel
theorem dX12_locate_77 : decode cX12_locate 77 = .ok (.aload_n 0, 1) := by decide +kernel
theorem dX12_locate_78 : decode cX12_locate 78 = .ok (.iload_n 1, 1) := by decide +kernel
theorem dX12_locate_79 : decode cX12_locate 79 = .ok (.invokevirtual 1023, 3) := by decide +kernel
theorem dX12_locate_82 : decode cX12_locate 82 = .ok (.ifCond .ne 7, 3) := by decide +kernel
theorem dX12_locate_85 : decode cX12_locate 85 = .ok (.iconst 1, 1) := by decide +kernel
theorem dX12_locate_86 : decode cX12_locate 86 = .ok (.goto 4, 3) := by decide +kernel
theorem dX12_locate_89 : decode cX12_locate 89 = .ok (.iconst 0, 1) := by decide +kernel
theorem dX12_locate_90 : decode cX12_locate 90 = .ok (.iconst 3, 1) := by decide +kernel
theorem dX12_locate_91 : decode cX12_locate 91 = .ok (.invokevirtual 277, 3) := by decide +kernel
theorem dX12_locate_94 : decode cX12_locate 94 = .ok (.ifCond .eq 5, 3) := by decide +kernel
theorem dX12_locate_97 : decode cX12_locate 97 = .ok (.iconst 0, 1) := by decide +kernel
theorem dX12_locate_98 : decode cX12_locate 98 = .ok (.ireturn, 1) := by decide +kernel
theorem dX12_locate_99 : decode cX12_locate 99 = .ok (.aload_n 0, 1) := by decide +kernel
theorem dX12_locate_100 : decode cX12_locate 100 = .ok (.iconst 0, 1) := by decide +kernel
theorem dX12_locate_101 : decode cX12_locate 101 = .ok (.putfield 652, 3) := by decide +kernel
theorem dX12_locate_104 : decode cX12_locate 104 = .ok (.aload_n 0, 1) := by decide +kernel
theorem dX12_locate_105 : decode cX12_locate 105 = .ok (.iload_n 1, 1) := by decide +kernel
theorem dX12_locate_106 : decode cX12_locate 106 = .ok (.iconst 0, 1) := by decide +kernel
theorem dX12_locate_107 : decode cX12_locate 107 = .ok (.invokevirtual 1011, 3) := by decide +kernel
theorem dX12_locate_110 : decode cX12_locate 110 = .ok (.aload_n 0, 1) := by decide +kernel
theorem dX12_locate_111 : decode cX12_locate 111 = .ok (.aload_n 0, 1) := by decide +kernel
theorem dX12_locate_112 : decode cX12_locate 112 = .ok (.getfield 194, 3) := by decide +kernel
theorem dX12_locate_115 : decode cX12_locate 115 = .ok (.iconst 0, 1) := by decide +kernel
theorem dX12_locate_116 : decode cX12_locate 116 = .ok (.iaload, 1) := by decide +kernel
theorem dX12_locate_117 : decode cX12_locate 117 = .ok (.ifCond .le 19, 3) := by decide +kernel
theorem dX12_locate_120 : decode cX12_locate 120 = .ok (.aload_n 0, 1) := by decide +kernel
theorem dX12_locate_121 : decode cX12_locate 121 = .ok (.getfield 197, 3) := by decide +kernel
theorem dX12_locate_124 : decode cX12_locate 124 = .ok (.iconst 0, 1) := by decide +kernel
theorem dX12_locate_125 : decode cX12_locate 125 = .ok (.iaload, 1) := by decide +kernel
theorem dX12_locate_126 : decode cX12_locate 126 = .ok (.sipush 1024, 3) := by decide +kernel
theorem dX12_locate_129 : decode cX12_locate 129 = .ok (.if_icmp .le 7, 3) := by decide +kernel
theorem dX12_locate_132 : decode cX12_locate 132 = .ok (.iconst 1, 1) := by decide +kernel
theorem dX12_locate_133 : decode cX12_locate 133 = .ok (.goto 4, 3) := by decide +kernel
theorem dX12_locate_136 : decode cX12_locate 136 = .ok (.iconst 0, 1) := by decide +kernel
theorem dX12_locate_137 : decode cX12_locate 137 = .ok (.iconst 4, 1) := by decide +kernel
theorem dX12_locate_138 : decode cX12_locate 138 = .ok (.invokevirtual 277, 3) := by decide +kernel
theorem dX12_locate_141 : decode cX12_locate 141 = .ok (.ifCond .eq 5, 3) := by decide +kernel
theorem dX12_locate_144 : decode cX12_locate 144 = .ok (.iconst 0, 1) := by decide +kernel
theorem dX12_locate_145 : decode cX12_locate 145 = .ok (.ireturn, 1) := by decide +kernel
theorem dX12_locate_146 : decode cX12_locate 146 = .ok (.aload_n 0, 1) := by decide +kernel
theorem dX12_locate_147 : decode cX12_locate 147 = .ok (.iload_n 2, 1) := by decide +kernel
theorem dX12_locate_148 : decode cX12_locate 148 = .ok (.i2l, 1) := by decide +kernel
theorem dX12_locate_149 : decode cX12_locate 149 = .ok (.iload_n 3, 1) := by decide +kernel
theorem dX12_locate_150 : decode cX12_locate 150 = .ok (.i2l, 1) := by decide +kernel
theorem dX12_locate_151 : decode cX12_locate 151 = .ok (.invokevirtual 1020, 3) := by decide +kernel
theorem dX12_locate_154 : decode cX12_locate 154 = .ok (.aload_n 0, 1) := by decide +kernel
theorem dX12_locate_155 : decode cX12_locate 155 = .ok (.iconst 0, 1) := by decide +kernel
theorem dX12_locate_156 : decode cX12_locate 156 = .ok (.iconst 0, 1) := by decide +kernel
theorem dX12_locate_157 : decode cX12_locate 157 = .ok (.invokevirtual 999, 3) := by decide +kernel
theorem dX12_locate_160 : decode cX12_locate 160 = .ok (.ireturn, 1) := by decide +kernel
theorem dX12_gatherSpots_0 : decode cX12_gatherSpots 0 = .ok (.aload_n 0, 1) := by decide +kernel
theorem dX12_gatherSpots_1 : decode cX12_gatherSpots 1 = .ok (.iconst 0, 1) := by decide +kernel
theorem dX12_gatherSpots_2 : decode cX12_gatherSpots 2 = .ok (.putfield 1040, 3) := by decide +kernel
theorem dX12_gatherSpots_5 : decode cX12_gatherSpots 5 = .ok (.sipush 2048, 3) := by decide +kernel
theorem dX12_gatherSpots_8 : decode cX12_gatherSpots 8 = .ok (.iload_n 1, 1) := by decide +kernel
theorem dX12_gatherSpots_9 : decode cX12_gatherSpots 9 = .ok (.imul, 1) := by decide +kernel
theorem dX12_gatherSpots_10 : decode cX12_gatherSpots 10 = .ok (.istore_n 2, 1) := by decide +kernel
theorem dX12_gatherSpots_11 : decode cX12_gatherSpots 11 = .ok (.iload_n 2, 1) := by decide +kernel
theorem dX12_gatherSpots_12 : decode cX12_gatherSpots 12 = .ok (.sipush 2048, 3) := by decide +kernel
theorem dX12_gatherSpots_15 : decode cX12_gatherSpots 15 = .ok (.iload_n 1, 1) := by decide +kernel
theorem dX12_gatherSpots_16 : decode cX12_gatherSpots 16 = .ok (.imul, 1) := by decide +kernel
theorem dX12_gatherSpots_17 : decode cX12_gatherSpots 17 = .ok (.aload_n 0, 1) := by decide +kernel
theorem dX12_gatherSpots_18 : decode cX12_gatherSpots 18 = .ok (.getfield 26, 3) := by decide +kernel
theorem dX12_gatherSpots_21 : decode cX12_gatherSpots 21 = .ok (.iload_n 1, 1) := by decide +kernel
theorem dX12_gatherSpots_22 : decode cX12_gatherSpots 22 = .ok (.iaload, 1) := by decide +kernel
theorem dX12_gatherSpots_23 : decode cX12_gatherSpots 23 = .ok (.iadd, 1) := by decide +kernel
theorem dX12_gatherSpots_24 : decode cX12_gatherSpots 24 = .ok (.if_icmp .ge 136, 3) := by decide +kernel
theorem dX12_gatherSpots_27 : decode cX12_gatherSpots 27 = .ok (.iconst 0, 1) := by decide +kernel
theorem dX12_gatherSpots_28 : decode cX12_gatherSpots 28 = .ok (.istore_n 3, 1) := by decide +kernel
theorem dX12_gatherSpots_29 : decode cX12_gatherSpots 29 = .ok (.iconst 0, 1) := by decide +kernel
theorem dX12_gatherSpots_30 : decode cX12_gatherSpots 30 = .ok (.istore 4, 2) := by decide +kernel
theorem dX12_gatherSpots_32 : decode cX12_gatherSpots 32 = .ok (.iload 4, 2) := by decide +kernel
theorem dX12_gatherSpots_34 : decode cX12_gatherSpots 34 = .ok (.aload_n 0, 1) := by decide +kernel
theorem dX12_gatherSpots_35 : decode cX12_gatherSpots 35 = .ok (.getfield 1040, 3) := by decide +kernel
theorem dX12_gatherSpots_38 : decode cX12_gatherSpots 38 = .ok (.if_icmp .ge 55, 3) := by decide +kernel
theorem dX12_gatherSpots_41 : decode cX12_gatherSpots 41 = .ok (.iload_n 3, 1) := by decide +kernel
theorem dX12_gatherSpots_42 : decode cX12_gatherSpots 42 = .ok (.ifCond .ne 51, 3) := by decide +kernel
theorem dX12_gatherSpots_45 : decode cX12_gatherSpots 45 = .ok (.aload_n 0, 1) := by decide +kernel
theorem dX12_gatherSpots_46 : decode cX12_gatherSpots 46 = .ok (.getfield 221, 3) := by decide +kernel
theorem dX12_gatherSpots_49 : decode cX12_gatherSpots 49 = .ok (.iload 4, 2) := by decide +kernel
theorem dX12_gatherSpots_51 : decode cX12_gatherSpots 51 = .ok (.laload, 1) := by decide +kernel
theorem dX12_gatherSpots_52 : decode cX12_gatherSpots 52 = .ok (.aload_n 0, 1) := by decide +kernel
theorem dX12_gatherSpots_53 : decode cX12_gatherSpots 53 = .ok (.getfield 29, 3) := by decide +kernel
theorem dX12_gatherSpots_56 : decode cX12_gatherSpots 56 = .ok (.iload_n 2, 1) := by decide +kernel
theorem dX12_gatherSpots_57 : decode cX12_gatherSpots 57 = .ok (.iaload, 1) := by decide +kernel
theorem dX12_gatherSpots_58 : decode cX12_gatherSpots 58 = .ok (.i2l, 1) := by decide +kernel
theorem dX12_gatherSpots_59 : decode cX12_gatherSpots 59 = .ok (.lcmp, 1) := by decide +kernel
theorem dX12_gatherSpots_60 : decode cX12_gatherSpots 60 = .ok (.ifCond .ne 25, 3) := by decide +kernel
theorem dX12_gatherSpots_63 : decode cX12_gatherSpots 63 = .ok (.aload_n 0, 1) := by decide +kernel
theorem dX12_gatherSpots_64 : decode cX12_gatherSpots 64 = .ok (.getfield 224, 3) := by decide +kernel
theorem dX12_gatherSpots_67 : decode cX12_gatherSpots 67 = .ok (.iload 4, 2) := by decide +kernel
theorem dX12_gatherSpots_69 : decode cX12_gatherSpots 69 = .ok (.laload, 1) := by decide +kernel
theorem dX12_gatherSpots_70 : decode cX12_gatherSpots 70 = .ok (.aload_n 0, 1) := by decide +kernel
theorem dX12_gatherSpots_71 : decode cX12_gatherSpots 71 = .ok (.getfield 32, 3) := by decide +kernel
theorem dX12_gatherSpots_74 : decode cX12_gatherSpots 74 = .ok (.iload_n 2, 1) := by decide +kernel
theorem dX12_gatherSpots_75 : decode cX12_gatherSpots 75 = .ok (.iaload, 1) := by decide +kernel
theorem dX12_gatherSpots_76 : decode cX12_gatherSpots 76 = .ok (.i2l, 1) := by decide +kernel
theorem dX12_gatherSpots_77 : decode cX12_gatherSpots 77 = .ok (.lcmp, 1) := by decide +kernel
theorem dX12_gatherSpots_78 : decode cX12_gatherSpots 78 = .ok (.ifCond .ne 7, 3) := by decide +kernel
theorem dX12_gatherSpots_81 : decode cX12_gatherSpots 81 = .ok (.iconst 1, 1) := by decide +kernel
theorem dX12_gatherSpots_82 : decode cX12_gatherSpots 82 = .ok (.goto 4, 3) := by decide +kernel
theorem dX12_gatherSpots_85 : decode cX12_gatherSpots 85 = .ok (.iconst 0, 1) := by decide +kernel
theorem dX12_gatherSpots_86 : decode cX12_gatherSpots 86 = .ok (.istore_n 3, 1) := by decide +kernel
theorem dX12_gatherSpots_87 : decode cX12_gatherSpots 87 = .ok (.iinc 4 1, 3) := by decide +kernel
theorem dX12_gatherSpots_90 : decode cX12_gatherSpots 90 = .ok (.goto (-58), 3) := by decide +kernel
theorem dX12_gatherSpots_93 : decode cX12_gatherSpots 93 = .ok (.iload_n 3, 1) := by decide +kernel
theorem dX12_gatherSpots_94 : decode cX12_gatherSpots 94 = .ok (.ifCond .eq 6, 3) := by decide +kernel
theorem dX12_gatherSpots_97 : decode cX12_gatherSpots 97 = .ok (.goto 57, 3) := by decide +kernel
theorem dX12_gatherSpots_100 : decode cX12_gatherSpots 100 = .ok (.aload_n 0, 1) := by decide +kernel
theorem dX12_gatherSpots_101 : decode cX12_gatherSpots 101 = .ok (.getfield 1040, 3) := by decide +kernel
theorem dX12_gatherSpots_104 : decode cX12_gatherSpots 104 = .ok (.sipush 1024, 3) := by decide +kernel
theorem dX12_gatherSpots_107 : decode cX12_gatherSpots 107 = .ok (.if_icmp .ne 5, 3) := by decide +kernel
theorem dX12_gatherSpots_110 : decode cX12_gatherSpots 110 = .ok (.iconst 0, 1) := by decide +kernel
theorem dX12_gatherSpots_111 : decode cX12_gatherSpots 111 = .ok (.ireturn, 1) := by decide +kernel
theorem dX12_gatherSpots_112 : decode cX12_gatherSpots 112 = .ok (.aload_n 0, 1) := by decide +kernel
theorem dX12_gatherSpots_113 : decode cX12_gatherSpots 113 = .ok (.getfield 221, 3) := by decide +kernel
theorem dX12_gatherSpots_116 : decode cX12_gatherSpots 116 = .ok (.aload_n 0, 1) := by decide +kernel
theorem dX12_gatherSpots_117 : decode cX12_gatherSpots 117 = .ok (.getfield 1040, 3) := by decide +kernel
theorem dX12_gatherSpots_120 : decode cX12_gatherSpots 120 = .ok (.aload_n 0, 1) := by decide +kernel
theorem dX12_gatherSpots_121 : decode cX12_gatherSpots 121 = .ok (.getfield 29, 3) := by decide +kernel
theorem dX12_gatherSpots_124 : decode cX12_gatherSpots 124 = .ok (.iload_n 2, 1) := by decide +kernel
theorem dX12_gatherSpots_125 : decode cX12_gatherSpots 125 = .ok (.iaload, 1) := by decide +kernel
theorem dX12_gatherSpots_126 : decode cX12_gatherSpots 126 = .ok (.i2l, 1) := by decide +kernel
theorem dX12_gatherSpots_127 : decode cX12_gatherSpots 127 = .ok (.lastore, 1) := by decide +kernel
theorem dX12_gatherSpots_128 : decode cX12_gatherSpots 128 = .ok (.aload_n 0, 1) := by decide +kernel
theorem dX12_gatherSpots_129 : decode cX12_gatherSpots 129 = .ok (.getfield 224, 3) := by decide +kernel
theorem dX12_gatherSpots_132 : decode cX12_gatherSpots 132 = .ok (.aload_n 0, 1) := by decide +kernel
theorem dX12_gatherSpots_133 : decode cX12_gatherSpots 133 = .ok (.getfield 1040, 3) := by decide +kernel
theorem dX12_gatherSpots_136 : decode cX12_gatherSpots 136 = .ok (.aload_n 0, 1) := by decide +kernel
theorem dX12_gatherSpots_137 : decode cX12_gatherSpots 137 = .ok (.getfield 32, 3) := by decide +kernel
theorem dX12_gatherSpots_140 : decode cX12_gatherSpots 140 = .ok (.iload_n 2, 1) := by decide +kernel
theorem dX12_gatherSpots_141 : decode cX12_gatherSpots 141 = .ok (.iaload, 1) := by decide +kernel
theorem dX12_gatherSpots_142 : decode cX12_gatherSpots 142 = .ok (.i2l, 1) := by decide +kernel
theorem dX12_gatherSpots_143 : decode cX12_gatherSpots 143 = .ok (.lastore, 1) := by decide +kernel
theorem dX12_gatherSpots_144 : decode cX12_gatherSpots 144 = .ok (.aload_n 0, 1) := by decide +kernel
theorem dX12_gatherSpots_145 : decode cX12_gatherSpots 145 = .ok (.dup, 1) := by decide +kernel
theorem dX12_gatherSpots_146 : decode cX12_gatherSpots 146 = .ok (.getfield 1040, 3) := by decide +kernel
theorem dX12_gatherSpots_149 : decode cX12_gatherSpots 149 = .ok (.iconst 1, 1) := by decide +kernel
theorem dX12_gatherSpots_150 : decode cX12_gatherSpots 150 = .ok (.iadd, 1) := by decide +kernel
theorem dX12_gatherSpots_151 : decode cX12_gatherSpots 151 = .ok (.putfield 1040, 3) := by decide +kernel
theorem dX12_gatherSpots_154 : decode cX12_gatherSpots 154 = .ok (.iinc 2 1, 3) := by decide +kernel
theorem dX12_gatherSpots_157 : decode cX12_gatherSpots 157 = .ok (.goto (-146), 3) := by decide +kernel
theorem dX12_gatherSpots_160 : decode cX12_gatherSpots 160 = .ok (.iconst 1, 1) := by decide +kernel
theorem dX12_gatherSpots_161 : decode cX12_gatherSpots 161 = .ok (.ireturn, 1) := by decide +kernel
theorem dX12_turnOf_0 : decode cX12_turnOf 0 = .ok (.aload_n 0, 1) := by decide +kernel
theorem dX12_turnOf_1 : decode cX12_turnOf 1 = .ok (.getfield 221, 3) := by decide +kernel
theorem dX12_turnOf_4 : decode cX12_turnOf 4 = .ok (.iload_n 1, 1) := by decide +kernel
theorem dX12_turnOf_5 : decode cX12_turnOf 5 = .ok (.laload, 1) := by decide +kernel
theorem dX12_turnOf_6 : decode cX12_turnOf 6 = .ok (.aload_n 0, 1) := by decide +kernel
theorem dX12_turnOf_7 : decode cX12_turnOf 7 = .ok (.getfield 224, 3) := by decide +kernel
theorem dX12_turnOf_10 : decode cX12_turnOf 10 = .ok (.iload_n 1, 1) := by decide +kernel
theorem dX12_turnOf_11 : decode cX12_turnOf 11 = .ok (.laload, 1) := by decide +kernel
theorem dX12_turnOf_12 : decode cX12_turnOf 12 = .ok (.aload_n 0, 1) := by decide +kernel
theorem dX12_turnOf_13 : decode cX12_turnOf 13 = .ok (.getfield 221, 3) := by decide +kernel
theorem dX12_turnOf_16 : decode cX12_turnOf 16 = .ok (.iload_n 2, 1) := by decide +kernel
theorem dX12_turnOf_17 : decode cX12_turnOf 17 = .ok (.laload, 1) := by decide +kernel
theorem dX12_turnOf_18 : decode cX12_turnOf 18 = .ok (.aload_n 0, 1) := by decide +kernel
theorem dX12_turnOf_19 : decode cX12_turnOf 19 = .ok (.getfield 224, 3) := by decide +kernel
theorem dX12_turnOf_22 : decode cX12_turnOf 22 = .ok (.iload_n 2, 1) := by decide +kernel
theorem dX12_turnOf_23 : decode cX12_turnOf 23 = .ok (.laload, 1) := by decide +kernel
theorem dX12_turnOf_24 : decode cX12_turnOf 24 = .ok (.aload_n 0, 1) := by decide +kernel
theorem dX12_turnOf_25 : decode cX12_turnOf 25 = .ok (.getfield 221, 3) := by decide +kernel
theorem dX12_turnOf_28 : decode cX12_turnOf 28 = .ok (.iload_n 3, 1) := by decide +kernel
theorem dX12_turnOf_29 : decode cX12_turnOf 29 = .ok (.laload, 1) := by decide +kernel
theorem dX12_turnOf_30 : decode cX12_turnOf 30 = .ok (.aload_n 0, 1) := by decide +kernel
theorem dX12_turnOf_31 : decode cX12_turnOf 31 = .ok (.getfield 224, 3) := by decide +kernel
theorem dX12_turnOf_34 : decode cX12_turnOf 34 = .ok (.iload_n 3, 1) := by decide +kernel
theorem dX12_turnOf_35 : decode cX12_turnOf 35 = .ok (.laload, 1) := by decide +kernel
theorem dX12_turnOf_36 : decode cX12_turnOf 36 = .ok (.invokestatic 664, 3) := by decide +kernel
theorem dX12_turnOf_39 : decode cX12_turnOf 39 = .ok (.ireturn, 1) := by decide +kernel
theorem dX12_isLess_0 : decode cX12_isLess 0 = .ok (.aload_n 0, 1) := by decide +kernel
theorem dX12_isLess_1 : decode cX12_isLess 1 = .ok (.getfield 221, 3) := by decide +kernel
theorem dX12_isLess_4 : decode cX12_isLess 4 = .ok (.iload_n 1, 1) := by decide +kernel
theorem dX12_isLess_5 : decode cX12_isLess 5 = .ok (.laload, 1) := by decide +kernel
theorem dX12_isLess_6 : decode cX12_isLess 6 = .ok (.aload_n 0, 1) := by decide +kernel
theorem dX12_isLess_7 : decode cX12_isLess 7 = .ok (.getfield 224, 3) := by decide +kernel
theorem dX12_isLess_10 : decode cX12_isLess 10 = .ok (.iload_n 1, 1) := by decide +kernel
theorem dX12_isLess_11 : decode cX12_isLess 11 = .ok (.laload, 1) := by decide +kernel
theorem dX12_isLess_12 : decode cX12_isLess 12 = .ok (.aload_n 0, 1) := by decide +kernel
theorem dX12_isLess_13 : decode cX12_isLess 13 = .ok (.getfield 221, 3) := by decide +kernel
theorem dX12_isLess_16 : decode cX12_isLess 16 = .ok (.iload_n 2, 1) := by decide +kernel
theorem dX12_isLess_17 : decode cX12_isLess 17 = .ok (.laload, 1) := by decide +kernel
theorem dX12_isLess_18 : decode cX12_isLess 18 = .ok (.aload_n 0, 1) := by decide +kernel
theorem dX12_isLess_19 : decode cX12_isLess 19 = .ok (.getfield 224, 3) := by decide +kernel
theorem dX12_isLess_22 : decode cX12_isLess 22 = .ok (.iload_n 2, 1) := by decide +kernel
theorem dX12_isLess_23 : decode cX12_isLess 23 = .ok (.laload, 1) := by decide +kernel
theorem dX12_isLess_24 : decode cX12_isLess 24 = .ok (.invokestatic 674, 3) := by decide +kernel
theorem dX12_isLess_27 : decode cX12_isLess 27 = .ok (.ireturn, 1) := by decide +kernel
theorem dX12_leastSpot_0 : decode cX12_leastSpot 0 = .ok (.iconst 0, 1) := by decide +kernel
theorem dX12_leastSpot_1 : decode cX12_leastSpot 1 = .ok (.istore_n 1, 1) := by decide +kernel
theorem dX12_leastSpot_2 : decode cX12_leastSpot 2 = .ok (.iconst 1, 1) := by decide +kernel
theorem dX12_leastSpot_3 : decode cX12_leastSpot 3 = .ok (.istore_n 2, 1) := by decide +kernel
theorem dX12_leastSpot_4 : decode cX12_leastSpot 4 = .ok (.iload_n 2, 1) := by decide +kernel
theorem dX12_leastSpot_5 : decode cX12_leastSpot 5 = .ok (.aload_n 0, 1) := by decide +kernel
theorem dX12_leastSpot_6 : decode cX12_leastSpot 6 = .ok (.getfield 1040, 3) := by decide +kernel
theorem dX12_leastSpot_9 : decode cX12_leastSpot 9 = .ok (.if_icmp .ge 24, 3) := by decide +kernel
theorem dX12_leastSpot_12 : decode cX12_leastSpot 12 = .ok (.aload_n 0, 1) := by decide +kernel
theorem dX12_leastSpot_13 : decode cX12_leastSpot 13 = .ok (.iload_n 2, 1) := by decide +kernel
theorem dX12_leastSpot_14 : decode cX12_leastSpot 14 = .ok (.iload_n 1, 1) := by decide +kernel
theorem dX12_leastSpot_15 : decode cX12_leastSpot 15 = .ok (.invokevirtual 1043, 3) := by decide +kernel
theorem dX12_leastSpot_18 : decode cX12_leastSpot 18 = .ok (.ifCond .eq 7, 3) := by decide +kernel
theorem dX12_leastSpot_21 : decode cX12_leastSpot 21 = .ok (.iload_n 2, 1) := by decide +kernel
theorem dX12_leastSpot_22 : decode cX12_leastSpot 22 = .ok (.goto 4, 3) := by decide +kernel
theorem dX12_leastSpot_25 : decode cX12_leastSpot 25 = .ok (.iload_n 1, 1) := by decide +kernel
theorem dX12_leastSpot_26 : decode cX12_leastSpot 26 = .ok (.istore_n 1, 1) := by decide +kernel
theorem dX12_leastSpot_27 : decode cX12_leastSpot 27 = .ok (.iinc 2 1, 3) := by decide +kernel
theorem dX12_leastSpot_30 : decode cX12_leastSpot 30 = .ok (.goto (-26), 3) := by decide +kernel
theorem dX12_leastSpot_33 : decode cX12_leastSpot 33 = .ok (.iload_n 1, 1) := by decide +kernel
theorem dX12_leastSpot_34 : decode cX12_leastSpot 34 = .ok (.ireturn, 1) := by decide +kernel
theorem dX12_wayTo_0 : decode cX12_wayTo 0 = .ok (.aload_n 0, 1) := by decide +kernel
theorem dX12_wayTo_1 : decode cX12_wayTo 1 = .ok (.getfield 221, 3) := by decide +kernel
theorem dX12_wayTo_4 : decode cX12_wayTo 4 = .ok (.iload_n 2, 1) := by decide +kernel
theorem dX12_wayTo_5 : decode cX12_wayTo 5 = .ok (.laload, 1) := by decide +kernel
theorem dX12_wayTo_6 : decode cX12_wayTo 6 = .ok (.aload_n 0, 1) := by decide +kernel
theorem dX12_wayTo_7 : decode cX12_wayTo 7 = .ok (.getfield 221, 3) := by decide +kernel
theorem dX12_wayTo_10 : decode cX12_wayTo 10 = .ok (.iload_n 1, 1) := by decide +kernel
theorem dX12_wayTo_11 : decode cX12_wayTo 11 = .ok (.laload, 1) := by decide +kernel
theorem dX12_wayTo_12 : decode cX12_wayTo 12 = .ok (.lsub, 1) := by decide +kernel
theorem dX12_wayTo_13 : decode cX12_wayTo 13 = .ok (.lstore_n 3, 1) := by decide +kernel
theorem dX12_wayTo_14 : decode cX12_wayTo 14 = .ok (.aload_n 0, 1) := by decide +kernel
theorem dX12_wayTo_15 : decode cX12_wayTo 15 = .ok (.getfield 224, 3) := by decide +kernel
theorem dX12_wayTo_18 : decode cX12_wayTo 18 = .ok (.iload_n 2, 1) := by decide +kernel
theorem dX12_wayTo_19 : decode cX12_wayTo 19 = .ok (.laload, 1) := by decide +kernel
theorem dX12_wayTo_20 : decode cX12_wayTo 20 = .ok (.aload_n 0, 1) := by decide +kernel
theorem dX12_wayTo_21 : decode cX12_wayTo 21 = .ok (.getfield 224, 3) := by decide +kernel
theorem dX12_wayTo_24 : decode cX12_wayTo 24 = .ok (.iload_n 1, 1) := by decide +kernel
theorem dX12_wayTo_25 : decode cX12_wayTo 25 = .ok (.laload, 1) := by decide +kernel
theorem dX12_wayTo_26 : decode cX12_wayTo 26 = .ok (.lsub, 1) := by decide +kernel
theorem dX12_wayTo_27 : decode cX12_wayTo 27 = .ok (.lstore 5, 2) := by decide +kernel
theorem dX12_wayTo_29 : decode cX12_wayTo 29 = .ok (.lload_n 3, 1) := by decide +kernel
theorem dX12_wayTo_30 : decode cX12_wayTo 30 = .ok (.lconst 0, 1) := by decide +kernel
theorem dX12_wayTo_31 : decode cX12_wayTo 31 = .ok (.lcmp, 1) := by decide +kernel
theorem dX12_wayTo_32 : decode cX12_wayTo 32 = .ok (.ifCond .ge 8, 3) := by decide +kernel
theorem dX12_wayTo_35 : decode cX12_wayTo 35 = .ok (.lload_n 3, 1) := by decide +kernel
theorem dX12_wayTo_36 : decode cX12_wayTo 36 = .ok (.lneg, 1) := by decide +kernel
theorem dX12_wayTo_37 : decode cX12_wayTo 37 = .ok (.goto 4, 3) := by decide +kernel
theorem dX12_wayTo_40 : decode cX12_wayTo 40 = .ok (.lload_n 3, 1) := by decide +kernel
theorem dX12_wayTo_41 : decode cX12_wayTo 41 = .ok (.lload 5, 2) := by decide +kernel
theorem dX12_wayTo_43 : decode cX12_wayTo 43 = .ok (.lconst 0, 1) := by decide +kernel
theorem dX12_wayTo_44 : decode cX12_wayTo 44 = .ok (.lcmp, 1) := by decide +kernel
theorem dX12_wayTo_45 : decode cX12_wayTo 45 = .ok (.ifCond .ge 9, 3) := by decide +kernel
theorem dX12_wayTo_48 : decode cX12_wayTo 48 = .ok (.lload 5, 2) := by decide +kernel
theorem dX12_wayTo_50 : decode cX12_wayTo 50 = .ok (.lneg, 1) := by decide +kernel
theorem dX12_wayTo_51 : decode cX12_wayTo 51 = .ok (.goto 5, 3) := by decide +kernel
theorem dX12_wayTo_54 : decode cX12_wayTo 54 = .ok (.lload 5, 2) := by decide +kernel
theorem dX12_wayTo_56 : decode cX12_wayTo 56 = .ok (.ladd, 1) := by decide +kernel
theorem dX12_wayTo_57 : decode cX12_wayTo 57 = .ok (.lreturn, 1) := by decide +kernel
theorem dX12_hullBehind_0 : decode cX12_hullBehind 0 = .ok (.iconst (-1), 1) := by decide +kernel
theorem dX12_hullBehind_1 : decode cX12_hullBehind 1 = .ok (.istore_n 3, 1) := by decide +kernel
theorem dX12_hullBehind_2 : decode cX12_hullBehind 2 = .ok (.iconst 0, 1) := by decide +kernel
theorem dX12_hullBehind_3 : decode cX12_hullBehind 3 = .ok (.istore 4, 2) := by decide +kernel
theorem dX12_hullBehind_5 : decode cX12_hullBehind 5 = .ok (.iload 4, 2) := by decide +kernel
theorem dX12_hullBehind_7 : decode cX12_hullBehind 7 = .ok (.aload_n 0, 1) := by decide +kernel
theorem dX12_hullBehind_8 : decode cX12_hullBehind 8 = .ok (.getfield 1040, 3) := by decide +kernel
theorem dX12_hullBehind_11 : decode cX12_hullBehind 11 = .ok (.if_icmp .ge 82, 3) := by decide +kernel
theorem dX12_hullBehind_14 : decode cX12_hullBehind 14 = .ok (.iload 4, 2) := by decide +kernel
theorem dX12_hullBehind_16 : decode cX12_hullBehind 16 = .ok (.iload_n 1, 1) := by decide +kernel
theorem dX12_hullBehind_17 : decode cX12_hullBehind 17 = .ok (.if_icmp .ne 6, 3) := by decide +kernel
theorem dX12_hullBehind_20 : decode cX12_hullBehind 20 = .ok (.goto 67, 3) := by decide +kernel
theorem dX12_hullBehind_23 : decode cX12_hullBehind 23 = .ok (.iload_n 3, 1) := by decide +kernel
theorem dX12_hullBehind_24 : decode cX12_hullBehind 24 = .ok (.iconst (-1), 1) := by decide +kernel
theorem dX12_hullBehind_25 : decode cX12_hullBehind 25 = .ok (.if_icmp .ne 9, 3) := by decide +kernel
theorem dX12_hullBehind_28 : decode cX12_hullBehind 28 = .ok (.iload 4, 2) := by decide +kernel
theorem dX12_hullBehind_30 : decode cX12_hullBehind 30 = .ok (.istore_n 3, 1) := by decide +kernel
theorem dX12_hullBehind_31 : decode cX12_hullBehind 31 = .ok (.goto 56, 3) := by decide +kernel
theorem dX12_hullBehind_34 : decode cX12_hullBehind 34 = .ok (.aload_n 0, 1) := by decide +kernel
theorem dX12_hullBehind_35 : decode cX12_hullBehind 35 = .ok (.iload_n 1, 1) := by decide +kernel
theorem dX12_hullBehind_36 : decode cX12_hullBehind 36 = .ok (.iload_n 3, 1) := by decide +kernel
theorem dX12_hullBehind_37 : decode cX12_hullBehind 37 = .ok (.iload 4, 2) := by decide +kernel
theorem dX12_hullBehind_39 : decode cX12_hullBehind 39 = .ok (.invokevirtual 1046, 3) := by decide +kernel
theorem dX12_hullBehind_42 : decode cX12_hullBehind 42 = .ok (.istore 5, 2) := by decide +kernel
theorem dX12_hullBehind_44 : decode cX12_hullBehind 44 = .ok (.aload_n 0, 1) := by decide +kernel
theorem dX12_hullBehind_45 : decode cX12_hullBehind 45 = .ok (.iload_n 1, 1) := by decide +kernel
theorem dX12_hullBehind_46 : decode cX12_hullBehind 46 = .ok (.iload 4, 2) := by decide +kernel
theorem dX12_hullBehind_48 : decode cX12_hullBehind 48 = .ok (.invokevirtual 1049, 3) := by decide +kernel
theorem dX12_hullBehind_51 : decode cX12_hullBehind 51 = .ok (.aload_n 0, 1) := by decide +kernel
theorem dX12_hullBehind_52 : decode cX12_hullBehind 52 = .ok (.iload_n 1, 1) := by decide +kernel
theorem dX12_hullBehind_53 : decode cX12_hullBehind 53 = .ok (.iload_n 3, 1) := by decide +kernel
theorem dX12_hullBehind_54 : decode cX12_hullBehind 54 = .ok (.invokevirtual 1049, 3) := by decide +kernel
theorem dX12_hullBehind_57 : decode cX12_hullBehind 57 = .ok (.lcmp, 1) := by decide +kernel
theorem dX12_hullBehind_58 : decode cX12_hullBehind 58 = .ok (.ifCond .ge 7, 3) := by decide +kernel
theorem dX12_hullBehind_61 : decode cX12_hullBehind 61 = .ok (.iconst 1, 1) := by decide +kernel
theorem dX12_hullBehind_62 : decode cX12_hullBehind 62 = .ok (.goto 4, 3) := by decide +kernel
theorem dX12_hullBehind_65 : decode cX12_hullBehind 65 = .ok (.iconst 0, 1) := by decide +kernel
theorem dX12_hullBehind_66 : decode cX12_hullBehind 66 = .ok (.istore 6, 2) := by decide +kernel
theorem dX12_hullBehind_68 : decode cX12_hullBehind 68 = .ok (.iload 5, 2) := by decide +kernel
theorem dX12_hullBehind_70 : decode cX12_hullBehind 70 = .ok (.ifCond .lt 14, 3) := by decide +kernel
theorem dX12_hullBehind_73 : decode cX12_hullBehind 73 = .ok (.iload 5, 2) := by decide +kernel
theorem dX12_hullBehind_75 : decode cX12_hullBehind 75 = .ok (.ifCond .ne 12, 3) := by decide +kernel
theorem dX12_hullBehind_78 : decode cX12_hullBehind 78 = .ok (.iload 6, 2) := by decide +kernel
theorem dX12_hullBehind_80 : decode cX12_hullBehind 80 = .ok (.iload_n 2, 1) := by decide +kernel
theorem dX12_hullBehind_81 : decode cX12_hullBehind 81 = .ok (.if_icmp .ne 6, 3) := by decide +kernel
theorem dX12_hullBehind_84 : decode cX12_hullBehind 84 = .ok (.iload 4, 2) := by decide +kernel
theorem dX12_hullBehind_86 : decode cX12_hullBehind 86 = .ok (.istore_n 3, 1) := by decide +kernel
theorem dX12_hullBehind_87 : decode cX12_hullBehind 87 = .ok (.iinc 4 1, 3) := by decide +kernel
theorem dX12_hullBehind_90 : decode cX12_hullBehind 90 = .ok (.goto (-85), 3) := by decide +kernel
theorem dX12_hullBehind_93 : decode cX12_hullBehind 93 = .ok (.iload_n 3, 1) := by decide +kernel
theorem dX12_hullBehind_94 : decode cX12_hullBehind 94 = .ok (.ireturn, 1) := by decide +kernel
theorem dX12_wraps_0 : decode cX12_wraps 0 = .ok (.aload_n 0, 1) := by decide +kernel
theorem dX12_wraps_1 : decode cX12_wraps 1 = .ok (.iconst 0, 1) := by decide +kernel
theorem dX12_wraps_2 : decode cX12_wraps 2 = .ok (.putfield 1052, 3) := by decide +kernel
theorem dX12_wraps_5 : decode cX12_wraps 5 = .ok (.aload_n 0, 1) := by decide +kernel
theorem dX12_wraps_6 : decode cX12_wraps 6 = .ok (.getfield 1040, 3) := by decide +kernel
theorem dX12_wraps_9 : decode cX12_wraps 9 = .ok (.ifCond .ne 4, 3) := by decide +kernel
theorem dX12_wraps_12 : decode cX12_wraps 12 = .ok (.return_, 1) := by decide +kernel
theorem dX12_wraps_13 : decode cX12_wraps 13 = .ok (.aload_n 0, 1) := by decide +kernel
theorem dX12_wraps_14 : decode cX12_wraps 14 = .ok (.invokevirtual 1055, 3) := by decide +kernel
theorem dX12_wraps_17 : decode cX12_wraps 17 = .ok (.istore_n 1, 1) := by decide +kernel
theorem dX12_wraps_18 : decode cX12_wraps 18 = .ok (.iload_n 1, 1) := by decide +kernel
theorem dX12_wraps_19 : decode cX12_wraps 19 = .ok (.istore_n 2, 1) := by decide +kernel
theorem dX12_wraps_20 : decode cX12_wraps 20 = .ok (.iconst 0, 1) := by decide +kernel
theorem dX12_wraps_21 : decode cX12_wraps 21 = .ok (.istore_n 3, 1) := by decide +kernel
theorem dX12_wraps_22 : decode cX12_wraps 22 = .ok (.iload_n 3, 1) := by decide +kernel
theorem dX12_wraps_23 : decode cX12_wraps 23 = .ok (.aload_n 0, 1) := by decide +kernel
theorem dX12_wraps_24 : decode cX12_wraps 24 = .ok (.getfield 1040, 3) := by decide +kernel
theorem dX12_wraps_27 : decode cX12_wraps 27 = .ok (.if_icmp .ge 54, 3) := by decide +kernel
theorem dX12_wraps_30 : decode cX12_wraps 30 = .ok (.aload_n 0, 1) := by decide +kernel
theorem dX12_wraps_31 : decode cX12_wraps 31 = .ok (.getfield 227, 3) := by decide +kernel
theorem dX12_wraps_34 : decode cX12_wraps 34 = .ok (.aload_n 0, 1) := by decide +kernel
theorem dX12_wraps_35 : decode cX12_wraps 35 = .ok (.getfield 1052, 3) := by decide +kernel
theorem dX12_wraps_38 : decode cX12_wraps 38 = .ok (.iload_n 2, 1) := by decide +kernel
theorem dX12_wraps_39 : decode cX12_wraps 39 = .ok (.iastore, 1) := by decide +kernel
theorem dX12_wraps_40 : decode cX12_wraps 40 = .ok (.aload_n 0, 1) := by decide +kernel
theorem dX12_wraps_41 : decode cX12_wraps 41 = .ok (.dup, 1) := by decide +kernel
theorem dX12_wraps_42 : decode cX12_wraps 42 = .ok (.getfield 1052, 3) := by decide +kernel
theorem dX12_wraps_45 : decode cX12_wraps 45 = .ok (.iconst 1, 1) := by decide +kernel
theorem dX12_wraps_46 : decode cX12_wraps 46 = .ok (.iadd, 1) := by decide +kernel
theorem dX12_wraps_47 : decode cX12_wraps 47 = .ok (.putfield 1052, 3) := by decide +kernel
theorem dX12_wraps_50 : decode cX12_wraps 50 = .ok (.aload_n 0, 1) := by decide +kernel
theorem dX12_wraps_51 : decode cX12_wraps 51 = .ok (.getfield 1040, 3) := by decide +kernel
theorem dX12_wraps_54 : decode cX12_wraps 54 = .ok (.iconst 1, 1) := by decide +kernel
theorem dX12_wraps_55 : decode cX12_wraps 55 = .ok (.if_icmp .le 12, 3) := by decide +kernel
theorem dX12_wraps_58 : decode cX12_wraps 58 = .ok (.aload_n 0, 1) := by decide +kernel
theorem dX12_wraps_59 : decode cX12_wraps 59 = .ok (.iload_n 2, 1) := by decide +kernel
theorem dX12_wraps_60 : decode cX12_wraps 60 = .ok (.iconst 0, 1) := by decide +kernel
theorem dX12_wraps_61 : decode cX12_wraps 61 = .ok (.invokevirtual 1058, 3) := by decide +kernel
theorem dX12_wraps_64 : decode cX12_wraps 64 = .ok (.goto 4, 3) := by decide +kernel
theorem dX12_wraps_67 : decode cX12_wraps 67 = .ok (.iload_n 1, 1) := by decide +kernel
theorem dX12_wraps_68 : decode cX12_wraps 68 = .ok (.istore_n 2, 1) := by decide +kernel
theorem dX12_wraps_69 : decode cX12_wraps 69 = .ok (.iload_n 2, 1) := by decide +kernel
theorem dX12_wraps_70 : decode cX12_wraps 70 = .ok (.iload_n 1, 1) := by decide +kernel
theorem dX12_wraps_71 : decode cX12_wraps 71 = .ok (.if_icmp .ne 4, 3) := by decide +kernel
theorem dX12_wraps_74 : decode cX12_wraps 74 = .ok (.return_, 1) := by decide +kernel
theorem dX12_wraps_75 : decode cX12_wraps 75 = .ok (.iinc 3 1, 3) := by decide +kernel
theorem dX12_wraps_78 : decode cX12_wraps 78 = .ok (.goto (-56), 3) := by decide +kernel
theorem dX12_wraps_81 : decode cX12_wraps 81 = .ok (.return_, 1) := by decide +kernel
theorem dX12_hull_0 : decode cX12_hull 0 = .ok (.aload_n 0, 1) := by decide +kernel
theorem dX12_hull_1 : decode cX12_hull 1 = .ok (.iconst 0, 1) := by decide +kernel
theorem dX12_hull_2 : decode cX12_hull 2 = .ok (.putfield 271, 3) := by decide +kernel
theorem dX12_hull_5 : decode cX12_hull 5 = .ok (.aload_n 0, 1) := by decide +kernel
theorem dX12_hull_6 : decode cX12_hull 6 = .ok (.iload_n 1, 1) := by decide +kernel
theorem dX12_hull_7 : decode cX12_hull 7 = .ok (.invokestatic 440, 3) := by decide +kernel
theorem dX12_hull_10 : decode cX12_hull 10 = .ok (.ifCond .eq 10, 3) := by decide +kernel
theorem dX12_hull_13 : decode cX12_hull 13 = .ok (.iload_n 2, 1) := by decide +kernel
theorem dX12_hull_14 : decode cX12_hull 14 = .ok (.invokestatic 440, 3) := by decide +kernel
theorem dX12_hull_17 : decode cX12_hull 17 = .ok (.ifCond .ne 7, 3) := by decide +kernel
theorem dX12_hull_20 : decode cX12_hull 20 = .ok (.iconst 1, 1) := by decide +kernel
theorem dX12_hull_21 : decode cX12_hull 21 = .ok (.goto 4, 3) := by decide +kernel
theorem dX12_hull_24 : decode cX12_hull 24 = .ok (.iconst 0, 1) := by decide +kernel
theorem dX12_hull_25 : decode cX12_hull 25 = .ok (.iconst 1, 1) := by decide +kernel
theorem dX12_hull_26 : decode cX12_hull 26 = .ok (.invokevirtual 277, 3) := by decide +kernel
theorem dX12_hull_29 : decode cX12_hull 29 = .ok (.ifCond .ne 45, 3) := by decide +kernel
theorem dX12_hull_32 : decode cX12_hull 32 = .ok (.aload_n 0, 1) := by decide +kernel
theorem dX12_hull_33 : decode cX12_hull 33 = .ok (.aload_n 0, 1) := by decide +kernel
theorem dX12_hull_34 : decode cX12_hull 34 = .ok (.iload_n 1, 1) := by decide +kernel
theorem dX12_hull_35 : decode cX12_hull 35 = .ok (.invokevirtual 545, 3) := by decide +kernel
theorem dX12_hull_38 : decode cX12_hull 38 = .ok (.ifCond .ne 7, 3) := by decide +kernel
theorem dX12_hull_41 : decode cX12_hull 41 = .ok (.iconst 1, 1) := by decide +kernel
theorem dX12_hull_42 : decode cX12_hull 42 = .ok (.goto 4, 3) := by decide +kernel
theorem dX12_hull_45 : decode cX12_hull 45 = .ok (.iconst 0, 1) := by decide +kernel
theorem dX12_hull_46 : decode cX12_hull 46 = .ok (.iconst 2, 1) := by decide +kernel
theorem dX12_hull_47 : decode cX12_hull 47 = .ok (.invokevirtual 277, 3) := by decide +kernel
theorem dX12_hull_50 : decode cX12_hull 50 = .ok (.ifCond .ne 24, 3) := by decide +kernel
theorem dX12_hull_53 : decode cX12_hull 53 = .ok (.aload_n 0, 1) := by decide +kernel
theorem dX12_hull_54 : decode cX12_hull 54 = .ok (.aload_n 0, 1) := by decide +kernel
theorem dX12_hull_55 : decode cX12_hull 55 = .ok (.iload_n 1, 1) := by decide +kernel
theorem dX12_hull_56 : decode cX12_hull 56 = .ok (.invokevirtual 1061, 3) := by decide +kernel
theorem dX12_hull_59 : decode cX12_hull 59 = .ok (.ifCond .ne 7, 3) := by decide +kernel
theorem dX12_hull_62 : decode cX12_hull 62 = .ok (.iconst 1, 1) := by decide +kernel
theorem dX12_hull_63 : decode cX12_hull 63 = .ok (.goto 4, 3) := by decide +kernel
theorem dX12_hull_66 : decode cX12_hull 66 = .ok (.iconst 0, 1) := by decide +kernel
theorem dX12_hull_67 : decode cX12_hull 67 = .ok (.iconst 3, 1) := by decide +kernel
theorem dX12_hull_68 : decode cX12_hull 68 = .ok (.invokevirtual 277, 3) := by decide +kernel
theorem dX12_hull_71 : decode cX12_hull 71 = .ok (.ifCond .eq 5, 3) := by decide +kernel
theorem dX12_hull_74 : decode cX12_hull 74 = .ok (.iconst 0, 1) := by decide +kernel
theorem dX12_hull_75 : decode cX12_hull 75 = .ok (.ireturn, 1) := by decide +kernel
theorem dX12_hull_76 : decode cX12_hull 76 = .ok (.aload_n 0, 1) := by decide +kernel
theorem dX12_hull_77 : decode cX12_hull 77 = .ok (.invokevirtual 1064, 3) := by decide +kernel
theorem dX12_hull_80 : decode cX12_hull 80 = .ok (.aload_n 0, 1) := by decide +kernel
theorem dX12_hull_81 : decode cX12_hull 81 = .ok (.bipush 32, 2) := by decide +kernel
theorem dX12_hull_83 : decode cX12_hull 83 = .ok (.invokevirtual 358, 3) := by decide +kernel
theorem dX12_hull_86 : decode cX12_hull 86 = .ok (.aload_n 0, 1) := by decide +kernel
theorem dX12_hull_87 : decode cX12_hull 87 = .ok (.aload_n 0, 1) := by decide +kernel
theorem dX12_hull_88 : decode cX12_hull 88 = .ok (.getfield 1052, 3) := by decide +kernel
theorem dX12_hull_91 : decode cX12_hull 91 = .ok (.ifCond .ne 8, 3) := by decide +kernel
theorem dX12_hull_94 : decode cX12_hull 94 = .ok (.bipush 7, 2) := by decide +kernel
theorem dX12_hull_96 : decode cX12_hull 96 = .ok (.goto 19, 3) := by decide +kernel
theorem dX12_hull_99 : decode cX12_hull 99 = .ok (.aload_n 0, 1) := by decide +kernel
theorem dX12_hull_100 : decode cX12_hull 100 = .ok (.getfield 1052, 3) := by decide +kernel
theorem dX12_hull_103 : decode cX12_hull 103 = .ok (.iconst 2, 1) := by decide +kernel
theorem dX12_hull_104 : decode cX12_hull 104 = .ok (.if_icmp .le 7, 3) := by decide +kernel
theorem dX12_hull_107 : decode cX12_hull 107 = .ok (.iconst 3, 1) := by decide +kernel
theorem dX12_hull_108 : decode cX12_hull 108 = .ok (.goto 7, 3) := by decide +kernel
theorem dX12_hull_111 : decode cX12_hull 111 = .ok (.aload_n 0, 1) := by decide +kernel
theorem dX12_hull_112 : decode cX12_hull 112 = .ok (.getfield 1052, 3) := by decide +kernel
theorem dX12_hull_115 : decode cX12_hull 115 = .ok (.invokevirtual 352, 3) := by decide +kernel
theorem dX12_hull_118 : decode cX12_hull 118 = .ok (.aload_n 0, 1) := by decide +kernel
theorem dX12_hull_119 : decode cX12_hull 119 = .ok (.aload_n 0, 1) := by decide +kernel
theorem dX12_hull_120 : decode cX12_hull 120 = .ok (.getfield 1052, 3) := by decide +kernel
theorem dX12_hull_123 : decode cX12_hull 123 = .ok (.iconst 2, 1) := by decide +kernel
theorem dX12_hull_124 : decode cX12_hull 124 = .ok (.if_icmp .le 7, 3) := by decide +kernel
theorem dX12_hull_127 : decode cX12_hull 127 = .ok (.iconst 1, 1) := by decide +kernel
theorem dX12_hull_128 : decode cX12_hull 128 = .ok (.goto 7, 3) := by decide +kernel
theorem dX12_hull_131 : decode cX12_hull 131 = .ok (.aload_n 0, 1) := by decide +kernel
theorem dX12_hull_132 : decode cX12_hull 132 = .ok (.getfield 1052, 3) := by decide +kernel
theorem dX12_hull_135 : decode cX12_hull 135 = .ok (.invokevirtual 352, 3) := by decide +kernel
theorem dX12_hull_138 : decode cX12_hull 138 = .ok (.aload_n 0, 1) := by decide +kernel
theorem dX12_hull_139 : decode cX12_hull 139 = .ok (.getfield 1052, 3) := by decide +kernel
theorem dX12_hull_142 : decode cX12_hull 142 = .ok (.iconst 2, 1) := by decide +kernel
theorem dX12_hull_143 : decode cX12_hull 143 = .ok (.if_icmp .le 13, 3) := by decide +kernel
theorem dX12_hull_146 : decode cX12_hull 146 = .ok (.aload_n 0, 1) := by decide +kernel
theorem dX12_hull_147 : decode cX12_hull 147 = .ok (.aload_n 0, 1) := by decide +kernel
theorem dX12_hull_148 : decode cX12_hull 148 = .ok (.getfield 1052, 3) := by decide +kernel
theorem dX12_hull_151 : decode cX12_hull 151 = .ok (.iconst 1, 1) := by decide +kernel
theorem dX12_hull_152 : decode cX12_hull 152 = .ok (.iadd, 1) := by decide +kernel
theorem dX12_hull_153 : decode cX12_hull 153 = .ok (.invokevirtual 352, 3) := by decide +kernel
theorem dX12_hull_156 : decode cX12_hull 156 = .ok (.iconst 0, 1) := by decide +kernel
theorem dX12_hull_157 : decode cX12_hull 157 = .ok (.istore_n 3, 1) := by decide +kernel
theorem dX12_hull_158 : decode cX12_hull 158 = .ok (.iload_n 3, 1) := by decide +kernel
theorem dX12_hull_159 : decode cX12_hull 159 = .ok (.aload_n 0, 1) := by decide +kernel
theorem dX12_hull_160 : decode cX12_hull 160 = .ok (.getfield 1052, 3) := by decide +kernel
theorem dX12_hull_163 : decode cX12_hull 163 = .ok (.if_icmp .ge 35, 3) := by decide +kernel
theorem dX12_hull_166 : decode cX12_hull 166 = .ok (.aload_n 0, 1) := by decide +kernel
theorem dX12_hull_167 : decode cX12_hull 167 = .ok (.aload_n 0, 1) := by decide +kernel
theorem dX12_hull_168 : decode cX12_hull 168 = .ok (.getfield 221, 3) := by decide +kernel
theorem dX12_hull_171 : decode cX12_hull 171 = .ok (.aload_n 0, 1) := by decide +kernel
theorem dX12_hull_172 : decode cX12_hull 172 = .ok (.getfield 227, 3) := by decide +kernel
theorem dX12_hull_175 : decode cX12_hull 175 = .ok (.iload_n 3, 1) := by decide +kernel
theorem dX12_hull_176 : decode cX12_hull 176 = .ok (.iaload, 1) := by decide +kernel
theorem dX12_hull_177 : decode cX12_hull 177 = .ok (.laload, 1) := by decide +kernel
theorem dX12_hull_178 : decode cX12_hull 178 = .ok (.aload_n 0, 1) := by decide +kernel
theorem dX12_hull_179 : decode cX12_hull 179 = .ok (.getfield 224, 3) := by decide +kernel
theorem dX12_hull_182 : decode cX12_hull 182 = .ok (.aload_n 0, 1) := by decide +kernel
theorem dX12_hull_183 : decode cX12_hull 183 = .ok (.getfield 227, 3) := by decide +kernel
theorem dX12_hull_186 : decode cX12_hull 186 = .ok (.iload_n 3, 1) := by decide +kernel
theorem dX12_hull_187 : decode cX12_hull 187 = .ok (.iaload, 1) := by decide +kernel
theorem dX12_hull_188 : decode cX12_hull 188 = .ok (.laload, 1) := by decide +kernel
theorem dX12_hull_189 : decode cX12_hull 189 = .ok (.invokevirtual 412, 3) := by decide +kernel
theorem dX12_hull_192 : decode cX12_hull 192 = .ok (.iinc 3 1, 3) := by decide +kernel
theorem dX12_hull_195 : decode cX12_hull 195 = .ok (.goto (-37), 3) := by decide +kernel
theorem dX12_hull_198 : decode cX12_hull 198 = .ok (.aload_n 0, 1) := by decide +kernel
theorem dX12_hull_199 : decode cX12_hull 199 = .ok (.getfield 1052, 3) := by decide +kernel
theorem dX12_hull_202 : decode cX12_hull 202 = .ok (.iconst 2, 1) := by decide +kernel
theorem dX12_hull_203 : decode cX12_hull 203 = .ok (.if_icmp .le 29, 3) := by decide +kernel
theorem dX12_hull_206 : decode cX12_hull 206 = .ok (.aload_n 0, 1) := by decide +kernel
theorem dX12_hull_207 : decode cX12_hull 207 = .ok (.aload_n 0, 1) := by decide +kernel
theorem dX12_hull_208 : decode cX12_hull 208 = .ok (.getfield 221, 3) := by decide +kernel
theorem dX12_hull_211 : decode cX12_hull 211 = .ok (.aload_n 0, 1) := by decide +kernel
theorem dX12_hull_212 : decode cX12_hull 212 = .ok (.getfield 227, 3) := by decide +kernel
theorem dX12_hull_215 : decode cX12_hull 215 = .ok (.iconst 0, 1) := by decide +kernel
theorem dX12_hull_216 : decode cX12_hull 216 = .ok (.iaload, 1) := by decide +kernel
theorem dX12_hull_217 : decode cX12_hull 217 = .ok (.laload, 1) := by decide +kernel
theorem dX12_hull_218 : decode cX12_hull 218 = .ok (.aload_n 0, 1) := by decide +kernel
theorem dX12_hull_219 : decode cX12_hull 219 = .ok (.getfield 224, 3) := by decide +kernel
theorem dX12_hull_222 : decode cX12_hull 222 = .ok (.aload_n 0, 1) := by decide +kernel
theorem dX12_hull_223 : decode cX12_hull 223 = .ok (.getfield 227, 3) := by decide +kernel
theorem dX12_hull_226 : decode cX12_hull 226 = .ok (.iconst 0, 1) := by decide +kernel
theorem dX12_hull_227 : decode cX12_hull 227 = .ok (.iaload, 1) := by decide +kernel
theorem dX12_hull_228 : decode cX12_hull 228 = .ok (.laload, 1) := by decide +kernel
theorem dX12_hull_229 : decode cX12_hull 229 = .ok (.invokevirtual 412, 3) := by decide +kernel
theorem dX12_hull_232 : decode cX12_hull 232 = .ok (.aload_n 0, 1) := by decide +kernel
theorem dX12_hull_233 : decode cX12_hull 233 = .ok (.bipush 32, 2) := by decide +kernel
theorem dX12_hull_235 : decode cX12_hull 235 = .ok (.iload_n 2, 1) := by decide +kernel
theorem dX12_hull_236 : decode cX12_hull 236 = .ok (.invokevirtual 449, 3) := by decide +kernel
theorem dX12_hull_239 : decode cX12_hull 239 = .ok (.aload_n 0, 1) := by decide +kernel
theorem dX12_hull_240 : decode cX12_hull 240 = .ok (.getfield 1052, 3) := by decide +kernel
theorem dX12_hull_243 : decode cX12_hull 243 = .ok (.ireturn, 1) := by decide +kernel
theorem dX12_inCircle_0 : decode cX12_inCircle 0 = .ok (.aload_n 0, 1) := by decide +kernel
theorem dX12_inCircle_1 : decode cX12_inCircle 1 = .ok (.iconst 0, 1) := by decide +kernel
theorem dX12_inCircle_2 : decode cX12_inCircle 2 = .ok (.aload_n 0, 1) := by decide +kernel
theorem dX12_inCircle_3 : decode cX12_inCircle 3 = .ok (.getfield 221, 3) := by decide +kernel
theorem dX12_inCircle_6 : decode cX12_inCircle 6 = .ok (.iload_n 1, 1) := by decide +kernel
theorem dX12_inCircle_7 : decode cX12_inCircle 7 = .ok (.laload, 1) := by decide +kernel
theorem dX12_inCircle_8 : decode cX12_inCircle 8 = .ok (.aload_n 0, 1) := by decide +kernel
theorem dX12_inCircle_9 : decode cX12_inCircle 9 = .ok (.getfield 221, 3) := by decide +kernel
theorem dX12_inCircle_12 : decode cX12_inCircle 12 = .ok (.iload 4, 2) := by decide +kernel
theorem dX12_inCircle_14 : decode cX12_inCircle 14 = .ok (.laload, 1) := by decide +kernel
theorem dX12_inCircle_15 : decode cX12_inCircle 15 = .ok (.lsub, 1) := by decide +kernel
theorem dX12_inCircle_16 : decode cX12_inCircle 16 = .ok (.invokevirtual 635, 3) := by decide +kernel
theorem dX12_inCircle_19 : decode cX12_inCircle 19 = .ok (.aload_n 0, 1) := by decide +kernel
theorem dX12_inCircle_20 : decode cX12_inCircle 20 = .ok (.iconst 1, 1) := by decide +kernel
theorem dX12_inCircle_21 : decode cX12_inCircle 21 = .ok (.aload_n 0, 1) := by decide +kernel
theorem dX12_inCircle_22 : decode cX12_inCircle 22 = .ok (.getfield 224, 3) := by decide +kernel
theorem dX12_inCircle_25 : decode cX12_inCircle 25 = .ok (.iload_n 1, 1) := by decide +kernel
theorem dX12_inCircle_26 : decode cX12_inCircle 26 = .ok (.laload, 1) := by decide +kernel
theorem dX12_inCircle_27 : decode cX12_inCircle 27 = .ok (.aload_n 0, 1) := by decide +kernel
theorem dX12_inCircle_28 : decode cX12_inCircle 28 = .ok (.getfield 224, 3) := by decide +kernel
theorem dX12_inCircle_31 : decode cX12_inCircle 31 = .ok (.iload 4, 2) := by decide +kernel
theorem dX12_inCircle_33 : decode cX12_inCircle 33 = .ok (.laload, 1) := by decide +kernel
theorem dX12_inCircle_34 : decode cX12_inCircle 34 = .ok (.lsub, 1) := by decide +kernel
theorem dX12_inCircle_35 : decode cX12_inCircle 35 = .ok (.invokevirtual 635, 3) := by decide +kernel
theorem dX12_inCircle_38 : decode cX12_inCircle 38 = .ok (.aload_n 0, 1) := by decide +kernel
theorem dX12_inCircle_39 : decode cX12_inCircle 39 = .ok (.iconst 3, 1) := by decide +kernel
theorem dX12_inCircle_40 : decode cX12_inCircle 40 = .ok (.aload_n 0, 1) := by decide +kernel
theorem dX12_inCircle_41 : decode cX12_inCircle 41 = .ok (.getfield 221, 3) := by decide +kernel
theorem dX12_inCircle_44 : decode cX12_inCircle 44 = .ok (.iload_n 2, 1) := by decide +kernel
theorem dX12_inCircle_45 : decode cX12_inCircle 45 = .ok (.laload, 1) := by decide +kernel
theorem dX12_inCircle_46 : decode cX12_inCircle 46 = .ok (.aload_n 0, 1) := by decide +kernel
theorem dX12_inCircle_47 : decode cX12_inCircle 47 = .ok (.getfield 221, 3) := by decide +kernel
theorem dX12_inCircle_50 : decode cX12_inCircle 50 = .ok (.iload 4, 2) := by decide +kernel
theorem dX12_inCircle_52 : decode cX12_inCircle 52 = .ok (.laload, 1) := by decide +kernel
theorem dX12_inCircle_53 : decode cX12_inCircle 53 = .ok (.lsub, 1) := by decide +kernel
theorem dX12_inCircle_54 : decode cX12_inCircle 54 = .ok (.invokevirtual 635, 3) := by decide +kernel
theorem dX12_inCircle_57 : decode cX12_inCircle 57 = .ok (.aload_n 0, 1) := by decide +kernel
theorem dX12_inCircle_58 : decode cX12_inCircle 58 = .ok (.iconst 4, 1) := by decide +kernel
theorem dX12_inCircle_59 : decode cX12_inCircle 59 = .ok (.aload_n 0, 1) := by decide +kernel
theorem dX12_inCircle_60 : decode cX12_inCircle 60 = .ok (.getfield 224, 3) := by decide +kernel
theorem dX12_inCircle_63 : decode cX12_inCircle 63 = .ok (.iload_n 2, 1) := by decide +kernel
theorem dX12_inCircle_64 : decode cX12_inCircle 64 = .ok (.laload, 1) := by decide +kernel
theorem dX12_inCircle_65 : decode cX12_inCircle 65 = .ok (.aload_n 0, 1) := by decide +kernel
theorem dX12_inCircle_66 : decode cX12_inCircle 66 = .ok (.getfield 224, 3) := by decide +kernel
theorem dX12_inCircle_69 : decode cX12_inCircle 69 = .ok (.iload 4, 2) := by decide +kernel
theorem dX12_inCircle_71 : decode cX12_inCircle 71 = .ok (.laload, 1) := by decide +kernel
theorem dX12_inCircle_72 : decode cX12_inCircle 72 = .ok (.lsub, 1) := by decide +kernel
theorem dX12_inCircle_73 : decode cX12_inCircle 73 = .ok (.invokevirtual 635, 3) := by decide +kernel
theorem dX12_inCircle_76 : decode cX12_inCircle 76 = .ok (.aload_n 0, 1) := by decide +kernel
theorem dX12_inCircle_77 : decode cX12_inCircle 77 = .ok (.bipush 6, 2) := by decide +kernel
theorem dX12_inCircle_79 : decode cX12_inCircle 79 = .ok (.aload_n 0, 1) := by decide +kernel
theorem dX12_inCircle_80 : decode cX12_inCircle 80 = .ok (.getfield 221, 3) := by decide +kernel
theorem dX12_inCircle_83 : decode cX12_inCircle 83 = .ok (.iload_n 3, 1) := by decide +kernel
theorem dX12_inCircle_84 : decode cX12_inCircle 84 = .ok (.laload, 1) := by decide +kernel
theorem dX12_inCircle_85 : decode cX12_inCircle 85 = .ok (.aload_n 0, 1) := by decide +kernel
theorem dX12_inCircle_86 : decode cX12_inCircle 86 = .ok (.getfield 221, 3) := by decide +kernel
theorem dX12_inCircle_89 : decode cX12_inCircle 89 = .ok (.iload 4, 2) := by decide +kernel
theorem dX12_inCircle_91 : decode cX12_inCircle 91 = .ok (.laload, 1) := by decide +kernel
theorem dX12_inCircle_92 : decode cX12_inCircle 92 = .ok (.lsub, 1) := by decide +kernel
theorem dX12_inCircle_93 : decode cX12_inCircle 93 = .ok (.invokevirtual 635, 3) := by decide +kernel
theorem dX12_inCircle_96 : decode cX12_inCircle 96 = .ok (.aload_n 0, 1) := by decide +kernel
theorem dX12_inCircle_97 : decode cX12_inCircle 97 = .ok (.bipush 7, 2) := by decide +kernel
theorem dX12_inCircle_99 : decode cX12_inCircle 99 = .ok (.aload_n 0, 1) := by decide +kernel
theorem dX12_inCircle_100 : decode cX12_inCircle 100 = .ok (.getfield 224, 3) := by decide +kernel
theorem dX12_inCircle_103 : decode cX12_inCircle 103 = .ok (.iload_n 3, 1) := by decide +kernel
theorem dX12_inCircle_104 : decode cX12_inCircle 104 = .ok (.laload, 1) := by decide +kernel
theorem dX12_inCircle_105 : decode cX12_inCircle 105 = .ok (.aload_n 0, 1) := by decide +kernel
theorem dX12_inCircle_106 : decode cX12_inCircle 106 = .ok (.getfield 224, 3) := by decide +kernel
theorem dX12_inCircle_109 : decode cX12_inCircle 109 = .ok (.iload 4, 2) := by decide +kernel
theorem dX12_inCircle_111 : decode cX12_inCircle 111 = .ok (.laload, 1) := by decide +kernel
theorem dX12_inCircle_112 : decode cX12_inCircle 112 = .ok (.lsub, 1) := by decide +kernel
theorem dX12_inCircle_113 : decode cX12_inCircle 113 = .ok (.invokevirtual 635, 3) := by decide +kernel
theorem dX12_inCircle_116 : decode cX12_inCircle 116 = .ok (.iconst 0, 1) := by decide +kernel
theorem dX12_inCircle_117 : decode cX12_inCircle 117 = .ok (.istore 5, 2) := by decide +kernel
theorem dX12_inCircle_119 : decode cX12_inCircle 119 = .ok (.iload 5, 2) := by decide +kernel
theorem dX12_inCircle_121 : decode cX12_inCircle 121 = .ok (.iconst 3, 1) := by decide +kernel
theorem dX12_inCircle_122 : decode cX12_inCircle 122 = .ok (.if_icmp .ge 15, 3) := by decide +kernel
theorem dX12_inCircle_125 : decode cX12_inCircle 125 = .ok (.aload_n 0, 1) := by decide +kernel
theorem dX12_inCircle_126 : decode cX12_inCircle 126 = .ok (.iload 5, 2) := by decide +kernel
theorem dX12_inCircle_128 : decode cX12_inCircle 128 = .ok (.invokevirtual 638, 3) := by decide +kernel
theorem dX12_inCircle_131 : decode cX12_inCircle 131 = .ok (.iinc 5 1, 3) := by decide +kernel
theorem dX12_inCircle_134 : decode cX12_inCircle 134 = .ok (.goto (-15), 3) := by decide +kernel
theorem dX12_inCircle_137 : decode cX12_inCircle 137 = .ok (.aload_n 0, 1) := by decide +kernel
theorem dX12_inCircle_138 : decode cX12_inCircle 138 = .ok (.invokevirtual 641, 3) := by decide +kernel
theorem dX12_inCircle_141 : decode cX12_inCircle 141 = .ok (.ireturn, 1) := by decide +kernel
theorem dX12_third_0 : decode cX12_third 0 = .ok (.iconst (-1), 1) := by decide +kernel
theorem dX12_third_1 : decode cX12_third 1 = .ok (.istore_n 3, 1) := by decide +kernel
theorem dX12_third_2 : decode cX12_third 2 = .ok (.iconst 0, 1) := by decide +kernel
theorem dX12_third_3 : decode cX12_third 3 = .ok (.istore 4, 2) := by decide +kernel
theorem dX12_third_5 : decode cX12_third 5 = .ok (.iload 4, 2) := by decide +kernel
theorem dX12_third_7 : decode cX12_third 7 = .ok (.aload_n 0, 1) := by decide +kernel
theorem dX12_third_8 : decode cX12_third 8 = .ok (.getfield 1040, 3) := by decide +kernel
theorem dX12_third_11 : decode cX12_third 11 = .ok (.if_icmp .ge 55, 3) := by decide +kernel
theorem dX12_third_14 : decode cX12_third 14 = .ok (.iload 4, 2) := by decide +kernel
theorem dX12_third_16 : decode cX12_third 16 = .ok (.iload_n 1, 1) := by decide +kernel
theorem dX12_third_17 : decode cX12_third 17 = .ok (.if_icmp .eq 43, 3) := by decide +kernel
theorem dX12_third_20 : decode cX12_third 20 = .ok (.iload 4, 2) := by decide +kernel
theorem dX12_third_22 : decode cX12_third 22 = .ok (.iload_n 2, 1) := by decide +kernel
theorem dX12_third_23 : decode cX12_third 23 = .ok (.if_icmp .eq 37, 3) := by decide +kernel
theorem dX12_third_26 : decode cX12_third 26 = .ok (.aload_n 0, 1) := by decide +kernel
theorem dX12_third_27 : decode cX12_third 27 = .ok (.iload_n 1, 1) := by decide +kernel
theorem dX12_third_28 : decode cX12_third 28 = .ok (.iload_n 2, 1) := by decide +kernel
theorem dX12_third_29 : decode cX12_third 29 = .ok (.iload 4, 2) := by decide +kernel
theorem dX12_third_31 : decode cX12_third 31 = .ok (.invokevirtual 1046, 3) := by decide +kernel
theorem dX12_third_34 : decode cX12_third 34 = .ok (.ifCond .gt 6, 3) := by decide +kernel
theorem dX12_third_37 : decode cX12_third 37 = .ok (.goto 23, 3) := by decide +kernel
theorem dX12_third_40 : decode cX12_third 40 = .ok (.iload_n 3, 1) := by decide +kernel
theorem dX12_third_41 : decode cX12_third 41 = .ok (.iconst (-1), 1) := by decide +kernel
theorem dX12_third_42 : decode cX12_third 42 = .ok (.if_icmp .eq 15, 3) := by decide +kernel
theorem dX12_third_45 : decode cX12_third 45 = .ok (.aload_n 0, 1) := by decide +kernel
theorem dX12_third_46 : decode cX12_third 46 = .ok (.iload_n 1, 1) := by decide +kernel
theorem dX12_third_47 : decode cX12_third 47 = .ok (.iload_n 2, 1) := by decide +kernel
theorem dX12_third_48 : decode cX12_third 48 = .ok (.iload_n 3, 1) := by decide +kernel
theorem dX12_third_49 : decode cX12_third 49 = .ok (.iload 4, 2) := by decide +kernel
theorem dX12_third_51 : decode cX12_third 51 = .ok (.invokevirtual 1067, 3) := by decide +kernel
theorem dX12_third_54 : decode cX12_third 54 = .ok (.ifCond .le 6, 3) := by decide +kernel
theorem dX12_third_57 : decode cX12_third 57 = .ok (.iload 4, 2) := by decide +kernel
theorem dX12_third_59 : decode cX12_third 59 = .ok (.istore_n 3, 1) := by decide +kernel
theorem dX12_third_60 : decode cX12_third 60 = .ok (.iinc 4 1, 3) := by decide +kernel
theorem dX12_third_63 : decode cX12_third 63 = .ok (.goto (-58), 3) := by decide +kernel
theorem dX12_third_66 : decode cX12_third 66 = .ok (.iload_n 3, 1) := by decide +kernel
theorem dX12_third_67 : decode cX12_third 67 = .ok (.ireturn, 1) := by decide +kernel
theorem dX12_gatherCircle_0 : decode cX12_gatherCircle 0 = .ok (.aload_n 0, 1) := by decide +kernel
theorem dX12_gatherCircle_1 : decode cX12_gatherCircle 1 = .ok (.iconst 0, 1) := by decide +kernel
theorem dX12_gatherCircle_2 : decode cX12_gatherCircle 2 = .ok (.putfield 1070, 3) := by decide +kernel
theorem dX12_gatherCircle_5 : decode cX12_gatherCircle 5 = .ok (.aload_n 0, 1) := by decide +kernel
theorem dX12_gatherCircle_6 : decode cX12_gatherCircle 6 = .ok (.iload_n 1, 1) := by decide +kernel
theorem dX12_gatherCircle_7 : decode cX12_gatherCircle 7 = .ok (.iload_n 2, 1) := by decide +kernel
theorem dX12_gatherCircle_8 : decode cX12_gatherCircle 8 = .ok (.invokevirtual 1043, 3) := by decide +kernel
theorem dX12_gatherCircle_11 : decode cX12_gatherCircle 11 = .ok (.ifCond .eq 7, 3) := by decide +kernel
theorem dX12_gatherCircle_14 : decode cX12_gatherCircle 14 = .ok (.iload_n 1, 1) := by decide +kernel
theorem dX12_gatherCircle_15 : decode cX12_gatherCircle 15 = .ok (.goto 4, 3) := by decide +kernel
theorem dX12_gatherCircle_18 : decode cX12_gatherCircle 18 = .ok (.iload_n 2, 1) := by decide +kernel
theorem dX12_gatherCircle_19 : decode cX12_gatherCircle 19 = .ok (.istore 4, 2) := by decide +kernel
theorem dX12_gatherCircle_21 : decode cX12_gatherCircle 21 = .ok (.aload_n 0, 1) := by decide +kernel
theorem dX12_gatherCircle_22 : decode cX12_gatherCircle 22 = .ok (.iload_n 3, 1) := by decide +kernel
theorem dX12_gatherCircle_23 : decode cX12_gatherCircle 23 = .ok (.iload 4, 2) := by decide +kernel
theorem dX12_gatherCircle_25 : decode cX12_gatherCircle 25 = .ok (.invokevirtual 1043, 3) := by decide +kernel
theorem dX12_gatherCircle_28 : decode cX12_gatherCircle 28 = .ok (.ifCond .eq 7, 3) := by decide +kernel
theorem dX12_gatherCircle_31 : decode cX12_gatherCircle 31 = .ok (.iload_n 3, 1) := by decide +kernel
theorem dX12_gatherCircle_32 : decode cX12_gatherCircle 32 = .ok (.goto 5, 3) := by decide +kernel
theorem dX12_gatherCircle_35 : decode cX12_gatherCircle 35 = .ok (.iload 4, 2) := by decide +kernel
theorem dX12_gatherCircle_37 : decode cX12_gatherCircle 37 = .ok (.istore 4, 2) := by decide +kernel
theorem dX12_gatherCircle_39 : decode cX12_gatherCircle 39 = .ok (.iconst 0, 1) := by decide +kernel
theorem dX12_gatherCircle_40 : decode cX12_gatherCircle 40 = .ok (.istore 5, 2) := by decide +kernel
theorem dX12_gatherCircle_42 : decode cX12_gatherCircle 42 = .ok (.iload 5, 2) := by decide +kernel
theorem dX12_gatherCircle_44 : decode cX12_gatherCircle 44 = .ok (.aload_n 0, 1) := by decide +kernel
theorem dX12_gatherCircle_45 : decode cX12_gatherCircle 45 = .ok (.getfield 1040, 3) := by decide +kernel
theorem dX12_gatherCircle_48 : decode cX12_gatherCircle 48 = .ok (.if_icmp .ge 66, 3) := by decide +kernel
theorem dX12_gatherCircle_51 : decode cX12_gatherCircle 51 = .ok (.iload 5, 2) := by decide +kernel
theorem dX12_gatherCircle_53 : decode cX12_gatherCircle 53 = .ok (.iload_n 1, 1) := by decide +kernel
theorem dX12_gatherCircle_54 : decode cX12_gatherCircle 54 = .ok (.if_icmp .eq 27, 3) := by decide +kernel
theorem dX12_gatherCircle_57 : decode cX12_gatherCircle 57 = .ok (.iload 5, 2) := by decide +kernel
theorem dX12_gatherCircle_59 : decode cX12_gatherCircle 59 = .ok (.iload_n 2, 1) := by decide +kernel
theorem dX12_gatherCircle_60 : decode cX12_gatherCircle 60 = .ok (.if_icmp .eq 21, 3) := by decide +kernel
theorem dX12_gatherCircle_63 : decode cX12_gatherCircle 63 = .ok (.iload 5, 2) := by decide +kernel
theorem dX12_gatherCircle_65 : decode cX12_gatherCircle 65 = .ok (.iload_n 3, 1) := by decide +kernel
theorem dX12_gatherCircle_66 : decode cX12_gatherCircle 66 = .ok (.if_icmp .eq 15, 3) := by decide +kernel
theorem dX12_gatherCircle_69 : decode cX12_gatherCircle 69 = .ok (.aload_n 0, 1) := by decide +kernel
theorem dX12_gatherCircle_70 : decode cX12_gatherCircle 70 = .ok (.iload_n 1, 1) := by decide +kernel
theorem dX12_gatherCircle_71 : decode cX12_gatherCircle 71 = .ok (.iload_n 2, 1) := by decide +kernel
theorem dX12_gatherCircle_72 : decode cX12_gatherCircle 72 = .ok (.iload_n 3, 1) := by decide +kernel
theorem dX12_gatherCircle_73 : decode cX12_gatherCircle 73 = .ok (.iload 5, 2) := by decide +kernel
theorem dX12_gatherCircle_75 : decode cX12_gatherCircle 75 = .ok (.invokevirtual 1067, 3) := by decide +kernel
theorem dX12_gatherCircle_78 : decode cX12_gatherCircle 78 = .ok (.ifCond .ne 7, 3) := by decide +kernel
theorem dX12_gatherCircle_81 : decode cX12_gatherCircle 81 = .ok (.iconst 1, 1) := by decide +kernel
theorem dX12_gatherCircle_82 : decode cX12_gatherCircle 82 = .ok (.goto 4, 3) := by decide +kernel
theorem dX12_gatherCircle_85 : decode cX12_gatherCircle 85 = .ok (.iconst 0, 1) := by decide +kernel
theorem dX12_gatherCircle_86 : decode cX12_gatherCircle 86 = .ok (.istore 6, 2) := by decide +kernel
theorem dX12_gatherCircle_88 : decode cX12_gatherCircle 88 = .ok (.iload 6, 2) := by decide +kernel
theorem dX12_gatherCircle_90 : decode cX12_gatherCircle 90 = .ok (.ifCond .eq 18, 3) := by decide +kernel
theorem dX12_gatherCircle_93 : decode cX12_gatherCircle 93 = .ok (.aload_n 0, 1) := by decide +kernel
theorem dX12_gatherCircle_94 : decode cX12_gatherCircle 94 = .ok (.iload 5, 2) := by decide +kernel
theorem dX12_gatherCircle_96 : decode cX12_gatherCircle 96 = .ok (.iload 4, 2) := by decide +kernel
theorem dX12_gatherCircle_98 : decode cX12_gatherCircle 98 = .ok (.invokevirtual 1043, 3) := by decide +kernel
theorem dX12_gatherCircle_101 : decode cX12_gatherCircle 101 = .ok (.ifCond .eq 7, 3) := by decide +kernel
theorem dX12_gatherCircle_104 : decode cX12_gatherCircle 104 = .ok (.iload 5, 2) := by decide +kernel
theorem dX12_gatherCircle_106 : decode cX12_gatherCircle 106 = .ok (.istore 4, 2) := by decide +kernel
theorem dX12_gatherCircle_108 : decode cX12_gatherCircle 108 = .ok (.iinc 5 1, 3) := by decide +kernel
theorem dX12_gatherCircle_111 : decode cX12_gatherCircle 111 = .ok (.goto (-69), 3) := by decide +kernel
theorem dX12_gatherCircle_114 : decode cX12_gatherCircle 114 = .ok (.iconst 0, 1) := by decide +kernel
theorem dX12_gatherCircle_115 : decode cX12_gatherCircle 115 = .ok (.istore 5, 2) := by decide +kernel
theorem dX12_gatherCircle_117 : decode cX12_gatherCircle 117 = .ok (.iload 5, 2) := by decide +kernel
theorem dX12_gatherCircle_119 : decode cX12_gatherCircle 119 = .ok (.aload_n 0, 1) := by decide +kernel
theorem dX12_gatherCircle_120 : decode cX12_gatherCircle 120 = .ok (.getfield 1040, 3) := by decide +kernel
theorem dX12_gatherCircle_123 : decode cX12_gatherCircle 123 = .ok (.if_icmp .ge 133, 3) := by decide +kernel
theorem dX12_gatherCircle_126 : decode cX12_gatherCircle 126 = .ok (.iload 5, 2) := by decide +kernel
theorem dX12_gatherCircle_128 : decode cX12_gatherCircle 128 = .ok (.iload_n 1, 1) := by decide +kernel
theorem dX12_gatherCircle_129 : decode cX12_gatherCircle 129 = .ok (.if_icmp .eq 27, 3) := by decide +kernel
theorem dX12_gatherCircle_132 : decode cX12_gatherCircle 132 = .ok (.iload 5, 2) := by decide +kernel
theorem dX12_gatherCircle_134 : decode cX12_gatherCircle 134 = .ok (.iload_n 2, 1) := by decide +kernel
theorem dX12_gatherCircle_135 : decode cX12_gatherCircle 135 = .ok (.if_icmp .eq 21, 3) := by decide +kernel
theorem dX12_gatherCircle_138 : decode cX12_gatherCircle 138 = .ok (.iload 5, 2) := by decide +kernel
theorem dX12_gatherCircle_140 : decode cX12_gatherCircle 140 = .ok (.iload_n 3, 1) := by decide +kernel
theorem dX12_gatherCircle_141 : decode cX12_gatherCircle 141 = .ok (.if_icmp .eq 15, 3) := by decide +kernel
theorem dX12_gatherCircle_144 : decode cX12_gatherCircle 144 = .ok (.aload_n 0, 1) := by decide +kernel
theorem dX12_gatherCircle_145 : decode cX12_gatherCircle 145 = .ok (.iload_n 1, 1) := by decide +kernel
theorem dX12_gatherCircle_146 : decode cX12_gatherCircle 146 = .ok (.iload_n 2, 1) := by decide +kernel
theorem dX12_gatherCircle_147 : decode cX12_gatherCircle 147 = .ok (.iload_n 3, 1) := by decide +kernel
theorem dX12_gatherCircle_148 : decode cX12_gatherCircle 148 = .ok (.iload 5, 2) := by decide +kernel
theorem dX12_gatherCircle_150 : decode cX12_gatherCircle 150 = .ok (.invokevirtual 1067, 3) := by decide +kernel
theorem dX12_gatherCircle_153 : decode cX12_gatherCircle 153 = .ok (.ifCond .ne 7, 3) := by decide +kernel
theorem dX12_gatherCircle_156 : decode cX12_gatherCircle 156 = .ok (.iconst 1, 1) := by decide +kernel
theorem dX12_gatherCircle_157 : decode cX12_gatherCircle 157 = .ok (.goto 4, 3) := by decide +kernel
theorem dX12_gatherCircle_160 : decode cX12_gatherCircle 160 = .ok (.iconst 0, 1) := by decide +kernel
theorem dX12_gatherCircle_161 : decode cX12_gatherCircle 161 = .ok (.istore 6, 2) := by decide +kernel
theorem dX12_gatherCircle_163 : decode cX12_gatherCircle 163 = .ok (.iload 6, 2) := by decide +kernel
theorem dX12_gatherCircle_165 : decode cX12_gatherCircle 165 = .ok (.ifCond .eq 85, 3) := by decide +kernel
theorem dX12_gatherCircle_168 : decode cX12_gatherCircle 168 = .ok (.iload 5, 2) := by decide +kernel
theorem dX12_gatherCircle_170 : decode cX12_gatherCircle 170 = .ok (.iload 4, 2) := by decide +kernel
theorem dX12_gatherCircle_172 : decode cX12_gatherCircle 172 = .ok (.if_icmp .ne 6, 3) := by decide +kernel
theorem dX12_gatherCircle_175 : decode cX12_gatherCircle 175 = .ok (.goto 75, 3) := by decide +kernel
theorem dX12_gatherCircle_178 : decode cX12_gatherCircle 178 = .ok (.aload_n 0, 1) := by decide +kernel
theorem dX12_gatherCircle_179 : decode cX12_gatherCircle 179 = .ok (.getfield 1070, 3) := by decide +kernel
theorem dX12_gatherCircle_182 : decode cX12_gatherCircle 182 = .ok (.istore 7, 2) := by decide +kernel
theorem dX12_gatherCircle_184 : decode cX12_gatherCircle 184 = .ok (.iload 7, 2) := by decide +kernel
theorem dX12_gatherCircle_186 : decode cX12_gatherCircle 186 = .ok (.ifCond .le 45, 3) := by decide +kernel
theorem dX12_gatherCircle_189 : decode cX12_gatherCircle 189 = .ok (.aload_n 0, 1) := by decide +kernel
theorem dX12_gatherCircle_190 : decode cX12_gatherCircle 190 = .ok (.iload 4, 2) := by decide +kernel
theorem dX12_gatherCircle_192 : decode cX12_gatherCircle 192 = .ok (.iload 5, 2) := by decide +kernel
theorem dX12_gatherCircle_194 : decode cX12_gatherCircle 194 = .ok (.aload_n 0, 1) := by decide +kernel
theorem dX12_gatherCircle_195 : decode cX12_gatherCircle 195 = .ok (.getfield 240, 3) := by decide +kernel
theorem dX12_gatherCircle_198 : decode cX12_gatherCircle 198 = .ok (.iload 7, 2) := by decide +kernel
theorem dX12_gatherCircle_200 : decode cX12_gatherCircle 200 = .ok (.iconst 1, 1) := by decide +kernel
theorem dX12_gatherCircle_201 : decode cX12_gatherCircle 201 = .ok (.isub, 1) := by decide +kernel
theorem dX12_gatherCircle_202 : decode cX12_gatherCircle 202 = .ok (.iaload, 1) := by decide +kernel
theorem dX12_gatherCircle_203 : decode cX12_gatherCircle 203 = .ok (.invokevirtual 1046, 3) := by decide +kernel
theorem dX12_gatherCircle_206 : decode cX12_gatherCircle 206 = .ok (.ifCond .le 25, 3) := by decide +kernel
theorem dX12_gatherCircle_209 : decode cX12_gatherCircle 209 = .ok (.aload_n 0, 1) := by decide +kernel
theorem dX12_gatherCircle_210 : decode cX12_gatherCircle 210 = .ok (.getfield 240, 3) := by decide +kernel
theorem dX12_gatherCircle_213 : decode cX12_gatherCircle 213 = .ok (.iload 7, 2) := by decide +kernel
theorem dX12_gatherCircle_215 : decode cX12_gatherCircle 215 = .ok (.aload_n 0, 1) := by decide +kernel
theorem dX12_gatherCircle_216 : decode cX12_gatherCircle 216 = .ok (.getfield 240, 3) := by decide +kernel
theorem dX12_gatherCircle_219 : decode cX12_gatherCircle 219 = .ok (.iload 7, 2) := by decide +kernel
theorem dX12_gatherCircle_221 : decode cX12_gatherCircle 221 = .ok (.iconst 1, 1) := by decide +kernel
theorem dX12_gatherCircle_222 : decode cX12_gatherCircle 222 = .ok (.isub, 1) := by decide +kernel
theorem dX12_gatherCircle_223 : decode cX12_gatherCircle 223 = .ok (.iaload, 1) := by decide +kernel
theorem dX12_gatherCircle_224 : decode cX12_gatherCircle 224 = .ok (.iastore, 1) := by decide +kernel
theorem dX12_gatherCircle_225 : decode cX12_gatherCircle 225 = .ok (.iinc 7 (-1), 3) := by decide +kernel
theorem dX12_gatherCircle_228 : decode cX12_gatherCircle 228 = .ok (.goto (-44), 3) := by decide +kernel
theorem dX12_gatherCircle_231 : decode cX12_gatherCircle 231 = .ok (.aload_n 0, 1) := by decide +kernel
theorem dX12_gatherCircle_232 : decode cX12_gatherCircle 232 = .ok (.getfield 240, 3) := by decide +kernel
theorem dX12_gatherCircle_235 : decode cX12_gatherCircle 235 = .ok (.iload 7, 2) := by decide +kernel
theorem dX12_gatherCircle_237 : decode cX12_gatherCircle 237 = .ok (.iload 5, 2) := by decide +kernel
theorem dX12_gatherCircle_239 : decode cX12_gatherCircle 239 = .ok (.iastore, 1) := by decide +kernel
theorem dX12_gatherCircle_240 : decode cX12_gatherCircle 240 = .ok (.aload_n 0, 1) := by decide +kernel
theorem dX12_gatherCircle_241 : decode cX12_gatherCircle 241 = .ok (.dup, 1) := by decide +kernel
theorem dX12_gatherCircle_242 : decode cX12_gatherCircle 242 = .ok (.getfield 1070, 3) := by decide +kernel
theorem dX12_gatherCircle_245 : decode cX12_gatherCircle 245 = .ok (.iconst 1, 1) := by decide +kernel
theorem dX12_gatherCircle_246 : decode cX12_gatherCircle 246 = .ok (.iadd, 1) := by decide +kernel
theorem dX12_gatherCircle_247 : decode cX12_gatherCircle 247 = .ok (.putfield 1070, 3) := by decide +kernel
theorem dX12_gatherCircle_250 : decode cX12_gatherCircle 250 = .ok (.iinc 5 1, 3) := by decide +kernel
theorem dX12_gatherCircle_253 : decode cX12_gatherCircle 253 = .ok (.goto (-136), 3) := by decide +kernel
theorem dX12_gatherCircle_256 : decode cX12_gatherCircle 256 = .ok (.aload_n 0, 1) := by decide +kernel
theorem dX12_gatherCircle_257 : decode cX12_gatherCircle 257 = .ok (.getfield 1070, 3) := by decide +kernel
theorem dX12_gatherCircle_260 : decode cX12_gatherCircle 260 = .ok (.istore 5, 2) := by decide +kernel
theorem dX12_gatherCircle_262 : decode cX12_gatherCircle 262 = .ok (.iload 5, 2) := by decide +kernel
theorem dX12_gatherCircle_264 : decode cX12_gatherCircle 264 = .ok (.ifCond .le 25, 3) := by decide +kernel
theorem dX12_gatherCircle_267 : decode cX12_gatherCircle 267 = .ok (.aload_n 0, 1) := by decide +kernel
theorem dX12_gatherCircle_268 : decode cX12_gatherCircle 268 = .ok (.getfield 240, 3) := by decide +kernel
theorem dX12_gatherCircle_271 : decode cX12_gatherCircle 271 = .ok (.iload 5, 2) := by decide +kernel
theorem dX12_gatherCircle_273 : decode cX12_gatherCircle 273 = .ok (.aload_n 0, 1) := by decide +kernel
theorem dX12_gatherCircle_274 : decode cX12_gatherCircle 274 = .ok (.getfield 240, 3) := by decide +kernel
theorem dX12_gatherCircle_277 : decode cX12_gatherCircle 277 = .ok (.iload 5, 2) := by decide +kernel
theorem dX12_gatherCircle_279 : decode cX12_gatherCircle 279 = .ok (.iconst 1, 1) := by decide +kernel
theorem dX12_gatherCircle_280 : decode cX12_gatherCircle 280 = .ok (.isub, 1) := by decide +kernel
theorem dX12_gatherCircle_281 : decode cX12_gatherCircle 281 = .ok (.iaload, 1) := by decide +kernel
theorem dX12_gatherCircle_282 : decode cX12_gatherCircle 282 = .ok (.iastore, 1) := by decide +kernel
theorem dX12_gatherCircle_283 : decode cX12_gatherCircle 283 = .ok (.iinc 5 (-1), 3) := by decide +kernel
theorem dX12_gatherCircle_286 : decode cX12_gatherCircle 286 = .ok (.goto (-24), 3) := by decide +kernel
theorem dX12_gatherCircle_289 : decode cX12_gatherCircle 289 = .ok (.aload_n 0, 1) := by decide +kernel
theorem dX12_gatherCircle_290 : decode cX12_gatherCircle 290 = .ok (.getfield 240, 3) := by decide +kernel
theorem dX12_gatherCircle_293 : decode cX12_gatherCircle 293 = .ok (.iconst 0, 1) := by decide +kernel
theorem dX12_gatherCircle_294 : decode cX12_gatherCircle 294 = .ok (.iload 4, 2) := by decide +kernel
theorem dX12_gatherCircle_296 : decode cX12_gatherCircle 296 = .ok (.iastore, 1) := by decide +kernel
theorem dX12_gatherCircle_297 : decode cX12_gatherCircle 297 = .ok (.aload_n 0, 1) := by decide +kernel
theorem dX12_gatherCircle_298 : decode cX12_gatherCircle 298 = .ok (.dup, 1) := by decide +kernel
theorem dX12_gatherCircle_299 : decode cX12_gatherCircle 299 = .ok (.getfield 1070, 3) := by decide +kernel
theorem dX12_gatherCircle_302 : decode cX12_gatherCircle 302 = .ok (.iconst 1, 1) := by decide +kernel
theorem dX12_gatherCircle_303 : decode cX12_gatherCircle 303 = .ok (.iadd, 1) := by decide +kernel
theorem dX12_gatherCircle_304 : decode cX12_gatherCircle 304 = .ok (.putfield 1070, 3) := by decide +kernel
theorem dX12_gatherCircle_307 : decode cX12_gatherCircle 307 = .ok (.return_, 1) := by decide +kernel
theorem dX12_addTriangle_0 : decode cX12_addTriangle 0 = .ok (.iload_n 1, 1) := by decide +kernel
theorem dX12_addTriangle_1 : decode cX12_addTriangle 1 = .ok (.iload_n 2, 1) := by decide +kernel
theorem dX12_addTriangle_2 : decode cX12_addTriangle 2 = .ok (.if_icmp .ge 12, 3) := by decide +kernel
theorem dX12_addTriangle_5 : decode cX12_addTriangle 5 = .ok (.iload_n 1, 1) := by decide +kernel
theorem dX12_addTriangle_6 : decode cX12_addTriangle 6 = .ok (.iload_n 3, 1) := by decide +kernel
theorem dX12_addTriangle_7 : decode cX12_addTriangle 7 = .ok (.if_icmp .ge 7, 3) := by decide +kernel
theorem dX12_addTriangle_10 : decode cX12_addTriangle 10 = .ok (.iload_n 1, 1) := by decide +kernel
theorem dX12_addTriangle_11 : decode cX12_addTriangle 11 = .ok (.goto 13, 3) := by decide +kernel
theorem dX12_addTriangle_14 : decode cX12_addTriangle 14 = .ok (.iload_n 2, 1) := by decide +kernel
theorem dX12_addTriangle_15 : decode cX12_addTriangle 15 = .ok (.iload_n 3, 1) := by decide +kernel
theorem dX12_addTriangle_16 : decode cX12_addTriangle 16 = .ok (.if_icmp .ge 7, 3) := by decide +kernel
theorem dX12_addTriangle_19 : decode cX12_addTriangle 19 = .ok (.iload_n 2, 1) := by decide +kernel
theorem dX12_addTriangle_20 : decode cX12_addTriangle 20 = .ok (.goto 4, 3) := by decide +kernel
theorem dX12_addTriangle_23 : decode cX12_addTriangle 23 = .ok (.iload_n 3, 1) := by decide +kernel
theorem dX12_addTriangle_24 : decode cX12_addTriangle 24 = .ok (.istore 4, 2) := by decide +kernel
theorem dX12_addTriangle_26 : decode cX12_addTriangle 26 = .ok (.iload 4, 2) := by decide +kernel
theorem dX12_addTriangle_28 : decode cX12_addTriangle 28 = .ok (.iload_n 1, 1) := by decide +kernel
theorem dX12_addTriangle_29 : decode cX12_addTriangle 29 = .ok (.if_icmp .ne 7, 3) := by decide +kernel
theorem dX12_addTriangle_32 : decode cX12_addTriangle 32 = .ok (.iload_n 2, 1) := by decide +kernel
theorem dX12_addTriangle_33 : decode cX12_addTriangle 33 = .ok (.goto 14, 3) := by decide +kernel
theorem dX12_addTriangle_36 : decode cX12_addTriangle 36 = .ok (.iload 4, 2) := by decide +kernel
theorem dX12_addTriangle_38 : decode cX12_addTriangle 38 = .ok (.iload_n 2, 1) := by decide +kernel
theorem dX12_addTriangle_39 : decode cX12_addTriangle 39 = .ok (.if_icmp .ne 7, 3) := by decide +kernel
theorem dX12_addTriangle_42 : decode cX12_addTriangle 42 = .ok (.iload_n 3, 1) := by decide +kernel
theorem dX12_addTriangle_43 : decode cX12_addTriangle 43 = .ok (.goto 4, 3) := by decide +kernel
theorem dX12_addTriangle_46 : decode cX12_addTriangle 46 = .ok (.iload_n 1, 1) := by decide +kernel
theorem dX12_addTriangle_47 : decode cX12_addTriangle 47 = .ok (.istore 5, 2) := by decide +kernel
theorem dX12_addTriangle_49 : decode cX12_addTriangle 49 = .ok (.iload 4, 2) := by decide +kernel
theorem dX12_addTriangle_51 : decode cX12_addTriangle 51 = .ok (.iload_n 1, 1) := by decide +kernel
theorem dX12_addTriangle_52 : decode cX12_addTriangle 52 = .ok (.if_icmp .ne 7, 3) := by decide +kernel
theorem dX12_addTriangle_55 : decode cX12_addTriangle 55 = .ok (.iload_n 3, 1) := by decide +kernel
theorem dX12_addTriangle_56 : decode cX12_addTriangle 56 = .ok (.goto 14, 3) := by decide +kernel
theorem dX12_addTriangle_59 : decode cX12_addTriangle 59 = .ok (.iload 4, 2) := by decide +kernel
theorem dX12_addTriangle_61 : decode cX12_addTriangle 61 = .ok (.iload_n 2, 1) := by decide +kernel
theorem dX12_addTriangle_62 : decode cX12_addTriangle 62 = .ok (.if_icmp .ne 7, 3) := by decide +kernel
theorem dX12_addTriangle_65 : decode cX12_addTriangle 65 = .ok (.iload_n 1, 1) := by decide +kernel
theorem dX12_addTriangle_66 : decode cX12_addTriangle 66 = .ok (.goto 4, 3) := by decide +kernel
theorem dX12_addTriangle_69 : decode cX12_addTriangle 69 = .ok (.iload_n 2, 1) := by decide +kernel
theorem dX12_addTriangle_70 : decode cX12_addTriangle 70 = .ok (.istore 6, 2) := by decide +kernel
theorem dX12_addTriangle_72 : decode cX12_addTriangle 72 = .ok (.aload_n 0, 1) := by decide +kernel
theorem dX12_addTriangle_73 : decode cX12_addTriangle 73 = .ok (.getfield 1073, 3) := by decide +kernel
theorem dX12_addTriangle_76 : decode cX12_addTriangle 76 = .ok (.istore 7, 2) := by decide +kernel
theorem dX12_addTriangle_78 : decode cX12_addTriangle 78 = .ok (.iload 7, 2) := by decide +kernel
theorem dX12_addTriangle_80 : decode cX12_addTriangle 80 = .ok (.ifCond .le 74, 3) := by decide +kernel
theorem dX12_addTriangle_83 : decode cX12_addTriangle 83 = .ok (.aload_n 0, 1) := by decide +kernel
theorem dX12_addTriangle_84 : decode cX12_addTriangle 84 = .ok (.iload 7, 2) := by decide +kernel
theorem dX12_addTriangle_86 : decode cX12_addTriangle 86 = .ok (.iconst 1, 1) := by decide +kernel
theorem dX12_addTriangle_87 : decode cX12_addTriangle 87 = .ok (.isub, 1) := by decide +kernel
theorem dX12_addTriangle_88 : decode cX12_addTriangle 88 = .ok (.iload 4, 2) := by decide +kernel
theorem dX12_addTriangle_90 : decode cX12_addTriangle 90 = .ok (.iload 5, 2) := by decide +kernel
theorem dX12_addTriangle_92 : decode cX12_addTriangle 92 = .ok (.iload 6, 2) := by decide +kernel
theorem dX12_addTriangle_94 : decode cX12_addTriangle 94 = .ok (.invokevirtual 1076, 3) := by decide +kernel
theorem dX12_addTriangle_97 : decode cX12_addTriangle 97 = .ok (.ifCond .eq 57, 3) := by decide +kernel
theorem dX12_addTriangle_100 : decode cX12_addTriangle 100 = .ok (.aload_n 0, 1) := by decide +kernel
theorem dX12_addTriangle_101 : decode cX12_addTriangle 101 = .ok (.getfield 243, 3) := by decide +kernel
theorem dX12_addTriangle_104 : decode cX12_addTriangle 104 = .ok (.iload 7, 2) := by decide +kernel
theorem dX12_addTriangle_106 : decode cX12_addTriangle 106 = .ok (.aload_n 0, 1) := by decide +kernel
theorem dX12_addTriangle_107 : decode cX12_addTriangle 107 = .ok (.getfield 243, 3) := by decide +kernel
theorem dX12_addTriangle_110 : decode cX12_addTriangle 110 = .ok (.iload 7, 2) := by decide +kernel
theorem dX12_addTriangle_112 : decode cX12_addTriangle 112 = .ok (.iconst 1, 1) := by decide +kernel
theorem dX12_addTriangle_113 : decode cX12_addTriangle 113 = .ok (.isub, 1) := by decide +kernel
theorem dX12_addTriangle_114 : decode cX12_addTriangle 114 = .ok (.iaload, 1) := by decide +kernel
theorem dX12_addTriangle_115 : decode cX12_addTriangle 115 = .ok (.iastore, 1) := by decide +kernel
theorem dX12_addTriangle_116 : decode cX12_addTriangle 116 = .ok (.aload_n 0, 1) := by decide +kernel
theorem dX12_addTriangle_117 : decode cX12_addTriangle 117 = .ok (.getfield 246, 3) := by decide +kernel
theorem dX12_addTriangle_120 : decode cX12_addTriangle 120 = .ok (.iload 7, 2) := by decide +kernel
theorem dX12_addTriangle_122 : decode cX12_addTriangle 122 = .ok (.aload_n 0, 1) := by decide +kernel
theorem dX12_addTriangle_123 : decode cX12_addTriangle 123 = .ok (.getfield 246, 3) := by decide +kernel
theorem dX12_addTriangle_126 : decode cX12_addTriangle 126 = .ok (.iload 7, 2) := by decide +kernel
theorem dX12_addTriangle_128 : decode cX12_addTriangle 128 = .ok (.iconst 1, 1) := by decide +kernel
theorem dX12_addTriangle_129 : decode cX12_addTriangle 129 = .ok (.isub, 1) := by decide +kernel
theorem dX12_addTriangle_130 : decode cX12_addTriangle 130 = .ok (.iaload, 1) := by decide +kernel
theorem dX12_addTriangle_131 : decode cX12_addTriangle 131 = .ok (.iastore, 1) := by decide +kernel
theorem dX12_addTriangle_132 : decode cX12_addTriangle 132 = .ok (.aload_n 0, 1) := by decide +kernel
theorem dX12_addTriangle_133 : decode cX12_addTriangle 133 = .ok (.getfield 249, 3) := by decide +kernel
theorem dX12_addTriangle_136 : decode cX12_addTriangle 136 = .ok (.iload 7, 2) := by decide +kernel
theorem dX12_addTriangle_138 : decode cX12_addTriangle 138 = .ok (.aload_n 0, 1) := by decide +kernel
theorem dX12_addTriangle_139 : decode cX12_addTriangle 139 = .ok (.getfield 249, 3) := by decide +kernel
theorem dX12_addTriangle_142 : decode cX12_addTriangle 142 = .ok (.iload 7, 2) := by decide +kernel
theorem dX12_addTriangle_144 : decode cX12_addTriangle 144 = .ok (.iconst 1, 1) := by decide +kernel
theorem dX12_addTriangle_145 : decode cX12_addTriangle 145 = .ok (.isub, 1) := by decide +kernel
theorem dX12_addTriangle_146 : decode cX12_addTriangle 146 = .ok (.iaload, 1) := by decide +kernel
theorem dX12_addTriangle_147 : decode cX12_addTriangle 147 = .ok (.iastore, 1) := by decide +kernel
theorem dX12_addTriangle_148 : decode cX12_addTriangle 148 = .ok (.iinc 7 (-1), 3) := by decide +kernel
theorem dX12_addTriangle_151 : decode cX12_addTriangle 151 = .ok (.goto (-73), 3) := by decide +kernel
theorem dX12_addTriangle_154 : decode cX12_addTriangle 154 = .ok (.aload_n 0, 1) := by decide +kernel
theorem dX12_addTriangle_155 : decode cX12_addTriangle 155 = .ok (.getfield 243, 3) := by decide +kernel
theorem dX12_addTriangle_158 : decode cX12_addTriangle 158 = .ok (.iload 7, 2) := by decide +kernel
theorem dX12_addTriangle_160 : decode cX12_addTriangle 160 = .ok (.iload 4, 2) := by decide +kernel
theorem dX12_addTriangle_162 : decode cX12_addTriangle 162 = .ok (.iastore, 1) := by decide +kernel
theorem dX12_addTriangle_163 : decode cX12_addTriangle 163 = .ok (.aload_n 0, 1) := by decide +kernel
theorem dX12_addTriangle_164 : decode cX12_addTriangle 164 = .ok (.getfield 246, 3) := by decide +kernel
theorem dX12_addTriangle_167 : decode cX12_addTriangle 167 = .ok (.iload 7, 2) := by decide +kernel
theorem dX12_addTriangle_169 : decode cX12_addTriangle 169 = .ok (.iload 5, 2) := by decide +kernel
theorem dX12_addTriangle_171 : decode cX12_addTriangle 171 = .ok (.iastore, 1) := by decide +kernel
theorem dX12_addTriangle_172 : decode cX12_addTriangle 172 = .ok (.aload_n 0, 1) := by decide +kernel
theorem dX12_addTriangle_173 : decode cX12_addTriangle 173 = .ok (.getfield 249, 3) := by decide +kernel
theorem dX12_addTriangle_176 : decode cX12_addTriangle 176 = .ok (.iload 7, 2) := by decide +kernel
theorem dX12_addTriangle_178 : decode cX12_addTriangle 178 = .ok (.iload 6, 2) := by decide +kernel
theorem dX12_addTriangle_180 : decode cX12_addTriangle 180 = .ok (.iastore, 1) := by decide +kernel
theorem dX12_addTriangle_181 : decode cX12_addTriangle 181 = .ok (.aload_n 0, 1) := by decide +kernel
theorem dX12_addTriangle_182 : decode cX12_addTriangle 182 = .ok (.dup, 1) := by decide +kernel
theorem dX12_addTriangle_183 : decode cX12_addTriangle 183 = .ok (.getfield 1073, 3) := by decide +kernel
theorem dX12_addTriangle_186 : decode cX12_addTriangle 186 = .ok (.iconst 1, 1) := by decide +kernel
theorem dX12_addTriangle_187 : decode cX12_addTriangle 187 = .ok (.iadd, 1) := by decide +kernel
theorem dX12_addTriangle_188 : decode cX12_addTriangle 188 = .ok (.putfield 1073, 3) := by decide +kernel
theorem dX12_addTriangle_191 : decode cX12_addTriangle 191 = .ok (.return_, 1) := by decide +kernel
theorem dX12_isLater_0 : decode cX12_isLater 0 = .ok (.aload_n 0, 1) := by decide +kernel
theorem dX12_isLater_1 : decode cX12_isLater 1 = .ok (.getfield 243, 3) := by decide +kernel
theorem dX12_isLater_4 : decode cX12_isLater 4 = .ok (.iload_n 1, 1) := by decide +kernel
theorem dX12_isLater_5 : decode cX12_isLater 5 = .ok (.iaload, 1) := by decide +kernel
theorem dX12_isLater_6 : decode cX12_isLater 6 = .ok (.iload_n 2, 1) := by decide +kernel
theorem dX12_isLater_7 : decode cX12_isLater 7 = .ok (.if_icmp .eq 19, 3) := by decide +kernel
theorem dX12_isLater_10 : decode cX12_isLater 10 = .ok (.aload_n 0, 1) := by decide +kernel
theorem dX12_isLater_11 : decode cX12_isLater 11 = .ok (.getfield 243, 3) := by decide +kernel
theorem dX12_isLater_14 : decode cX12_isLater 14 = .ok (.iload_n 1, 1) := by decide +kernel
theorem dX12_isLater_15 : decode cX12_isLater 15 = .ok (.iaload, 1) := by decide +kernel
theorem dX12_isLater_16 : decode cX12_isLater 16 = .ok (.iload_n 2, 1) := by decide +kernel
theorem dX12_isLater_17 : decode cX12_isLater 17 = .ok (.if_icmp .le 7, 3) := by decide +kernel
theorem dX12_isLater_20 : decode cX12_isLater 20 = .ok (.iconst 1, 1) := by decide +kernel
theorem dX12_isLater_21 : decode cX12_isLater 21 = .ok (.goto 4, 3) := by decide +kernel
theorem dX12_isLater_24 : decode cX12_isLater 24 = .ok (.iconst 0, 1) := by decide +kernel
theorem dX12_isLater_25 : decode cX12_isLater 25 = .ok (.ireturn, 1) := by decide +kernel
theorem dX12_isLater_26 : decode cX12_isLater 26 = .ok (.aload_n 0, 1) := by decide +kernel
theorem dX12_isLater_27 : decode cX12_isLater 27 = .ok (.getfield 246, 3) := by decide +kernel
theorem dX12_isLater_30 : decode cX12_isLater 30 = .ok (.iload_n 1, 1) := by decide +kernel
theorem dX12_isLater_31 : decode cX12_isLater 31 = .ok (.iaload, 1) := by decide +kernel
theorem dX12_isLater_32 : decode cX12_isLater 32 = .ok (.iload_n 3, 1) := by decide +kernel
theorem dX12_isLater_33 : decode cX12_isLater 33 = .ok (.if_icmp .eq 21, 3) := by decide +kernel
theorem dX12_isLater_36 : decode cX12_isLater 36 = .ok (.aload_n 0, 1) := by decide +kernel
theorem dX12_isLater_37 : decode cX12_isLater 37 = .ok (.getfield 246, 3) := by decide +kernel
theorem dX12_isLater_40 : decode cX12_isLater 40 = .ok (.iload_n 1, 1) := by decide +kernel
theorem dX12_isLater_41 : decode cX12_isLater 41 = .ok (.iaload, 1) := by decide +kernel
theorem dX12_isLater_42 : decode cX12_isLater 42 = .ok (.iload_n 3, 1) := by decide +kernel
theorem dX12_isLater_43 : decode cX12_isLater 43 = .ok (.if_icmp .le 7, 3) := by decide +kernel
theorem dX12_isLater_46 : decode cX12_isLater 46 = .ok (.iconst 1, 1) := by decide +kernel
theorem dX12_isLater_47 : decode cX12_isLater 47 = .ok (.goto 23, 3) := by decide +kernel
theorem dX12_isLater_50 : decode cX12_isLater 50 = .ok (.iconst 0, 1) := by decide +kernel
theorem dX12_isLater_51 : decode cX12_isLater 51 = .ok (.goto 19, 3) := by decide +kernel
theorem dX12_isLater_54 : decode cX12_isLater 54 = .ok (.aload_n 0, 1) := by decide +kernel
theorem dX12_isLater_55 : decode cX12_isLater 55 = .ok (.getfield 249, 3) := by decide +kernel
theorem dX12_isLater_58 : decode cX12_isLater 58 = .ok (.iload_n 1, 1) := by decide +kernel
theorem dX12_isLater_59 : decode cX12_isLater 59 = .ok (.iaload, 1) := by decide +kernel
theorem dX12_isLater_60 : decode cX12_isLater 60 = .ok (.iload 4, 2) := by decide +kernel
theorem dX12_isLater_62 : decode cX12_isLater 62 = .ok (.if_icmp .le 7, 3) := by decide +kernel
theorem dX12_isLater_65 : decode cX12_isLater 65 = .ok (.iconst 1, 1) := by decide +kernel
theorem dX12_isLater_66 : decode cX12_isLater 66 = .ok (.goto 4, 3) := by decide +kernel
theorem dX12_isLater_69 : decode cX12_isLater 69 = .ok (.iconst 0, 1) := by decide +kernel
theorem dX12_isLater_70 : decode cX12_isLater 70 = .ok (.ireturn, 1) := by decide +kernel
theorem dX12_waitFor_0 : decode cX12_waitFor 0 = .ok (.aload_n 0, 1) := by decide +kernel
theorem dX12_waitFor_1 : decode cX12_waitFor 1 = .ok (.getfield 234, 3) := by decide +kernel
theorem dX12_waitFor_4 : decode cX12_waitFor 4 = .ok (.aload_n 0, 1) := by decide +kernel
theorem dX12_waitFor_5 : decode cX12_waitFor 5 = .ok (.getfield 1080, 3) := by decide +kernel
theorem dX12_waitFor_8 : decode cX12_waitFor 8 = .ok (.iload_n 1, 1) := by decide +kernel
theorem dX12_waitFor_9 : decode cX12_waitFor 9 = .ok (.iastore, 1) := by decide +kernel
theorem dX12_waitFor_10 : decode cX12_waitFor 10 = .ok (.aload_n 0, 1) := by decide +kernel
theorem dX12_waitFor_11 : decode cX12_waitFor 11 = .ok (.getfield 237, 3) := by decide +kernel
theorem dX12_waitFor_14 : decode cX12_waitFor 14 = .ok (.aload_n 0, 1) := by decide +kernel
theorem dX12_waitFor_15 : decode cX12_waitFor 15 = .ok (.getfield 1080, 3) := by decide +kernel
theorem dX12_waitFor_18 : decode cX12_waitFor 18 = .ok (.iload_n 2, 1) := by decide +kernel
theorem dX12_waitFor_19 : decode cX12_waitFor 19 = .ok (.iastore, 1) := by decide +kernel
theorem dX12_waitFor_20 : decode cX12_waitFor 20 = .ok (.aload_n 0, 1) := by decide +kernel
theorem dX12_waitFor_21 : decode cX12_waitFor 21 = .ok (.dup, 1) := by decide +kernel
theorem dX12_waitFor_22 : decode cX12_waitFor 22 = .ok (.getfield 1080, 3) := by decide +kernel
theorem dX12_waitFor_25 : decode cX12_waitFor 25 = .ok (.iconst 1, 1) := by decide +kernel
theorem dX12_waitFor_26 : decode cX12_waitFor 26 = .ok (.iadd, 1) := by decide +kernel
theorem dX12_waitFor_27 : decode cX12_waitFor 27 = .ok (.putfield 1080, 3) := by decide +kernel
theorem dX12_waitFor_30 : decode cX12_waitFor 30 = .ok (.return_, 1) := by decide +kernel
