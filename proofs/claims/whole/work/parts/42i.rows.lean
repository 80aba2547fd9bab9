theorem dX3_haveCommonPlace_0 : decode cX3_haveCommonPlace 0 = .ok (.aload_n 0, 1) := by decide +kernel
theorem dX3_haveCommonPlace_1 : decode cX3_haveCommonPlace 1 = .ok (.iconst 0, 1) := by decide +kernel
theorem dX3_haveCommonPlace_2 : decode cX3_haveCommonPlace 2 = .ok (.iconst 0, 1) := by decide +kernel
theorem dX3_haveCommonPlace_3 : decode cX3_haveCommonPlace 3 = .ok (.invokevirtual 296, 3) := by decide +kernel
theorem dX3_haveCommonPlace_6 : decode cX3_haveCommonPlace 6 = .ok (.ifCond .ne 30, 3) := by decide +kernel
theorem dX3_haveCommonPlace_9 : decode cX3_haveCommonPlace 9 = .ok (.aload_n 0, 1) := by decide +kernel
theorem dX3_haveCommonPlace_10 : decode cX3_haveCommonPlace 10 = .ok (.iconst 0, 1) := by decide +kernel
theorem dX3_haveCommonPlace_11 : decode cX3_haveCommonPlace 11 = .ok (.iconst 1, 1) := by decide +kernel
theorem dX3_haveCommonPlace_12 : decode cX3_haveCommonPlace 12 = .ok (.invokevirtual 296, 3) := by decide +kernel
theorem dX3_haveCommonPlace_15 : decode cX3_haveCommonPlace 15 = .ok (.ifCond .ne 21, 3) := by decide +kernel
theorem dX3_haveCommonPlace_18 : decode cX3_haveCommonPlace 18 = .ok (.aload_n 0, 1) := by decide +kernel
theorem dX3_haveCommonPlace_19 : decode cX3_haveCommonPlace 19 = .ok (.iconst 1, 1) := by decide +kernel
theorem dX3_haveCommonPlace_20 : decode cX3_haveCommonPlace 20 = .ok (.iconst 0, 1) := by decide +kernel
theorem dX3_haveCommonPlace_21 : decode cX3_haveCommonPlace 21 = .ok (.invokevirtual 296, 3) := by decide +kernel
theorem dX3_haveCommonPlace_24 : decode cX3_haveCommonPlace 24 = .ok (.ifCond .ne 12, 3) := by decide +kernel
theorem dX3_haveCommonPlace_27 : decode cX3_haveCommonPlace 27 = .ok (.aload_n 0, 1) := by decide +kernel
theorem dX3_haveCommonPlace_28 : decode cX3_haveCommonPlace 28 = .ok (.iconst 1, 1) := by decide +kernel
theorem dX3_haveCommonPlace_29 : decode cX3_haveCommonPlace 29 = .ok (.iconst 1, 1) := by decide +kernel
theorem dX3_haveCommonPlace_30 : decode cX3_haveCommonPlace 30 = .ok (.invokevirtual 296, 3) := by decide +kernel
theorem dX3_haveCommonPlace_33 : decode cX3_haveCommonPlace 33 = .ok (.ifCond .eq 7, 3) := by decide +kernel
theorem dX3_haveCommonPlace_36 : decode cX3_haveCommonPlace 36 = .ok (.iconst 1, 1) := by decide +kernel
theorem dX3_haveCommonPlace_37 : decode cX3_haveCommonPlace 37 = .ok (.goto 4, 3) := by decide +kernel
theorem dX3_haveCommonPlace_40 : decode cX3_haveCommonPlace 40 = .ok (.iconst 0, 1) := by decide +kernel
theorem dX3_haveCommonPlace_41 : decode cX3_haveCommonPlace 41 = .ok (.ireturn, 1) := by decide +kernel
abbrev M_X3_haveCommonPlace : MRec := (yX3_haveCommonPlace, cX3_haveCommonPlace, 1, (some Jvm.ClassFile.FieldType.boolean), [])
theorem m_X3_haveCommonPlace : en_M M_X3_haveCommonPlace 0 := ⟨t_2061, t_11, ⟨by decide +kernel, by decide +kernel⟩, by decide +kernel, by decide +kernel, by decide +kernel⟩
theorem dX3_isFirstOutside_0 : decode cX3_isFirstOutside 0 = .ok (.aload_n 0, 1) := by decide +kernel
theorem dX3_isFirstOutside_1 : decode cX3_isFirstOutside 1 = .ok (.iconst 0, 1) := by decide +kernel
theorem dX3_isFirstOutside_2 : decode cX3_isFirstOutside 2 = .ok (.iconst 2, 1) := by decide +kernel
theorem dX3_isFirstOutside_3 : decode cX3_isFirstOutside 3 = .ok (.invokevirtual 296, 3) := by decide +kernel
theorem dX3_isFirstOutside_6 : decode cX3_isFirstOutside 6 = .ok (.ifCond .ne 12, 3) := by decide +kernel
theorem dX3_isFirstOutside_9 : decode cX3_isFirstOutside 9 = .ok (.aload_n 0, 1) := by decide +kernel
theorem dX3_isFirstOutside_10 : decode cX3_isFirstOutside 10 = .ok (.iconst 1, 1) := by decide +kernel
theorem dX3_isFirstOutside_11 : decode cX3_isFirstOutside 11 = .ok (.iconst 2, 1) := by decide +kernel
theorem dX3_isFirstOutside_12 : decode cX3_isFirstOutside 12 = .ok (.invokevirtual 296, 3) := by decide +kernel
theorem dX3_isFirstOutside_15 : decode cX3_isFirstOutside 15 = .ok (.ifCond .eq 7, 3) := by decide +kernel
theorem dX3_isFirstOutside_18 : decode cX3_isFirstOutside 18 = .ok (.iconst 1, 1) := by decide +kernel
theorem dX3_isFirstOutside_19 : decode cX3_isFirstOutside 19 = .ok (.goto 4, 3) := by decide +kernel
theorem dX3_isFirstOutside_22 : decode cX3_isFirstOutside 22 = .ok (.iconst 0, 1) := by decide +kernel
theorem dX3_isFirstOutside_23 : decode cX3_isFirstOutside 23 = .ok (.ireturn, 1) := by decide +kernel
abbrev M_X3_isFirstOutside : MRec := (yX3_isFirstOutside, cX3_isFirstOutside, 1, (some Jvm.ClassFile.FieldType.boolean), [])
theorem m_X3_isFirstOutside : en_M M_X3_isFirstOutside 0 := ⟨t_2053, t_11, ⟨by decide +kernel, by decide +kernel⟩, by decide +kernel, by decide +kernel, by decide +kernel⟩
theorem dX3_isSecondOutside_0 : decode cX3_isSecondOutside 0 = .ok (.aload_n 0, 1) := by decide +kernel
theorem dX3_isSecondOutside_1 : decode cX3_isSecondOutside 1 = .ok (.iconst 2, 1) := by decide +kernel
theorem dX3_isSecondOutside_2 : decode cX3_isSecondOutside 2 = .ok (.iconst 0, 1) := by decide +kernel
theorem dX3_isSecondOutside_3 : decode cX3_isSecondOutside 3 = .ok (.invokevirtual 296, 3) := by decide +kernel
theorem dX3_isSecondOutside_6 : decode cX3_isSecondOutside 6 = .ok (.ifCond .ne 12, 3) := by decide +kernel
theorem dX3_isSecondOutside_9 : decode cX3_isSecondOutside 9 = .ok (.aload_n 0, 1) := by decide +kernel
theorem dX3_isSecondOutside_10 : decode cX3_isSecondOutside 10 = .ok (.iconst 2, 1) := by decide +kernel
theorem dX3_isSecondOutside_11 : decode cX3_isSecondOutside 11 = .ok (.iconst 1, 1) := by decide +kernel
theorem dX3_isSecondOutside_12 : decode cX3_isSecondOutside 12 = .ok (.invokevirtual 296, 3) := by decide +kernel
theorem dX3_isSecondOutside_15 : decode cX3_isSecondOutside 15 = .ok (.ifCond .eq 7, 3) := by decide +kernel
theorem dX3_isSecondOutside_18 : decode cX3_isSecondOutside 18 = .ok (.iconst 1, 1) := by decide +kernel
theorem dX3_isSecondOutside_19 : decode cX3_isSecondOutside 19 = .ok (.goto 4, 3) := by decide +kernel
theorem dX3_isSecondOutside_22 : decode cX3_isSecondOutside 22 = .ok (.iconst 0, 1) := by decide +kernel
theorem dX3_isSecondOutside_23 : decode cX3_isSecondOutside 23 = .ok (.ireturn, 1) := by decide +kernel
abbrev M_X3_isSecondOutside : MRec := (yX3_isSecondOutside, cX3_isSecondOutside, 1, (some Jvm.ClassFile.FieldType.boolean), [])
theorem m_X3_isSecondOutside : en_M M_X3_isSecondOutside 0 := ⟨t_2057, t_11, ⟨by decide +kernel, by decide +kernel⟩, by decide +kernel, by decide +kernel, by decide +kernel⟩
theorem dX3_lieAcross_0 : decode cX3_lieAcross 0 = .ok (.iload_n 1, 1) := by decide +kernel
theorem dX3_lieAcross_1 : decode cX3_lieAcross 1 = .ok (.iload_n 2, 1) := by decide +kernel
theorem dX3_lieAcross_2 : decode cX3_lieAcross 2 = .ok (.if_icmp .ge 27, 3) := by decide +kernel
theorem dX3_lieAcross_5 : decode cX3_lieAcross 5 = .ok (.aload_n 0, 1) := by decide +kernel
theorem dX3_lieAcross_6 : decode cX3_lieAcross 6 = .ok (.iconst 0, 1) := by decide +kernel
theorem dX3_lieAcross_7 : decode cX3_lieAcross 7 = .ok (.iconst 0, 1) := by decide +kernel
theorem dX3_lieAcross_8 : decode cX3_lieAcross 8 = .ok (.invokevirtual 296, 3) := by decide +kernel
theorem dX3_lieAcross_11 : decode cX3_lieAcross 11 = .ok (.ifCond .eq 16, 3) := by decide +kernel
theorem dX3_lieAcross_14 : decode cX3_lieAcross 14 = .ok (.aload_n 0, 1) := by decide +kernel
theorem dX3_lieAcross_15 : decode cX3_lieAcross 15 = .ok (.iconst 0, 1) := by decide +kernel
theorem dX3_lieAcross_16 : decode cX3_lieAcross 16 = .ok (.iconst 2, 1) := by decide +kernel
theorem dX3_lieAcross_17 : decode cX3_lieAcross 17 = .ok (.invokevirtual 296, 3) := by decide +kernel
theorem dX3_lieAcross_20 : decode cX3_lieAcross 20 = .ok (.ifCond .eq 7, 3) := by decide +kernel
theorem dX3_lieAcross_23 : decode cX3_lieAcross 23 = .ok (.iconst 1, 1) := by decide +kernel
theorem dX3_lieAcross_24 : decode cX3_lieAcross 24 = .ok (.goto 4, 3) := by decide +kernel
theorem dX3_lieAcross_27 : decode cX3_lieAcross 27 = .ok (.iconst 0, 1) := by decide +kernel
theorem dX3_lieAcross_28 : decode cX3_lieAcross 28 = .ok (.ireturn, 1) := by decide +kernel
theorem dX3_lieAcross_29 : decode cX3_lieAcross 29 = .ok (.iload_n 1, 1) := by decide +kernel
theorem dX3_lieAcross_30 : decode cX3_lieAcross 30 = .ok (.iload_n 2, 1) := by decide +kernel
theorem dX3_lieAcross_31 : decode cX3_lieAcross 31 = .ok (.if_icmp .le 27, 3) := by decide +kernel
theorem dX3_lieAcross_34 : decode cX3_lieAcross 34 = .ok (.aload_n 0, 1) := by decide +kernel
theorem dX3_lieAcross_35 : decode cX3_lieAcross 35 = .ok (.iconst 0, 1) := by decide +kernel
theorem dX3_lieAcross_36 : decode cX3_lieAcross 36 = .ok (.iconst 0, 1) := by decide +kernel
theorem dX3_lieAcross_37 : decode cX3_lieAcross 37 = .ok (.invokevirtual 296, 3) := by decide +kernel
theorem dX3_lieAcross_40 : decode cX3_lieAcross 40 = .ok (.ifCond .eq 16, 3) := by decide +kernel
theorem dX3_lieAcross_43 : decode cX3_lieAcross 43 = .ok (.aload_n 0, 1) := by decide +kernel
theorem dX3_lieAcross_44 : decode cX3_lieAcross 44 = .ok (.iconst 2, 1) := by decide +kernel
theorem dX3_lieAcross_45 : decode cX3_lieAcross 45 = .ok (.iconst 0, 1) := by decide +kernel
theorem dX3_lieAcross_46 : decode cX3_lieAcross 46 = .ok (.invokevirtual 296, 3) := by decide +kernel
theorem dX3_lieAcross_49 : decode cX3_lieAcross 49 = .ok (.ifCond .eq 7, 3) := by decide +kernel
theorem dX3_lieAcross_52 : decode cX3_lieAcross 52 = .ok (.iconst 1, 1) := by decide +kernel
theorem dX3_lieAcross_53 : decode cX3_lieAcross 53 = .ok (.goto 4, 3) := by decide +kernel
theorem dX3_lieAcross_56 : decode cX3_lieAcross 56 = .ok (.iconst 0, 1) := by decide +kernel
theorem dX3_lieAcross_57 : decode cX3_lieAcross 57 = .ok (.ireturn, 1) := by decide +kernel
theorem dX3_lieAcross_58 : decode cX3_lieAcross 58 = .ok (.iload_n 1, 1) := by decide +kernel
theorem dX3_lieAcross_59 : decode cX3_lieAcross 59 = .ok (.iconst 1, 1) := by decide +kernel
theorem dX3_lieAcross_60 : decode cX3_lieAcross 60 = .ok (.if_icmp .ne 16, 3) := by decide +kernel
theorem dX3_lieAcross_63 : decode cX3_lieAcross 63 = .ok (.aload_n 0, 1) := by decide +kernel
theorem dX3_lieAcross_64 : decode cX3_lieAcross 64 = .ok (.getfield 20, 3) := by decide +kernel
theorem dX3_lieAcross_67 : decode cX3_lieAcross 67 = .ok (.iconst 0, 1) := by decide +kernel
theorem dX3_lieAcross_68 : decode cX3_lieAcross 68 = .ok (.iaload, 1) := by decide +kernel
theorem dX3_lieAcross_69 : decode cX3_lieAcross 69 = .ok (.ifCond .ne 7, 3) := by decide +kernel
theorem dX3_lieAcross_72 : decode cX3_lieAcross 72 = .ok (.iconst 1, 1) := by decide +kernel
theorem dX3_lieAcross_73 : decode cX3_lieAcross 73 = .ok (.goto 4, 3) := by decide +kernel
theorem dX3_lieAcross_76 : decode cX3_lieAcross 76 = .ok (.iconst 0, 1) := by decide +kernel
theorem dX3_lieAcross_77 : decode cX3_lieAcross 77 = .ok (.ireturn, 1) := by decide +kernel
abbrev M_X3_lieAcross : MRec := (yX3_lieAcross, cX3_lieAcross, 3, (some Jvm.ClassFile.FieldType.boolean), [])
theorem m_X3_lieAcross : en_M M_X3_lieAcross 2 := ⟨t_2065, t_11, ⟨by decide +kernel, by decide +kernel⟩, by decide +kernel, by decide +kernel, by decide +kernel⟩
theorem dX3_lieSo_0 : decode cX3_lieSo 0 = .ok (.aload_n 0, 1) := by decide +kernel
theorem dX3_lieSo_1 : decode cX3_lieSo 1 = .ok (.getfield 20, 3) := by decide +kernel
theorem dX3_lieSo_4 : decode cX3_lieSo 4 = .ok (.iconst 0, 1) := by decide +kernel
theorem dX3_lieSo_5 : decode cX3_lieSo 5 = .ok (.iaload, 1) := by decide +kernel
theorem dX3_lieSo_6 : decode cX3_lieSo 6 = .ok (.aload_n 0, 1) := by decide +kernel
theorem dX3_lieSo_7 : decode cX3_lieSo 7 = .ok (.getfield 20, 3) := by decide +kernel
theorem dX3_lieSo_10 : decode cX3_lieSo 10 = .ok (.iconst 1, 1) := by decide +kernel
theorem dX3_lieSo_11 : decode cX3_lieSo 11 = .ok (.iaload, 1) := by decide +kernel
theorem dX3_lieSo_12 : decode cX3_lieSo 12 = .ok (.aload_n 0, 1) := by decide +kernel
theorem dX3_lieSo_13 : decode cX3_lieSo 13 = .ok (.getfield 20, 3) := by decide +kernel
theorem dX3_lieSo_16 : decode cX3_lieSo 16 = .ok (.iconst 2, 1) := by decide +kernel
theorem dX3_lieSo_17 : decode cX3_lieSo 17 = .ok (.iaload, 1) := by decide +kernel
theorem dX3_lieSo_18 : decode cX3_lieSo 18 = .ok (.invokestatic 154, 3) := by decide +kernel
theorem dX3_lieSo_21 : decode cX3_lieSo 21 = .ok (.invokestatic 154, 3) := by decide +kernel
theorem dX3_lieSo_24 : decode cX3_lieSo 24 = .ok (.istore_n 2, 1) := by decide +kernel
theorem dX3_lieSo_25 : decode cX3_lieSo 25 = .ok (.aload_n 0, 1) := by decide +kernel
theorem dX3_lieSo_26 : decode cX3_lieSo 26 = .ok (.getfield 20, 3) := by decide +kernel
theorem dX3_lieSo_29 : decode cX3_lieSo 29 = .ok (.iconst 0, 1) := by decide +kernel
theorem dX3_lieSo_30 : decode cX3_lieSo 30 = .ok (.iaload, 1) := by decide +kernel
theorem dX3_lieSo_31 : decode cX3_lieSo 31 = .ok (.aload_n 0, 1) := by decide +kernel
theorem dX3_lieSo_32 : decode cX3_lieSo 32 = .ok (.getfield 20, 3) := by decide +kernel
theorem dX3_lieSo_35 : decode cX3_lieSo 35 = .ok (.iconst 3, 1) := by decide +kernel
theorem dX3_lieSo_36 : decode cX3_lieSo 36 = .ok (.iaload, 1) := by decide +kernel
theorem dX3_lieSo_37 : decode cX3_lieSo 37 = .ok (.aload_n 0, 1) := by decide +kernel
theorem dX3_lieSo_38 : decode cX3_lieSo 38 = .ok (.getfield 20, 3) := by decide +kernel
theorem dX3_lieSo_41 : decode cX3_lieSo 41 = .ok (.bipush 6, 2) := by decide +kernel
theorem dX3_lieSo_43 : decode cX3_lieSo 43 = .ok (.iaload, 1) := by decide +kernel
theorem dX3_lieSo_44 : decode cX3_lieSo 44 = .ok (.invokestatic 154, 3) := by decide +kernel
theorem dX3_lieSo_47 : decode cX3_lieSo 47 = .ok (.invokestatic 154, 3) := by decide +kernel
theorem dX3_lieSo_50 : decode cX3_lieSo 50 = .ok (.istore_n 3, 1) := by decide +kernel
theorem dX3_lieSo_51 : decode cX3_lieSo 51 = .ok (.iload_n 1, 1) := by decide +kernel
theorem dX3_lieSo_52 : decode cX3_lieSo 52 = .ok (.tableswitch 234 0 7 #[48, 85, 98, 120, 127, 149, 171, 214], 48) := by decide +kernel
theorem dX3_lieSo_100 : decode cX3_lieSo 100 = .ok (.iload_n 2, 1) := by decide +kernel
theorem dX3_lieSo_101 : decode cX3_lieSo 101 = .ok (.ifCond .ge 7, 3) := by decide +kernel
theorem dX3_lieSo_104 : decode cX3_lieSo 104 = .ok (.iload_n 3, 1) := by decide +kernel
theorem dX3_lieSo_105 : decode cX3_lieSo 105 = .ok (.ifCond .lt 26, 3) := by decide +kernel
theorem dX3_lieSo_108 : decode cX3_lieSo 108 = .ok (.aload_n 0, 1) := by decide +kernel
theorem dX3_lieSo_109 : decode cX3_lieSo 109 = .ok (.iconst 0, 1) := by decide +kernel
theorem dX3_lieSo_110 : decode cX3_lieSo 110 = .ok (.iconst 0, 1) := by decide +kernel
theorem dX3_lieSo_111 : decode cX3_lieSo 111 = .ok (.invokevirtual 296, 3) := by decide +kernel
theorem dX3_lieSo_114 : decode cX3_lieSo 114 = .ok (.ifCond .eq 21, 3) := by decide +kernel
theorem dX3_lieSo_117 : decode cX3_lieSo 117 = .ok (.aload_n 0, 1) := by decide +kernel
theorem dX3_lieSo_118 : decode cX3_lieSo 118 = .ok (.invokevirtual 299, 3) := by decide +kernel
theorem dX3_lieSo_121 : decode cX3_lieSo 121 = .ok (.ifCond .ne 14, 3) := by decide +kernel
theorem dX3_lieSo_124 : decode cX3_lieSo 124 = .ok (.aload_n 0, 1) := by decide +kernel
theorem dX3_lieSo_125 : decode cX3_lieSo 125 = .ok (.invokevirtual 302, 3) := by decide +kernel
theorem dX3_lieSo_128 : decode cX3_lieSo 128 = .ok (.ifCond .ne 7, 3) := by decide +kernel
theorem dX3_lieSo_131 : decode cX3_lieSo 131 = .ok (.iconst 1, 1) := by decide +kernel
theorem dX3_lieSo_132 : decode cX3_lieSo 132 = .ok (.goto 4, 3) := by decide +kernel
theorem dX3_lieSo_135 : decode cX3_lieSo 135 = .ok (.iconst 0, 1) := by decide +kernel
theorem dX3_lieSo_136 : decode cX3_lieSo 136 = .ok (.ireturn, 1) := by decide +kernel
theorem dX3_lieSo_137 : decode cX3_lieSo 137 = .ok (.aload_n 0, 1) := by decide +kernel
theorem dX3_lieSo_138 : decode cX3_lieSo 138 = .ok (.invokevirtual 305, 3) := by decide +kernel
theorem dX3_lieSo_141 : decode cX3_lieSo 141 = .ok (.ifCond .ne 7, 3) := by decide +kernel
theorem dX3_lieSo_144 : decode cX3_lieSo 144 = .ok (.iconst 1, 1) := by decide +kernel
theorem dX3_lieSo_145 : decode cX3_lieSo 145 = .ok (.goto 4, 3) := by decide +kernel
theorem dX3_lieSo_148 : decode cX3_lieSo 148 = .ok (.iconst 0, 1) := by decide +kernel
theorem dX3_lieSo_149 : decode cX3_lieSo 149 = .ok (.ireturn, 1) := by decide +kernel
theorem dX3_lieSo_150 : decode cX3_lieSo 150 = .ok (.aload_n 0, 1) := by decide +kernel
theorem dX3_lieSo_151 : decode cX3_lieSo 151 = .ok (.iconst 0, 1) := by decide +kernel
theorem dX3_lieSo_152 : decode cX3_lieSo 152 = .ok (.iconst 0, 1) := by decide +kernel
theorem dX3_lieSo_153 : decode cX3_lieSo 153 = .ok (.invokevirtual 296, 3) := by decide +kernel
theorem dX3_lieSo_156 : decode cX3_lieSo 156 = .ok (.ifCond .ne 14, 3) := by decide +kernel
theorem dX3_lieSo_159 : decode cX3_lieSo 159 = .ok (.aload_n 0, 1) := by decide +kernel
theorem dX3_lieSo_160 : decode cX3_lieSo 160 = .ok (.invokevirtual 305, 3) := by decide +kernel
theorem dX3_lieSo_163 : decode cX3_lieSo 163 = .ok (.ifCond .eq 7, 3) := by decide +kernel
theorem dX3_lieSo_166 : decode cX3_lieSo 166 = .ok (.iconst 1, 1) := by decide +kernel
theorem dX3_lieSo_167 : decode cX3_lieSo 167 = .ok (.goto 4, 3) := by decide +kernel
theorem dX3_lieSo_170 : decode cX3_lieSo 170 = .ok (.iconst 0, 1) := by decide +kernel
theorem dX3_lieSo_171 : decode cX3_lieSo 171 = .ok (.ireturn, 1) := by decide +kernel
theorem dX3_lieSo_172 : decode cX3_lieSo 172 = .ok (.aload_n 0, 1) := by decide +kernel
theorem dX3_lieSo_173 : decode cX3_lieSo 173 = .ok (.iload_n 2, 1) := by decide +kernel
theorem dX3_lieSo_174 : decode cX3_lieSo 174 = .ok (.iload_n 3, 1) := by decide +kernel
theorem dX3_lieSo_175 : decode cX3_lieSo 175 = .ok (.invokevirtual 308, 3) := by decide +kernel
theorem dX3_lieSo_178 : decode cX3_lieSo 178 = .ok (.ireturn, 1) := by decide +kernel
theorem dX3_lieSo_179 : decode cX3_lieSo 179 = .ok (.aload_n 0, 1) := by decide +kernel
theorem dX3_lieSo_180 : decode cX3_lieSo 180 = .ok (.iconst 0, 1) := by decide +kernel
theorem dX3_lieSo_181 : decode cX3_lieSo 181 = .ok (.iconst 0, 1) := by decide +kernel
theorem dX3_lieSo_182 : decode cX3_lieSo 182 = .ok (.invokevirtual 296, 3) := by decide +kernel
theorem dX3_lieSo_185 : decode cX3_lieSo 185 = .ok (.ifCond .eq 14, 3) := by decide +kernel
theorem dX3_lieSo_188 : decode cX3_lieSo 188 = .ok (.aload_n 0, 1) := by decide +kernel
theorem dX3_lieSo_189 : decode cX3_lieSo 189 = .ok (.invokevirtual 299, 3) := by decide +kernel
theorem dX3_lieSo_192 : decode cX3_lieSo 192 = .ok (.ifCond .ne 7, 3) := by decide +kernel
theorem dX3_lieSo_195 : decode cX3_lieSo 195 = .ok (.iconst 1, 1) := by decide +kernel
theorem dX3_lieSo_196 : decode cX3_lieSo 196 = .ok (.goto 4, 3) := by decide +kernel
theorem dX3_lieSo_199 : decode cX3_lieSo 199 = .ok (.iconst 0, 1) := by decide +kernel
theorem dX3_lieSo_200 : decode cX3_lieSo 200 = .ok (.ireturn, 1) := by decide +kernel
theorem dX3_lieSo_201 : decode cX3_lieSo 201 = .ok (.aload_n 0, 1) := by decide +kernel
theorem dX3_lieSo_202 : decode cX3_lieSo 202 = .ok (.iconst 0, 1) := by decide +kernel
theorem dX3_lieSo_203 : decode cX3_lieSo 203 = .ok (.iconst 0, 1) := by decide +kernel
theorem dX3_lieSo_204 : decode cX3_lieSo 204 = .ok (.invokevirtual 296, 3) := by decide +kernel
theorem dX3_lieSo_207 : decode cX3_lieSo 207 = .ok (.ifCond .eq 14, 3) := by decide +kernel
theorem dX3_lieSo_210 : decode cX3_lieSo 210 = .ok (.aload_n 0, 1) := by decide +kernel
theorem dX3_lieSo_211 : decode cX3_lieSo 211 = .ok (.invokevirtual 302, 3) := by decide +kernel
theorem dX3_lieSo_214 : decode cX3_lieSo 214 = .ok (.ifCond .ne 7, 3) := by decide +kernel
theorem dX3_lieSo_217 : decode cX3_lieSo 217 = .ok (.iconst 1, 1) := by decide +kernel
theorem dX3_lieSo_218 : decode cX3_lieSo 218 = .ok (.goto 4, 3) := by decide +kernel
theorem dX3_lieSo_221 : decode cX3_lieSo 221 = .ok (.iconst 0, 1) := by decide +kernel
theorem dX3_lieSo_222 : decode cX3_lieSo 222 = .ok (.ireturn, 1) := by decide +kernel
theorem dX3_lieSo_223 : decode cX3_lieSo 223 = .ok (.iload_n 2, 1) := by decide +kernel
theorem dX3_lieSo_224 : decode cX3_lieSo 224 = .ok (.iload_n 3, 1) := by decide +kernel
theorem dX3_lieSo_225 : decode cX3_lieSo 225 = .ok (.if_icmp .ne 39, 3) := by decide +kernel
theorem dX3_lieSo_228 : decode cX3_lieSo 228 = .ok (.iload_n 2, 1) := by decide +kernel
theorem dX3_lieSo_229 : decode cX3_lieSo 229 = .ok (.ifCond .lt 35, 3) := by decide +kernel
theorem dX3_lieSo_232 : decode cX3_lieSo 232 = .ok (.aload_n 0, 1) := by decide +kernel
theorem dX3_lieSo_233 : decode cX3_lieSo 233 = .ok (.getfield 20, 3) := by decide +kernel
theorem dX3_lieSo_236 : decode cX3_lieSo 236 = .ok (.iconst 0, 1) := by decide +kernel
theorem dX3_lieSo_237 : decode cX3_lieSo 237 = .ok (.iaload, 1) := by decide +kernel
theorem dX3_lieSo_238 : decode cX3_lieSo 238 = .ok (.iload_n 2, 1) := by decide +kernel
theorem dX3_lieSo_239 : decode cX3_lieSo 239 = .ok (.if_icmp .ne 25, 3) := by decide +kernel
theorem dX3_lieSo_242 : decode cX3_lieSo 242 = .ok (.aload_n 0, 1) := by decide +kernel
theorem dX3_lieSo_243 : decode cX3_lieSo 243 = .ok (.iconst 0, 1) := by decide +kernel
theorem dX3_lieSo_244 : decode cX3_lieSo 244 = .ok (.iconst 2, 1) := by decide +kernel
theorem dX3_lieSo_245 : decode cX3_lieSo 245 = .ok (.invokevirtual 296, 3) := by decide +kernel
theorem dX3_lieSo_248 : decode cX3_lieSo 248 = .ok (.ifCond .eq 16, 3) := by decide +kernel
theorem dX3_lieSo_251 : decode cX3_lieSo 251 = .ok (.aload_n 0, 1) := by decide +kernel
theorem dX3_lieSo_252 : decode cX3_lieSo 252 = .ok (.iconst 2, 1) := by decide +kernel
theorem dX3_lieSo_253 : decode cX3_lieSo 253 = .ok (.iconst 0, 1) := by decide +kernel
theorem dX3_lieSo_254 : decode cX3_lieSo 254 = .ok (.invokevirtual 296, 3) := by decide +kernel
theorem dX3_lieSo_257 : decode cX3_lieSo 257 = .ok (.ifCond .eq 7, 3) := by decide +kernel
theorem dX3_lieSo_260 : decode cX3_lieSo 260 = .ok (.iconst 1, 1) := by decide +kernel
theorem dX3_lieSo_261 : decode cX3_lieSo 261 = .ok (.goto 4, 3) := by decide +kernel
theorem dX3_lieSo_264 : decode cX3_lieSo 264 = .ok (.iconst 0, 1) := by decide +kernel
theorem dX3_lieSo_265 : decode cX3_lieSo 265 = .ok (.ireturn, 1) := by decide +kernel
theorem dX3_lieSo_266 : decode cX3_lieSo 266 = .ok (.aload_n 0, 1) := by decide +kernel
theorem dX3_lieSo_267 : decode cX3_lieSo 267 = .ok (.invokevirtual 305, 3) := by decide +kernel
theorem dX3_lieSo_270 : decode cX3_lieSo 270 = .ok (.ifCond .eq 14, 3) := by decide +kernel
theorem dX3_lieSo_273 : decode cX3_lieSo 273 = .ok (.aload_n 0, 1) := by decide +kernel
theorem dX3_lieSo_274 : decode cX3_lieSo 274 = .ok (.invokevirtual 299, 3) := by decide +kernel
theorem dX3_lieSo_277 : decode cX3_lieSo 277 = .ok (.ifCond .ne 7, 3) := by decide +kernel
theorem dX3_lieSo_280 : decode cX3_lieSo 280 = .ok (.iconst 1, 1) := by decide +kernel
theorem dX3_lieSo_281 : decode cX3_lieSo 281 = .ok (.goto 4, 3) := by decide +kernel
theorem dX3_lieSo_284 : decode cX3_lieSo 284 = .ok (.iconst 0, 1) := by decide +kernel
theorem dX3_lieSo_285 : decode cX3_lieSo 285 = .ok (.ireturn, 1) := by decide +kernel
theorem dX3_lieSo_286 : decode cX3_lieSo 286 = .ok (.aload_n 0, 1) := by decide +kernel
theorem dX3_lieSo_287 : decode cX3_lieSo 287 = .ok (.invokevirtual 305, 3) := by decide +kernel
theorem dX3_lieSo_290 : decode cX3_lieSo 290 = .ok (.ifCond .eq 14, 3) := by decide +kernel
theorem dX3_lieSo_293 : decode cX3_lieSo 293 = .ok (.aload_n 0, 1) := by decide +kernel
theorem dX3_lieSo_294 : decode cX3_lieSo 294 = .ok (.invokevirtual 302, 3) := by decide +kernel
theorem dX3_lieSo_297 : decode cX3_lieSo 297 = .ok (.ifCond .ne 7, 3) := by decide +kernel
theorem dX3_lieSo_300 : decode cX3_lieSo 300 = .ok (.iconst 1, 1) := by decide +kernel
theorem dX3_lieSo_301 : decode cX3_lieSo 301 = .ok (.goto 4, 3) := by decide +kernel
theorem dX3_lieSo_304 : decode cX3_lieSo 304 = .ok (.iconst 0, 1) := by decide +kernel
theorem dX3_lieSo_305 : decode cX3_lieSo 305 = .ok (.ireturn, 1) := by decide +kernel
abbrev M_X3_lieSo : MRec := (yX3_lieSo, cX3_lieSo, 4, (some Jvm.ClassFile.FieldType.boolean), [])
theorem m_X3_lieSo : en_M M_X3_lieSo 1 := ⟨t_2045, t_11, ⟨by decide +kernel, by decide +kernel⟩, by decide +kernel, by decide +kernel, by decide +kernel⟩
theorem dX12_thrown_0 : decode cX12_thrown 0 = .ok (.aload_n 0, 1) := by decide +kernel
theorem dX12_thrown_1 : decode cX12_thrown 1 = .ok (.getfield 271, 3) := by decide +kernel
theorem dX12_thrown_4 : decode cX12_thrown 4 = .ok (.ireturn, 1) := by decide +kernel
abbrev M_X12_thrown : MRec := (yX12_thrown, cX12_thrown, 1, (some Jvm.ClassFile.FieldType.int), [])
theorem m_X12_thrown : en_M M_X12_thrown 0 := ⟨t_2800, t_14, ⟨by decide +kernel, by decide +kernel⟩, by decide +kernel, by decide +kernel, by decide +kernel⟩
theorem dX12_fails_0 : decode cX12_fails 0 = .ok (.aload_n 0, 1) := by decide +kernel
theorem dX12_fails_1 : decode cX12_fails 1 = .ok (.iload_n 1, 1) := by decide +kernel
theorem dX12_fails_2 : decode cX12_fails 2 = .ok (.ifCond .eq 14, 3) := by decide +kernel
theorem dX12_fails_5 : decode cX12_fails 5 = .ok (.aload_n 0, 1) := by decide +kernel
theorem dX12_fails_6 : decode cX12_fails 6 = .ok (.getfield 271, 3) := by decide +kernel
theorem dX12_fails_9 : decode cX12_fails 9 = .ok (.ifCond .ne 7, 3) := by decide +kernel
theorem dX12_fails_12 : decode cX12_fails 12 = .ok (.iload_n 2, 1) := by decide +kernel
theorem dX12_fails_13 : decode cX12_fails 13 = .ok (.goto 7, 3) := by decide +kernel
theorem dX12_fails_16 : decode cX12_fails 16 = .ok (.aload_n 0, 1) := by decide +kernel
theorem dX12_fails_17 : decode cX12_fails 17 = .ok (.getfield 271, 3) := by decide +kernel
theorem dX12_fails_20 : decode cX12_fails 20 = .ok (.putfield 271, 3) := by decide +kernel
theorem dX12_fails_23 : decode cX12_fails 23 = .ok (.aload_n 0, 1) := by decide +kernel
theorem dX12_fails_24 : decode cX12_fails 24 = .ok (.getfield 271, 3) := by decide +kernel
theorem dX12_fails_27 : decode cX12_fails 27 = .ok (.ifCond .eq 7, 3) := by decide +kernel
theorem dX12_fails_30 : decode cX12_fails 30 = .ok (.iconst 1, 1) := by decide +kernel
theorem dX12_fails_31 : decode cX12_fails 31 = .ok (.goto 4, 3) := by decide +kernel
theorem dX12_fails_34 : decode cX12_fails 34 = .ok (.iconst 0, 1) := by decide +kernel
theorem dX12_fails_35 : decode cX12_fails 35 = .ok (.ireturn, 1) := by decide +kernel
abbrev M_X12_fails : MRec := (yX12_fails, cX12_fails, 3, (some Jvm.ClassFile.FieldType.boolean), [])
theorem m_X12_fails : en_M M_X12_fails 2 := ⟨t_2808, t_14, ⟨by decide +kernel, by decide +kernel⟩, by decide +kernel, by decide +kernel, by decide +kernel⟩
theorem dX12_in_0 : decode cX12_in 0 = .ok (.lload_n 0, 1) := by decide +kernel
theorem dX12_in_1 : decode cX12_in 1 = .ok (.lload_n 2, 1) := by decide +kernel
theorem dX12_in_2 : decode cX12_in 2 = .ok (.lcmp, 1) := by decide +kernel
theorem dX12_in_3 : decode cX12_in 3 = .ok (.ifCond .lt 14, 3) := by decide +kernel
theorem dX12_in_6 : decode cX12_in 6 = .ok (.lload_n 0, 1) := by decide +kernel
theorem dX12_in_7 : decode cX12_in 7 = .ok (.lload 4, 2) := by decide +kernel
theorem dX12_in_9 : decode cX12_in 9 = .ok (.lcmp, 1) := by decide +kernel
theorem dX12_in_10 : decode cX12_in 10 = .ok (.ifCond .gt 7, 3) := by decide +kernel
theorem dX12_in_13 : decode cX12_in 13 = .ok (.iconst 1, 1) := by decide +kernel
theorem dX12_in_14 : decode cX12_in 14 = .ok (.goto 4, 3) := by decide +kernel
theorem dX12_in_17 : decode cX12_in 17 = .ok (.iconst 0, 1) := by decide +kernel
theorem dX12_in_18 : decode cX12_in 18 = .ok (.ireturn, 1) := by decide +kernel
abbrev M_X12_in : MRec := (yX12_in, cX12_in, 6, (some Jvm.ClassFile.FieldType.boolean), [])
theorem m_X12_in : en_M M_X12_in 3 := ⟨t_2820, t_14, ⟨by decide +kernel, by decide +kernel⟩, by decide +kernel, by decide +kernel, by decide +kernel⟩
theorem dX12_isSlot_0 : decode cX12_isSlot 0 = .ok (.iload_n 0, 1) := by decide +kernel
theorem dX12_isSlot_1 : decode cX12_isSlot 1 = .ok (.ifCond .lt 13, 3) := by decide +kernel
theorem dX12_isSlot_4 : decode cX12_isSlot 4 = .ok (.iload_n 0, 1) := by decide +kernel
theorem dX12_isSlot_5 : decode cX12_isSlot 5 = .ok (.bipush 32, 2) := by decide +kernel
theorem dX12_isSlot_7 : decode cX12_isSlot 7 = .ok (.if_icmp .ge 7, 3) := by decide +kernel
theorem dX12_isSlot_10 : decode cX12_isSlot 10 = .ok (.iconst 1, 1) := by decide +kernel
theorem dX12_isSlot_11 : decode cX12_isSlot 11 = .ok (.goto 4, 3) := by decide +kernel
theorem dX12_isSlot_14 : decode cX12_isSlot 14 = .ok (.iconst 0, 1) := by decide +kernel
theorem dX12_isSlot_15 : decode cX12_isSlot 15 = .ok (.ireturn, 1) := by decide +kernel
abbrev M_X12_isSlot : MRec := (yX12_isSlot, cX12_isSlot, 1, (some Jvm.ClassFile.FieldType.boolean), [])
theorem m_X12_isSlot : en_M M_X12_isSlot 1 := ⟨t_2843, t_14, ⟨by decide +kernel, by decide +kernel⟩, by decide +kernel, by decide +kernel, by decide +kernel⟩
theorem dX12_has_0 : decode cX12_has 0 = .ok (.aload_n 0, 1) := by decide +kernel
theorem dX12_has_1 : decode cX12_has 1 = .ok (.getfield 18, 3) := by decide +kernel
theorem dX12_has_4 : decode cX12_has 4 = .ok (.iload_n 1, 1) := by decide +kernel
theorem dX12_has_5 : decode cX12_has 5 = .ok (.iaload, 1) := by decide +kernel
theorem dX12_has_6 : decode cX12_has 6 = .ok (.ifCond .le 7, 3) := by decide +kernel
theorem dX12_has_9 : decode cX12_has 9 = .ok (.iconst 1, 1) := by decide +kernel
theorem dX12_has_10 : decode cX12_has 10 = .ok (.goto 4, 3) := by decide +kernel
theorem dX12_has_13 : decode cX12_has 13 = .ok (.iconst 0, 1) := by decide +kernel
theorem dX12_has_14 : decode cX12_has 14 = .ok (.ireturn, 1) := by decide +kernel
abbrev M_X12_has : MRec := (yX12_has, cX12_has, 2, (some Jvm.ClassFile.FieldType.boolean), [])
theorem m_X12_has : en_M M_X12_has 1 := ⟨t_3036, t_14, ⟨by decide +kernel, by decide +kernel⟩, by decide +kernel, by decide +kernel, by decide +kernel⟩
theorem dX12_clear_0 : decode cX12_clear 0 = .ok (.aload_n 0, 1) := by decide +kernel
theorem dX12_clear_1 : decode cX12_clear 1 = .ok (.getfield 18, 3) := by decide +kernel
theorem dX12_clear_4 : decode cX12_clear 4 = .ok (.iload_n 1, 1) := by decide +kernel
theorem dX12_clear_5 : decode cX12_clear 5 = .ok (.iconst 0, 1) := by decide +kernel
theorem dX12_clear_6 : decode cX12_clear 6 = .ok (.iastore, 1) := by decide +kernel
theorem dX12_clear_7 : decode cX12_clear 7 = .ok (.aload_n 0, 1) := by decide +kernel
theorem dX12_clear_8 : decode cX12_clear 8 = .ok (.getfield 26, 3) := by decide +kernel
theorem dX12_clear_11 : decode cX12_clear 11 = .ok (.iload_n 1, 1) := by decide +kernel
theorem dX12_clear_12 : decode cX12_clear 12 = .ok (.iconst 0, 1) := by decide +kernel
theorem dX12_clear_13 : decode cX12_clear 13 = .ok (.iastore, 1) := by decide +kernel
theorem dX12_clear_14 : decode cX12_clear 14 = .ok (.return_, 1) := by decide +kernel
abbrev M_X12_clear : MRec := (yX12_clear, cX12_clear, 2, none, [])
theorem m_X12_clear : en_M M_X12_clear 1 := ⟨t_2851, t_14, ⟨by decide +kernel, by decide +kernel⟩, by decide +kernel, by decide +kernel, by decide +kernel⟩
theorem dX12_move_0 : decode cX12_move 0 = .ok (.iconst 0, 1) := by decide +kernel
theorem dX12_move_1 : decode cX12_move 1 = .ok (.istore_n 3, 1) := by decide +kernel
theorem dX12_move_2 : decode cX12_move 2 = .ok (.iload_n 3, 1) := by decide +kernel
theorem dX12_move_3 : decode cX12_move 3 = .ok (.aload_n 0, 1) := by decide +kernel
theorem dX12_move_4 : decode cX12_move 4 = .ok (.getfield 18, 3) := by decide +kernel
theorem dX12_move_7 : decode cX12_move 7 = .ok (.iload_n 1, 1) := by decide +kernel
theorem dX12_move_8 : decode cX12_move 8 = .ok (.iaload, 1) := by decide +kernel
theorem dX12_move_9 : decode cX12_move 9 = .ok (.if_icmp .ge 33, 3) := by decide +kernel
theorem dX12_move_12 : decode cX12_move 12 = .ok (.aload_n 0, 1) := by decide +kernel
theorem dX12_move_13 : decode cX12_move 13 = .ok (.getfield 23, 3) := by decide +kernel
theorem dX12_move_16 : decode cX12_move 16 = .ok (.sipush 2048, 3) := by decide +kernel
theorem dX12_move_19 : decode cX12_move 19 = .ok (.iload_n 2, 1) := by decide +kernel
theorem dX12_move_20 : decode cX12_move 20 = .ok (.imul, 1) := by decide +kernel
theorem dX12_move_21 : decode cX12_move 21 = .ok (.iload_n 3, 1) := by decide +kernel
theorem dX12_move_22 : decode cX12_move 22 = .ok (.iadd, 1) := by decide +kernel
theorem dX12_move_23 : decode cX12_move 23 = .ok (.aload_n 0, 1) := by decide +kernel
theorem dX12_move_24 : decode cX12_move 24 = .ok (.getfield 23, 3) := by decide +kernel
theorem dX12_move_27 : decode cX12_move 27 = .ok (.sipush 2048, 3) := by decide +kernel
theorem dX12_move_30 : decode cX12_move 30 = .ok (.iload_n 1, 1) := by decide +kernel
theorem dX12_move_31 : decode cX12_move 31 = .ok (.imul, 1) := by decide +kernel
theorem dX12_move_32 : decode cX12_move 32 = .ok (.iload_n 3, 1) := by decide +kernel
theorem dX12_move_33 : decode cX12_move 33 = .ok (.iadd, 1) := by decide +kernel
theorem dX12_move_34 : decode cX12_move 34 = .ok (.iaload, 1) := by decide +kernel
theorem dX12_move_35 : decode cX12_move 35 = .ok (.iastore, 1) := by decide +kernel
theorem dX12_move_36 : decode cX12_move 36 = .ok (.iinc 3 1, 3) := by decide +kernel
theorem dX12_move_39 : decode cX12_move 39 = .ok (.goto (-37), 3) := by decide +kernel
theorem dX12_move_42 : decode cX12_move 42 = .ok (.iconst 0, 1) := by decide +kernel
theorem dX12_move_43 : decode cX12_move 43 = .ok (.istore_n 3, 1) := by decide +kernel
theorem dX12_move_44 : decode cX12_move 44 = .ok (.iload_n 3, 1) := by decide +kernel
theorem dX12_move_45 : decode cX12_move 45 = .ok (.aload_n 0, 1) := by decide +kernel
theorem dX12_move_46 : decode cX12_move 46 = .ok (.getfield 26, 3) := by decide +kernel
theorem dX12_move_49 : decode cX12_move 49 = .ok (.iload_n 1, 1) := by decide +kernel
theorem dX12_move_50 : decode cX12_move 50 = .ok (.iaload, 1) := by decide +kernel
theorem dX12_move_51 : decode cX12_move 51 = .ok (.if_icmp .ge 57, 3) := by decide +kernel
theorem dX12_move_54 : decode cX12_move 54 = .ok (.aload_n 0, 1) := by decide +kernel
theorem dX12_move_55 : decode cX12_move 55 = .ok (.getfield 29, 3) := by decide +kernel
theorem dX12_move_58 : decode cX12_move 58 = .ok (.sipush 2048, 3) := by decide +kernel
theorem dX12_move_61 : decode cX12_move 61 = .ok (.iload_n 2, 1) := by decide +kernel
theorem dX12_move_62 : decode cX12_move 62 = .ok (.imul, 1) := by decide +kernel
theorem dX12_move_63 : decode cX12_move 63 = .ok (.iload_n 3, 1) := by decide +kernel
theorem dX12_move_64 : decode cX12_move 64 = .ok (.iadd, 1) := by decide +kernel
theorem dX12_move_65 : decode cX12_move 65 = .ok (.aload_n 0, 1) := by decide +kernel
theorem dX12_move_66 : decode cX12_move 66 = .ok (.getfield 29, 3) := by decide +kernel
theorem dX12_move_69 : decode cX12_move 69 = .ok (.sipush 2048, 3) := by decide +kernel
theorem dX12_move_72 : decode cX12_move 72 = .ok (.iload_n 1, 1) := by decide +kernel
theorem dX12_move_73 : decode cX12_move 73 = .ok (.imul, 1) := by decide +kernel
theorem dX12_move_74 : decode cX12_move 74 = .ok (.iload_n 3, 1) := by decide +kernel
theorem dX12_move_75 : decode cX12_move 75 = .ok (.iadd, 1) := by decide +kernel
theorem dX12_move_76 : decode cX12_move 76 = .ok (.iaload, 1) := by decide +kernel
theorem dX12_move_77 : decode cX12_move 77 = .ok (.iastore, 1) := by decide +kernel
theorem dX12_move_78 : decode cX12_move 78 = .ok (.aload_n 0, 1) := by decide +kernel
theorem dX12_move_79 : decode cX12_move 79 = .ok (.getfield 32, 3) := by decide +kernel
theorem dX12_move_82 : decode cX12_move 82 = .ok (.sipush 2048, 3) := by decide +kernel
theorem dX12_move_85 : decode cX12_move 85 = .ok (.iload_n 2, 1) := by decide +kernel
theorem dX12_move_86 : decode cX12_move 86 = .ok (.imul, 1) := by decide +kernel
theorem dX12_move_87 : decode cX12_move 87 = .ok (.iload_n 3, 1) := by decide +kernel
theorem dX12_move_88 : decode cX12_move 88 = .ok (.iadd, 1) := by decide +kernel
theorem dX12_move_89 : decode cX12_move 89 = .ok (.aload_n 0, 1) := by decide +kernel
theorem dX12_move_90 : decode cX12_move 90 = .ok (.getfield 32, 3) := by decide +kernel
theorem dX12_move_93 : decode cX12_move 93 = .ok (.sipush 2048, 3) := by decide +kernel
theorem dX12_move_96 : decode cX12_move 96 = .ok (.iload_n 1, 1) := by decide +kernel
theorem dX12_move_97 : decode cX12_move 97 = .ok (.imul, 1) := by decide +kernel
theorem dX12_move_98 : decode cX12_move 98 = .ok (.iload_n 3, 1) := by decide +kernel
theorem dX12_move_99 : decode cX12_move 99 = .ok (.iadd, 1) := by decide +kernel
theorem dX12_move_100 : decode cX12_move 100 = .ok (.iaload, 1) := by decide +kernel
theorem dX12_move_101 : decode cX12_move 101 = .ok (.iastore, 1) := by decide +kernel
theorem dX12_move_102 : decode cX12_move 102 = .ok (.iinc 3 1, 3) := by decide +kernel
theorem dX12_move_105 : decode cX12_move 105 = .ok (.goto (-61), 3) := by decide +kernel
theorem dX12_move_108 : decode cX12_move 108 = .ok (.aload_n 0, 1) := by decide +kernel
theorem dX12_move_109 : decode cX12_move 109 = .ok (.getfield 18, 3) := by decide +kernel
theorem dX12_move_112 : decode cX12_move 112 = .ok (.iload_n 2, 1) := by decide +kernel
theorem dX12_move_113 : decode cX12_move 113 = .ok (.aload_n 0, 1) := by decide +kernel
theorem dX12_move_114 : decode cX12_move 114 = .ok (.getfield 18, 3) := by decide +kernel
theorem dX12_move_117 : decode cX12_move 117 = .ok (.iload_n 1, 1) := by decide +kernel
theorem dX12_move_118 : decode cX12_move 118 = .ok (.iaload, 1) := by decide +kernel
theorem dX12_move_119 : decode cX12_move 119 = .ok (.iastore, 1) := by decide +kernel
theorem dX12_move_120 : decode cX12_move 120 = .ok (.aload_n 0, 1) := by decide +kernel
theorem dX12_move_121 : decode cX12_move 121 = .ok (.getfield 26, 3) := by decide +kernel
theorem dX12_move_124 : decode cX12_move 124 = .ok (.iload_n 2, 1) := by decide +kernel
theorem dX12_move_125 : decode cX12_move 125 = .ok (.aload_n 0, 1) := by decide +kernel
theorem dX12_move_126 : decode cX12_move 126 = .ok (.getfield 26, 3) := by decide +kernel
theorem dX12_move_129 : decode cX12_move 129 = .ok (.iload_n 1, 1) := by decide +kernel
theorem dX12_move_130 : decode cX12_move 130 = .ok (.iaload, 1) := by decide +kernel
theorem dX12_move_131 : decode cX12_move 131 = .ok (.iastore, 1) := by decide +kernel
theorem dX12_move_132 : decode cX12_move 132 = .ok (.return_, 1) := by decide +kernel
abbrev M_X12_move : MRec := (yX12_move, cX12_move, 4, none, [])
theorem m_X12_move : en_M M_X12_move 2 := ⟨t_3024, t_14, ⟨by decide +kernel, by decide +kernel⟩, by decide +kernel, by decide +kernel, by decide +kernel⟩
theorem dX12_tell_0 : decode cX12_tell 0 = .ok (.aload_n 0, 1) := by decide +kernel
theorem dX12_tell_1 : decode cX12_tell 1 = .ok (.getfield 23, 3) := by decide +kernel
theorem dX12_tell_4 : decode cX12_tell 4 = .ok (.ldc 7, 2) := by decide +kernel
theorem dX12_tell_6 : decode cX12_tell 6 = .ok (.aload_n 0, 1) := by decide +kernel
theorem dX12_tell_7 : decode cX12_tell 7 = .ok (.getfield 18, 3) := by decide +kernel
theorem dX12_tell_10 : decode cX12_tell 10 = .ok (.bipush 32, 2) := by decide +kernel
theorem dX12_tell_12 : decode cX12_tell 12 = .ok (.iaload, 1) := by decide +kernel
theorem dX12_tell_13 : decode cX12_tell 13 = .ok (.iadd, 1) := by decide +kernel
theorem dX12_tell_14 : decode cX12_tell 14 = .ok (.iload_n 1, 1) := by decide +kernel
theorem dX12_tell_15 : decode cX12_tell 15 = .ok (.iastore, 1) := by decide +kernel
theorem dX12_tell_16 : decode cX12_tell 16 = .ok (.aload_n 0, 1) := by decide +kernel
theorem dX12_tell_17 : decode cX12_tell 17 = .ok (.getfield 18, 3) := by decide +kernel
theorem dX12_tell_20 : decode cX12_tell 20 = .ok (.bipush 32, 2) := by decide +kernel
theorem dX12_tell_22 : decode cX12_tell 22 = .ok (.dup2, 1) := by decide +kernel
theorem dX12_tell_23 : decode cX12_tell 23 = .ok (.iaload, 1) := by decide +kernel
theorem dX12_tell_24 : decode cX12_tell 24 = .ok (.iconst 1, 1) := by decide +kernel
theorem dX12_tell_25 : decode cX12_tell 25 = .ok (.iadd, 1) := by decide +kernel
theorem dX12_tell_26 : decode cX12_tell 26 = .ok (.iastore, 1) := by decide +kernel
theorem dX12_tell_27 : decode cX12_tell 27 = .ok (.return_, 1) := by decide +kernel
abbrev M_X12_tell : MRec := (yX12_tell, cX12_tell, 2, none, [])
theorem m_X12_tell : en_M M_X12_tell 1 := ⟨t_2905, t_14, ⟨by decide +kernel, by decide +kernel⟩, by decide +kernel, by decide +kernel, by decide +kernel⟩
theorem dX12_dot_0 : decode cX12_dot 0 = .ok (.aload_n 0, 1) := by decide +kernel
theorem dX12_dot_1 : decode cX12_dot 1 = .ok (.getfield 29, 3) := by decide +kernel
theorem dX12_dot_4 : decode cX12_dot 4 = .ok (.ldc 7, 2) := by decide +kernel
theorem dX12_dot_6 : decode cX12_dot 6 = .ok (.aload_n 0, 1) := by decide +kernel
theorem dX12_dot_7 : decode cX12_dot 7 = .ok (.getfield 26, 3) := by decide +kernel
theorem dX12_dot_10 : decode cX12_dot 10 = .ok (.bipush 32, 2) := by decide +kernel
theorem dX12_dot_12 : decode cX12_dot 12 = .ok (.iaload, 1) := by decide +kernel
theorem dX12_dot_13 : decode cX12_dot 13 = .ok (.iadd, 1) := by decide +kernel
theorem dX12_dot_14 : decode cX12_dot 14 = .ok (.lload_n 1, 1) := by decide +kernel
theorem dX12_dot_15 : decode cX12_dot 15 = .ok (.l2i, 1) := by decide +kernel
theorem dX12_dot_16 : decode cX12_dot 16 = .ok (.iastore, 1) := by decide +kernel
theorem dX12_dot_17 : decode cX12_dot 17 = .ok (.aload_n 0, 1) := by decide +kernel
theorem dX12_dot_18 : decode cX12_dot 18 = .ok (.getfield 32, 3) := by decide +kernel
theorem dX12_dot_21 : decode cX12_dot 21 = .ok (.ldc 7, 2) := by decide +kernel
theorem dX12_dot_23 : decode cX12_dot 23 = .ok (.aload_n 0, 1) := by decide +kernel
theorem dX12_dot_24 : decode cX12_dot 24 = .ok (.getfield 26, 3) := by decide +kernel
theorem dX12_dot_27 : decode cX12_dot 27 = .ok (.bipush 32, 2) := by decide +kernel
theorem dX12_dot_29 : decode cX12_dot 29 = .ok (.iaload, 1) := by decide +kernel
theorem dX12_dot_30 : decode cX12_dot 30 = .ok (.iadd, 1) := by decide +kernel
theorem dX12_dot_31 : decode cX12_dot 31 = .ok (.lload_n 3, 1) := by decide +kernel
theorem dX12_dot_32 : decode cX12_dot 32 = .ok (.l2i, 1) := by decide +kernel
theorem dX12_dot_33 : decode cX12_dot 33 = .ok (.iastore, 1) := by decide +kernel
theorem dX12_dot_34 : decode cX12_dot 34 = .ok (.aload_n 0, 1) := by decide +kernel
theorem dX12_dot_35 : decode cX12_dot 35 = .ok (.getfield 26, 3) := by decide +kernel
theorem dX12_dot_38 : decode cX12_dot 38 = .ok (.bipush 32, 2) := by decide +kernel
theorem dX12_dot_40 : decode cX12_dot 40 = .ok (.dup2, 1) := by decide +kernel
theorem dX12_dot_41 : decode cX12_dot 41 = .ok (.iaload, 1) := by decide +kernel
theorem dX12_dot_42 : decode cX12_dot 42 = .ok (.iconst 1, 1) := by decide +kernel
theorem dX12_dot_43 : decode cX12_dot 43 = .ok (.iadd, 1) := by decide +kernel
theorem dX12_dot_44 : decode cX12_dot 44 = .ok (.iastore, 1) := by decide +kernel
theorem dX12_dot_45 : decode cX12_dot 45 = .ok (.return_, 1) := by decide +kernel
abbrev M_X12_dot : MRec := (yX12_dot, cX12_dot, 5, none, [])
theorem m_X12_dot : en_M M_X12_dot 2 := ⟨t_2941, t_14, ⟨by decide +kernel, by decide +kernel⟩, by decide +kernel, by decide +kernel, by decide +kernel⟩
theorem dX12_four_0 : decode cX12_four 0 = .ok (.bipush 24, 2) := by decide +kernel
theorem dX12_four_2 : decode cX12_four 2 = .ok (.istore_n 2, 1) := by decide +kernel
theorem dX12_four_3 : decode cX12_four 3 = .ok (.iload_n 2, 1) := by decide +kernel
theorem dX12_four_4 : decode cX12_four 4 = .ok (.ifCond .lt 32, 3) := by decide +kernel
theorem dX12_four_7 : decode cX12_four 7 = .ok (.aload_n 0, 1) := by decide +kernel
theorem dX12_four_8 : decode cX12_four 8 = .ok (.getfield 8, 3) := by decide +kernel
theorem dX12_four_11 : decode cX12_four 11 = .ok (.aload_n 0, 1) := by decide +kernel
theorem dX12_four_12 : decode cX12_four 12 = .ok (.getfield 274, 3) := by decide +kernel
theorem dX12_four_15 : decode cX12_four 15 = .ok (.iload_n 1, 1) := by decide +kernel
theorem dX12_four_16 : decode cX12_four 16 = .ok (.iload_n 2, 1) := by decide +kernel
theorem dX12_four_17 : decode cX12_four 17 = .ok (.ishr, 1) := by decide +kernel
theorem dX12_four_18 : decode cX12_four 18 = .ok (.i2b, 1) := by decide +kernel
theorem dX12_four_19 : decode cX12_four 19 = .ok (.bastore, 1) := by decide +kernel
theorem dX12_four_20 : decode cX12_four 20 = .ok (.aload_n 0, 1) := by decide +kernel
theorem dX12_four_21 : decode cX12_four 21 = .ok (.dup, 1) := by decide +kernel
theorem dX12_four_22 : decode cX12_four 22 = .ok (.getfield 274, 3) := by decide +kernel
theorem dX12_four_25 : decode cX12_four 25 = .ok (.iconst 1, 1) := by decide +kernel
theorem dX12_four_26 : decode cX12_four 26 = .ok (.iadd, 1) := by decide +kernel
theorem dX12_four_27 : decode cX12_four 27 = .ok (.putfield 274, 3) := by decide +kernel
theorem dX12_four_30 : decode cX12_four 30 = .ok (.iinc 2 (-8), 3) := by decide +kernel
theorem dX12_four_33 : decode cX12_four 33 = .ok (.goto (-30), 3) := by decide +kernel
theorem dX12_four_36 : decode cX12_four 36 = .ok (.return_, 1) := by decide +kernel
abbrev M_X12_four : MRec := (yX12_four, cX12_four, 3, none, [])
theorem m_X12_four : en_M M_X12_four 1 := ⟨t_2812, t_14, ⟨by decide +kernel, by decide +kernel⟩, by decide +kernel, by decide +kernel, by decide +kernel⟩
theorem dX12_feed_0 : decode cX12_feed 0 = .ok (.aload_n 0, 1) := by decide +kernel
theorem dX12_feed_1 : decode cX12_feed 1 = .ok (.iconst 0, 1) := by decide +kernel
theorem dX12_feed_2 : decode cX12_feed 2 = .ok (.putfield 271, 3) := by decide +kernel
theorem dX12_feed_5 : decode cX12_feed 5 = .ok (.aload_n 0, 1) := by decide +kernel
theorem dX12_feed_6 : decode cX12_feed 6 = .ok (.aload_n 0, 1) := by decide +kernel
theorem dX12_feed_7 : decode cX12_feed 7 = .ok (.getfield 274, 3) := by decide +kernel
theorem dX12_feed_10 : decode cX12_feed 10 = .ok (.bipush 20, 2) := by decide +kernel
theorem dX12_feed_12 : decode cX12_feed 12 = .ok (.iadd, 1) := by decide +kernel
theorem dX12_feed_13 : decode cX12_feed 13 = .ok (.ldc 7, 2) := by decide +kernel
theorem dX12_feed_15 : decode cX12_feed 15 = .ok (.if_icmp .le 7, 3) := by decide +kernel
theorem dX12_feed_18 : decode cX12_feed 18 = .ok (.iconst 1, 1) := by decide +kernel
theorem dX12_feed_19 : decode cX12_feed 19 = .ok (.goto 4, 3) := by decide +kernel
theorem dX12_feed_22 : decode cX12_feed 22 = .ok (.iconst 0, 1) := by decide +kernel
theorem dX12_feed_23 : decode cX12_feed 23 = .ok (.iconst 1, 1) := by decide +kernel
theorem dX12_feed_24 : decode cX12_feed 24 = .ok (.invokevirtual 277, 3) := by decide +kernel
theorem dX12_feed_27 : decode cX12_feed 27 = .ok (.ifCond .eq 5, 3) := by decide +kernel
theorem dX12_feed_30 : decode cX12_feed 30 = .ok (.iconst 0, 1) := by decide +kernel
theorem dX12_feed_31 : decode cX12_feed 31 = .ok (.ireturn, 1) := by decide +kernel
theorem dX12_feed_32 : decode cX12_feed 32 = .ok (.aload_n 0, 1) := by decide +kernel
theorem dX12_feed_33 : decode cX12_feed 33 = .ok (.iload_n 1, 1) := by decide +kernel
theorem dX12_feed_34 : decode cX12_feed 34 = .ok (.invokevirtual 281, 3) := by decide +kernel
theorem dX12_feed_37 : decode cX12_feed 37 = .ok (.aload_n 0, 1) := by decide +kernel
theorem dX12_feed_38 : decode cX12_feed 38 = .ok (.iload_n 2, 1) := by decide +kernel
theorem dX12_feed_39 : decode cX12_feed 39 = .ok (.invokevirtual 281, 3) := by decide +kernel
theorem dX12_feed_42 : decode cX12_feed 42 = .ok (.aload_n 0, 1) := by decide +kernel
theorem dX12_feed_43 : decode cX12_feed 43 = .ok (.iload_n 3, 1) := by decide +kernel
theorem dX12_feed_44 : decode cX12_feed 44 = .ok (.invokevirtual 281, 3) := by decide +kernel
theorem dX12_feed_47 : decode cX12_feed 47 = .ok (.aload_n 0, 1) := by decide +kernel
theorem dX12_feed_48 : decode cX12_feed 48 = .ok (.iload 4, 2) := by decide +kernel
theorem dX12_feed_50 : decode cX12_feed 50 = .ok (.invokevirtual 281, 3) := by decide +kernel
theorem dX12_feed_53 : decode cX12_feed 53 = .ok (.aload_n 0, 1) := by decide +kernel
theorem dX12_feed_54 : decode cX12_feed 54 = .ok (.iload 5, 2) := by decide +kernel
theorem dX12_feed_56 : decode cX12_feed 56 = .ok (.invokevirtual 281, 3) := by decide +kernel
theorem dX12_feed_59 : decode cX12_feed 59 = .ok (.aload_n 0, 1) := by decide +kernel
theorem dX12_feed_60 : decode cX12_feed 60 = .ok (.getfield 274, 3) := by decide +kernel
theorem dX12_feed_63 : decode cX12_feed 63 = .ok (.ireturn, 1) := by decide +kernel
abbrev M_X12_feed : MRec := (yX12_feed, cX12_feed, 6, (some Jvm.ClassFile.FieldType.int), [])
theorem m_X12_feed : en_M M_X12_feed 5 := ⟨t_2804, t_14, ⟨by decide +kernel, by decide +kernel⟩, by decide +kernel, by decide +kernel, by decide +kernel⟩
theorem dX12_end_0 : decode cX12_end 0 = .ok (.aload_n 0, 1) := by decide +kernel
theorem dX12_end_1 : decode cX12_end 1 = .ok (.iconst 0, 1) := by decide +kernel
theorem dX12_end_2 : decode cX12_end 2 = .ok (.putfield 271, 3) := by decide +kernel
theorem dX12_end_5 : decode cX12_end 5 = .ok (.aload_n 0, 1) := by decide +kernel
theorem dX12_end_6 : decode cX12_end 6 = .ok (.iload_n 1, 1) := by decide +kernel
theorem dX12_end_7 : decode cX12_end 7 = .ok (.i2l, 1) := by decide +kernel
theorem dX12_end_8 : decode cX12_end 8 = .ok (.lconst 0, 1) := by decide +kernel
theorem dX12_end_9 : decode cX12_end 9 = .ok (.ldc2_w 285, 3) := by decide +kernel
theorem dX12_end_12 : decode cX12_end 12 = .ok (.invokestatic 287, 3) := by decide +kernel
theorem dX12_end_15 : decode cX12_end 15 = .ok (.ifCond .ne 7, 3) := by decide +kernel
theorem dX12_end_18 : decode cX12_end 18 = .ok (.iconst 1, 1) := by decide +kernel
theorem dX12_end_19 : decode cX12_end 19 = .ok (.goto 4, 3) := by decide +kernel
theorem dX12_end_22 : decode cX12_end 22 = .ok (.iconst 0, 1) := by decide +kernel
theorem dX12_end_23 : decode cX12_end 23 = .ok (.iconst 1, 1) := by decide +kernel
theorem dX12_end_24 : decode cX12_end 24 = .ok (.invokevirtual 277, 3) := by decide +kernel
theorem dX12_end_27 : decode cX12_end 27 = .ok (.ifCond .ne 25, 3) := by decide +kernel
theorem dX12_end_30 : decode cX12_end 30 = .ok (.aload_n 0, 1) := by decide +kernel
theorem dX12_end_31 : decode cX12_end 31 = .ok (.aload_n 0, 1) := by decide +kernel
theorem dX12_end_32 : decode cX12_end 32 = .ok (.getfield 274, 3) := by decide +kernel
theorem dX12_end_35 : decode cX12_end 35 = .ok (.bipush 20, 2) := by decide +kernel
theorem dX12_end_37 : decode cX12_end 37 = .ok (.if_icmp .ge 7, 3) := by decide +kernel
theorem dX12_end_40 : decode cX12_end 40 = .ok (.iconst 1, 1) := by decide +kernel
theorem dX12_end_41 : decode cX12_end 41 = .ok (.goto 4, 3) := by decide +kernel
theorem dX12_end_44 : decode cX12_end 44 = .ok (.iconst 0, 1) := by decide +kernel
theorem dX12_end_45 : decode cX12_end 45 = .ok (.iconst 2, 1) := by decide +kernel
theorem dX12_end_46 : decode cX12_end 46 = .ok (.invokevirtual 277, 3) := by decide +kernel
theorem dX12_end_49 : decode cX12_end 49 = .ok (.ifCond .eq 5, 3) := by decide +kernel
theorem dX12_end_52 : decode cX12_end 52 = .ok (.iconst 0, 1) := by decide +kernel
theorem dX12_end_53 : decode cX12_end 53 = .ok (.ireturn, 1) := by decide +kernel
theorem dX12_end_54 : decode cX12_end 54 = .ok (.aload_n 0, 1) := by decide +kernel
theorem dX12_end_55 : decode cX12_end 55 = .ok (.dup, 1) := by decide +kernel
theorem dX12_end_56 : decode cX12_end 56 = .ok (.getfield 274, 3) := by decide +kernel
theorem dX12_end_59 : decode cX12_end 59 = .ok (.bipush 20, 2) := by decide +kernel
theorem dX12_end_61 : decode cX12_end 61 = .ok (.iload_n 1, 1) := by decide +kernel
theorem dX12_end_62 : decode cX12_end 62 = .ok (.isub, 1) := by decide +kernel
theorem dX12_end_63 : decode cX12_end 63 = .ok (.isub, 1) := by decide +kernel
theorem dX12_end_64 : decode cX12_end 64 = .ok (.putfield 274, 3) := by decide +kernel
theorem dX12_end_67 : decode cX12_end 67 = .ok (.aload_n 0, 1) := by decide +kernel
theorem dX12_end_68 : decode cX12_end 68 = .ok (.getfield 274, 3) := by decide +kernel
theorem dX12_end_71 : decode cX12_end 71 = .ok (.ireturn, 1) := by decide +kernel
abbrev M_X12_end : MRec := (yX12_end, cX12_end, 2, (some Jvm.ClassFile.FieldType.int), [])
theorem m_X12_end : en_M M_X12_end 1 := ⟨t_2816, t_14, ⟨by decide +kernel, by decide +kernel⟩, by decide +kernel, by decide +kernel, by decide +kernel⟩
theorem dX12_again_0 : decode cX12_again 0 = .ok (.aload_n 0, 1) := by decide +kernel
theorem dX12_again_1 : decode cX12_again 1 = .ok (.iconst 0, 1) := by decide +kernel
theorem dX12_again_2 : decode cX12_again 2 = .ok (.putfield 271, 3) := by decide +kernel
theorem dX12_again_5 : decode cX12_again 5 = .ok (.aload_n 0, 1) := by decide +kernel
theorem dX12_again_6 : decode cX12_again 6 = .ok (.aload_n 0, 1) := by decide +kernel
theorem dX12_again_7 : decode cX12_again 7 = .ok (.getfield 291, 3) := by decide +kernel
theorem dX12_again_10 : decode cX12_again 10 = .ok (.ldc 7, 2) := by decide +kernel
theorem dX12_again_12 : decode cX12_again 12 = .ok (.if_icmp .ge 10, 3) := by decide +kernel
theorem dX12_again_15 : decode cX12_again 15 = .ok (.aload_n 0, 1) := by decide +kernel
theorem dX12_again_16 : decode cX12_again 16 = .ok (.getfield 291, 3) := by decide +kernel
theorem dX12_again_19 : decode cX12_again 19 = .ok (.goto 5, 3) := by decide +kernel
theorem dX12_again_22 : decode cX12_again 22 = .ok (.ldc 7, 2) := by decide +kernel
theorem dX12_again_24 : decode cX12_again 24 = .ok (.putfield 274, 3) := by decide +kernel
theorem dX12_again_27 : decode cX12_again 27 = .ok (.iconst 0, 1) := by decide +kernel
theorem dX12_again_28 : decode cX12_again 28 = .ok (.istore_n 1, 1) := by decide +kernel
theorem dX12_again_29 : decode cX12_again 29 = .ok (.iload_n 1, 1) := by decide +kernel
theorem dX12_again_30 : decode cX12_again 30 = .ok (.aload_n 0, 1) := by decide +kernel
theorem dX12_again_31 : decode cX12_again 31 = .ok (.getfield 274, 3) := by decide +kernel
theorem dX12_again_34 : decode cX12_again 34 = .ok (.if_icmp .ge 21, 3) := by decide +kernel
theorem dX12_again_37 : decode cX12_again 37 = .ok (.aload_n 0, 1) := by decide +kernel
theorem dX12_again_38 : decode cX12_again 38 = .ok (.getfield 8, 3) := by decide +kernel
theorem dX12_again_41 : decode cX12_again 41 = .ok (.iload_n 1, 1) := by decide +kernel
theorem dX12_again_42 : decode cX12_again 42 = .ok (.aload_n 0, 1) := by decide +kernel
theorem dX12_again_43 : decode cX12_again 43 = .ok (.getfield 15, 3) := by decide +kernel
theorem dX12_again_46 : decode cX12_again 46 = .ok (.iload_n 1, 1) := by decide +kernel
theorem dX12_again_47 : decode cX12_again 47 = .ok (.baload, 1) := by decide +kernel
theorem dX12_again_48 : decode cX12_again 48 = .ok (.bastore, 1) := by decide +kernel
theorem dX12_again_49 : decode cX12_again 49 = .ok (.iinc 1 1, 3) := by decide +kernel
theorem dX12_again_52 : decode cX12_again 52 = .ok (.goto (-23), 3) := by decide +kernel
theorem dX12_again_55 : decode cX12_again 55 = .ok (.aload_n 0, 1) := by decide +kernel
theorem dX12_again_56 : decode cX12_again 56 = .ok (.getfield 274, 3) := by decide +kernel
theorem dX12_again_59 : decode cX12_again 59 = .ok (.ireturn, 1) := by decide +kernel
abbrev M_X12_again : MRec := (yX12_again, cX12_again, 2, (some Jvm.ClassFile.FieldType.int), [])
theorem m_X12_again : en_M M_X12_again 0 := ⟨t_2824, t_14, ⟨by decide +kernel, by decide +kernel⟩, by decide +kernel, by decide +kernel, by decide +kernel⟩
theorem dX12_fault_0 : decode cX12_fault 0 = .ok (.aload_n 0, 1) := by decide +kernel
theorem dX12_fault_1 : decode cX12_fault 1 = .ok (.iconst 0, 1) := by decide +kernel
theorem dX12_fault_2 : decode cX12_fault 2 = .ok (.putfield 271, 3) := by decide +kernel
theorem dX12_fault_5 : decode cX12_fault 5 = .ok (.aload_n 0, 1) := by decide +kernel
theorem dX12_fault_6 : decode cX12_fault 6 = .ok (.iload_n 1, 1) := by decide +kernel
theorem dX12_fault_7 : decode cX12_fault 7 = .ok (.i2l, 1) := by decide +kernel
theorem dX12_fault_8 : decode cX12_fault 8 = .ok (.lconst 0, 1) := by decide +kernel
theorem dX12_fault_9 : decode cX12_fault 9 = .ok (.lconst 1, 1) := by decide +kernel
theorem dX12_fault_10 : decode cX12_fault 10 = .ok (.invokestatic 287, 3) := by decide +kernel
theorem dX12_fault_13 : decode cX12_fault 13 = .ok (.ifCond .ne 7, 3) := by decide +kernel
theorem dX12_fault_16 : decode cX12_fault 16 = .ok (.iconst 1, 1) := by decide +kernel
theorem dX12_fault_17 : decode cX12_fault 17 = .ok (.goto 4, 3) := by decide +kernel
theorem dX12_fault_20 : decode cX12_fault 20 = .ok (.iconst 0, 1) := by decide +kernel
theorem dX12_fault_21 : decode cX12_fault 21 = .ok (.iconst 1, 1) := by decide +kernel
theorem dX12_fault_22 : decode cX12_fault 22 = .ok (.invokevirtual 277, 3) := by decide +kernel
theorem dX12_fault_25 : decode cX12_fault 25 = .ok (.ifCond .eq 5, 3) := by decide +kernel
theorem dX12_fault_28 : decode cX12_fault 28 = .ok (.iconst 0, 1) := by decide +kernel
theorem dX12_fault_29 : decode cX12_fault 29 = .ok (.ireturn, 1) := by decide +kernel
theorem dX12_fault_30 : decode cX12_fault 30 = .ok (.iload_n 1, 1) := by decide +kernel
theorem dX12_fault_31 : decode cX12_fault 31 = .ok (.ifCond .ne 10, 3) := by decide +kernel
theorem dX12_fault_34 : decode cX12_fault 34 = .ok (.aload_n 0, 1) := by decide +kernel
theorem dX12_fault_35 : decode cX12_fault 35 = .ok (.getfield 294, 3) := by decide +kernel
theorem dX12_fault_38 : decode cX12_fault 38 = .ok (.goto 7, 3) := by decide +kernel
theorem dX12_fault_41 : decode cX12_fault 41 = .ok (.aload_n 0, 1) := by decide +kernel
theorem dX12_fault_42 : decode cX12_fault 42 = .ok (.getfield 297, 3) := by decide +kernel
theorem dX12_fault_45 : decode cX12_fault 45 = .ok (.ireturn, 1) := by decide +kernel
abbrev M_X12_fault : MRec := (yX12_fault, cX12_fault, 2, (some Jvm.ClassFile.FieldType.int), [])
theorem m_X12_fault : en_M M_X12_fault 1 := ⟨t_2828, t_14, ⟨by decide +kernel, by decide +kernel⟩, by decide +kernel, by decide +kernel, by decide +kernel⟩
theorem dX12_byteAt_0 : decode cX12_byteAt 0 = .ok (.aload_n 0, 1) := by decide +kernel
theorem dX12_byteAt_1 : decode cX12_byteAt 1 = .ok (.iconst 0, 1) := by decide +kernel
theorem dX12_byteAt_2 : decode cX12_byteAt 2 = .ok (.putfield 271, 3) := by decide +kernel
theorem dX12_byteAt_5 : decode cX12_byteAt 5 = .ok (.aload_n 0, 1) := by decide +kernel
theorem dX12_byteAt_6 : decode cX12_byteAt 6 = .ok (.iload_n 1, 1) := by decide +kernel
theorem dX12_byteAt_7 : decode cX12_byteAt 7 = .ok (.i2l, 1) := by decide +kernel
theorem dX12_byteAt_8 : decode cX12_byteAt 8 = .ok (.lconst 0, 1) := by decide +kernel
theorem dX12_byteAt_9 : decode cX12_byteAt 9 = .ok (.aload_n 0, 1) := by decide +kernel
theorem dX12_byteAt_10 : decode cX12_byteAt 10 = .ok (.getfield 291, 3) := by decide +kernel
theorem dX12_byteAt_13 : decode cX12_byteAt 13 = .ok (.iconst 1, 1) := by decide +kernel
theorem dX12_byteAt_14 : decode cX12_byteAt 14 = .ok (.isub, 1) := by decide +kernel
theorem dX12_byteAt_15 : decode cX12_byteAt 15 = .ok (.i2l, 1) := by decide +kernel
theorem dX12_byteAt_16 : decode cX12_byteAt 16 = .ok (.invokestatic 287, 3) := by decide +kernel
theorem dX12_byteAt_19 : decode cX12_byteAt 19 = .ok (.ifCond .ne 7, 3) := by decide +kernel
theorem dX12_byteAt_22 : decode cX12_byteAt 22 = .ok (.iconst 1, 1) := by decide +kernel
theorem dX12_byteAt_23 : decode cX12_byteAt 23 = .ok (.goto 4, 3) := by decide +kernel
theorem dX12_byteAt_26 : decode cX12_byteAt 26 = .ok (.iconst 0, 1) := by decide +kernel
theorem dX12_byteAt_27 : decode cX12_byteAt 27 = .ok (.iconst 1, 1) := by decide +kernel
theorem dX12_byteAt_28 : decode cX12_byteAt 28 = .ok (.invokevirtual 277, 3) := by decide +kernel
theorem dX12_byteAt_31 : decode cX12_byteAt 31 = .ok (.ifCond .eq 5, 3) := by decide +kernel
theorem dX12_byteAt_34 : decode cX12_byteAt 34 = .ok (.iconst 0, 1) := by decide +kernel
theorem dX12_byteAt_35 : decode cX12_byteAt 35 = .ok (.ireturn, 1) := by decide +kernel
theorem dX12_byteAt_36 : decode cX12_byteAt 36 = .ok (.aload_n 0, 1) := by decide +kernel
theorem dX12_byteAt_37 : decode cX12_byteAt 37 = .ok (.getfield 15, 3) := by decide +kernel
theorem dX12_byteAt_40 : decode cX12_byteAt 40 = .ok (.iload_n 1, 1) := by decide +kernel
theorem dX12_byteAt_41 : decode cX12_byteAt 41 = .ok (.baload, 1) := by decide +kernel
theorem dX12_byteAt_42 : decode cX12_byteAt 42 = .ok (.sipush 255, 3) := by decide +kernel
theorem dX12_byteAt_45 : decode cX12_byteAt 45 = .ok (.iand, 1) := by decide +kernel
theorem dX12_byteAt_46 : decode cX12_byteAt 46 = .ok (.ireturn, 1) := by decide +kernel
abbrev M_X12_byteAt : MRec := (yX12_byteAt, cX12_byteAt, 2, (some Jvm.ClassFile.FieldType.int), [])
theorem m_X12_byteAt : en_M M_X12_byteAt 1 := ⟨t_2832, t_14, ⟨by decide +kernel, by decide +kernel⟩, by decide +kernel, by decide +kernel, by decide +kernel⟩
theorem dX12_wrong_0 : decode cX12_wrong 0 = .ok (.aload_n 0, 1) := by decide +kernel
theorem dX12_wrong_1 : decode cX12_wrong 1 = .ok (.iload_n 1, 1) := by decide +kernel
theorem dX12_wrong_2 : decode cX12_wrong 2 = .ok (.putfield 294, 3) := by decide +kernel
theorem dX12_wrong_5 : decode cX12_wrong 5 = .ok (.aload_n 0, 1) := by decide +kernel
theorem dX12_wrong_6 : decode cX12_wrong 6 = .ok (.iload_n 2, 1) := by decide +kernel
theorem dX12_wrong_7 : decode cX12_wrong 7 = .ok (.putfield 297, 3) := by decide +kernel
theorem dX12_wrong_10 : decode cX12_wrong 10 = .ok (.iconst 0, 1) := by decide +kernel
theorem dX12_wrong_11 : decode cX12_wrong 11 = .ok (.ireturn, 1) := by decide +kernel
abbrev M_X12_wrong : MRec := (yX12_wrong, cX12_wrong, 3, (some Jvm.ClassFile.FieldType.boolean), [])
theorem m_X12_wrong : en_M M_X12_wrong 2 := ⟨t_2877, t_14, ⟨by decide +kernel, by decide +kernel⟩, by decide +kernel, by decide +kernel, by decide +kernel⟩
theorem dX12_here_0 : decode cX12_here 0 = .ok (.aload_n 0, 1) := by decide +kernel
theorem dX12_here_1 : decode cX12_here 1 = .ok (.getfield 300, 3) := by decide +kernel
theorem dX12_here_4 : decode cX12_here 4 = .ok (.aload_n 0, 1) := by decide +kernel
theorem dX12_here_5 : decode cX12_here 5 = .ok (.getfield 303, 3) := by decide +kernel
theorem dX12_here_8 : decode cX12_here 8 = .ok (.if_icmp .ge 19, 3) := by decide +kernel
theorem dX12_here_11 : decode cX12_here 11 = .ok (.aload_n 0, 1) := by decide +kernel
theorem dX12_here_12 : decode cX12_here 12 = .ok (.getfield 8, 3) := by decide +kernel
theorem dX12_here_15 : decode cX12_here 15 = .ok (.aload_n 0, 1) := by decide +kernel
theorem dX12_here_16 : decode cX12_here 16 = .ok (.getfield 300, 3) := by decide +kernel
theorem dX12_here_19 : decode cX12_here 19 = .ok (.baload, 1) := by decide +kernel
theorem dX12_here_20 : decode cX12_here 20 = .ok (.sipush 255, 3) := by decide +kernel
theorem dX12_here_23 : decode cX12_here 23 = .ok (.iand, 1) := by decide +kernel
theorem dX12_here_24 : decode cX12_here 24 = .ok (.goto 4, 3) := by decide +kernel
theorem dX12_here_27 : decode cX12_here 27 = .ok (.iconst (-1), 1) := by decide +kernel
theorem dX12_here_28 : decode cX12_here 28 = .ok (.ireturn, 1) := by decide +kernel
abbrev M_X12_here : MRec := (yX12_here, cX12_here, 1, (some Jvm.ClassFile.FieldType.int), [])
theorem m_X12_here : en_M M_X12_here 0 := ⟨t_2863, t_14, ⟨by decide +kernel, by decide +kernel⟩, by decide +kernel, by decide +kernel, by decide +kernel⟩
theorem dX12_isBlank_0 : decode cX12_isBlank 0 = .ok (.iload_n 0, 1) := by decide +kernel
theorem dX12_isBlank_1 : decode cX12_isBlank 1 = .ok (.bipush 32, 2) := by decide +kernel
theorem dX12_isBlank_3 : decode cX12_isBlank 3 = .ok (.if_icmp .eq 21, 3) := by decide +kernel
theorem dX12_isBlank_6 : decode cX12_isBlank 6 = .ok (.iload_n 0, 1) := by decide +kernel
theorem dX12_isBlank_7 : decode cX12_isBlank 7 = .ok (.bipush 9, 2) := by decide +kernel
theorem dX12_isBlank_9 : decode cX12_isBlank 9 = .ok (.if_icmp .eq 15, 3) := by decide +kernel
theorem dX12_isBlank_12 : decode cX12_isBlank 12 = .ok (.iload_n 0, 1) := by decide +kernel
theorem dX12_isBlank_13 : decode cX12_isBlank 13 = .ok (.bipush 10, 2) := by decide +kernel
theorem dX12_isBlank_15 : decode cX12_isBlank 15 = .ok (.if_icmp .eq 9, 3) := by decide +kernel
theorem dX12_isBlank_18 : decode cX12_isBlank 18 = .ok (.iload_n 0, 1) := by decide +kernel
theorem dX12_isBlank_19 : decode cX12_isBlank 19 = .ok (.bipush 13, 2) := by decide +kernel
theorem dX12_isBlank_21 : decode cX12_isBlank 21 = .ok (.if_icmp .ne 7, 3) := by decide +kernel
theorem dX12_isBlank_24 : decode cX12_isBlank 24 = .ok (.iconst 1, 1) := by decide +kernel
theorem dX12_isBlank_25 : decode cX12_isBlank 25 = .ok (.goto 4, 3) := by decide +kernel
theorem dX12_isBlank_28 : decode cX12_isBlank 28 = .ok (.iconst 0, 1) := by decide +kernel
theorem dX12_isBlank_29 : decode cX12_isBlank 29 = .ok (.ireturn, 1) := by decide +kernel
abbrev M_X12_isBlank : MRec := (yX12_isBlank, cX12_isBlank, 1, (some Jvm.ClassFile.FieldType.boolean), [])
theorem m_X12_isBlank : en_M M_X12_isBlank 1 := ⟨t_2866, t_14, ⟨by decide +kernel, by decide +kernel⟩, by decide +kernel, by decide +kernel, by decide +kernel⟩
theorem dX12_isLetter_0 : decode cX12_isLetter 0 = .ok (.iload_n 0, 1) := by decide +kernel
theorem dX12_isLetter_1 : decode cX12_isLetter 1 = .ok (.bipush 97, 2) := by decide +kernel
theorem dX12_isLetter_3 : decode cX12_isLetter 3 = .ok (.if_icmp .lt 9, 3) := by decide +kernel
theorem dX12_isLetter_6 : decode cX12_isLetter 6 = .ok (.iload_n 0, 1) := by decide +kernel
theorem dX12_isLetter_7 : decode cX12_isLetter 7 = .ok (.bipush 122, 2) := by decide +kernel
theorem dX12_isLetter_9 : decode cX12_isLetter 9 = .ok (.if_icmp .le 15, 3) := by decide +kernel
theorem dX12_isLetter_12 : decode cX12_isLetter 12 = .ok (.iload_n 0, 1) := by decide +kernel
theorem dX12_isLetter_13 : decode cX12_isLetter 13 = .ok (.bipush 65, 2) := by decide +kernel
theorem dX12_isLetter_15 : decode cX12_isLetter 15 = .ok (.if_icmp .lt 13, 3) := by decide +kernel
theorem dX12_isLetter_18 : decode cX12_isLetter 18 = .ok (.iload_n 0, 1) := by decide +kernel
theorem dX12_isLetter_19 : decode cX12_isLetter 19 = .ok (.bipush 90, 2) := by decide +kernel
theorem dX12_isLetter_21 : decode cX12_isLetter 21 = .ok (.if_icmp .gt 7, 3) := by decide +kernel
theorem dX12_isLetter_24 : decode cX12_isLetter 24 = .ok (.iconst 1, 1) := by decide +kernel
theorem dX12_isLetter_25 : decode cX12_isLetter 25 = .ok (.goto 4, 3) := by decide +kernel
theorem dX12_isLetter_28 : decode cX12_isLetter 28 = .ok (.iconst 0, 1) := by decide +kernel
theorem dX12_isLetter_29 : decode cX12_isLetter 29 = .ok (.ireturn, 1) := by decide +kernel
abbrev M_X12_isLetter : MRec := (yX12_isLetter, cX12_isLetter, 1, (some Jvm.ClassFile.FieldType.boolean), [])
theorem m_X12_isLetter : en_M M_X12_isLetter 1 := ⟨t_2869, t_14, ⟨by decide +kernel, by decide +kernel⟩, by decide +kernel, by decide +kernel, by decide +kernel⟩
theorem dX12_isDigit_0 : decode cX12_isDigit 0 = .ok (.iload_n 0, 1) := by decide +kernel
theorem dX12_isDigit_1 : decode cX12_isDigit 1 = .ok (.bipush 48, 2) := by decide +kernel
theorem dX12_isDigit_3 : decode cX12_isDigit 3 = .ok (.if_icmp .lt 13, 3) := by decide +kernel
theorem dX12_isDigit_6 : decode cX12_isDigit 6 = .ok (.iload_n 0, 1) := by decide +kernel
theorem dX12_isDigit_7 : decode cX12_isDigit 7 = .ok (.bipush 57, 2) := by decide +kernel
theorem dX12_isDigit_9 : decode cX12_isDigit 9 = .ok (.if_icmp .gt 7, 3) := by decide +kernel
theorem dX12_isDigit_12 : decode cX12_isDigit 12 = .ok (.iconst 1, 1) := by decide +kernel
theorem dX12_isDigit_13 : decode cX12_isDigit 13 = .ok (.goto 4, 3) := by decide +kernel
theorem dX12_isDigit_16 : decode cX12_isDigit 16 = .ok (.iconst 0, 1) := by decide +kernel
theorem dX12_isDigit_17 : decode cX12_isDigit 17 = .ok (.ireturn, 1) := by decide +kernel
abbrev M_X12_isDigit : MRec := (yX12_isDigit, cX12_isDigit, 1, (some Jvm.ClassFile.FieldType.boolean), [])
theorem m_X12_isDigit : en_M M_X12_isDigit 1 := ⟨t_2880, t_14, ⟨by decide +kernel, by decide +kernel⟩, by decide +kernel, by decide +kernel, by decide +kernel⟩
theorem dX12_isSign_0 : decode cX12_isSign 0 = .ok (.iload_n 0, 1) := by decide +kernel
theorem dX12_isSign_1 : decode cX12_isSign 1 = .ok (.bipush 43, 2) := by decide +kernel
theorem dX12_isSign_3 : decode cX12_isSign 3 = .ok (.if_icmp .eq 9, 3) := by decide +kernel
theorem dX12_isSign_6 : decode cX12_isSign 6 = .ok (.iload_n 0, 1) := by decide +kernel
theorem dX12_isSign_7 : decode cX12_isSign 7 = .ok (.bipush 45, 2) := by decide +kernel
theorem dX12_isSign_9 : decode cX12_isSign 9 = .ok (.if_icmp .ne 7, 3) := by decide +kernel
theorem dX12_isSign_12 : decode cX12_isSign 12 = .ok (.iconst 1, 1) := by decide +kernel
theorem dX12_isSign_13 : decode cX12_isSign 13 = .ok (.goto 4, 3) := by decide +kernel
theorem dX12_isSign_16 : decode cX12_isSign 16 = .ok (.iconst 0, 1) := by decide +kernel
theorem dX12_isSign_17 : decode cX12_isSign 17 = .ok (.ireturn, 1) := by decide +kernel
abbrev M_X12_isSign : MRec := (yX12_isSign, cX12_isSign, 1, (some Jvm.ClassFile.FieldType.boolean), [])
theorem m_X12_isSign : en_M M_X12_isSign 1 := ⟨t_2883, t_14, ⟨by decide +kernel, by decide +kernel⟩, by decide +kernel, by decide +kernel, by decide +kernel⟩
theorem dX12_skip_0 : decode cX12_skip 0 = .ok (.aload_n 0, 1) := by decide +kernel
theorem dX12_skip_1 : decode cX12_skip 1 = .ok (.invokevirtual 306, 3) := by decide +kernel
theorem dX12_skip_4 : decode cX12_skip 4 = .ok (.invokestatic 310, 3) := by decide +kernel
theorem dX12_skip_7 : decode cX12_skip 7 = .ok (.ifCond .eq 16, 3) := by decide +kernel
theorem dX12_skip_10 : decode cX12_skip 10 = .ok (.aload_n 0, 1) := by decide +kernel
theorem dX12_skip_11 : decode cX12_skip 11 = .ok (.dup, 1) := by decide +kernel
theorem dX12_skip_12 : decode cX12_skip 12 = .ok (.getfield 300, 3) := by decide +kernel
theorem dX12_skip_15 : decode cX12_skip 15 = .ok (.iconst 1, 1) := by decide +kernel
theorem dX12_skip_16 : decode cX12_skip 16 = .ok (.iadd, 1) := by decide +kernel
theorem dX12_skip_17 : decode cX12_skip 17 = .ok (.putfield 300, 3) := by decide +kernel
theorem dX12_skip_20 : decode cX12_skip 20 = .ok (.goto (-20), 3) := by decide +kernel
theorem dX12_skip_23 : decode cX12_skip 23 = .ok (.return_, 1) := by decide +kernel
abbrev M_X12_skip : MRec := (yX12_skip, cX12_skip, 1, none, [])
theorem m_X12_skip : en_M M_X12_skip 0 := ⟨t_2859, t_14, ⟨by decide +kernel, by decide +kernel⟩, by decide +kernel, by decide +kernel, by decide +kernel⟩
theorem dX12_strange_0 : decode cX12_strange 0 = .ok (.aload_n 0, 1) := by decide +kernel
theorem dX12_strange_1 : decode cX12_strange 1 = .ok (.invokevirtual 306, 3) := by decide +kernel
theorem dX12_strange_4 : decode cX12_strange 4 = .ok (.istore_n 2, 1) := by decide +kernel
theorem dX12_strange_5 : decode cX12_strange 5 = .ok (.iload_n 2, 1) := by decide +kernel
theorem dX12_strange_6 : decode cX12_strange 6 = .ok (.iconst (-1), 1) := by decide +kernel
theorem dX12_strange_7 : decode cX12_strange 7 = .ok (.if_icmp .eq 28, 3) := by decide +kernel
theorem dX12_strange_10 : decode cX12_strange 10 = .ok (.iload_n 2, 1) := by decide +kernel
theorem dX12_strange_11 : decode cX12_strange 11 = .ok (.invokestatic 314, 3) := by decide +kernel
theorem dX12_strange_14 : decode cX12_strange 14 = .ok (.ifCond .eq 21, 3) := by decide +kernel
theorem dX12_strange_17 : decode cX12_strange 17 = .ok (.aload_n 0, 1) := by decide +kernel
theorem dX12_strange_18 : decode cX12_strange 18 = .ok (.iload_n 1, 1) := by decide +kernel
theorem dX12_strange_19 : decode cX12_strange 19 = .ok (.ifCond .eq 7, 3) := by decide +kernel
theorem dX12_strange_22 : decode cX12_strange 22 = .ok (.iconst 2, 1) := by decide +kernel
theorem dX12_strange_23 : decode cX12_strange 23 = .ok (.goto 4, 3) := by decide +kernel
theorem dX12_strange_26 : decode cX12_strange 26 = .ok (.iconst 3, 1) := by decide +kernel
theorem dX12_strange_27 : decode cX12_strange 27 = .ok (.aload_n 0, 1) := by decide +kernel
theorem dX12_strange_28 : decode cX12_strange 28 = .ok (.getfield 300, 3) := by decide +kernel
theorem dX12_strange_31 : decode cX12_strange 31 = .ok (.invokevirtual 317, 3) := by decide +kernel
theorem dX12_strange_34 : decode cX12_strange 34 = .ok (.ireturn, 1) := by decide +kernel
theorem dX12_strange_35 : decode cX12_strange 35 = .ok (.iload_n 2, 1) := by decide +kernel
theorem dX12_strange_36 : decode cX12_strange 36 = .ok (.iconst (-1), 1) := by decide +kernel
theorem dX12_strange_37 : decode cX12_strange 37 = .ok (.if_icmp .eq 41, 3) := by decide +kernel
theorem dX12_strange_40 : decode cX12_strange 40 = .ok (.iload_n 2, 1) := by decide +kernel
theorem dX12_strange_41 : decode cX12_strange 41 = .ok (.invokestatic 321, 3) := by decide +kernel
theorem dX12_strange_44 : decode cX12_strange 44 = .ok (.ifCond .ne 34, 3) := by decide +kernel
theorem dX12_strange_47 : decode cX12_strange 47 = .ok (.iload_n 2, 1) := by decide +kernel
theorem dX12_strange_48 : decode cX12_strange 48 = .ok (.invokestatic 324, 3) := by decide +kernel
theorem dX12_strange_51 : decode cX12_strange 51 = .ok (.ifCond .ne 27, 3) := by decide +kernel
theorem dX12_strange_54 : decode cX12_strange 54 = .ok (.iload_n 2, 1) := by decide +kernel
theorem dX12_strange_55 : decode cX12_strange 55 = .ok (.bipush 46, 2) := by decide +kernel
theorem dX12_strange_57 : decode cX12_strange 57 = .ok (.if_icmp .eq 21, 3) := by decide +kernel
theorem dX12_strange_60 : decode cX12_strange 60 = .ok (.iload_n 2, 1) := by decide +kernel
theorem dX12_strange_61 : decode cX12_strange 61 = .ok (.bipush 40, 2) := by decide +kernel
theorem dX12_strange_63 : decode cX12_strange 63 = .ok (.if_icmp .eq 15, 3) := by decide +kernel
theorem dX12_strange_66 : decode cX12_strange 66 = .ok (.iload_n 2, 1) := by decide +kernel
theorem dX12_strange_67 : decode cX12_strange 67 = .ok (.bipush 41, 2) := by decide +kernel
theorem dX12_strange_69 : decode cX12_strange 69 = .ok (.if_icmp .eq 9, 3) := by decide +kernel
theorem dX12_strange_72 : decode cX12_strange 72 = .ok (.iload_n 2, 1) := by decide +kernel
theorem dX12_strange_73 : decode cX12_strange 73 = .ok (.bipush 44, 2) := by decide +kernel
theorem dX12_strange_75 : decode cX12_strange 75 = .ok (.if_icmp .ne 7, 3) := by decide +kernel
theorem dX12_strange_78 : decode cX12_strange 78 = .ok (.iconst 1, 1) := by decide +kernel
theorem dX12_strange_79 : decode cX12_strange 79 = .ok (.goto 4, 3) := by decide +kernel
theorem dX12_strange_82 : decode cX12_strange 82 = .ok (.iconst 0, 1) := by decide +kernel
theorem dX12_strange_83 : decode cX12_strange 83 = .ok (.istore_n 3, 1) := by decide +kernel
theorem dX12_strange_84 : decode cX12_strange 84 = .ok (.aload_n 0, 1) := by decide +kernel
theorem dX12_strange_85 : decode cX12_strange 85 = .ok (.iload_n 3, 1) := by decide +kernel
theorem dX12_strange_86 : decode cX12_strange 86 = .ok (.ifCond .eq 7, 3) := by decide +kernel
theorem dX12_strange_89 : decode cX12_strange 89 = .ok (.iconst 3, 1) := by decide +kernel
theorem dX12_strange_90 : decode cX12_strange 90 = .ok (.goto 4, 3) := by decide +kernel
theorem dX12_strange_93 : decode cX12_strange 93 = .ok (.iconst 1, 1) := by decide +kernel
theorem dX12_strange_94 : decode cX12_strange 94 = .ok (.aload_n 0, 1) := by decide +kernel
theorem dX12_strange_95 : decode cX12_strange 95 = .ok (.getfield 300, 3) := by decide +kernel
theorem dX12_strange_98 : decode cX12_strange 98 = .ok (.invokevirtual 317, 3) := by decide +kernel
theorem dX12_strange_101 : decode cX12_strange 101 = .ok (.ireturn, 1) := by decide +kernel
abbrev M_X12_strange : MRec := (yX12_strange, cX12_strange, 4, (some Jvm.ClassFile.FieldType.boolean), [])
theorem m_X12_strange : en_M M_X12_strange 1 := ⟨t_2873, t_14, ⟨by decide +kernel, by decide +kernel⟩, by decide +kernel, by decide +kernel, by decide +kernel⟩
theorem dX12_large_0 : decode cX12_large 0 = .ok (.iload_n 0, 1) := by decide +kernel
theorem dX12_large_1 : decode cX12_large 1 = .ok (.bipush 97, 2) := by decide +kernel
theorem dX12_large_3 : decode cX12_large 3 = .ok (.if_icmp .lt 16, 3) := by decide +kernel
theorem dX12_large_6 : decode cX12_large 6 = .ok (.iload_n 0, 1) := by decide +kernel
theorem dX12_large_7 : decode cX12_large 7 = .ok (.bipush 122, 2) := by decide +kernel
theorem dX12_large_9 : decode cX12_large 9 = .ok (.if_icmp .gt 10, 3) := by decide +kernel
theorem dX12_large_12 : decode cX12_large 12 = .ok (.iload_n 0, 1) := by decide +kernel
theorem dX12_large_13 : decode cX12_large 13 = .ok (.bipush 32, 2) := by decide +kernel
theorem dX12_large_15 : decode cX12_large 15 = .ok (.isub, 1) := by decide +kernel
theorem dX12_large_16 : decode cX12_large 16 = .ok (.goto 4, 3) := by decide +kernel
theorem dX12_large_19 : decode cX12_large 19 = .ok (.iload_n 0, 1) := by decide +kernel
theorem dX12_large_20 : decode cX12_large 20 = .ok (.ireturn, 1) := by decide +kernel
abbrev M_X12_large : MRec := (yX12_large, cX12_large, 1, (some Jvm.ClassFile.FieldType.int), [])
theorem m_X12_large : en_M M_X12_large 1 := ⟨t_2897, t_14, ⟨by decide +kernel, by decide +kernel⟩, by decide +kernel, by decide +kernel, by decide +kernel⟩
theorem dX12_pair_0 : decode cX12_pair 0 = .ok (.aload_n 0, 1) := by decide +kernel
theorem dX12_pair_1 : decode cX12_pair 1 = .ok (.invokevirtual 349, 3) := by decide +kernel
theorem dX12_pair_4 : decode cX12_pair 4 = .ok (.aload_n 0, 1) := by decide +kernel
theorem dX12_pair_5 : decode cX12_pair 5 = .ok (.getfield 18, 3) := by decide +kernel
theorem dX12_pair_8 : decode cX12_pair 8 = .ok (.bipush 32, 2) := by decide +kernel
theorem dX12_pair_10 : decode cX12_pair 10 = .ok (.iaload, 1) := by decide +kernel
theorem dX12_pair_11 : decode cX12_pair 11 = .ok (.iconst 2, 1) := by decide +kernel
theorem dX12_pair_12 : decode cX12_pair 12 = .ok (.iadd, 1) := by decide +kernel
theorem dX12_pair_13 : decode cX12_pair 13 = .ok (.sipush 2048, 3) := by decide +kernel
theorem dX12_pair_16 : decode cX12_pair 16 = .ok (.if_icmp .le 14, 3) := by decide +kernel
theorem dX12_pair_19 : decode cX12_pair 19 = .ok (.aload_n 0, 1) := by decide +kernel
theorem dX12_pair_20 : decode cX12_pair 20 = .ok (.bipush 7, 2) := by decide +kernel
theorem dX12_pair_22 : decode cX12_pair 22 = .ok (.aload_n 0, 1) := by decide +kernel
theorem dX12_pair_23 : decode cX12_pair 23 = .ok (.getfield 300, 3) := by decide +kernel
theorem dX12_pair_26 : decode cX12_pair 26 = .ok (.invokevirtual 317, 3) := by decide +kernel
theorem dX12_pair_29 : decode cX12_pair 29 = .ok (.ireturn, 1) := by decide +kernel
theorem dX12_pair_30 : decode cX12_pair 30 = .ok (.aload_n 0, 1) := by decide +kernel
theorem dX12_pair_31 : decode cX12_pair 31 = .ok (.iload_n 1, 1) := by decide +kernel
theorem dX12_pair_32 : decode cX12_pair 32 = .ok (.invokevirtual 352, 3) := by decide +kernel
theorem dX12_pair_35 : decode cX12_pair 35 = .ok (.aload_n 0, 1) := by decide +kernel
theorem dX12_pair_36 : decode cX12_pair 36 = .ok (.iconst 0, 1) := by decide +kernel
theorem dX12_pair_37 : decode cX12_pair 37 = .ok (.invokevirtual 352, 3) := by decide +kernel
theorem dX12_pair_40 : decode cX12_pair 40 = .ok (.iconst 1, 1) := by decide +kernel
theorem dX12_pair_41 : decode cX12_pair 41 = .ok (.ireturn, 1) := by decide +kernel
abbrev M_X12_pair : MRec := (yX12_pair, cX12_pair, 2, (some Jvm.ClassFile.FieldType.boolean), [])
theorem m_X12_pair : en_M M_X12_pair 1 := ⟨t_2901, t_14, ⟨by decide +kernel, by decide +kernel⟩, by decide +kernel, by decide +kernel, by decide +kernel⟩
theorem dX12_more_0 : decode cX12_more 0 = .ok (.aload_n 0, 1) := by decide +kernel
theorem dX12_more_1 : decode cX12_more 1 = .ok (.getfield 23, 3) := by decide +kernel
theorem dX12_more_4 : decode cX12_more 4 = .ok (.ldc 7, 2) := by decide +kernel
theorem dX12_more_6 : decode cX12_more 6 = .ok (.iload_n 1, 1) := by decide +kernel
theorem dX12_more_7 : decode cX12_more 7 = .ok (.iadd, 1) := by decide +kernel
theorem dX12_more_8 : decode cX12_more 8 = .ok (.dup2, 1) := by decide +kernel
theorem dX12_more_9 : decode cX12_more 9 = .ok (.iaload, 1) := by decide +kernel
theorem dX12_more_10 : decode cX12_more 10 = .ok (.iconst 1, 1) := by decide +kernel
theorem dX12_more_11 : decode cX12_more 11 = .ok (.iadd, 1) := by decide +kernel
theorem dX12_more_12 : decode cX12_more 12 = .ok (.iastore, 1) := by decide +kernel
theorem dX12_more_13 : decode cX12_more 13 = .ok (.return_, 1) := by decide +kernel
abbrev M_X12_more : MRec := (yX12_more, cX12_more, 2, none, [])
theorem m_X12_more : en_M M_X12_more 1 := ⟨t_2909, t_14, ⟨by decide +kernel, by decide +kernel⟩, by decide +kernel, by decide +kernel, by decide +kernel⟩
theorem dX12_closes_0 : decode cX12_closes 0 = .ok (.aload_n 0, 1) := by decide +kernel
theorem dX12_closes_1 : decode cX12_closes 1 = .ok (.invokevirtual 349, 3) := by decide +kernel
theorem dX12_closes_4 : decode cX12_closes 4 = .ok (.aload_n 0, 1) := by decide +kernel
theorem dX12_closes_5 : decode cX12_closes 5 = .ok (.invokevirtual 306, 3) := by decide +kernel
theorem dX12_closes_8 : decode cX12_closes 8 = .ok (.bipush 41, 2) := by decide +kernel
theorem dX12_closes_10 : decode cX12_closes 10 = .ok (.if_icmp .eq 9, 3) := by decide +kernel
theorem dX12_closes_13 : decode cX12_closes 13 = .ok (.aload_n 0, 1) := by decide +kernel
theorem dX12_closes_14 : decode cX12_closes 14 = .ok (.iconst 0, 1) := by decide +kernel
theorem dX12_closes_15 : decode cX12_closes 15 = .ok (.invokevirtual 369, 3) := by decide +kernel
theorem dX12_closes_18 : decode cX12_closes 18 = .ok (.ireturn, 1) := by decide +kernel
theorem dX12_closes_19 : decode cX12_closes 19 = .ok (.aload_n 0, 1) := by decide +kernel
theorem dX12_closes_20 : decode cX12_closes 20 = .ok (.dup, 1) := by decide +kernel
theorem dX12_closes_21 : decode cX12_closes 21 = .ok (.getfield 300, 3) := by decide +kernel
theorem dX12_closes_24 : decode cX12_closes 24 = .ok (.iconst 1, 1) := by decide +kernel
theorem dX12_closes_25 : decode cX12_closes 25 = .ok (.iadd, 1) := by decide +kernel
theorem dX12_closes_26 : decode cX12_closes 26 = .ok (.putfield 300, 3) := by decide +kernel
theorem dX12_closes_29 : decode cX12_closes 29 = .ok (.iconst 1, 1) := by decide +kernel
theorem dX12_closes_30 : decode cX12_closes 30 = .ok (.ireturn, 1) := by decide +kernel
abbrev M_X12_closes : MRec := (yX12_closes, cX12_closes, 1, (some Jvm.ClassFile.FieldType.boolean), [])
theorem m_X12_closes : en_M M_X12_closes 0 := ⟨t_2945, t_14, ⟨by decide +kernel, by decide +kernel⟩, by decide +kernel, by decide +kernel, by decide +kernel⟩
theorem dX12_goesOn_0 : decode cX12_goesOn 0 = .ok (.aload_n 0, 1) := by decide +kernel
theorem dX12_goesOn_1 : decode cX12_goesOn 1 = .ok (.invokevirtual 349, 3) := by decide +kernel
theorem dX12_goesOn_4 : decode cX12_goesOn 4 = .ok (.aload_n 0, 1) := by decide +kernel
theorem dX12_goesOn_5 : decode cX12_goesOn 5 = .ok (.invokevirtual 306, 3) := by decide +kernel
theorem dX12_goesOn_8 : decode cX12_goesOn 8 = .ok (.istore_n 1, 1) := by decide +kernel
theorem dX12_goesOn_9 : decode cX12_goesOn 9 = .ok (.iload_n 1, 1) := by decide +kernel
theorem dX12_goesOn_10 : decode cX12_goesOn 10 = .ok (.bipush 44, 2) := by decide +kernel
theorem dX12_goesOn_12 : decode cX12_goesOn 12 = .ok (.if_icmp .eq 17, 3) := by decide +kernel
theorem dX12_goesOn_15 : decode cX12_goesOn 15 = .ok (.iload_n 1, 1) := by decide +kernel
theorem dX12_goesOn_16 : decode cX12_goesOn 16 = .ok (.bipush 41, 2) := by decide +kernel
theorem dX12_goesOn_18 : decode cX12_goesOn 18 = .ok (.if_icmp .eq 11, 3) := by decide +kernel
theorem dX12_goesOn_21 : decode cX12_goesOn 21 = .ok (.aload_n 0, 1) := by decide +kernel
theorem dX12_goesOn_22 : decode cX12_goesOn 22 = .ok (.iconst 0, 1) := by decide +kernel
theorem dX12_goesOn_23 : decode cX12_goesOn 23 = .ok (.invokevirtual 369, 3) := by decide +kernel
theorem dX12_goesOn_26 : decode cX12_goesOn 26 = .ok (.pop, 1) := by decide +kernel
theorem dX12_goesOn_27 : decode cX12_goesOn 27 = .ok (.iconst (-1), 1) := by decide +kernel
theorem dX12_goesOn_28 : decode cX12_goesOn 28 = .ok (.ireturn, 1) := by decide +kernel
theorem dX12_goesOn_29 : decode cX12_goesOn 29 = .ok (.aload_n 0, 1) := by decide +kernel
theorem dX12_goesOn_30 : decode cX12_goesOn 30 = .ok (.dup, 1) := by decide +kernel
theorem dX12_goesOn_31 : decode cX12_goesOn 31 = .ok (.getfield 300, 3) := by decide +kernel
theorem dX12_goesOn_34 : decode cX12_goesOn 34 = .ok (.iconst 1, 1) := by decide +kernel
theorem dX12_goesOn_35 : decode cX12_goesOn 35 = .ok (.iadd, 1) := by decide +kernel
theorem dX12_goesOn_36 : decode cX12_goesOn 36 = .ok (.putfield 300, 3) := by decide +kernel
theorem dX12_goesOn_39 : decode cX12_goesOn 39 = .ok (.iload_n 1, 1) := by decide +kernel
theorem dX12_goesOn_40 : decode cX12_goesOn 40 = .ok (.bipush 44, 2) := by decide +kernel
theorem dX12_goesOn_42 : decode cX12_goesOn 42 = .ok (.if_icmp .ne 7, 3) := by decide +kernel
theorem dX12_goesOn_45 : decode cX12_goesOn 45 = .ok (.iconst 1, 1) := by decide +kernel
theorem dX12_goesOn_46 : decode cX12_goesOn 46 = .ok (.goto 4, 3) := by decide +kernel
theorem dX12_goesOn_49 : decode cX12_goesOn 49 = .ok (.iconst 0, 1) := by decide +kernel
theorem dX12_goesOn_50 : decode cX12_goesOn 50 = .ok (.ireturn, 1) := by decide +kernel
abbrev M_X12_goesOn : MRec := (yX12_goesOn, cX12_goesOn, 2, (some Jvm.ClassFile.FieldType.int), [])
theorem m_X12_goesOn : en_M M_X12_goesOn 0 := ⟨t_2953, t_14, ⟨by decide +kernel, by decide +kernel⟩, by decide +kernel, by decide +kernel, by decide +kernel⟩
theorem dX12_digitsOn_0 : decode cX12_digitsOn 0 = .ok (.aload_n 0, 1) := by decide +kernel
theorem dX12_digitsOn_1 : decode cX12_digitsOn 1 = .ok (.invokevirtual 306, 3) := by decide +kernel
theorem dX12_digitsOn_4 : decode cX12_digitsOn 4 = .ok (.invokestatic 321, 3) := by decide +kernel
theorem dX12_digitsOn_7 : decode cX12_digitsOn 7 = .ok (.ifCond .eq 16, 3) := by decide +kernel
theorem dX12_digitsOn_10 : decode cX12_digitsOn 10 = .ok (.aload_n 0, 1) := by decide +kernel
theorem dX12_digitsOn_11 : decode cX12_digitsOn 11 = .ok (.dup, 1) := by decide +kernel
theorem dX12_digitsOn_12 : decode cX12_digitsOn 12 = .ok (.getfield 300, 3) := by decide +kernel
theorem dX12_digitsOn_15 : decode cX12_digitsOn 15 = .ok (.iconst 1, 1) := by decide +kernel
theorem dX12_digitsOn_16 : decode cX12_digitsOn 16 = .ok (.iadd, 1) := by decide +kernel
theorem dX12_digitsOn_17 : decode cX12_digitsOn 17 = .ok (.putfield 300, 3) := by decide +kernel
theorem dX12_digitsOn_20 : decode cX12_digitsOn 20 = .ok (.goto (-20), 3) := by decide +kernel
theorem dX12_digitsOn_23 : decode cX12_digitsOn 23 = .ok (.return_, 1) := by decide +kernel
abbrev M_X12_digitsOn : MRec := (yX12_digitsOn, cX12_digitsOn, 1, none, [])
theorem m_X12_digitsOn : en_M M_X12_digitsOn 0 := ⟨t_2929, t_14, ⟨by decide +kernel, by decide +kernel⟩, by decide +kernel, by decide +kernel, by decide +kernel⟩
theorem dX12_round_0 : decode cX12_round 0 = .ok (.lconst 0, 1) := by decide +kernel
theorem dX12_round_1 : decode cX12_round 1 = .ok (.lstore_n 3, 1) := by decide +kernel
theorem dX12_round_2 : decode cX12_round 2 = .ok (.lconst 0, 1) := by decide +kernel
theorem dX12_round_3 : decode cX12_round 3 = .ok (.lstore 5, 2) := by decide +kernel
theorem dX12_round_5 : decode cX12_round 5 = .ok (.iconst (-1), 1) := by decide +kernel
theorem dX12_round_6 : decode cX12_round 6 = .ok (.istore 7, 2) := by decide +kernel
theorem dX12_round_8 : decode cX12_round 8 = .ok (.iconst 0, 1) := by decide +kernel
theorem dX12_round_9 : decode cX12_round 9 = .ok (.istore 8, 2) := by decide +kernel
theorem dX12_round_11 : decode cX12_round 11 = .ok (.aload_n 0, 1) := by decide +kernel
theorem dX12_round_12 : decode cX12_round 12 = .ok (.getfield 416, 3) := by decide +kernel
theorem dX12_round_15 : decode cX12_round 15 = .ok (.istore 9, 2) := by decide +kernel
theorem dX12_round_17 : decode cX12_round 17 = .ok (.iload 9, 2) := by decide +kernel
theorem dX12_round_19 : decode cX12_round 19 = .ok (.aload_n 0, 1) := by decide +kernel
theorem dX12_round_20 : decode cX12_round 20 = .ok (.getfield 425, 3) := by decide +kernel
theorem dX12_round_23 : decode cX12_round 23 = .ok (.if_icmp .ge 105, 3) := by decide +kernel
theorem dX12_round_26 : decode cX12_round 26 = .ok (.aload_n 0, 1) := by decide +kernel
theorem dX12_round_27 : decode cX12_round 27 = .ok (.getfield 8, 3) := by decide +kernel
theorem dX12_round_30 : decode cX12_round 30 = .ok (.iload 9, 2) := by decide +kernel
theorem dX12_round_32 : decode cX12_round 32 = .ok (.baload, 1) := by decide +kernel
theorem dX12_round_33 : decode cX12_round 33 = .ok (.bipush 46, 2) := by decide +kernel
theorem dX12_round_35 : decode cX12_round 35 = .ok (.if_icmp .ne 6, 3) := by decide +kernel
theorem dX12_round_38 : decode cX12_round 38 = .ok (.goto 84, 3) := by decide +kernel
theorem dX12_round_41 : decode cX12_round 41 = .ok (.aload_n 0, 1) := by decide +kernel
theorem dX12_round_42 : decode cX12_round 42 = .ok (.getfield 8, 3) := by decide +kernel
theorem dX12_round_45 : decode cX12_round 45 = .ok (.iload 9, 2) := by decide +kernel
theorem dX12_round_47 : decode cX12_round 47 = .ok (.baload, 1) := by decide +kernel
theorem dX12_round_48 : decode cX12_round 48 = .ok (.bipush 48, 2) := by decide +kernel
theorem dX12_round_50 : decode cX12_round 50 = .ok (.isub, 1) := by decide +kernel
theorem dX12_round_51 : decode cX12_round 51 = .ok (.istore 10, 2) := by decide +kernel
theorem dX12_round_53 : decode cX12_round 53 = .ok (.lload 5, 2) := by decide +kernel
theorem dX12_round_55 : decode cX12_round 55 = .ok (.lload_n 1, 1) := by decide +kernel
theorem dX12_round_56 : decode cX12_round 56 = .ok (.lcmp, 1) := by decide +kernel
theorem dX12_round_57 : decode cX12_round 57 = .ok (.ifCond .ge 28, 3) := by decide +kernel
theorem dX12_round_60 : decode cX12_round 60 = .ok (.lload_n 3, 1) := by decide +kernel
theorem dX12_round_61 : decode cX12_round 61 = .ok (.ldc2_w 438, 3) := by decide +kernel
theorem dX12_round_64 : decode cX12_round 64 = .ok (.lcmp, 1) := by decide +kernel
theorem dX12_round_65 : decode cX12_round 65 = .ok (.ifCond .ge 15, 3) := by decide +kernel
theorem dX12_round_68 : decode cX12_round 68 = .ok (.ldc2_w 269, 3) := by decide +kernel
theorem dX12_round_71 : decode cX12_round 71 = .ok (.lload_n 3, 1) := by decide +kernel
theorem dX12_round_72 : decode cX12_round 72 = .ok (.lmul, 1) := by decide +kernel
theorem dX12_round_73 : decode cX12_round 73 = .ok (.iload 10, 2) := by decide +kernel
theorem dX12_round_75 : decode cX12_round 75 = .ok (.i2l, 1) := by decide +kernel
theorem dX12_round_76 : decode cX12_round 76 = .ok (.ladd, 1) := by decide +kernel
theorem dX12_round_77 : decode cX12_round 77 = .ok (.goto 4, 3) := by decide +kernel
theorem dX12_round_80 : decode cX12_round 80 = .ok (.lload_n 3, 1) := by decide +kernel
theorem dX12_round_81 : decode cX12_round 81 = .ok (.lstore_n 3, 1) := by decide +kernel
theorem dX12_round_82 : decode cX12_round 82 = .ok (.goto 34, 3) := by decide +kernel
theorem dX12_round_85 : decode cX12_round 85 = .ok (.lload 5, 2) := by decide +kernel
theorem dX12_round_87 : decode cX12_round 87 = .ok (.lload_n 1, 1) := by decide +kernel
theorem dX12_round_88 : decode cX12_round 88 = .ok (.lcmp, 1) := by decide +kernel
theorem dX12_round_89 : decode cX12_round 89 = .ok (.ifCond .ne 10, 3) := by decide +kernel
theorem dX12_round_92 : decode cX12_round 92 = .ok (.iload 10, 2) := by decide +kernel
theorem dX12_round_94 : decode cX12_round 94 = .ok (.istore 7, 2) := by decide +kernel
theorem dX12_round_96 : decode cX12_round 96 = .ok (.goto 20, 3) := by decide +kernel
theorem dX12_round_99 : decode cX12_round 99 = .ok (.iload 8, 2) := by decide +kernel
theorem dX12_round_101 : decode cX12_round 101 = .ok (.ifCond .ne 8, 3) := by decide +kernel
theorem dX12_round_104 : decode cX12_round 104 = .ok (.iload 10, 2) := by decide +kernel
theorem dX12_round_106 : decode cX12_round 106 = .ok (.ifCond .le 7, 3) := by decide +kernel
theorem dX12_round_109 : decode cX12_round 109 = .ok (.iconst 1, 1) := by decide +kernel
theorem dX12_round_110 : decode cX12_round 110 = .ok (.goto 4, 3) := by decide +kernel
theorem dX12_round_113 : decode cX12_round 113 = .ok (.iconst 0, 1) := by decide +kernel
theorem dX12_round_114 : decode cX12_round 114 = .ok (.istore 8, 2) := by decide +kernel
theorem dX12_round_116 : decode cX12_round 116 = .ok (.lload 5, 2) := by decide +kernel
theorem dX12_round_118 : decode cX12_round 118 = .ok (.lconst 1, 1) := by decide +kernel
theorem dX12_round_119 : decode cX12_round 119 = .ok (.ladd, 1) := by decide +kernel
theorem dX12_round_120 : decode cX12_round 120 = .ok (.lstore 5, 2) := by decide +kernel
theorem dX12_round_122 : decode cX12_round 122 = .ok (.iinc 9 1, 3) := by decide +kernel
theorem dX12_round_125 : decode cX12_round 125 = .ok (.goto (-108), 3) := by decide +kernel
theorem dX12_round_128 : decode cX12_round 128 = .ok (.lload 5, 2) := by decide +kernel
theorem dX12_round_130 : decode cX12_round 130 = .ok (.lload_n 1, 1) := by decide +kernel
theorem dX12_round_131 : decode cX12_round 131 = .ok (.lcmp, 1) := by decide +kernel
theorem dX12_round_132 : decode cX12_round 132 = .ok (.ifCond .ge 32, 3) := by decide +kernel
theorem dX12_round_135 : decode cX12_round 135 = .ok (.lload_n 3, 1) := by decide +kernel
theorem dX12_round_136 : decode cX12_round 136 = .ok (.lconst 0, 1) := by decide +kernel
theorem dX12_round_137 : decode cX12_round 137 = .ok (.lcmp, 1) := by decide +kernel
theorem dX12_round_138 : decode cX12_round 138 = .ok (.ifCond .le 26, 3) := by decide +kernel
theorem dX12_round_141 : decode cX12_round 141 = .ok (.lload_n 3, 1) := by decide +kernel
theorem dX12_round_142 : decode cX12_round 142 = .ok (.ldc2_w 438, 3) := by decide +kernel
theorem dX12_round_145 : decode cX12_round 145 = .ok (.lcmp, 1) := by decide +kernel
theorem dX12_round_146 : decode cX12_round 146 = .ok (.ifCond .ge 18, 3) := by decide +kernel
theorem dX12_round_149 : decode cX12_round 149 = .ok (.ldc2_w 269, 3) := by decide +kernel
theorem dX12_round_152 : decode cX12_round 152 = .ok (.lload_n 3, 1) := by decide +kernel
theorem dX12_round_153 : decode cX12_round 153 = .ok (.lmul, 1) := by decide +kernel
theorem dX12_round_154 : decode cX12_round 154 = .ok (.lstore_n 3, 1) := by decide +kernel
theorem dX12_round_155 : decode cX12_round 155 = .ok (.lload 5, 2) := by decide +kernel
theorem dX12_round_157 : decode cX12_round 157 = .ok (.lconst 1, 1) := by decide +kernel
theorem dX12_round_158 : decode cX12_round 158 = .ok (.ladd, 1) := by decide +kernel
theorem dX12_round_159 : decode cX12_round 159 = .ok (.lstore 5, 2) := by decide +kernel
theorem dX12_round_161 : decode cX12_round 161 = .ok (.goto (-33), 3) := by decide +kernel
theorem dX12_round_164 : decode cX12_round 164 = .ok (.iload 7, 2) := by decide +kernel
theorem dX12_round_166 : decode cX12_round 166 = .ok (.iconst 5, 1) := by decide +kernel
theorem dX12_round_167 : decode cX12_round 167 = .ok (.if_icmp .gt 22, 3) := by decide +kernel
theorem dX12_round_170 : decode cX12_round 170 = .ok (.iload 7, 2) := by decide +kernel
theorem dX12_round_172 : decode cX12_round 172 = .ok (.iconst 5, 1) := by decide +kernel
theorem dX12_round_173 : decode cX12_round 173 = .ok (.if_icmp .ne 20, 3) := by decide +kernel
theorem dX12_round_176 : decode cX12_round 176 = .ok (.iload 8, 2) := by decide +kernel
theorem dX12_round_178 : decode cX12_round 178 = .ok (.ifCond .ne 11, 3) := by decide +kernel
theorem dX12_round_181 : decode cX12_round 181 = .ok (.lload_n 3, 1) := by decide +kernel
theorem dX12_round_182 : decode cX12_round 182 = .ok (.lconst 1, 1) := by decide +kernel
theorem dX12_round_183 : decode cX12_round 183 = .ok (.land, 1) := by decide +kernel
theorem dX12_round_184 : decode cX12_round 184 = .ok (.lconst 1, 1) := by decide +kernel
theorem dX12_round_185 : decode cX12_round 185 = .ok (.lcmp, 1) := by decide +kernel
theorem dX12_round_186 : decode cX12_round 186 = .ok (.ifCond .ne 7, 3) := by decide +kernel
theorem dX12_round_189 : decode cX12_round 189 = .ok (.iconst 1, 1) := by decide +kernel
theorem dX12_round_190 : decode cX12_round 190 = .ok (.goto 4, 3) := by decide +kernel
theorem dX12_round_193 : decode cX12_round 193 = .ok (.iconst 0, 1) := by decide +kernel
theorem dX12_round_194 : decode cX12_round 194 = .ok (.istore 9, 2) := by decide +kernel
theorem dX12_round_196 : decode cX12_round 196 = .ok (.aload_n 0, 1) := by decide +kernel
theorem dX12_round_197 : decode cX12_round 197 = .ok (.iload 9, 2) := by decide +kernel
theorem dX12_round_199 : decode cX12_round 199 = .ok (.ifCond .eq 9, 3) := by decide +kernel
theorem dX12_round_202 : decode cX12_round 202 = .ok (.lload_n 3, 1) := by decide +kernel
theorem dX12_round_203 : decode cX12_round 203 = .ok (.lconst 1, 1) := by decide +kernel
theorem dX12_round_204 : decode cX12_round 204 = .ok (.ladd, 1) := by decide +kernel
theorem dX12_round_205 : decode cX12_round 205 = .ok (.goto 4, 3) := by decide +kernel
theorem dX12_round_208 : decode cX12_round 208 = .ok (.lload_n 3, 1) := by decide +kernel
theorem dX12_round_209 : decode cX12_round 209 = .ok (.putfield 409, 3) := by decide +kernel
theorem dX12_round_212 : decode cX12_round 212 = .ok (.return_, 1) := by decide +kernel
abbrev M_X12_round : MRec := (yX12_round, cX12_round, 11, none, [])
theorem m_X12_round : en_M M_X12_round 1 := ⟨t_2935, t_14, ⟨by decide +kernel, by decide +kernel⟩, by decide +kernel, by decide +kernel, by decide +kernel⟩
theorem dX12_number_0 : decode cX12_number 0 = .ok (.aload_n 0, 1) := by decide +kernel
theorem dX12_number_1 : decode cX12_number 1 = .ok (.getfield 300, 3) := by decide +kernel
theorem dX12_number_4 : decode cX12_number 4 = .ok (.istore_n 1, 1) := by decide +kernel
theorem dX12_number_5 : decode cX12_number 5 = .ok (.aload_n 0, 1) := by decide +kernel
theorem dX12_number_6 : decode cX12_number 6 = .ok (.invokevirtual 306, 3) := by decide +kernel
theorem dX12_number_9 : decode cX12_number 9 = .ok (.istore_n 2, 1) := by decide +kernel
theorem dX12_number_10 : decode cX12_number 10 = .ok (.iload_n 2, 1) := by decide +kernel
theorem dX12_number_11 : decode cX12_number 11 = .ok (.invokestatic 321, 3) := by decide +kernel
theorem dX12_number_14 : decode cX12_number 14 = .ok (.ifCond .ne 22, 3) := by decide +kernel
theorem dX12_number_17 : decode cX12_number 17 = .ok (.iload_n 2, 1) := by decide +kernel
theorem dX12_number_18 : decode cX12_number 18 = .ok (.invokestatic 324, 3) := by decide +kernel
theorem dX12_number_21 : decode cX12_number 21 = .ok (.ifCond .ne 15, 3) := by decide +kernel
theorem dX12_number_24 : decode cX12_number 24 = .ok (.iload_n 2, 1) := by decide +kernel
theorem dX12_number_25 : decode cX12_number 25 = .ok (.bipush 46, 2) := by decide +kernel
theorem dX12_number_27 : decode cX12_number 27 = .ok (.if_icmp .eq 9, 3) := by decide +kernel
theorem dX12_number_30 : decode cX12_number 30 = .ok (.aload_n 0, 1) := by decide +kernel
theorem dX12_number_31 : decode cX12_number 31 = .ok (.iconst 0, 1) := by decide +kernel
theorem dX12_number_32 : decode cX12_number 32 = .ok (.invokevirtual 369, 3) := by decide +kernel
theorem dX12_number_35 : decode cX12_number 35 = .ok (.ireturn, 1) := by decide +kernel
theorem dX12_number_36 : decode cX12_number 36 = .ok (.iload_n 2, 1) := by decide +kernel
theorem dX12_number_37 : decode cX12_number 37 = .ok (.invokestatic 324, 3) := by decide +kernel
theorem dX12_number_40 : decode cX12_number 40 = .ok (.ifCond .eq 13, 3) := by decide +kernel
theorem dX12_number_43 : decode cX12_number 43 = .ok (.aload_n 0, 1) := by decide +kernel
theorem dX12_number_44 : decode cX12_number 44 = .ok (.dup, 1) := by decide +kernel
theorem dX12_number_45 : decode cX12_number 45 = .ok (.getfield 300, 3) := by decide +kernel
theorem dX12_number_48 : decode cX12_number 48 = .ok (.iconst 1, 1) := by decide +kernel
theorem dX12_number_49 : decode cX12_number 49 = .ok (.iadd, 1) := by decide +kernel
theorem dX12_number_50 : decode cX12_number 50 = .ok (.putfield 300, 3) := by decide +kernel
theorem dX12_number_53 : decode cX12_number 53 = .ok (.aload_n 0, 1) := by decide +kernel
theorem dX12_number_54 : decode cX12_number 54 = .ok (.aload_n 0, 1) := by decide +kernel
theorem dX12_number_55 : decode cX12_number 55 = .ok (.getfield 300, 3) := by decide +kernel
theorem dX12_number_58 : decode cX12_number 58 = .ok (.putfield 416, 3) := by decide +kernel
theorem dX12_number_61 : decode cX12_number 61 = .ok (.aload_n 0, 1) := by decide +kernel
theorem dX12_number_62 : decode cX12_number 62 = .ok (.invokevirtual 419, 3) := by decide +kernel
theorem dX12_number_65 : decode cX12_number 65 = .ok (.aload_n 0, 1) := by decide +kernel
theorem dX12_number_66 : decode cX12_number 66 = .ok (.aload_n 0, 1) := by decide +kernel
theorem dX12_number_67 : decode cX12_number 67 = .ok (.getfield 300, 3) := by decide +kernel
theorem dX12_number_70 : decode cX12_number 70 = .ok (.aload_n 0, 1) := by decide +kernel
theorem dX12_number_71 : decode cX12_number 71 = .ok (.getfield 416, 3) := by decide +kernel
theorem dX12_number_74 : decode cX12_number 74 = .ok (.isub, 1) := by decide +kernel
theorem dX12_number_75 : decode cX12_number 75 = .ok (.putfield 422, 3) := by decide +kernel
theorem dX12_number_78 : decode cX12_number 78 = .ok (.aload_n 0, 1) := by decide +kernel
theorem dX12_number_79 : decode cX12_number 79 = .ok (.getfield 422, 3) := by decide +kernel
theorem dX12_number_82 : decode cX12_number 82 = .ok (.istore_n 3, 1) := by decide +kernel
theorem dX12_number_83 : decode cX12_number 83 = .ok (.aload_n 0, 1) := by decide +kernel
theorem dX12_number_84 : decode cX12_number 84 = .ok (.invokevirtual 306, 3) := by decide +kernel
theorem dX12_number_87 : decode cX12_number 87 = .ok (.bipush 46, 2) := by decide +kernel
theorem dX12_number_89 : decode cX12_number 89 = .ok (.if_icmp .ne 33, 3) := by decide +kernel
theorem dX12_number_92 : decode cX12_number 92 = .ok (.aload_n 0, 1) := by decide +kernel
theorem dX12_number_93 : decode cX12_number 93 = .ok (.dup, 1) := by decide +kernel
theorem dX12_number_94 : decode cX12_number 94 = .ok (.getfield 300, 3) := by decide +kernel
theorem dX12_number_97 : decode cX12_number 97 = .ok (.iconst 1, 1) := by decide +kernel
theorem dX12_number_98 : decode cX12_number 98 = .ok (.iadd, 1) := by decide +kernel
theorem dX12_number_99 : decode cX12_number 99 = .ok (.putfield 300, 3) := by decide +kernel
theorem dX12_number_102 : decode cX12_number 102 = .ok (.aload_n 0, 1) := by decide +kernel
theorem dX12_number_103 : decode cX12_number 103 = .ok (.getfield 300, 3) := by decide +kernel
theorem dX12_number_106 : decode cX12_number 106 = .ok (.istore 4, 2) := by decide +kernel
theorem dX12_number_108 : decode cX12_number 108 = .ok (.aload_n 0, 1) := by decide +kernel
theorem dX12_number_109 : decode cX12_number 109 = .ok (.invokevirtual 419, 3) := by decide +kernel
theorem dX12_number_112 : decode cX12_number 112 = .ok (.iload_n 3, 1) := by decide +kernel
theorem dX12_number_113 : decode cX12_number 113 = .ok (.aload_n 0, 1) := by decide +kernel
theorem dX12_number_114 : decode cX12_number 114 = .ok (.getfield 300, 3) := by decide +kernel
theorem dX12_number_117 : decode cX12_number 117 = .ok (.iload 4, 2) := by decide +kernel
theorem dX12_number_119 : decode cX12_number 119 = .ok (.isub, 1) := by decide +kernel
theorem dX12_number_120 : decode cX12_number 120 = .ok (.iadd, 1) := by decide +kernel
theorem dX12_number_121 : decode cX12_number 121 = .ok (.istore_n 3, 1) := by decide +kernel
theorem dX12_number_122 : decode cX12_number 122 = .ok (.aload_n 0, 1) := by decide +kernel
theorem dX12_number_123 : decode cX12_number 123 = .ok (.aload_n 0, 1) := by decide +kernel
theorem dX12_number_124 : decode cX12_number 124 = .ok (.getfield 300, 3) := by decide +kernel
theorem dX12_number_127 : decode cX12_number 127 = .ok (.putfield 425, 3) := by decide +kernel
theorem dX12_number_130 : decode cX12_number 130 = .ok (.iload_n 3, 1) := by decide +kernel
theorem dX12_number_131 : decode cX12_number 131 = .ok (.ifCond .le 7, 3) := by decide +kernel
theorem dX12_number_134 : decode cX12_number 134 = .ok (.iconst 1, 1) := by decide +kernel
theorem dX12_number_135 : decode cX12_number 135 = .ok (.goto 4, 3) := by decide +kernel
theorem dX12_number_138 : decode cX12_number 138 = .ok (.iconst 0, 1) := by decide +kernel
theorem dX12_number_139 : decode cX12_number 139 = .ok (.istore 4, 2) := by decide +kernel
theorem dX12_number_141 : decode cX12_number 141 = .ok (.lconst 0, 1) := by decide +kernel
theorem dX12_number_142 : decode cX12_number 142 = .ok (.lstore 5, 2) := by decide +kernel
theorem dX12_number_144 : decode cX12_number 144 = .ok (.aload_n 0, 1) := by decide +kernel
theorem dX12_number_145 : decode cX12_number 145 = .ok (.invokevirtual 306, 3) := by decide +kernel
theorem dX12_number_148 : decode cX12_number 148 = .ok (.bipush 101, 2) := by decide +kernel
theorem dX12_number_150 : decode cX12_number 150 = .ok (.if_icmp .eq 12, 3) := by decide +kernel
theorem dX12_number_153 : decode cX12_number 153 = .ok (.aload_n 0, 1) := by decide +kernel
theorem dX12_number_154 : decode cX12_number 154 = .ok (.invokevirtual 306, 3) := by decide +kernel
theorem dX12_number_157 : decode cX12_number 157 = .ok (.bipush 69, 2) := by decide +kernel
theorem dX12_number_159 : decode cX12_number 159 = .ok (.if_icmp .ne 146, 3) := by decide +kernel
theorem dX12_number_162 : decode cX12_number 162 = .ok (.aload_n 0, 1) := by decide +kernel
theorem dX12_number_163 : decode cX12_number 163 = .ok (.dup, 1) := by decide +kernel
theorem dX12_number_164 : decode cX12_number 164 = .ok (.getfield 300, 3) := by decide +kernel
theorem dX12_number_167 : decode cX12_number 167 = .ok (.iconst 1, 1) := by decide +kernel
theorem dX12_number_168 : decode cX12_number 168 = .ok (.iadd, 1) := by decide +kernel
theorem dX12_number_169 : decode cX12_number 169 = .ok (.putfield 300, 3) := by decide +kernel
theorem dX12_number_172 : decode cX12_number 172 = .ok (.aload_n 0, 1) := by decide +kernel
theorem dX12_number_173 : decode cX12_number 173 = .ok (.invokevirtual 306, 3) := by decide +kernel
theorem dX12_number_176 : decode cX12_number 176 = .ok (.bipush 45, 2) := by decide +kernel
theorem dX12_number_178 : decode cX12_number 178 = .ok (.if_icmp .ne 7, 3) := by decide +kernel
theorem dX12_number_181 : decode cX12_number 181 = .ok (.iconst 1, 1) := by decide +kernel
theorem dX12_number_182 : decode cX12_number 182 = .ok (.goto 4, 3) := by decide +kernel
theorem dX12_number_185 : decode cX12_number 185 = .ok (.iconst 0, 1) := by decide +kernel
theorem dX12_number_186 : decode cX12_number 186 = .ok (.istore 7, 2) := by decide +kernel
theorem dX12_number_188 : decode cX12_number 188 = .ok (.aload_n 0, 1) := by decide +kernel
theorem dX12_number_189 : decode cX12_number 189 = .ok (.invokevirtual 306, 3) := by decide +kernel
theorem dX12_number_192 : decode cX12_number 192 = .ok (.invokestatic 324, 3) := by decide +kernel
theorem dX12_number_195 : decode cX12_number 195 = .ok (.ifCond .eq 13, 3) := by decide +kernel
theorem dX12_number_198 : decode cX12_number 198 = .ok (.aload_n 0, 1) := by decide +kernel
theorem dX12_number_199 : decode cX12_number 199 = .ok (.dup, 1) := by decide +kernel
theorem dX12_number_200 : decode cX12_number 200 = .ok (.getfield 300, 3) := by decide +kernel
theorem dX12_number_203 : decode cX12_number 203 = .ok (.iconst 1, 1) := by decide +kernel
theorem dX12_number_204 : decode cX12_number 204 = .ok (.iadd, 1) := by decide +kernel
theorem dX12_number_205 : decode cX12_number 205 = .ok (.putfield 300, 3) := by decide +kernel
theorem dX12_number_208 : decode cX12_number 208 = .ok (.aload_n 0, 1) := by decide +kernel
theorem dX12_number_209 : decode cX12_number 209 = .ok (.getfield 300, 3) := by decide +kernel
theorem dX12_number_212 : decode cX12_number 212 = .ok (.istore 8, 2) := by decide +kernel
theorem dX12_number_214 : decode cX12_number 214 = .ok (.aload_n 0, 1) := by decide +kernel
theorem dX12_number_215 : decode cX12_number 215 = .ok (.invokevirtual 306, 3) := by decide +kernel
theorem dX12_number_218 : decode cX12_number 218 = .ok (.invokestatic 321, 3) := by decide +kernel
theorem dX12_number_221 : decode cX12_number 221 = .ok (.ifCond .eq 48, 3) := by decide +kernel
theorem dX12_number_224 : decode cX12_number 224 = .ok (.lload 5, 2) := by decide +kernel
theorem dX12_number_226 : decode cX12_number 226 = .ok (.ldc2_w 428, 3) := by decide +kernel
theorem dX12_number_229 : decode cX12_number 229 = .ok (.lcmp, 1) := by decide +kernel
theorem dX12_number_230 : decode cX12_number 230 = .ok (.ifCond .ge 22, 3) := by decide +kernel
theorem dX12_number_233 : decode cX12_number 233 = .ok (.ldc2_w 269, 3) := by decide +kernel
theorem dX12_number_236 : decode cX12_number 236 = .ok (.lload 5, 2) := by decide +kernel
theorem dX12_number_238 : decode cX12_number 238 = .ok (.lmul, 1) := by decide +kernel
theorem dX12_number_239 : decode cX12_number 239 = .ok (.aload_n 0, 1) := by decide +kernel
theorem dX12_number_240 : decode cX12_number 240 = .ok (.invokevirtual 306, 3) := by decide +kernel
theorem dX12_number_243 : decode cX12_number 243 = .ok (.i2l, 1) := by decide +kernel
theorem dX12_number_244 : decode cX12_number 244 = .ok (.ladd, 1) := by decide +kernel
theorem dX12_number_245 : decode cX12_number 245 = .ok (.ldc2_w 430, 3) := by decide +kernel
theorem dX12_number_248 : decode cX12_number 248 = .ok (.lsub, 1) := by decide +kernel
theorem dX12_number_249 : decode cX12_number 249 = .ok (.goto 5, 3) := by decide +kernel
theorem dX12_number_252 : decode cX12_number 252 = .ok (.lload 5, 2) := by decide +kernel
theorem dX12_number_254 : decode cX12_number 254 = .ok (.lstore 5, 2) := by decide +kernel
theorem dX12_number_256 : decode cX12_number 256 = .ok (.aload_n 0, 1) := by decide +kernel
theorem dX12_number_257 : decode cX12_number 257 = .ok (.dup, 1) := by decide +kernel
theorem dX12_number_258 : decode cX12_number 258 = .ok (.getfield 300, 3) := by decide +kernel
theorem dX12_number_261 : decode cX12_number 261 = .ok (.iconst 1, 1) := by decide +kernel
theorem dX12_number_262 : decode cX12_number 262 = .ok (.iadd, 1) := by decide +kernel
theorem dX12_number_263 : decode cX12_number 263 = .ok (.putfield 300, 3) := by decide +kernel
theorem dX12_number_266 : decode cX12_number 266 = .ok (.goto (-52), 3) := by decide +kernel
theorem dX12_number_269 : decode cX12_number 269 = .ok (.iload 4, 2) := by decide +kernel
theorem dX12_number_271 : decode cX12_number 271 = .ok (.ifCond .eq 16, 3) := by decide +kernel
theorem dX12_number_274 : decode cX12_number 274 = .ok (.aload_n 0, 1) := by decide +kernel
theorem dX12_number_275 : decode cX12_number 275 = .ok (.getfield 300, 3) := by decide +kernel
theorem dX12_number_278 : decode cX12_number 278 = .ok (.iload 8, 2) := by decide +kernel
theorem dX12_number_280 : decode cX12_number 280 = .ok (.if_icmp .le 7, 3) := by decide +kernel
theorem dX12_number_283 : decode cX12_number 283 = .ok (.iconst 1, 1) := by decide +kernel
theorem dX12_number_284 : decode cX12_number 284 = .ok (.goto 4, 3) := by decide +kernel
theorem dX12_number_287 : decode cX12_number 287 = .ok (.iconst 0, 1) := by decide +kernel
theorem dX12_number_288 : decode cX12_number 288 = .ok (.istore 4, 2) := by decide +kernel
theorem dX12_number_290 : decode cX12_number 290 = .ok (.iload 7, 2) := by decide +kernel
theorem dX12_number_292 : decode cX12_number 292 = .ok (.ifCond .eq 9, 3) := by decide +kernel
theorem dX12_number_295 : decode cX12_number 295 = .ok (.lload 5, 2) := by decide +kernel
theorem dX12_number_297 : decode cX12_number 297 = .ok (.lneg, 1) := by decide +kernel
theorem dX12_number_298 : decode cX12_number 298 = .ok (.goto 5, 3) := by decide +kernel
theorem dX12_number_301 : decode cX12_number 301 = .ok (.lload 5, 2) := by decide +kernel
theorem dX12_number_303 : decode cX12_number 303 = .ok (.lstore 5, 2) := by decide +kernel
theorem dX12_number_305 : decode cX12_number 305 = .ok (.aload_n 0, 1) := by decide +kernel
theorem dX12_number_306 : decode cX12_number 306 = .ok (.invokevirtual 306, 3) := by decide +kernel
theorem dX12_number_309 : decode cX12_number 309 = .ok (.istore 7, 2) := by decide +kernel
theorem dX12_number_311 : decode cX12_number 311 = .ok (.iload 7, 2) := by decide +kernel
theorem dX12_number_313 : decode cX12_number 313 = .ok (.iconst (-1), 1) := by decide +kernel
theorem dX12_number_314 : decode cX12_number 314 = .ok (.if_icmp .eq 38, 3) := by decide +kernel
theorem dX12_number_317 : decode cX12_number 317 = .ok (.iload 7, 2) := by decide +kernel
theorem dX12_number_319 : decode cX12_number 319 = .ok (.invokestatic 314, 3) := by decide +kernel
theorem dX12_number_322 : decode cX12_number 322 = .ok (.ifCond .ne 26, 3) := by decide +kernel
theorem dX12_number_325 : decode cX12_number 325 = .ok (.iload 7, 2) := by decide +kernel
theorem dX12_number_327 : decode cX12_number 327 = .ok (.invokestatic 321, 3) := by decide +kernel
theorem dX12_number_330 : decode cX12_number 330 = .ok (.ifCond .ne 18, 3) := by decide +kernel
theorem dX12_number_333 : decode cX12_number 333 = .ok (.iload 7, 2) := by decide +kernel
theorem dX12_number_335 : decode cX12_number 335 = .ok (.invokestatic 324, 3) := by decide +kernel
theorem dX12_number_338 : decode cX12_number 338 = .ok (.ifCond .ne 10, 3) := by decide +kernel
theorem dX12_number_341 : decode cX12_number 341 = .ok (.iload 7, 2) := by decide +kernel
theorem dX12_number_343 : decode cX12_number 343 = .ok (.bipush 46, 2) := by decide +kernel
theorem dX12_number_345 : decode cX12_number 345 = .ok (.if_icmp .ne 7, 3) := by decide +kernel
theorem dX12_number_348 : decode cX12_number 348 = .ok (.iconst 1, 1) := by decide +kernel
theorem dX12_number_349 : decode cX12_number 349 = .ok (.goto 4, 3) := by decide +kernel
theorem dX12_number_352 : decode cX12_number 352 = .ok (.iconst 0, 1) := by decide +kernel
theorem dX12_number_353 : decode cX12_number 353 = .ok (.istore 8, 2) := by decide +kernel
theorem dX12_number_355 : decode cX12_number 355 = .ok (.iload 4, 2) := by decide +kernel
theorem dX12_number_357 : decode cX12_number 357 = .ok (.ifCond .eq 8, 3) := by decide +kernel
theorem dX12_number_360 : decode cX12_number 360 = .ok (.iload 8, 2) := by decide +kernel
theorem dX12_number_362 : decode cX12_number 362 = .ok (.ifCond .eq 10, 3) := by decide +kernel
theorem dX12_number_365 : decode cX12_number 365 = .ok (.aload_n 0, 1) := by decide +kernel
theorem dX12_number_366 : decode cX12_number 366 = .ok (.iconst 4, 1) := by decide +kernel
theorem dX12_number_367 : decode cX12_number 367 = .ok (.iload_n 1, 1) := by decide +kernel
theorem dX12_number_368 : decode cX12_number 368 = .ok (.invokevirtual 317, 3) := by decide +kernel
theorem dX12_number_371 : decode cX12_number 371 = .ok (.ireturn, 1) := by decide +kernel
theorem dX12_number_372 : decode cX12_number 372 = .ok (.aload_n 0, 1) := by decide +kernel
theorem dX12_number_373 : decode cX12_number 373 = .ok (.aload_n 0, 1) := by decide +kernel
theorem dX12_number_374 : decode cX12_number 374 = .ok (.getfield 422, 3) := by decide +kernel
theorem dX12_number_377 : decode cX12_number 377 = .ok (.i2l, 1) := by decide +kernel
theorem dX12_number_378 : decode cX12_number 378 = .ok (.lload 5, 2) := by decide +kernel
theorem dX12_number_380 : decode cX12_number 380 = .ok (.ladd, 1) := by decide +kernel
theorem dX12_number_381 : decode cX12_number 381 = .ok (.aload_n 0, 1) := by decide +kernel
theorem dX12_number_382 : decode cX12_number 382 = .ok (.getfield 261, 3) := by decide +kernel
theorem dX12_number_385 : decode cX12_number 385 = .ok (.i2l, 1) := by decide +kernel
theorem dX12_number_386 : decode cX12_number 386 = .ok (.ladd, 1) := by decide +kernel
theorem dX12_number_387 : decode cX12_number 387 = .ok (.invokevirtual 432, 3) := by decide +kernel
theorem dX12_number_390 : decode cX12_number 390 = .ok (.aload_n 0, 1) := by decide +kernel
theorem dX12_number_391 : decode cX12_number 391 = .ok (.getfield 409, 3) := by decide +kernel
theorem dX12_number_394 : decode cX12_number 394 = .ok (.ldc2_w 436, 3) := by decide +kernel
theorem dX12_number_397 : decode cX12_number 397 = .ok (.lcmp, 1) := by decide +kernel
theorem dX12_number_398 : decode cX12_number 398 = .ok (.ifCond .le 10, 3) := by decide +kernel
theorem dX12_number_401 : decode cX12_number 401 = .ok (.aload_n 0, 1) := by decide +kernel
theorem dX12_number_402 : decode cX12_number 402 = .ok (.iconst 5, 1) := by decide +kernel
theorem dX12_number_403 : decode cX12_number 403 = .ok (.iload_n 1, 1) := by decide +kernel
theorem dX12_number_404 : decode cX12_number 404 = .ok (.invokevirtual 317, 3) := by decide +kernel
theorem dX12_number_407 : decode cX12_number 407 = .ok (.ireturn, 1) := by decide +kernel
theorem dX12_number_408 : decode cX12_number 408 = .ok (.aload_n 0, 1) := by decide +kernel
theorem dX12_number_409 : decode cX12_number 409 = .ok (.iload_n 2, 1) := by decide +kernel
theorem dX12_number_410 : decode cX12_number 410 = .ok (.bipush 45, 2) := by decide +kernel
theorem dX12_number_412 : decode cX12_number 412 = .ok (.if_icmp .ne 11, 3) := by decide +kernel
theorem dX12_number_415 : decode cX12_number 415 = .ok (.aload_n 0, 1) := by decide +kernel
theorem dX12_number_416 : decode cX12_number 416 = .ok (.getfield 409, 3) := by decide +kernel
theorem dX12_number_419 : decode cX12_number 419 = .ok (.lneg, 1) := by decide +kernel
theorem dX12_number_420 : decode cX12_number 420 = .ok (.goto 7, 3) := by decide +kernel
theorem dX12_number_423 : decode cX12_number 423 = .ok (.aload_n 0, 1) := by decide +kernel
theorem dX12_number_424 : decode cX12_number 424 = .ok (.getfield 409, 3) := by decide +kernel
theorem dX12_number_427 : decode cX12_number 427 = .ok (.putfield 409, 3) := by decide +kernel
theorem dX12_number_430 : decode cX12_number 430 = .ok (.iconst 1, 1) := by decide +kernel
theorem dX12_number_431 : decode cX12_number 431 = .ok (.ireturn, 1) := by decide +kernel
abbrev M_X12_number : MRec := (yX12_number, cX12_number, 9, (some Jvm.ClassFile.FieldType.boolean), [])
theorem m_X12_number : en_M M_X12_number 0 := ⟨t_2925, t_14, ⟨by decide +kernel, by decide +kernel⟩, by decide +kernel, by decide +kernel, by decide +kernel⟩
theorem dX12_coordinate_0 : decode cX12_coordinate 0 = .ok (.aload_n 0, 1) := by decide +kernel
theorem dX12_coordinate_1 : decode cX12_coordinate 1 = .ok (.invokevirtual 349, 3) := by decide +kernel
theorem dX12_coordinate_4 : decode cX12_coordinate 4 = .ok (.aload_n 0, 1) := by decide +kernel
theorem dX12_coordinate_5 : decode cX12_coordinate 5 = .ok (.getfield 26, 3) := by decide +kernel
theorem dX12_coordinate_8 : decode cX12_coordinate 8 = .ok (.bipush 32, 2) := by decide +kernel
theorem dX12_coordinate_10 : decode cX12_coordinate 10 = .ok (.iaload, 1) := by decide +kernel
theorem dX12_coordinate_11 : decode cX12_coordinate 11 = .ok (.sipush 2048, 3) := by decide +kernel
theorem dX12_coordinate_14 : decode cX12_coordinate 14 = .ok (.if_icmp .ne 14, 3) := by decide +kernel
theorem dX12_coordinate_17 : decode cX12_coordinate 17 = .ok (.aload_n 0, 1) := by decide +kernel
theorem dX12_coordinate_18 : decode cX12_coordinate 18 = .ok (.bipush 7, 2) := by decide +kernel
theorem dX12_coordinate_20 : decode cX12_coordinate 20 = .ok (.aload_n 0, 1) := by decide +kernel
theorem dX12_coordinate_21 : decode cX12_coordinate 21 = .ok (.getfield 300, 3) := by decide +kernel
theorem dX12_coordinate_24 : decode cX12_coordinate 24 = .ok (.invokevirtual 317, 3) := by decide +kernel
theorem dX12_coordinate_27 : decode cX12_coordinate 27 = .ok (.ireturn, 1) := by decide +kernel
theorem dX12_coordinate_28 : decode cX12_coordinate 28 = .ok (.aload_n 0, 1) := by decide +kernel
theorem dX12_coordinate_29 : decode cX12_coordinate 29 = .ok (.invokevirtual 406, 3) := by decide +kernel
theorem dX12_coordinate_32 : decode cX12_coordinate 32 = .ok (.ifCond .ne 5, 3) := by decide +kernel
theorem dX12_coordinate_35 : decode cX12_coordinate 35 = .ok (.iconst 0, 1) := by decide +kernel
theorem dX12_coordinate_36 : decode cX12_coordinate 36 = .ok (.ireturn, 1) := by decide +kernel
theorem dX12_coordinate_37 : decode cX12_coordinate 37 = .ok (.aload_n 0, 1) := by decide +kernel
theorem dX12_coordinate_38 : decode cX12_coordinate 38 = .ok (.getfield 409, 3) := by decide +kernel
theorem dX12_coordinate_41 : decode cX12_coordinate 41 = .ok (.lstore_n 1, 1) := by decide +kernel
theorem dX12_coordinate_42 : decode cX12_coordinate 42 = .ok (.aload_n 0, 1) := by decide +kernel
theorem dX12_coordinate_43 : decode cX12_coordinate 43 = .ok (.invokevirtual 306, 3) := by decide +kernel
theorem dX12_coordinate_46 : decode cX12_coordinate 46 = .ok (.invokestatic 310, 3) := by decide +kernel
theorem dX12_coordinate_49 : decode cX12_coordinate 49 = .ok (.ifCond .ne 9, 3) := by decide +kernel
theorem dX12_coordinate_52 : decode cX12_coordinate 52 = .ok (.aload_n 0, 1) := by decide +kernel
theorem dX12_coordinate_53 : decode cX12_coordinate 53 = .ok (.iconst 0, 1) := by decide +kernel
theorem dX12_coordinate_54 : decode cX12_coordinate 54 = .ok (.invokevirtual 369, 3) := by decide +kernel
theorem dX12_coordinate_57 : decode cX12_coordinate 57 = .ok (.ireturn, 1) := by decide +kernel
theorem dX12_coordinate_58 : decode cX12_coordinate 58 = .ok (.aload_n 0, 1) := by decide +kernel
theorem dX12_coordinate_59 : decode cX12_coordinate 59 = .ok (.invokevirtual 349, 3) := by decide +kernel
theorem dX12_coordinate_62 : decode cX12_coordinate 62 = .ok (.aload_n 0, 1) := by decide +kernel
theorem dX12_coordinate_63 : decode cX12_coordinate 63 = .ok (.invokevirtual 406, 3) := by decide +kernel
theorem dX12_coordinate_66 : decode cX12_coordinate 66 = .ok (.ifCond .ne 5, 3) := by decide +kernel
theorem dX12_coordinate_69 : decode cX12_coordinate 69 = .ok (.iconst 0, 1) := by decide +kernel
theorem dX12_coordinate_70 : decode cX12_coordinate 70 = .ok (.ireturn, 1) := by decide +kernel
theorem dX12_coordinate_71 : decode cX12_coordinate 71 = .ok (.aload_n 0, 1) := by decide +kernel
theorem dX12_coordinate_72 : decode cX12_coordinate 72 = .ok (.lload_n 1, 1) := by decide +kernel
theorem dX12_coordinate_73 : decode cX12_coordinate 73 = .ok (.aload_n 0, 1) := by decide +kernel
theorem dX12_coordinate_74 : decode cX12_coordinate 74 = .ok (.getfield 409, 3) := by decide +kernel
theorem dX12_coordinate_77 : decode cX12_coordinate 77 = .ok (.invokevirtual 412, 3) := by decide +kernel
theorem dX12_coordinate_80 : decode cX12_coordinate 80 = .ok (.iconst 1, 1) := by decide +kernel
theorem dX12_coordinate_81 : decode cX12_coordinate 81 = .ok (.ireturn, 1) := by decide +kernel
abbrev M_X12_coordinate : MRec := (yX12_coordinate, cX12_coordinate, 3, (some Jvm.ClassFile.FieldType.boolean), [])
theorem m_X12_coordinate : en_M M_X12_coordinate 0 := ⟨t_2921, t_14, ⟨by decide +kernel, by decide +kernel⟩, by decide +kernel, by decide +kernel, by decide +kernel⟩
theorem dX12_row_0 : decode cX12_row 0 = .ok (.iconst 1, 1) := by decide +kernel
theorem dX12_row_1 : decode cX12_row 1 = .ok (.istore_n 2, 1) := by decide +kernel
theorem dX12_row_2 : decode cX12_row 2 = .ok (.iload_n 2, 1) := by decide +kernel
theorem dX12_row_3 : decode cX12_row 3 = .ok (.iconst 1, 1) := by decide +kernel
theorem dX12_row_4 : decode cX12_row 4 = .ok (.if_icmp .ne 25, 3) := by decide +kernel
theorem dX12_row_7 : decode cX12_row 7 = .ok (.aload_n 0, 1) := by decide +kernel
theorem dX12_row_8 : decode cX12_row 8 = .ok (.invokevirtual 385, 3) := by decide +kernel
theorem dX12_row_11 : decode cX12_row 11 = .ok (.ifCond .ne 5, 3) := by decide +kernel
theorem dX12_row_14 : decode cX12_row 14 = .ok (.iconst 0, 1) := by decide +kernel
theorem dX12_row_15 : decode cX12_row 15 = .ok (.ireturn, 1) := by decide +kernel
theorem dX12_row_16 : decode cX12_row 16 = .ok (.aload_n 0, 1) := by decide +kernel
theorem dX12_row_17 : decode cX12_row 17 = .ok (.iload_n 1, 1) := by decide +kernel
theorem dX12_row_18 : decode cX12_row 18 = .ok (.invokevirtual 376, 3) := by decide +kernel
theorem dX12_row_21 : decode cX12_row 21 = .ok (.aload_n 0, 1) := by decide +kernel
theorem dX12_row_22 : decode cX12_row 22 = .ok (.invokevirtual 400, 3) := by decide +kernel
theorem dX12_row_25 : decode cX12_row 25 = .ok (.istore_n 2, 1) := by decide +kernel
theorem dX12_row_26 : decode cX12_row 26 = .ok (.goto (-24), 3) := by decide +kernel
theorem dX12_row_29 : decode cX12_row 29 = .ok (.iload_n 2, 1) := by decide +kernel
theorem dX12_row_30 : decode cX12_row 30 = .ok (.ifCond .ne 7, 3) := by decide +kernel
theorem dX12_row_33 : decode cX12_row 33 = .ok (.iconst 1, 1) := by decide +kernel
theorem dX12_row_34 : decode cX12_row 34 = .ok (.goto 4, 3) := by decide +kernel
theorem dX12_row_37 : decode cX12_row 37 = .ok (.iconst 0, 1) := by decide +kernel
theorem dX12_row_38 : decode cX12_row 38 = .ok (.ireturn, 1) := by decide +kernel
abbrev M_X12_row : MRec := (yX12_row, cX12_row, 3, (some Jvm.ClassFile.FieldType.boolean), [])
theorem m_X12_row : en_M M_X12_row 1 := ⟨t_2949, t_14, ⟨by decide +kernel, by decide +kernel⟩, by decide +kernel, by decide +kernel, by decide +kernel⟩
theorem dX12_rings_0 : decode cX12_rings 0 = .ok (.iconst 1, 1) := by decide +kernel
theorem dX12_rings_1 : decode cX12_rings 1 = .ok (.istore_n 2, 1) := by decide +kernel
theorem dX12_rings_2 : decode cX12_rings 2 = .ok (.iload_n 2, 1) := by decide +kernel
theorem dX12_rings_3 : decode cX12_rings 3 = .ok (.iconst 1, 1) := by decide +kernel
theorem dX12_rings_4 : decode cX12_rings 4 = .ok (.if_icmp .ne 92, 3) := by decide +kernel
theorem dX12_rings_7 : decode cX12_rings 7 = .ok (.aload_n 0, 1) := by decide +kernel
theorem dX12_rings_8 : decode cX12_rings 8 = .ok (.invokevirtual 349, 3) := by decide +kernel
theorem dX12_rings_11 : decode cX12_rings 11 = .ok (.aload_n 0, 1) := by decide +kernel
theorem dX12_rings_12 : decode cX12_rings 12 = .ok (.getfield 18, 3) := by decide +kernel
theorem dX12_rings_15 : decode cX12_rings 15 = .ok (.bipush 32, 2) := by decide +kernel
theorem dX12_rings_17 : decode cX12_rings 17 = .ok (.iaload, 1) := by decide +kernel
theorem dX12_rings_18 : decode cX12_rings 18 = .ok (.sipush 2048, 3) := by decide +kernel
theorem dX12_rings_21 : decode cX12_rings 21 = .ok (.if_icmp .ne 14, 3) := by decide +kernel
theorem dX12_rings_24 : decode cX12_rings 24 = .ok (.aload_n 0, 1) := by decide +kernel
theorem dX12_rings_25 : decode cX12_rings 25 = .ok (.bipush 7, 2) := by decide +kernel
theorem dX12_rings_27 : decode cX12_rings 27 = .ok (.aload_n 0, 1) := by decide +kernel
theorem dX12_rings_28 : decode cX12_rings 28 = .ok (.getfield 300, 3) := by decide +kernel
theorem dX12_rings_31 : decode cX12_rings 31 = .ok (.invokevirtual 317, 3) := by decide +kernel
theorem dX12_rings_34 : decode cX12_rings 34 = .ok (.ireturn, 1) := by decide +kernel
theorem dX12_rings_35 : decode cX12_rings 35 = .ok (.aload_n 0, 1) := by decide +kernel
theorem dX12_rings_36 : decode cX12_rings 36 = .ok (.invokevirtual 306, 3) := by decide +kernel
theorem dX12_rings_39 : decode cX12_rings 39 = .ok (.bipush 40, 2) := by decide +kernel
theorem dX12_rings_41 : decode cX12_rings 41 = .ok (.if_icmp .eq 9, 3) := by decide +kernel
theorem dX12_rings_44 : decode cX12_rings 44 = .ok (.aload_n 0, 1) := by decide +kernel
theorem dX12_rings_45 : decode cX12_rings 45 = .ok (.iconst 0, 1) := by decide +kernel
theorem dX12_rings_46 : decode cX12_rings 46 = .ok (.invokevirtual 369, 3) := by decide +kernel
theorem dX12_rings_49 : decode cX12_rings 49 = .ok (.ireturn, 1) := by decide +kernel
theorem dX12_rings_50 : decode cX12_rings 50 = .ok (.aload_n 0, 1) := by decide +kernel
theorem dX12_rings_51 : decode cX12_rings 51 = .ok (.dup, 1) := by decide +kernel
theorem dX12_rings_52 : decode cX12_rings 52 = .ok (.getfield 300, 3) := by decide +kernel
theorem dX12_rings_55 : decode cX12_rings 55 = .ok (.iconst 1, 1) := by decide +kernel
theorem dX12_rings_56 : decode cX12_rings 56 = .ok (.iadd, 1) := by decide +kernel
theorem dX12_rings_57 : decode cX12_rings 57 = .ok (.putfield 300, 3) := by decide +kernel
theorem dX12_rings_60 : decode cX12_rings 60 = .ok (.aload_n 0, 1) := by decide +kernel
theorem dX12_rings_61 : decode cX12_rings 61 = .ok (.getfield 18, 3) := by decide +kernel
theorem dX12_rings_64 : decode cX12_rings 64 = .ok (.bipush 32, 2) := by decide +kernel
theorem dX12_rings_66 : decode cX12_rings 66 = .ok (.iaload, 1) := by decide +kernel
theorem dX12_rings_67 : decode cX12_rings 67 = .ok (.istore_n 3, 1) := by decide +kernel
theorem dX12_rings_68 : decode cX12_rings 68 = .ok (.aload_n 0, 1) := by decide +kernel
theorem dX12_rings_69 : decode cX12_rings 69 = .ok (.iconst 0, 1) := by decide +kernel
theorem dX12_rings_70 : decode cX12_rings 70 = .ok (.invokevirtual 352, 3) := by decide +kernel
theorem dX12_rings_73 : decode cX12_rings 73 = .ok (.aload_n 0, 1) := by decide +kernel
theorem dX12_rings_74 : decode cX12_rings 74 = .ok (.iload_n 1, 1) := by decide +kernel
theorem dX12_rings_75 : decode cX12_rings 75 = .ok (.invokevirtual 376, 3) := by decide +kernel
theorem dX12_rings_78 : decode cX12_rings 78 = .ok (.aload_n 0, 1) := by decide +kernel
theorem dX12_rings_79 : decode cX12_rings 79 = .ok (.iload_n 3, 1) := by decide +kernel
theorem dX12_rings_80 : decode cX12_rings 80 = .ok (.invokevirtual 391, 3) := by decide +kernel
theorem dX12_rings_83 : decode cX12_rings 83 = .ok (.ifCond .ne 5, 3) := by decide +kernel
theorem dX12_rings_86 : decode cX12_rings 86 = .ok (.iconst 0, 1) := by decide +kernel
theorem dX12_rings_87 : decode cX12_rings 87 = .ok (.ireturn, 1) := by decide +kernel
theorem dX12_rings_88 : decode cX12_rings 88 = .ok (.aload_n 0, 1) := by decide +kernel
theorem dX12_rings_89 : decode cX12_rings 89 = .ok (.invokevirtual 400, 3) := by decide +kernel
theorem dX12_rings_92 : decode cX12_rings 92 = .ok (.istore_n 2, 1) := by decide +kernel
theorem dX12_rings_93 : decode cX12_rings 93 = .ok (.goto (-91), 3) := by decide +kernel
theorem dX12_rings_96 : decode cX12_rings 96 = .ok (.iload_n 2, 1) := by decide +kernel
theorem dX12_rings_97 : decode cX12_rings 97 = .ok (.ifCond .ne 7, 3) := by decide +kernel
theorem dX12_rings_100 : decode cX12_rings 100 = .ok (.iconst 1, 1) := by decide +kernel
theorem dX12_rings_101 : decode cX12_rings 101 = .ok (.goto 4, 3) := by decide +kernel
theorem dX12_rings_104 : decode cX12_rings 104 = .ok (.iconst 0, 1) := by decide +kernel
theorem dX12_rings_105 : decode cX12_rings 105 = .ok (.ireturn, 1) := by decide +kernel
abbrev M_X12_rings : MRec := (yX12_rings, cX12_rings, 4, (some Jvm.ClassFile.FieldType.boolean), [])
theorem m_X12_rings : en_M M_X12_rings 1 := ⟨t_2957, t_14, ⟨by decide +kernel, by decide +kernel⟩, by decide +kernel, by decide +kernel, by decide +kernel⟩
theorem dX12_there_0 : decode cX12_there 0 = .ok (.aload_n 0, 1) := by decide +kernel
theorem dX12_there_1 : decode cX12_there 1 = .ok (.getfield 300, 3) := by decide +kernel
theorem dX12_there_4 : decode cX12_there 4 = .ok (.iload_n 1, 1) := by decide +kernel
theorem dX12_there_5 : decode cX12_there 5 = .ok (.iadd, 1) := by decide +kernel
theorem dX12_there_6 : decode cX12_there 6 = .ok (.aload_n 0, 1) := by decide +kernel
theorem dX12_there_7 : decode cX12_there 7 = .ok (.getfield 303, 3) := by decide +kernel
theorem dX12_there_10 : decode cX12_there 10 = .ok (.if_icmp .gt 7, 3) := by decide +kernel
theorem dX12_there_13 : decode cX12_there 13 = .ok (.iconst 1, 1) := by decide +kernel
theorem dX12_there_14 : decode cX12_there 14 = .ok (.goto 4, 3) := by decide +kernel
theorem dX12_there_17 : decode cX12_there 17 = .ok (.iconst 0, 1) := by decide +kernel
theorem dX12_there_18 : decode cX12_there 18 = .ok (.ireturn, 1) := by decide +kernel
abbrev M_X12_there : MRec := (yX12_there, cX12_there, 2, (some Jvm.ClassFile.FieldType.boolean), [])
theorem m_X12_there : en_M M_X12_there 1 := ⟨t_2977, t_14, ⟨by decide +kernel, by decide +kernel⟩, by decide +kernel, by decide +kernel, by decide +kernel⟩
theorem dX12_whole_0 : decode cX12_whole 0 = .ok (.lconst 0, 1) := by decide +kernel
theorem dX12_whole_1 : decode cX12_whole 1 = .ok (.lstore_n 3, 1) := by decide +kernel
theorem dX12_whole_2 : decode cX12_whole 2 = .ok (.iconst 0, 1) := by decide +kernel
theorem dX12_whole_3 : decode cX12_whole 3 = .ok (.istore 5, 2) := by decide +kernel
theorem dX12_whole_5 : decode cX12_whole 5 = .ok (.iload 5, 2) := by decide +kernel
theorem dX12_whole_7 : decode cX12_whole 7 = .ok (.iload_n 2, 1) := by decide +kernel
theorem dX12_whole_8 : decode cX12_whole 8 = .ok (.if_icmp .ge 51, 3) := by decide +kernel
theorem dX12_whole_11 : decode cX12_whole 11 = .ok (.aload_n 0, 1) := by decide +kernel
theorem dX12_whole_12 : decode cX12_whole 12 = .ok (.getfield 457, 3) := by decide +kernel
theorem dX12_whole_15 : decode cX12_whole 15 = .ok (.ifCond .eq 10, 3) := by decide +kernel
theorem dX12_whole_18 : decode cX12_whole 18 = .ok (.iload_n 1, 1) := by decide +kernel
theorem dX12_whole_19 : decode cX12_whole 19 = .ok (.iload 5, 2) := by decide +kernel
theorem dX12_whole_21 : decode cX12_whole 21 = .ok (.iadd, 1) := by decide +kernel
theorem dX12_whole_22 : decode cX12_whole 22 = .ok (.goto 11, 3) := by decide +kernel
theorem dX12_whole_25 : decode cX12_whole 25 = .ok (.iload_n 1, 1) := by decide +kernel
theorem dX12_whole_26 : decode cX12_whole 26 = .ok (.iload_n 2, 1) := by decide +kernel
theorem dX12_whole_27 : decode cX12_whole 27 = .ok (.iadd, 1) := by decide +kernel
theorem dX12_whole_28 : decode cX12_whole 28 = .ok (.iconst 1, 1) := by decide +kernel
theorem dX12_whole_29 : decode cX12_whole 29 = .ok (.isub, 1) := by decide +kernel
theorem dX12_whole_30 : decode cX12_whole 30 = .ok (.iload 5, 2) := by decide +kernel
theorem dX12_whole_32 : decode cX12_whole 32 = .ok (.isub, 1) := by decide +kernel
theorem dX12_whole_33 : decode cX12_whole 33 = .ok (.istore 6, 2) := by decide +kernel
theorem dX12_whole_35 : decode cX12_whole 35 = .ok (.lload_n 3, 1) := by decide +kernel
theorem dX12_whole_36 : decode cX12_whole 36 = .ok (.bipush 8, 2) := by decide +kernel
theorem dX12_whole_38 : decode cX12_whole 38 = .ok (.lshl, 1) := by decide +kernel
theorem dX12_whole_39 : decode cX12_whole 39 = .ok (.aload_n 0, 1) := by decide +kernel
theorem dX12_whole_40 : decode cX12_whole 40 = .ok (.getfield 8, 3) := by decide +kernel
theorem dX12_whole_43 : decode cX12_whole 43 = .ok (.iload 6, 2) := by decide +kernel
theorem dX12_whole_45 : decode cX12_whole 45 = .ok (.baload, 1) := by decide +kernel
theorem dX12_whole_46 : decode cX12_whole 46 = .ok (.i2l, 1) := by decide +kernel
theorem dX12_whole_47 : decode cX12_whole 47 = .ok (.ldc2_w 460, 3) := by decide +kernel
theorem dX12_whole_50 : decode cX12_whole 50 = .ok (.land, 1) := by decide +kernel
theorem dX12_whole_51 : decode cX12_whole 51 = .ok (.lor, 1) := by decide +kernel
theorem dX12_whole_52 : decode cX12_whole 52 = .ok (.lstore_n 3, 1) := by decide +kernel
theorem dX12_whole_53 : decode cX12_whole 53 = .ok (.iinc 5 1, 3) := by decide +kernel
theorem dX12_whole_56 : decode cX12_whole 56 = .ok (.goto (-51), 3) := by decide +kernel
theorem dX12_whole_59 : decode cX12_whole 59 = .ok (.lload_n 3, 1) := by decide +kernel
theorem dX12_whole_60 : decode cX12_whole 60 = .ok (.lreturn, 1) := by decide +kernel
abbrev M_X12_whole : MRec := (yX12_whole, cX12_whole, 7, (some Jvm.ClassFile.FieldType.long), [])
theorem m_X12_whole : en_M M_X12_whole 2 := ⟨t_2981, t_14, ⟨by decide +kernel, by decide +kernel⟩, by decide +kernel, by decide +kernel, by decide +kernel⟩
