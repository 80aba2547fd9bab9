theorem dX7_compareLimbs_0 : decode cX7_compareLimbs 0 = .ok (.aload_n 0, 1) := by decide +kernel
theorem dX7_compareLimbs_1 : decode cX7_compareLimbs 1 = .ok (.getfield 23, 3) := by decide +kernel
theorem dX7_compareLimbs_4 : decode cX7_compareLimbs 4 = .ok (.iload_n 1, 1) := by decide +kernel
theorem dX7_compareLimbs_5 : decode cX7_compareLimbs 5 = .ok (.iaload, 1) := by decide +kernel
theorem dX7_compareLimbs_6 : decode cX7_compareLimbs 6 = .ok (.aload_n 0, 1) := by decide +kernel
theorem dX7_compareLimbs_7 : decode cX7_compareLimbs 7 = .ok (.getfield 23, 3) := by decide +kernel
theorem dX7_compareLimbs_10 : decode cX7_compareLimbs 10 = .ok (.iload_n 2, 1) := by decide +kernel
theorem dX7_compareLimbs_11 : decode cX7_compareLimbs 11 = .ok (.iaload, 1) := by decide +kernel
theorem dX7_compareLimbs_12 : decode cX7_compareLimbs 12 = .ok (.invokestatic 51, 3) := by decide +kernel
theorem dX7_compareLimbs_15 : decode cX7_compareLimbs 15 = .ok (.iconst 1, 1) := by decide +kernel
theorem dX7_compareLimbs_16 : decode cX7_compareLimbs 16 = .ok (.isub, 1) := by decide +kernel
theorem dX7_compareLimbs_17 : decode cX7_compareLimbs 17 = .ok (.istore_n 3, 1) := by decide +kernel
theorem dX7_compareLimbs_18 : decode cX7_compareLimbs 18 = .ok (.iload_n 3, 1) := by decide +kernel
theorem dX7_compareLimbs_19 : decode cX7_compareLimbs 19 = .ok (.ifCond .lt 47, 3) := by decide +kernel
theorem dX7_compareLimbs_22 : decode cX7_compareLimbs 22 = .ok (.aload_n 0, 1) := by decide +kernel
theorem dX7_compareLimbs_23 : decode cX7_compareLimbs 23 = .ok (.iload_n 1, 1) := by decide +kernel
theorem dX7_compareLimbs_24 : decode cX7_compareLimbs 24 = .ok (.iload_n 3, 1) := by decide +kernel
theorem dX7_compareLimbs_25 : decode cX7_compareLimbs 25 = .ok (.invokevirtual 72, 3) := by decide +kernel
theorem dX7_compareLimbs_28 : decode cX7_compareLimbs 28 = .ok (.aload_n 0, 1) := by decide +kernel
theorem dX7_compareLimbs_29 : decode cX7_compareLimbs 29 = .ok (.iload_n 2, 1) := by decide +kernel
theorem dX7_compareLimbs_30 : decode cX7_compareLimbs 30 = .ok (.iload_n 3, 1) := by decide +kernel
theorem dX7_compareLimbs_31 : decode cX7_compareLimbs 31 = .ok (.invokevirtual 72, 3) := by decide +kernel
theorem dX7_compareLimbs_34 : decode cX7_compareLimbs 34 = .ok (.lcmp, 1) := by decide +kernel
theorem dX7_compareLimbs_35 : decode cX7_compareLimbs 35 = .ok (.ifCond .eq 25, 3) := by decide +kernel
theorem dX7_compareLimbs_38 : decode cX7_compareLimbs 38 = .ok (.aload_n 0, 1) := by decide +kernel
theorem dX7_compareLimbs_39 : decode cX7_compareLimbs 39 = .ok (.iload_n 1, 1) := by decide +kernel
theorem dX7_compareLimbs_40 : decode cX7_compareLimbs 40 = .ok (.iload_n 3, 1) := by decide +kernel
theorem dX7_compareLimbs_41 : decode cX7_compareLimbs 41 = .ok (.invokevirtual 72, 3) := by decide +kernel
theorem dX7_compareLimbs_44 : decode cX7_compareLimbs 44 = .ok (.aload_n 0, 1) := by decide +kernel
theorem dX7_compareLimbs_45 : decode cX7_compareLimbs 45 = .ok (.iload_n 2, 1) := by decide +kernel
theorem dX7_compareLimbs_46 : decode cX7_compareLimbs 46 = .ok (.iload_n 3, 1) := by decide +kernel
theorem dX7_compareLimbs_47 : decode cX7_compareLimbs 47 = .ok (.invokevirtual 72, 3) := by decide +kernel
theorem dX7_compareLimbs_50 : decode cX7_compareLimbs 50 = .ok (.lcmp, 1) := by decide +kernel
theorem dX7_compareLimbs_51 : decode cX7_compareLimbs 51 = .ok (.ifCond .le 7, 3) := by decide +kernel
theorem dX7_compareLimbs_54 : decode cX7_compareLimbs 54 = .ok (.iconst 1, 1) := by decide +kernel
theorem dX7_compareLimbs_55 : decode cX7_compareLimbs 55 = .ok (.goto 4, 3) := by decide +kernel
theorem dX7_compareLimbs_58 : decode cX7_compareLimbs 58 = .ok (.iconst (-1), 1) := by decide +kernel
theorem dX7_compareLimbs_59 : decode cX7_compareLimbs 59 = .ok (.ireturn, 1) := by decide +kernel
theorem dX7_compareLimbs_60 : decode cX7_compareLimbs 60 = .ok (.iinc 3 (-1), 3) := by decide +kernel
theorem dX7_compareLimbs_63 : decode cX7_compareLimbs 63 = .ok (.goto (-45), 3) := by decide +kernel
theorem dX7_compareLimbs_66 : decode cX7_compareLimbs 66 = .ok (.iconst 0, 1) := by decide +kernel
theorem dX7_compareLimbs_67 : decode cX7_compareLimbs 67 = .ok (.ireturn, 1) := by decide +kernel
abbrev M_X7_compareLimbs : MRec := (yX7_compareLimbs, cX7_compareLimbs, 4, (some Jvm.ClassFile.FieldType.int), [])
theorem m_X7_compareLimbs : en_M M_X7_compareLimbs 2 := ⟨t_2359, t_13, ⟨by decide +kernel, by decide +kernel⟩, by decide +kernel, by decide +kernel, by decide +kernel⟩
theorem dX7_trim_0 : decode cX7_trim 0 = .ok (.aload_n 0, 1) := by decide +kernel
theorem dX7_trim_1 : decode cX7_trim 1 = .ok (.getfield 23, 3) := by decide +kernel
theorem dX7_trim_4 : decode cX7_trim 4 = .ok (.iload_n 1, 1) := by decide +kernel
theorem dX7_trim_5 : decode cX7_trim 5 = .ok (.iaload, 1) := by decide +kernel
theorem dX7_trim_6 : decode cX7_trim 6 = .ok (.ifCond .le 34, 3) := by decide +kernel
theorem dX7_trim_9 : decode cX7_trim 9 = .ok (.aload_n 0, 1) := by decide +kernel
theorem dX7_trim_10 : decode cX7_trim 10 = .ok (.getfield 20, 3) := by decide +kernel
theorem dX7_trim_13 : decode cX7_trim 13 = .ok (.iload_n 1, 1) := by decide +kernel
theorem dX7_trim_14 : decode cX7_trim 14 = .ok (.aaload, 1) := by decide +kernel
theorem dX7_trim_15 : decode cX7_trim 15 = .ok (.aload_n 0, 1) := by decide +kernel
theorem dX7_trim_16 : decode cX7_trim 16 = .ok (.getfield 23, 3) := by decide +kernel
theorem dX7_trim_19 : decode cX7_trim 19 = .ok (.iload_n 1, 1) := by decide +kernel
theorem dX7_trim_20 : decode cX7_trim 20 = .ok (.iaload, 1) := by decide +kernel
theorem dX7_trim_21 : decode cX7_trim 21 = .ok (.iconst 1, 1) := by decide +kernel
theorem dX7_trim_22 : decode cX7_trim 22 = .ok (.isub, 1) := by decide +kernel
theorem dX7_trim_23 : decode cX7_trim 23 = .ok (.iaload, 1) := by decide +kernel
theorem dX7_trim_24 : decode cX7_trim 24 = .ok (.ifCond .ne 16, 3) := by decide +kernel
theorem dX7_trim_27 : decode cX7_trim 27 = .ok (.aload_n 0, 1) := by decide +kernel
theorem dX7_trim_28 : decode cX7_trim 28 = .ok (.getfield 23, 3) := by decide +kernel
theorem dX7_trim_31 : decode cX7_trim 31 = .ok (.iload_n 1, 1) := by decide +kernel
theorem dX7_trim_32 : decode cX7_trim 32 = .ok (.dup2, 1) := by decide +kernel
theorem dX7_trim_33 : decode cX7_trim 33 = .ok (.iaload, 1) := by decide +kernel
theorem dX7_trim_34 : decode cX7_trim 34 = .ok (.iconst 1, 1) := by decide +kernel
theorem dX7_trim_35 : decode cX7_trim 35 = .ok (.isub, 1) := by decide +kernel
theorem dX7_trim_36 : decode cX7_trim 36 = .ok (.iastore, 1) := by decide +kernel
theorem dX7_trim_37 : decode cX7_trim 37 = .ok (.goto (-37), 3) := by decide +kernel
theorem dX7_trim_40 : decode cX7_trim 40 = .ok (.aload_n 0, 1) := by decide +kernel
theorem dX7_trim_41 : decode cX7_trim 41 = .ok (.getfield 23, 3) := by decide +kernel
theorem dX7_trim_44 : decode cX7_trim 44 = .ok (.iload_n 1, 1) := by decide +kernel
theorem dX7_trim_45 : decode cX7_trim 45 = .ok (.iaload, 1) := by decide +kernel
theorem dX7_trim_46 : decode cX7_trim 46 = .ok (.ifCond .ne 10, 3) := by decide +kernel
theorem dX7_trim_49 : decode cX7_trim 49 = .ok (.aload_n 0, 1) := by decide +kernel
theorem dX7_trim_50 : decode cX7_trim 50 = .ok (.getfield 27, 3) := by decide +kernel
theorem dX7_trim_53 : decode cX7_trim 53 = .ok (.iload_n 1, 1) := by decide +kernel
theorem dX7_trim_54 : decode cX7_trim 54 = .ok (.iconst 0, 1) := by decide +kernel
theorem dX7_trim_55 : decode cX7_trim 55 = .ok (.iastore, 1) := by decide +kernel
theorem dX7_trim_56 : decode cX7_trim 56 = .ok (.return_, 1) := by decide +kernel
abbrev M_X7_trim : MRec := (yX7_trim, cX7_trim, 2, none, [])
theorem m_X7_trim : en_M M_X7_trim 1 := ⟨t_2342, t_13, ⟨by decide +kernel, by decide +kernel⟩, by decide +kernel, by decide +kernel, by decide +kernel⟩
theorem dX7_addSigned_0 : decode cX7_addSigned 0 = .ok (.aload_n 0, 1) := by decide +kernel
theorem dX7_addSigned_1 : decode cX7_addSigned 1 = .ok (.getfield 27, 3) := by decide +kernel
theorem dX7_addSigned_4 : decode cX7_addSigned 4 = .ok (.iload_n 3, 1) := by decide +kernel
theorem dX7_addSigned_5 : decode cX7_addSigned 5 = .ok (.iaload, 1) := by decide +kernel
theorem dX7_addSigned_6 : decode cX7_addSigned 6 = .ok (.iload 4, 2) := by decide +kernel
theorem dX7_addSigned_8 : decode cX7_addSigned 8 = .ok (.imul, 1) := by decide +kernel
theorem dX7_addSigned_9 : decode cX7_addSigned 9 = .ok (.istore 5, 2) := by decide +kernel
theorem dX7_addSigned_11 : decode cX7_addSigned 11 = .ok (.aload_n 0, 1) := by decide +kernel
theorem dX7_addSigned_12 : decode cX7_addSigned 12 = .ok (.getfield 27, 3) := by decide +kernel
theorem dX7_addSigned_15 : decode cX7_addSigned 15 = .ok (.iload_n 2, 1) := by decide +kernel
theorem dX7_addSigned_16 : decode cX7_addSigned 16 = .ok (.iaload, 1) := by decide +kernel
theorem dX7_addSigned_17 : decode cX7_addSigned 17 = .ok (.iload 5, 2) := by decide +kernel
theorem dX7_addSigned_19 : decode cX7_addSigned 19 = .ok (.imul, 1) := by decide +kernel
theorem dX7_addSigned_20 : decode cX7_addSigned 20 = .ok (.ifCond .lt 44, 3) := by decide +kernel
theorem dX7_addSigned_23 : decode cX7_addSigned 23 = .ok (.aload_n 0, 1) := by decide +kernel
theorem dX7_addSigned_24 : decode cX7_addSigned 24 = .ok (.getfield 27, 3) := by decide +kernel
theorem dX7_addSigned_27 : decode cX7_addSigned 27 = .ok (.iload_n 2, 1) := by decide +kernel
theorem dX7_addSigned_28 : decode cX7_addSigned 28 = .ok (.iaload, 1) := by decide +kernel
theorem dX7_addSigned_29 : decode cX7_addSigned 29 = .ok (.ifCond .eq 12, 3) := by decide +kernel
theorem dX7_addSigned_32 : decode cX7_addSigned 32 = .ok (.aload_n 0, 1) := by decide +kernel
theorem dX7_addSigned_33 : decode cX7_addSigned 33 = .ok (.getfield 27, 3) := by decide +kernel
theorem dX7_addSigned_36 : decode cX7_addSigned 36 = .ok (.iload_n 2, 1) := by decide +kernel
theorem dX7_addSigned_37 : decode cX7_addSigned 37 = .ok (.iaload, 1) := by decide +kernel
theorem dX7_addSigned_38 : decode cX7_addSigned 38 = .ok (.goto 5, 3) := by decide +kernel
theorem dX7_addSigned_41 : decode cX7_addSigned 41 = .ok (.iload 5, 2) := by decide +kernel
theorem dX7_addSigned_43 : decode cX7_addSigned 43 = .ok (.istore 6, 2) := by decide +kernel
theorem dX7_addSigned_45 : decode cX7_addSigned 45 = .ok (.aload_n 0, 1) := by decide +kernel
theorem dX7_addSigned_46 : decode cX7_addSigned 46 = .ok (.iload_n 1, 1) := by decide +kernel
theorem dX7_addSigned_47 : decode cX7_addSigned 47 = .ok (.iload_n 2, 1) := by decide +kernel
theorem dX7_addSigned_48 : decode cX7_addSigned 48 = .ok (.iload_n 3, 1) := by decide +kernel
theorem dX7_addSigned_49 : decode cX7_addSigned 49 = .ok (.iconst 1, 1) := by decide +kernel
theorem dX7_addSigned_50 : decode cX7_addSigned 50 = .ok (.invokevirtual 76, 3) := by decide +kernel
theorem dX7_addSigned_53 : decode cX7_addSigned 53 = .ok (.aload_n 0, 1) := by decide +kernel
theorem dX7_addSigned_54 : decode cX7_addSigned 54 = .ok (.getfield 27, 3) := by decide +kernel
theorem dX7_addSigned_57 : decode cX7_addSigned 57 = .ok (.iload_n 1, 1) := by decide +kernel
theorem dX7_addSigned_58 : decode cX7_addSigned 58 = .ok (.iload 6, 2) := by decide +kernel
theorem dX7_addSigned_60 : decode cX7_addSigned 60 = .ok (.iastore, 1) := by decide +kernel
theorem dX7_addSigned_61 : decode cX7_addSigned 61 = .ok (.goto 51, 3) := by decide +kernel
theorem dX7_addSigned_64 : decode cX7_addSigned 64 = .ok (.aload_n 0, 1) := by decide +kernel
theorem dX7_addSigned_65 : decode cX7_addSigned 65 = .ok (.iload_n 2, 1) := by decide +kernel
theorem dX7_addSigned_66 : decode cX7_addSigned 66 = .ok (.iload_n 3, 1) := by decide +kernel
theorem dX7_addSigned_67 : decode cX7_addSigned 67 = .ok (.invokevirtual 79, 3) := by decide +kernel
theorem dX7_addSigned_70 : decode cX7_addSigned 70 = .ok (.ifCond .lt 26, 3) := by decide +kernel
theorem dX7_addSigned_73 : decode cX7_addSigned 73 = .ok (.aload_n 0, 1) := by decide +kernel
theorem dX7_addSigned_74 : decode cX7_addSigned 74 = .ok (.getfield 27, 3) := by decide +kernel
theorem dX7_addSigned_77 : decode cX7_addSigned 77 = .ok (.iload_n 1, 1) := by decide +kernel
theorem dX7_addSigned_78 : decode cX7_addSigned 78 = .ok (.aload_n 0, 1) := by decide +kernel
theorem dX7_addSigned_79 : decode cX7_addSigned 79 = .ok (.getfield 27, 3) := by decide +kernel
theorem dX7_addSigned_82 : decode cX7_addSigned 82 = .ok (.iload_n 2, 1) := by decide +kernel
theorem dX7_addSigned_83 : decode cX7_addSigned 83 = .ok (.iaload, 1) := by decide +kernel
theorem dX7_addSigned_84 : decode cX7_addSigned 84 = .ok (.iastore, 1) := by decide +kernel
theorem dX7_addSigned_85 : decode cX7_addSigned 85 = .ok (.aload_n 0, 1) := by decide +kernel
theorem dX7_addSigned_86 : decode cX7_addSigned 86 = .ok (.iload_n 1, 1) := by decide +kernel
theorem dX7_addSigned_87 : decode cX7_addSigned 87 = .ok (.iload_n 2, 1) := by decide +kernel
theorem dX7_addSigned_88 : decode cX7_addSigned 88 = .ok (.iload_n 3, 1) := by decide +kernel
theorem dX7_addSigned_89 : decode cX7_addSigned 89 = .ok (.iconst (-1), 1) := by decide +kernel
theorem dX7_addSigned_90 : decode cX7_addSigned 90 = .ok (.invokevirtual 76, 3) := by decide +kernel
theorem dX7_addSigned_93 : decode cX7_addSigned 93 = .ok (.goto 19, 3) := by decide +kernel
theorem dX7_addSigned_96 : decode cX7_addSigned 96 = .ok (.aload_n 0, 1) := by decide +kernel
theorem dX7_addSigned_97 : decode cX7_addSigned 97 = .ok (.getfield 27, 3) := by decide +kernel
theorem dX7_addSigned_100 : decode cX7_addSigned 100 = .ok (.iload_n 1, 1) := by decide +kernel
theorem dX7_addSigned_101 : decode cX7_addSigned 101 = .ok (.iload 5, 2) := by decide +kernel
theorem dX7_addSigned_103 : decode cX7_addSigned 103 = .ok (.iastore, 1) := by decide +kernel
theorem dX7_addSigned_104 : decode cX7_addSigned 104 = .ok (.aload_n 0, 1) := by decide +kernel
theorem dX7_addSigned_105 : decode cX7_addSigned 105 = .ok (.iload_n 1, 1) := by decide +kernel
theorem dX7_addSigned_106 : decode cX7_addSigned 106 = .ok (.iload_n 3, 1) := by decide +kernel
theorem dX7_addSigned_107 : decode cX7_addSigned 107 = .ok (.iload_n 2, 1) := by decide +kernel
theorem dX7_addSigned_108 : decode cX7_addSigned 108 = .ok (.iconst (-1), 1) := by decide +kernel
theorem dX7_addSigned_109 : decode cX7_addSigned 109 = .ok (.invokevirtual 76, 3) := by decide +kernel
theorem dX7_addSigned_112 : decode cX7_addSigned 112 = .ok (.aload_n 0, 1) := by decide +kernel
theorem dX7_addSigned_113 : decode cX7_addSigned 113 = .ok (.iload_n 1, 1) := by decide +kernel
theorem dX7_addSigned_114 : decode cX7_addSigned 114 = .ok (.invokevirtual 65, 3) := by decide +kernel
theorem dX7_addSigned_117 : decode cX7_addSigned 117 = .ok (.return_, 1) := by decide +kernel
abbrev M_X7_addSigned : MRec := (yX7_addSigned, cX7_addSigned, 7, none, [])
theorem m_X7_addSigned : en_M M_X7_addSigned 4 := ⟨t_2346, t_13, ⟨by decide +kernel, by decide +kernel⟩, by decide +kernel, by decide +kernel, by decide +kernel⟩
theorem dX7_load_0 : decode cX7_load 0 = .ok (.lload_n 2, 1) := by decide +kernel
theorem dX7_load_1 : decode cX7_load 1 = .ok (.bipush 52, 2) := by decide +kernel
theorem dX7_load_3 : decode cX7_load 3 = .ok (.lushr, 1) := by decide +kernel
theorem dX7_load_4 : decode cX7_load 4 = .ok (.l2i, 1) := by decide +kernel
theorem dX7_load_5 : decode cX7_load 5 = .ok (.sipush 2047, 3) := by decide +kernel
theorem dX7_load_8 : decode cX7_load 8 = .ok (.iand, 1) := by decide +kernel
theorem dX7_load_9 : decode cX7_load 9 = .ok (.istore 4, 2) := by decide +kernel
theorem dX7_load_11 : decode cX7_load 11 = .ok (.iload 4, 2) := by decide +kernel
theorem dX7_load_13 : decode cX7_load 13 = .ok (.ifCond .ne 11, 3) := by decide +kernel
theorem dX7_load_16 : decode cX7_load 16 = .ok (.lload_n 2, 1) := by decide +kernel
theorem dX7_load_17 : decode cX7_load 17 = .ok (.ldc2_w 49, 3) := by decide +kernel
theorem dX7_load_20 : decode cX7_load 20 = .ok (.land, 1) := by decide +kernel
theorem dX7_load_21 : decode cX7_load 21 = .ok (.goto 14, 3) := by decide +kernel
theorem dX7_load_24 : decode cX7_load 24 = .ok (.lload_n 2, 1) := by decide +kernel
theorem dX7_load_25 : decode cX7_load 25 = .ok (.ldc2_w 49, 3) := by decide +kernel
theorem dX7_load_28 : decode cX7_load 28 = .ok (.land, 1) := by decide +kernel
theorem dX7_load_29 : decode cX7_load 29 = .ok (.ldc2_w 49, 3) := by decide +kernel
theorem dX7_load_32 : decode cX7_load 32 = .ok (.ladd, 1) := by decide +kernel
theorem dX7_load_33 : decode cX7_load 33 = .ok (.lconst 1, 1) := by decide +kernel
theorem dX7_load_34 : decode cX7_load 34 = .ok (.ladd, 1) := by decide +kernel
theorem dX7_load_35 : decode cX7_load 35 = .ok (.lstore 5, 2) := by decide +kernel
theorem dX7_load_37 : decode cX7_load 37 = .ok (.iload 4, 2) := by decide +kernel
theorem dX7_load_39 : decode cX7_load 39 = .ok (.iconst 1, 1) := by decide +kernel
theorem dX7_load_40 : decode cX7_load 40 = .ok (.isub, 1) := by decide +kernel
theorem dX7_load_41 : decode cX7_load 41 = .ok (.iconst 0, 1) := by decide +kernel
theorem dX7_load_42 : decode cX7_load 42 = .ok (.invokestatic 51, 3) := by decide +kernel
theorem dX7_load_45 : decode cX7_load 45 = .ok (.istore 7, 2) := by decide +kernel
theorem dX7_load_47 : decode cX7_load 47 = .ok (.iload 7, 2) := by decide +kernel
theorem dX7_load_49 : decode cX7_load 49 = .ok (.iconst 5, 1) := by decide +kernel
theorem dX7_load_50 : decode cX7_load 50 = .ok (.ishr, 1) := by decide +kernel
theorem dX7_load_51 : decode cX7_load 51 = .ok (.istore 8, 2) := by decide +kernel
theorem dX7_load_53 : decode cX7_load 53 = .ok (.iload 7, 2) := by decide +kernel
theorem dX7_load_55 : decode cX7_load 55 = .ok (.bipush 31, 2) := by decide +kernel
theorem dX7_load_57 : decode cX7_load 57 = .ok (.iand, 1) := by decide +kernel
theorem dX7_load_58 : decode cX7_load 58 = .ok (.istore 9, 2) := by decide +kernel
theorem dX7_load_60 : decode cX7_load 60 = .ok (.aload_n 0, 1) := by decide +kernel
theorem dX7_load_61 : decode cX7_load 61 = .ok (.getfield 20, 3) := by decide +kernel
theorem dX7_load_64 : decode cX7_load 64 = .ok (.iload_n 1, 1) := by decide +kernel
theorem dX7_load_65 : decode cX7_load 65 = .ok (.aaload, 1) := by decide +kernel
theorem dX7_load_66 : decode cX7_load 66 = .ok (.iconst 0, 1) := by decide +kernel
theorem dX7_load_67 : decode cX7_load 67 = .ok (.iload 8, 2) := by decide +kernel
theorem dX7_load_69 : decode cX7_load 69 = .ok (.iconst 3, 1) := by decide +kernel
theorem dX7_load_70 : decode cX7_load 70 = .ok (.iadd, 1) := by decide +kernel
theorem dX7_load_71 : decode cX7_load 71 = .ok (.iconst 0, 1) := by decide +kernel
theorem dX7_load_72 : decode cX7_load 72 = .ok (.invokestatic 57, 3) := by decide +kernel
theorem dX7_load_75 : decode cX7_load 75 = .ok (.lload 5, 2) := by decide +kernel
theorem dX7_load_77 : decode cX7_load 77 = .ok (.ldc2_w 63, 3) := by decide +kernel
theorem dX7_load_80 : decode cX7_load 80 = .ok (.land, 1) := by decide +kernel
theorem dX7_load_81 : decode cX7_load 81 = .ok (.iload 9, 2) := by decide +kernel
theorem dX7_load_83 : decode cX7_load 83 = .ok (.lshl, 1) := by decide +kernel
theorem dX7_load_84 : decode cX7_load 84 = .ok (.lstore 10, 2) := by decide +kernel
theorem dX7_load_86 : decode cX7_load 86 = .ok (.lload 5, 2) := by decide +kernel
theorem dX7_load_88 : decode cX7_load 88 = .ok (.bipush 32, 2) := by decide +kernel
theorem dX7_load_90 : decode cX7_load 90 = .ok (.lushr, 1) := by decide +kernel
theorem dX7_load_91 : decode cX7_load 91 = .ok (.iload 9, 2) := by decide +kernel
theorem dX7_load_93 : decode cX7_load 93 = .ok (.lshl, 1) := by decide +kernel
theorem dX7_load_94 : decode cX7_load 94 = .ok (.lload 10, 2) := by decide +kernel
theorem dX7_load_96 : decode cX7_load 96 = .ok (.bipush 32, 2) := by decide +kernel
theorem dX7_load_98 : decode cX7_load 98 = .ok (.lushr, 1) := by decide +kernel
theorem dX7_load_99 : decode cX7_load 99 = .ok (.ladd, 1) := by decide +kernel
theorem dX7_load_100 : decode cX7_load 100 = .ok (.lstore 12, 2) := by decide +kernel
theorem dX7_load_102 : decode cX7_load 102 = .ok (.aload_n 0, 1) := by decide +kernel
theorem dX7_load_103 : decode cX7_load 103 = .ok (.getfield 20, 3) := by decide +kernel
theorem dX7_load_106 : decode cX7_load 106 = .ok (.iload_n 1, 1) := by decide +kernel
theorem dX7_load_107 : decode cX7_load 107 = .ok (.aaload, 1) := by decide +kernel
theorem dX7_load_108 : decode cX7_load 108 = .ok (.iload 8, 2) := by decide +kernel
theorem dX7_load_110 : decode cX7_load 110 = .ok (.lload 10, 2) := by decide +kernel
theorem dX7_load_112 : decode cX7_load 112 = .ok (.l2i, 1) := by decide +kernel
theorem dX7_load_113 : decode cX7_load 113 = .ok (.iastore, 1) := by decide +kernel
theorem dX7_load_114 : decode cX7_load 114 = .ok (.aload_n 0, 1) := by decide +kernel
theorem dX7_load_115 : decode cX7_load 115 = .ok (.getfield 20, 3) := by decide +kernel
theorem dX7_load_118 : decode cX7_load 118 = .ok (.iload_n 1, 1) := by decide +kernel
theorem dX7_load_119 : decode cX7_load 119 = .ok (.aaload, 1) := by decide +kernel
theorem dX7_load_120 : decode cX7_load 120 = .ok (.iload 8, 2) := by decide +kernel
theorem dX7_load_122 : decode cX7_load 122 = .ok (.iconst 1, 1) := by decide +kernel
theorem dX7_load_123 : decode cX7_load 123 = .ok (.iadd, 1) := by decide +kernel
theorem dX7_load_124 : decode cX7_load 124 = .ok (.lload 12, 2) := by decide +kernel
theorem dX7_load_126 : decode cX7_load 126 = .ok (.l2i, 1) := by decide +kernel
theorem dX7_load_127 : decode cX7_load 127 = .ok (.iastore, 1) := by decide +kernel
theorem dX7_load_128 : decode cX7_load 128 = .ok (.aload_n 0, 1) := by decide +kernel
theorem dX7_load_129 : decode cX7_load 129 = .ok (.getfield 20, 3) := by decide +kernel
theorem dX7_load_132 : decode cX7_load 132 = .ok (.iload_n 1, 1) := by decide +kernel
theorem dX7_load_133 : decode cX7_load 133 = .ok (.aaload, 1) := by decide +kernel
theorem dX7_load_134 : decode cX7_load 134 = .ok (.iload 8, 2) := by decide +kernel
theorem dX7_load_136 : decode cX7_load 136 = .ok (.iconst 2, 1) := by decide +kernel
theorem dX7_load_137 : decode cX7_load 137 = .ok (.iadd, 1) := by decide +kernel
theorem dX7_load_138 : decode cX7_load 138 = .ok (.lload 12, 2) := by decide +kernel
theorem dX7_load_140 : decode cX7_load 140 = .ok (.bipush 32, 2) := by decide +kernel
theorem dX7_load_142 : decode cX7_load 142 = .ok (.lushr, 1) := by decide +kernel
theorem dX7_load_143 : decode cX7_load 143 = .ok (.l2i, 1) := by decide +kernel
theorem dX7_load_144 : decode cX7_load 144 = .ok (.iastore, 1) := by decide +kernel
theorem dX7_load_145 : decode cX7_load 145 = .ok (.aload_n 0, 1) := by decide +kernel
theorem dX7_load_146 : decode cX7_load 146 = .ok (.getfield 23, 3) := by decide +kernel
theorem dX7_load_149 : decode cX7_load 149 = .ok (.iload_n 1, 1) := by decide +kernel
theorem dX7_load_150 : decode cX7_load 150 = .ok (.iload 8, 2) := by decide +kernel
theorem dX7_load_152 : decode cX7_load 152 = .ok (.iconst 3, 1) := by decide +kernel
theorem dX7_load_153 : decode cX7_load 153 = .ok (.iadd, 1) := by decide +kernel
theorem dX7_load_154 : decode cX7_load 154 = .ok (.iastore, 1) := by decide +kernel
theorem dX7_load_155 : decode cX7_load 155 = .ok (.aload_n 0, 1) := by decide +kernel
theorem dX7_load_156 : decode cX7_load 156 = .ok (.getfield 27, 3) := by decide +kernel
theorem dX7_load_159 : decode cX7_load 159 = .ok (.iload_n 1, 1) := by decide +kernel
theorem dX7_load_160 : decode cX7_load 160 = .ok (.lload_n 2, 1) := by decide +kernel
theorem dX7_load_161 : decode cX7_load 161 = .ok (.lconst 0, 1) := by decide +kernel
theorem dX7_load_162 : decode cX7_load 162 = .ok (.lcmp, 1) := by decide +kernel
theorem dX7_load_163 : decode cX7_load 163 = .ok (.ifCond .ge 7, 3) := by decide +kernel
theorem dX7_load_166 : decode cX7_load 166 = .ok (.iconst (-1), 1) := by decide +kernel
theorem dX7_load_167 : decode cX7_load 167 = .ok (.goto 4, 3) := by decide +kernel
theorem dX7_load_170 : decode cX7_load 170 = .ok (.iconst 1, 1) := by decide +kernel
theorem dX7_load_171 : decode cX7_load 171 = .ok (.iastore, 1) := by decide +kernel
theorem dX7_load_172 : decode cX7_load 172 = .ok (.aload_n 0, 1) := by decide +kernel
theorem dX7_load_173 : decode cX7_load 173 = .ok (.iload_n 1, 1) := by decide +kernel
theorem dX7_load_174 : decode cX7_load 174 = .ok (.invokevirtual 65, 3) := by decide +kernel
theorem dX7_load_177 : decode cX7_load 177 = .ok (.return_, 1) := by decide +kernel
abbrev M_X7_load : MRec := (yX7_load, cX7_load, 14, none, [])
theorem m_X7_load : en_M M_X7_load 2 := ⟨t_2334, t_13, ⟨by decide +kernel, by decide +kernel⟩, by decide +kernel, by decide +kernel, by decide +kernel⟩
theorem dX7_difference_0 : decode cX7_difference 0 = .ok (.aload_n 0, 1) := by decide +kernel
theorem dX7_difference_1 : decode cX7_difference 1 = .ok (.iconst 0, 1) := by decide +kernel
theorem dX7_difference_2 : decode cX7_difference 2 = .ok (.lload_n 2, 1) := by decide +kernel
theorem dX7_difference_3 : decode cX7_difference 3 = .ok (.invokevirtual 45, 3) := by decide +kernel
theorem dX7_difference_6 : decode cX7_difference 6 = .ok (.aload_n 0, 1) := by decide +kernel
theorem dX7_difference_7 : decode cX7_difference 7 = .ok (.iconst 1, 1) := by decide +kernel
theorem dX7_difference_8 : decode cX7_difference 8 = .ok (.lload 4, 2) := by decide +kernel
theorem dX7_difference_10 : decode cX7_difference 10 = .ok (.invokevirtual 45, 3) := by decide +kernel
theorem dX7_difference_13 : decode cX7_difference 13 = .ok (.aload_n 0, 1) := by decide +kernel
theorem dX7_difference_14 : decode cX7_difference 14 = .ok (.iload_n 1, 1) := by decide +kernel
theorem dX7_difference_15 : decode cX7_difference 15 = .ok (.iconst 0, 1) := by decide +kernel
theorem dX7_difference_16 : decode cX7_difference 16 = .ok (.iconst 1, 1) := by decide +kernel
theorem dX7_difference_17 : decode cX7_difference 17 = .ok (.iconst (-1), 1) := by decide +kernel
theorem dX7_difference_18 : decode cX7_difference 18 = .ok (.invokevirtual 38, 3) := by decide +kernel
theorem dX7_difference_21 : decode cX7_difference 21 = .ok (.return_, 1) := by decide +kernel
abbrev M_X7_difference : MRec := (yX7_difference, cX7_difference, 6, none, [])
theorem m_X7_difference : en_M M_X7_difference 3 := ⟨t_2330, t_13, ⟨by decide +kernel, by decide +kernel⟩, by decide +kernel, by decide +kernel, by decide +kernel⟩
theorem dX7_multiply_0 : decode cX7_multiply 0 = .ok (.aload_n 0, 1) := by decide +kernel
theorem dX7_multiply_1 : decode cX7_multiply 1 = .ok (.getfield 23, 3) := by decide +kernel
theorem dX7_multiply_4 : decode cX7_multiply 4 = .ok (.iload_n 2, 1) := by decide +kernel
theorem dX7_multiply_5 : decode cX7_multiply 5 = .ok (.iaload, 1) := by decide +kernel
theorem dX7_multiply_6 : decode cX7_multiply 6 = .ok (.aload_n 0, 1) := by decide +kernel
theorem dX7_multiply_7 : decode cX7_multiply 7 = .ok (.getfield 23, 3) := by decide +kernel
theorem dX7_multiply_10 : decode cX7_multiply 10 = .ok (.iload_n 3, 1) := by decide +kernel
theorem dX7_multiply_11 : decode cX7_multiply 11 = .ok (.iaload, 1) := by decide +kernel
theorem dX7_multiply_12 : decode cX7_multiply 12 = .ok (.iadd, 1) := by decide +kernel
theorem dX7_multiply_13 : decode cX7_multiply 13 = .ok (.sipush 280, 3) := by decide +kernel
theorem dX7_multiply_16 : decode cX7_multiply 16 = .ok (.invokestatic 69, 3) := by decide +kernel
theorem dX7_multiply_19 : decode cX7_multiply 19 = .ok (.istore 4, 2) := by decide +kernel
theorem dX7_multiply_21 : decode cX7_multiply 21 = .ok (.aload_n 0, 1) := by decide +kernel
theorem dX7_multiply_22 : decode cX7_multiply 22 = .ok (.getfield 20, 3) := by decide +kernel
theorem dX7_multiply_25 : decode cX7_multiply 25 = .ok (.iload_n 1, 1) := by decide +kernel
theorem dX7_multiply_26 : decode cX7_multiply 26 = .ok (.aaload, 1) := by decide +kernel
theorem dX7_multiply_27 : decode cX7_multiply 27 = .ok (.iconst 0, 1) := by decide +kernel
theorem dX7_multiply_28 : decode cX7_multiply 28 = .ok (.iload 4, 2) := by decide +kernel
theorem dX7_multiply_30 : decode cX7_multiply 30 = .ok (.iconst 0, 1) := by decide +kernel
theorem dX7_multiply_31 : decode cX7_multiply 31 = .ok (.invokestatic 57, 3) := by decide +kernel
theorem dX7_multiply_34 : decode cX7_multiply 34 = .ok (.iconst 0, 1) := by decide +kernel
theorem dX7_multiply_35 : decode cX7_multiply 35 = .ok (.istore 5, 2) := by decide +kernel
theorem dX7_multiply_37 : decode cX7_multiply 37 = .ok (.iload 5, 2) := by decide +kernel
theorem dX7_multiply_39 : decode cX7_multiply 39 = .ok (.aload_n 0, 1) := by decide +kernel
theorem dX7_multiply_40 : decode cX7_multiply 40 = .ok (.getfield 23, 3) := by decide +kernel
theorem dX7_multiply_43 : decode cX7_multiply 43 = .ok (.iload_n 2, 1) := by decide +kernel
theorem dX7_multiply_44 : decode cX7_multiply 44 = .ok (.iaload, 1) := by decide +kernel
theorem dX7_multiply_45 : decode cX7_multiply 45 = .ok (.if_icmp .ge 116, 3) := by decide +kernel
theorem dX7_multiply_48 : decode cX7_multiply 48 = .ok (.aload_n 0, 1) := by decide +kernel
theorem dX7_multiply_49 : decode cX7_multiply 49 = .ok (.iload_n 2, 1) := by decide +kernel
theorem dX7_multiply_50 : decode cX7_multiply 50 = .ok (.iload 5, 2) := by decide +kernel
theorem dX7_multiply_52 : decode cX7_multiply 52 = .ok (.invokevirtual 72, 3) := by decide +kernel
theorem dX7_multiply_55 : decode cX7_multiply 55 = .ok (.lstore 6, 2) := by decide +kernel
theorem dX7_multiply_57 : decode cX7_multiply 57 = .ok (.lload 6, 2) := by decide +kernel
theorem dX7_multiply_59 : decode cX7_multiply 59 = .ok (.lconst 0, 1) := by decide +kernel
theorem dX7_multiply_60 : decode cX7_multiply 60 = .ok (.lcmp, 1) := by decide +kernel
theorem dX7_multiply_61 : decode cX7_multiply 61 = .ok (.ifCond .ne 6, 3) := by decide +kernel
theorem dX7_multiply_64 : decode cX7_multiply 64 = .ok (.goto 91, 3) := by decide +kernel
theorem dX7_multiply_67 : decode cX7_multiply 67 = .ok (.lconst 0, 1) := by decide +kernel
theorem dX7_multiply_68 : decode cX7_multiply 68 = .ok (.lstore 8, 2) := by decide +kernel
theorem dX7_multiply_70 : decode cX7_multiply 70 = .ok (.iconst 0, 1) := by decide +kernel
theorem dX7_multiply_71 : decode cX7_multiply 71 = .ok (.istore 10, 2) := by decide +kernel
theorem dX7_multiply_73 : decode cX7_multiply 73 = .ok (.iload 10, 2) := by decide +kernel
theorem dX7_multiply_75 : decode cX7_multiply 75 = .ok (.aload_n 0, 1) := by decide +kernel
theorem dX7_multiply_76 : decode cX7_multiply 76 = .ok (.getfield 23, 3) := by decide +kernel
theorem dX7_multiply_79 : decode cX7_multiply 79 = .ok (.iload_n 3, 1) := by decide +kernel
theorem dX7_multiply_80 : decode cX7_multiply 80 = .ok (.iaload, 1) := by decide +kernel
theorem dX7_multiply_81 : decode cX7_multiply 81 = .ok (.if_icmp .gt 74, 3) := by decide +kernel
theorem dX7_multiply_84 : decode cX7_multiply 84 = .ok (.iload 5, 2) := by decide +kernel
theorem dX7_multiply_86 : decode cX7_multiply 86 = .ok (.iload 10, 2) := by decide +kernel
theorem dX7_multiply_88 : decode cX7_multiply 88 = .ok (.iadd, 1) := by decide +kernel
theorem dX7_multiply_89 : decode cX7_multiply 89 = .ok (.iload 4, 2) := by decide +kernel
theorem dX7_multiply_91 : decode cX7_multiply 91 = .ok (.if_icmp .ge 64, 3) := by decide +kernel
theorem dX7_multiply_94 : decode cX7_multiply 94 = .ok (.lload 6, 2) := by decide +kernel
theorem dX7_multiply_96 : decode cX7_multiply 96 = .ok (.aload_n 0, 1) := by decide +kernel
theorem dX7_multiply_97 : decode cX7_multiply 97 = .ok (.iload_n 3, 1) := by decide +kernel
theorem dX7_multiply_98 : decode cX7_multiply 98 = .ok (.iload 10, 2) := by decide +kernel
theorem dX7_multiply_100 : decode cX7_multiply 100 = .ok (.invokevirtual 72, 3) := by decide +kernel
theorem dX7_multiply_103 : decode cX7_multiply 103 = .ok (.lmul, 1) := by decide +kernel
theorem dX7_multiply_104 : decode cX7_multiply 104 = .ok (.aload_n 0, 1) := by decide +kernel
theorem dX7_multiply_105 : decode cX7_multiply 105 = .ok (.getfield 20, 3) := by decide +kernel
theorem dX7_multiply_108 : decode cX7_multiply 108 = .ok (.iload_n 1, 1) := by decide +kernel
theorem dX7_multiply_109 : decode cX7_multiply 109 = .ok (.aaload, 1) := by decide +kernel
theorem dX7_multiply_110 : decode cX7_multiply 110 = .ok (.iload 5, 2) := by decide +kernel
theorem dX7_multiply_112 : decode cX7_multiply 112 = .ok (.iload 10, 2) := by decide +kernel
theorem dX7_multiply_114 : decode cX7_multiply 114 = .ok (.iadd, 1) := by decide +kernel
theorem dX7_multiply_115 : decode cX7_multiply 115 = .ok (.iaload, 1) := by decide +kernel
theorem dX7_multiply_116 : decode cX7_multiply 116 = .ok (.i2l, 1) := by decide +kernel
theorem dX7_multiply_117 : decode cX7_multiply 117 = .ok (.ldc2_w 63, 3) := by decide +kernel
theorem dX7_multiply_120 : decode cX7_multiply 120 = .ok (.land, 1) := by decide +kernel
theorem dX7_multiply_121 : decode cX7_multiply 121 = .ok (.ladd, 1) := by decide +kernel
theorem dX7_multiply_122 : decode cX7_multiply 122 = .ok (.lload 8, 2) := by decide +kernel
theorem dX7_multiply_124 : decode cX7_multiply 124 = .ok (.ladd, 1) := by decide +kernel
theorem dX7_multiply_125 : decode cX7_multiply 125 = .ok (.lstore 11, 2) := by decide +kernel
theorem dX7_multiply_127 : decode cX7_multiply 127 = .ok (.aload_n 0, 1) := by decide +kernel
theorem dX7_multiply_128 : decode cX7_multiply 128 = .ok (.getfield 20, 3) := by decide +kernel
theorem dX7_multiply_131 : decode cX7_multiply 131 = .ok (.iload_n 1, 1) := by decide +kernel
theorem dX7_multiply_132 : decode cX7_multiply 132 = .ok (.aaload, 1) := by decide +kernel
theorem dX7_multiply_133 : decode cX7_multiply 133 = .ok (.iload 5, 2) := by decide +kernel
theorem dX7_multiply_135 : decode cX7_multiply 135 = .ok (.iload 10, 2) := by decide +kernel
theorem dX7_multiply_137 : decode cX7_multiply 137 = .ok (.iadd, 1) := by decide +kernel
theorem dX7_multiply_138 : decode cX7_multiply 138 = .ok (.lload 11, 2) := by decide +kernel
theorem dX7_multiply_140 : decode cX7_multiply 140 = .ok (.l2i, 1) := by decide +kernel
theorem dX7_multiply_141 : decode cX7_multiply 141 = .ok (.iastore, 1) := by decide +kernel
theorem dX7_multiply_142 : decode cX7_multiply 142 = .ok (.lload 11, 2) := by decide +kernel
theorem dX7_multiply_144 : decode cX7_multiply 144 = .ok (.bipush 32, 2) := by decide +kernel
theorem dX7_multiply_146 : decode cX7_multiply 146 = .ok (.lushr, 1) := by decide +kernel
theorem dX7_multiply_147 : decode cX7_multiply 147 = .ok (.lstore 8, 2) := by decide +kernel
theorem dX7_multiply_149 : decode cX7_multiply 149 = .ok (.iinc 10 1, 3) := by decide +kernel
theorem dX7_multiply_152 : decode cX7_multiply 152 = .ok (.goto (-79), 3) := by decide +kernel
theorem dX7_multiply_155 : decode cX7_multiply 155 = .ok (.iinc 5 1, 3) := by decide +kernel
theorem dX7_multiply_158 : decode cX7_multiply 158 = .ok (.goto (-121), 3) := by decide +kernel
theorem dX7_multiply_161 : decode cX7_multiply 161 = .ok (.aload_n 0, 1) := by decide +kernel
theorem dX7_multiply_162 : decode cX7_multiply 162 = .ok (.getfield 23, 3) := by decide +kernel
theorem dX7_multiply_165 : decode cX7_multiply 165 = .ok (.iload_n 1, 1) := by decide +kernel
theorem dX7_multiply_166 : decode cX7_multiply 166 = .ok (.iload 4, 2) := by decide +kernel
theorem dX7_multiply_168 : decode cX7_multiply 168 = .ok (.iastore, 1) := by decide +kernel
theorem dX7_multiply_169 : decode cX7_multiply 169 = .ok (.aload_n 0, 1) := by decide +kernel
theorem dX7_multiply_170 : decode cX7_multiply 170 = .ok (.getfield 27, 3) := by decide +kernel
theorem dX7_multiply_173 : decode cX7_multiply 173 = .ok (.iload_n 1, 1) := by decide +kernel
theorem dX7_multiply_174 : decode cX7_multiply 174 = .ok (.aload_n 0, 1) := by decide +kernel
theorem dX7_multiply_175 : decode cX7_multiply 175 = .ok (.getfield 27, 3) := by decide +kernel
theorem dX7_multiply_178 : decode cX7_multiply 178 = .ok (.iload_n 2, 1) := by decide +kernel
theorem dX7_multiply_179 : decode cX7_multiply 179 = .ok (.iaload, 1) := by decide +kernel
theorem dX7_multiply_180 : decode cX7_multiply 180 = .ok (.aload_n 0, 1) := by decide +kernel
theorem dX7_multiply_181 : decode cX7_multiply 181 = .ok (.getfield 27, 3) := by decide +kernel
theorem dX7_multiply_184 : decode cX7_multiply 184 = .ok (.iload_n 3, 1) := by decide +kernel
theorem dX7_multiply_185 : decode cX7_multiply 185 = .ok (.iaload, 1) := by decide +kernel
theorem dX7_multiply_186 : decode cX7_multiply 186 = .ok (.imul, 1) := by decide +kernel
theorem dX7_multiply_187 : decode cX7_multiply 187 = .ok (.iastore, 1) := by decide +kernel
theorem dX7_multiply_188 : decode cX7_multiply 188 = .ok (.aload_n 0, 1) := by decide +kernel
theorem dX7_multiply_189 : decode cX7_multiply 189 = .ok (.iload_n 1, 1) := by decide +kernel
theorem dX7_multiply_190 : decode cX7_multiply 190 = .ok (.invokevirtual 65, 3) := by decide +kernel
theorem dX7_multiply_193 : decode cX7_multiply 193 = .ok (.return_, 1) := by decide +kernel
abbrev M_X7_multiply : MRec := (yX7_multiply, cX7_multiply, 13, none, [])
theorem m_X7_multiply : en_M M_X7_multiply 3 := ⟨t_2363, t_13, ⟨by decide +kernel, by decide +kernel⟩, by decide +kernel, by decide +kernel, by decide +kernel⟩
theorem dX7_sideSign_0 : decode cX7_sideSign 0 = .ok (.aload_n 0, 1) := by decide +kernel
theorem dX7_sideSign_1 : decode cX7_sideSign 1 = .ok (.iconst 2, 1) := by decide +kernel
theorem dX7_sideSign_2 : decode cX7_sideSign 2 = .ok (.aload_n 0, 1) := by decide +kernel
theorem dX7_sideSign_3 : decode cX7_sideSign 3 = .ok (.getfield 9, 3) := by decide +kernel
theorem dX7_sideSign_6 : decode cX7_sideSign 6 = .ok (.iload_n 2, 1) := by decide +kernel
theorem dX7_sideSign_7 : decode cX7_sideSign 7 = .ok (.laload, 1) := by decide +kernel
theorem dX7_sideSign_8 : decode cX7_sideSign 8 = .ok (.aload_n 0, 1) := by decide +kernel
theorem dX7_sideSign_9 : decode cX7_sideSign 9 = .ok (.getfield 9, 3) := by decide +kernel
theorem dX7_sideSign_12 : decode cX7_sideSign 12 = .ok (.iload_n 1, 1) := by decide +kernel
theorem dX7_sideSign_13 : decode cX7_sideSign 13 = .ok (.laload, 1) := by decide +kernel
theorem dX7_sideSign_14 : decode cX7_sideSign 14 = .ok (.invokevirtual 30, 3) := by decide +kernel
theorem dX7_sideSign_17 : decode cX7_sideSign 17 = .ok (.aload_n 0, 1) := by decide +kernel
theorem dX7_sideSign_18 : decode cX7_sideSign 18 = .ok (.iconst 3, 1) := by decide +kernel
theorem dX7_sideSign_19 : decode cX7_sideSign 19 = .ok (.aload_n 0, 1) := by decide +kernel
theorem dX7_sideSign_20 : decode cX7_sideSign 20 = .ok (.getfield 15, 3) := by decide +kernel
theorem dX7_sideSign_23 : decode cX7_sideSign 23 = .ok (.iload_n 3, 1) := by decide +kernel
theorem dX7_sideSign_24 : decode cX7_sideSign 24 = .ok (.laload, 1) := by decide +kernel
theorem dX7_sideSign_25 : decode cX7_sideSign 25 = .ok (.aload_n 0, 1) := by decide +kernel
theorem dX7_sideSign_26 : decode cX7_sideSign 26 = .ok (.getfield 15, 3) := by decide +kernel
theorem dX7_sideSign_29 : decode cX7_sideSign 29 = .ok (.iload_n 1, 1) := by decide +kernel
theorem dX7_sideSign_30 : decode cX7_sideSign 30 = .ok (.laload, 1) := by decide +kernel
theorem dX7_sideSign_31 : decode cX7_sideSign 31 = .ok (.invokevirtual 30, 3) := by decide +kernel
theorem dX7_sideSign_34 : decode cX7_sideSign 34 = .ok (.aload_n 0, 1) := by decide +kernel
theorem dX7_sideSign_35 : decode cX7_sideSign 35 = .ok (.iconst 4, 1) := by decide +kernel
theorem dX7_sideSign_36 : decode cX7_sideSign 36 = .ok (.aload_n 0, 1) := by decide +kernel
theorem dX7_sideSign_37 : decode cX7_sideSign 37 = .ok (.getfield 15, 3) := by decide +kernel
theorem dX7_sideSign_40 : decode cX7_sideSign 40 = .ok (.iload_n 2, 1) := by decide +kernel
theorem dX7_sideSign_41 : decode cX7_sideSign 41 = .ok (.laload, 1) := by decide +kernel
theorem dX7_sideSign_42 : decode cX7_sideSign 42 = .ok (.aload_n 0, 1) := by decide +kernel
theorem dX7_sideSign_43 : decode cX7_sideSign 43 = .ok (.getfield 15, 3) := by decide +kernel
theorem dX7_sideSign_46 : decode cX7_sideSign 46 = .ok (.iload_n 1, 1) := by decide +kernel
theorem dX7_sideSign_47 : decode cX7_sideSign 47 = .ok (.laload, 1) := by decide +kernel
theorem dX7_sideSign_48 : decode cX7_sideSign 48 = .ok (.invokevirtual 30, 3) := by decide +kernel
theorem dX7_sideSign_51 : decode cX7_sideSign 51 = .ok (.aload_n 0, 1) := by decide +kernel
theorem dX7_sideSign_52 : decode cX7_sideSign 52 = .ok (.iconst 5, 1) := by decide +kernel
theorem dX7_sideSign_53 : decode cX7_sideSign 53 = .ok (.aload_n 0, 1) := by decide +kernel
theorem dX7_sideSign_54 : decode cX7_sideSign 54 = .ok (.getfield 9, 3) := by decide +kernel
theorem dX7_sideSign_57 : decode cX7_sideSign 57 = .ok (.iload_n 3, 1) := by decide +kernel
theorem dX7_sideSign_58 : decode cX7_sideSign 58 = .ok (.laload, 1) := by decide +kernel
theorem dX7_sideSign_59 : decode cX7_sideSign 59 = .ok (.aload_n 0, 1) := by decide +kernel
theorem dX7_sideSign_60 : decode cX7_sideSign 60 = .ok (.getfield 9, 3) := by decide +kernel
theorem dX7_sideSign_63 : decode cX7_sideSign 63 = .ok (.iload_n 1, 1) := by decide +kernel
theorem dX7_sideSign_64 : decode cX7_sideSign 64 = .ok (.laload, 1) := by decide +kernel
theorem dX7_sideSign_65 : decode cX7_sideSign 65 = .ok (.invokevirtual 30, 3) := by decide +kernel
theorem dX7_sideSign_68 : decode cX7_sideSign 68 = .ok (.aload_n 0, 1) := by decide +kernel
theorem dX7_sideSign_69 : decode cX7_sideSign 69 = .ok (.bipush 6, 2) := by decide +kernel
theorem dX7_sideSign_71 : decode cX7_sideSign 71 = .ok (.iconst 2, 1) := by decide +kernel
theorem dX7_sideSign_72 : decode cX7_sideSign 72 = .ok (.iconst 3, 1) := by decide +kernel
theorem dX7_sideSign_73 : decode cX7_sideSign 73 = .ok (.invokevirtual 34, 3) := by decide +kernel
theorem dX7_sideSign_76 : decode cX7_sideSign 76 = .ok (.aload_n 0, 1) := by decide +kernel
theorem dX7_sideSign_77 : decode cX7_sideSign 77 = .ok (.bipush 7, 2) := by decide +kernel
theorem dX7_sideSign_79 : decode cX7_sideSign 79 = .ok (.iconst 4, 1) := by decide +kernel
theorem dX7_sideSign_80 : decode cX7_sideSign 80 = .ok (.iconst 5, 1) := by decide +kernel
theorem dX7_sideSign_81 : decode cX7_sideSign 81 = .ok (.invokevirtual 34, 3) := by decide +kernel
theorem dX7_sideSign_84 : decode cX7_sideSign 84 = .ok (.aload_n 0, 1) := by decide +kernel
theorem dX7_sideSign_85 : decode cX7_sideSign 85 = .ok (.bipush 8, 2) := by decide +kernel
theorem dX7_sideSign_87 : decode cX7_sideSign 87 = .ok (.bipush 6, 2) := by decide +kernel
theorem dX7_sideSign_89 : decode cX7_sideSign 89 = .ok (.bipush 7, 2) := by decide +kernel
theorem dX7_sideSign_91 : decode cX7_sideSign 91 = .ok (.iconst (-1), 1) := by decide +kernel
theorem dX7_sideSign_92 : decode cX7_sideSign 92 = .ok (.invokevirtual 38, 3) := by decide +kernel
theorem dX7_sideSign_95 : decode cX7_sideSign 95 = .ok (.aload_n 0, 1) := by decide +kernel
theorem dX7_sideSign_96 : decode cX7_sideSign 96 = .ok (.getfield 27, 3) := by decide +kernel
theorem dX7_sideSign_99 : decode cX7_sideSign 99 = .ok (.bipush 8, 2) := by decide +kernel
theorem dX7_sideSign_101 : decode cX7_sideSign 101 = .ok (.iaload, 1) := by decide +kernel
theorem dX7_sideSign_102 : decode cX7_sideSign 102 = .ok (.ireturn, 1) := by decide +kernel
abbrev M_X7_sideSign : MRec := (yX7_sideSign, cX7_sideSign, 4, (some Jvm.ClassFile.FieldType.int), [])
theorem m_X7_sideSign : en_M M_X7_sideSign 3 := ⟨t_2326, t_13, ⟨by decide +kernel, by decide +kernel⟩, by decide +kernel, by decide +kernel, by decide +kernel⟩
theorem dX11_side_0 : decode cX11_side 0 = .ok (.iload_n 1, 1) := by decide +kernel
theorem dX11_side_1 : decode cX11_side 1 = .ok (.invokestatic 325, 3) := by decide +kernel
theorem dX11_side_4 : decode cX11_side 4 = .ok (.ifCond .ne 17, 3) := by decide +kernel
theorem dX11_side_7 : decode cX11_side 7 = .ok (.iload_n 2, 1) := by decide +kernel
theorem dX11_side_8 : decode cX11_side 8 = .ok (.invokestatic 325, 3) := by decide +kernel
theorem dX11_side_11 : decode cX11_side 11 = .ok (.ifCond .ne 10, 3) := by decide +kernel
theorem dX11_side_14 : decode cX11_side 14 = .ok (.iload_n 3, 1) := by decide +kernel
theorem dX11_side_15 : decode cX11_side 15 = .ok (.invokestatic 325, 3) := by decide +kernel
theorem dX11_side_18 : decode cX11_side 18 = .ok (.ifCond .eq 11, 3) := by decide +kernel
theorem dX11_side_21 : decode cX11_side 21 = .ok (.new 137, 3) := by decide +kernel
theorem dX11_side_24 : decode cX11_side 24 = .ok (.dup, 1) := by decide +kernel
theorem dX11_side_25 : decode cX11_side 25 = .ok (.invokespecial 139, 3) := by decide +kernel
theorem dX11_side_28 : decode cX11_side 28 = .ok (.athrow, 1) := by decide +kernel
theorem dX11_side_29 : decode cX11_side 29 = .ok (.aload_n 0, 1) := by decide +kernel
theorem dX11_side_30 : decode cX11_side 30 = .ok (.getfield 90, 3) := by decide +kernel
theorem dX11_side_33 : decode cX11_side 33 = .ok (.iload_n 1, 1) := by decide +kernel
theorem dX11_side_34 : decode cX11_side 34 = .ok (.iload_n 2, 1) := by decide +kernel
theorem dX11_side_35 : decode cX11_side 35 = .ok (.iload_n 3, 1) := by decide +kernel
theorem dX11_side_36 : decode cX11_side 36 = .ok (.invokevirtual 338, 3) := by decide +kernel
theorem dX11_side_39 : decode cX11_side 39 = .ok (.ireturn, 1) := by decide +kernel
abbrev M_X11_side : MRec := (yX11_side, cX11_side, 4, (some Jvm.ClassFile.FieldType.int), [])
theorem m_X11_side : en_M M_X11_side 3 := ⟨t_2322, t_1, ⟨by decide +kernel, by decide +kernel⟩, by decide +kernel, by decide +kernel, by decide +kernel⟩
theorem dX7_putTerm_0 : decode cX7_putTerm 0 = .ok (.aload_n 0, 1) := by decide +kernel
theorem dX7_putTerm_1 : decode cX7_putTerm 1 = .ok (.bipush 13, 2) := by decide +kernel
theorem dX7_putTerm_3 : decode cX7_putTerm 3 = .ok (.iload_n 2, 1) := by decide +kernel
theorem dX7_putTerm_4 : decode cX7_putTerm 4 = .ok (.iload_n 2, 1) := by decide +kernel
theorem dX7_putTerm_5 : decode cX7_putTerm 5 = .ok (.invokevirtual 34, 3) := by decide +kernel
theorem dX7_putTerm_8 : decode cX7_putTerm 8 = .ok (.aload_n 0, 1) := by decide +kernel
theorem dX7_putTerm_9 : decode cX7_putTerm 9 = .ok (.bipush 14, 2) := by decide +kernel
theorem dX7_putTerm_11 : decode cX7_putTerm 11 = .ok (.iload_n 2, 1) := by decide +kernel
theorem dX7_putTerm_12 : decode cX7_putTerm 12 = .ok (.iconst 1, 1) := by decide +kernel
theorem dX7_putTerm_13 : decode cX7_putTerm 13 = .ok (.iadd, 1) := by decide +kernel
theorem dX7_putTerm_14 : decode cX7_putTerm 14 = .ok (.iload_n 2, 1) := by decide +kernel
theorem dX7_putTerm_15 : decode cX7_putTerm 15 = .ok (.iconst 1, 1) := by decide +kernel
theorem dX7_putTerm_16 : decode cX7_putTerm 16 = .ok (.iadd, 1) := by decide +kernel
theorem dX7_putTerm_17 : decode cX7_putTerm 17 = .ok (.invokevirtual 34, 3) := by decide +kernel
theorem dX7_putTerm_20 : decode cX7_putTerm 20 = .ok (.aload_n 0, 1) := by decide +kernel
theorem dX7_putTerm_21 : decode cX7_putTerm 21 = .ok (.bipush 15, 2) := by decide +kernel
theorem dX7_putTerm_23 : decode cX7_putTerm 23 = .ok (.bipush 13, 2) := by decide +kernel
theorem dX7_putTerm_25 : decode cX7_putTerm 25 = .ok (.bipush 14, 2) := by decide +kernel
theorem dX7_putTerm_27 : decode cX7_putTerm 27 = .ok (.iconst 1, 1) := by decide +kernel
theorem dX7_putTerm_28 : decode cX7_putTerm 28 = .ok (.invokevirtual 38, 3) := by decide +kernel
theorem dX7_putTerm_31 : decode cX7_putTerm 31 = .ok (.aload_n 0, 1) := by decide +kernel
theorem dX7_putTerm_32 : decode cX7_putTerm 32 = .ok (.bipush 13, 2) := by decide +kernel
theorem dX7_putTerm_34 : decode cX7_putTerm 34 = .ok (.iload_n 3, 1) := by decide +kernel
theorem dX7_putTerm_35 : decode cX7_putTerm 35 = .ok (.iload 4, 2) := by decide +kernel
theorem dX7_putTerm_37 : decode cX7_putTerm 37 = .ok (.iconst 1, 1) := by decide +kernel
theorem dX7_putTerm_38 : decode cX7_putTerm 38 = .ok (.iadd, 1) := by decide +kernel
theorem dX7_putTerm_39 : decode cX7_putTerm 39 = .ok (.invokevirtual 34, 3) := by decide +kernel
theorem dX7_putTerm_42 : decode cX7_putTerm 42 = .ok (.aload_n 0, 1) := by decide +kernel
theorem dX7_putTerm_43 : decode cX7_putTerm 43 = .ok (.bipush 14, 2) := by decide +kernel
theorem dX7_putTerm_45 : decode cX7_putTerm 45 = .ok (.iload_n 3, 1) := by decide +kernel
theorem dX7_putTerm_46 : decode cX7_putTerm 46 = .ok (.iconst 1, 1) := by decide +kernel
theorem dX7_putTerm_47 : decode cX7_putTerm 47 = .ok (.iadd, 1) := by decide +kernel
theorem dX7_putTerm_48 : decode cX7_putTerm 48 = .ok (.iload 4, 2) := by decide +kernel
theorem dX7_putTerm_50 : decode cX7_putTerm 50 = .ok (.invokevirtual 34, 3) := by decide +kernel
theorem dX7_putTerm_53 : decode cX7_putTerm 53 = .ok (.aload_n 0, 1) := by decide +kernel
theorem dX7_putTerm_54 : decode cX7_putTerm 54 = .ok (.iconst 0, 1) := by decide +kernel
theorem dX7_putTerm_55 : decode cX7_putTerm 55 = .ok (.bipush 13, 2) := by decide +kernel
theorem dX7_putTerm_57 : decode cX7_putTerm 57 = .ok (.bipush 14, 2) := by decide +kernel
theorem dX7_putTerm_59 : decode cX7_putTerm 59 = .ok (.iconst (-1), 1) := by decide +kernel
theorem dX7_putTerm_60 : decode cX7_putTerm 60 = .ok (.invokevirtual 38, 3) := by decide +kernel
theorem dX7_putTerm_63 : decode cX7_putTerm 63 = .ok (.aload_n 0, 1) := by decide +kernel
theorem dX7_putTerm_64 : decode cX7_putTerm 64 = .ok (.iload_n 1, 1) := by decide +kernel
theorem dX7_putTerm_65 : decode cX7_putTerm 65 = .ok (.bipush 15, 2) := by decide +kernel
theorem dX7_putTerm_67 : decode cX7_putTerm 67 = .ok (.iconst 0, 1) := by decide +kernel
theorem dX7_putTerm_68 : decode cX7_putTerm 68 = .ok (.invokevirtual 34, 3) := by decide +kernel
theorem dX7_putTerm_71 : decode cX7_putTerm 71 = .ok (.return_, 1) := by decide +kernel
abbrev M_X7_putTerm : MRec := (yX7_putTerm, cX7_putTerm, 5, none, [])
theorem m_X7_putTerm : en_M M_X7_putTerm 4 := ⟨t_2378, t_13, ⟨by decide +kernel, by decide +kernel⟩, by decide +kernel, by decide +kernel, by decide +kernel⟩
theorem dX7_circleSign_0 : decode cX7_circleSign 0 = .ok (.aload_n 0, 1) := by decide +kernel
theorem dX7_circleSign_1 : decode cX7_circleSign 1 = .ok (.iconst 2, 1) := by decide +kernel
theorem dX7_circleSign_2 : decode cX7_circleSign 2 = .ok (.aload_n 0, 1) := by decide +kernel
theorem dX7_circleSign_3 : decode cX7_circleSign 3 = .ok (.getfield 9, 3) := by decide +kernel
theorem dX7_circleSign_6 : decode cX7_circleSign 6 = .ok (.iload_n 1, 1) := by decide +kernel
theorem dX7_circleSign_7 : decode cX7_circleSign 7 = .ok (.laload, 1) := by decide +kernel
theorem dX7_circleSign_8 : decode cX7_circleSign 8 = .ok (.aload_n 0, 1) := by decide +kernel
theorem dX7_circleSign_9 : decode cX7_circleSign 9 = .ok (.getfield 9, 3) := by decide +kernel
theorem dX7_circleSign_12 : decode cX7_circleSign 12 = .ok (.iload 4, 2) := by decide +kernel
theorem dX7_circleSign_14 : decode cX7_circleSign 14 = .ok (.laload, 1) := by decide +kernel
theorem dX7_circleSign_15 : decode cX7_circleSign 15 = .ok (.invokevirtual 30, 3) := by decide +kernel
theorem dX7_circleSign_18 : decode cX7_circleSign 18 = .ok (.aload_n 0, 1) := by decide +kernel
theorem dX7_circleSign_19 : decode cX7_circleSign 19 = .ok (.iconst 3, 1) := by decide +kernel
theorem dX7_circleSign_20 : decode cX7_circleSign 20 = .ok (.aload_n 0, 1) := by decide +kernel
theorem dX7_circleSign_21 : decode cX7_circleSign 21 = .ok (.getfield 15, 3) := by decide +kernel
theorem dX7_circleSign_24 : decode cX7_circleSign 24 = .ok (.iload_n 1, 1) := by decide +kernel
theorem dX7_circleSign_25 : decode cX7_circleSign 25 = .ok (.laload, 1) := by decide +kernel
theorem dX7_circleSign_26 : decode cX7_circleSign 26 = .ok (.aload_n 0, 1) := by decide +kernel
theorem dX7_circleSign_27 : decode cX7_circleSign 27 = .ok (.getfield 15, 3) := by decide +kernel
theorem dX7_circleSign_30 : decode cX7_circleSign 30 = .ok (.iload 4, 2) := by decide +kernel
theorem dX7_circleSign_32 : decode cX7_circleSign 32 = .ok (.laload, 1) := by decide +kernel
theorem dX7_circleSign_33 : decode cX7_circleSign 33 = .ok (.invokevirtual 30, 3) := by decide +kernel
theorem dX7_circleSign_36 : decode cX7_circleSign 36 = .ok (.aload_n 0, 1) := by decide +kernel
theorem dX7_circleSign_37 : decode cX7_circleSign 37 = .ok (.iconst 4, 1) := by decide +kernel
theorem dX7_circleSign_38 : decode cX7_circleSign 38 = .ok (.aload_n 0, 1) := by decide +kernel
theorem dX7_circleSign_39 : decode cX7_circleSign 39 = .ok (.getfield 9, 3) := by decide +kernel
theorem dX7_circleSign_42 : decode cX7_circleSign 42 = .ok (.iload_n 2, 1) := by decide +kernel
theorem dX7_circleSign_43 : decode cX7_circleSign 43 = .ok (.laload, 1) := by decide +kernel
theorem dX7_circleSign_44 : decode cX7_circleSign 44 = .ok (.aload_n 0, 1) := by decide +kernel
theorem dX7_circleSign_45 : decode cX7_circleSign 45 = .ok (.getfield 9, 3) := by decide +kernel
theorem dX7_circleSign_48 : decode cX7_circleSign 48 = .ok (.iload 4, 2) := by decide +kernel
theorem dX7_circleSign_50 : decode cX7_circleSign 50 = .ok (.laload, 1) := by decide +kernel
theorem dX7_circleSign_51 : decode cX7_circleSign 51 = .ok (.invokevirtual 30, 3) := by decide +kernel
theorem dX7_circleSign_54 : decode cX7_circleSign 54 = .ok (.aload_n 0, 1) := by decide +kernel
theorem dX7_circleSign_55 : decode cX7_circleSign 55 = .ok (.iconst 5, 1) := by decide +kernel
theorem dX7_circleSign_56 : decode cX7_circleSign 56 = .ok (.aload_n 0, 1) := by decide +kernel
theorem dX7_circleSign_57 : decode cX7_circleSign 57 = .ok (.getfield 15, 3) := by decide +kernel
theorem dX7_circleSign_60 : decode cX7_circleSign 60 = .ok (.iload_n 2, 1) := by decide +kernel
theorem dX7_circleSign_61 : decode cX7_circleSign 61 = .ok (.laload, 1) := by decide +kernel
theorem dX7_circleSign_62 : decode cX7_circleSign 62 = .ok (.aload_n 0, 1) := by decide +kernel
theorem dX7_circleSign_63 : decode cX7_circleSign 63 = .ok (.getfield 15, 3) := by decide +kernel
theorem dX7_circleSign_66 : decode cX7_circleSign 66 = .ok (.iload 4, 2) := by decide +kernel
theorem dX7_circleSign_68 : decode cX7_circleSign 68 = .ok (.laload, 1) := by decide +kernel
theorem dX7_circleSign_69 : decode cX7_circleSign 69 = .ok (.invokevirtual 30, 3) := by decide +kernel
theorem dX7_circleSign_72 : decode cX7_circleSign 72 = .ok (.aload_n 0, 1) := by decide +kernel
theorem dX7_circleSign_73 : decode cX7_circleSign 73 = .ok (.bipush 6, 2) := by decide +kernel
theorem dX7_circleSign_75 : decode cX7_circleSign 75 = .ok (.aload_n 0, 1) := by decide +kernel
theorem dX7_circleSign_76 : decode cX7_circleSign 76 = .ok (.getfield 9, 3) := by decide +kernel
theorem dX7_circleSign_79 : decode cX7_circleSign 79 = .ok (.iload_n 3, 1) := by decide +kernel
theorem dX7_circleSign_80 : decode cX7_circleSign 80 = .ok (.laload, 1) := by decide +kernel
theorem dX7_circleSign_81 : decode cX7_circleSign 81 = .ok (.aload_n 0, 1) := by decide +kernel
theorem dX7_circleSign_82 : decode cX7_circleSign 82 = .ok (.getfield 9, 3) := by decide +kernel
theorem dX7_circleSign_85 : decode cX7_circleSign 85 = .ok (.iload 4, 2) := by decide +kernel
theorem dX7_circleSign_87 : decode cX7_circleSign 87 = .ok (.laload, 1) := by decide +kernel
theorem dX7_circleSign_88 : decode cX7_circleSign 88 = .ok (.invokevirtual 30, 3) := by decide +kernel
theorem dX7_circleSign_91 : decode cX7_circleSign 91 = .ok (.aload_n 0, 1) := by decide +kernel
theorem dX7_circleSign_92 : decode cX7_circleSign 92 = .ok (.bipush 7, 2) := by decide +kernel
theorem dX7_circleSign_94 : decode cX7_circleSign 94 = .ok (.aload_n 0, 1) := by decide +kernel
theorem dX7_circleSign_95 : decode cX7_circleSign 95 = .ok (.getfield 15, 3) := by decide +kernel
theorem dX7_circleSign_98 : decode cX7_circleSign 98 = .ok (.iload_n 3, 1) := by decide +kernel
theorem dX7_circleSign_99 : decode cX7_circleSign 99 = .ok (.laload, 1) := by decide +kernel
theorem dX7_circleSign_100 : decode cX7_circleSign 100 = .ok (.aload_n 0, 1) := by decide +kernel
theorem dX7_circleSign_101 : decode cX7_circleSign 101 = .ok (.getfield 15, 3) := by decide +kernel
theorem dX7_circleSign_104 : decode cX7_circleSign 104 = .ok (.iload 4, 2) := by decide +kernel
theorem dX7_circleSign_106 : decode cX7_circleSign 106 = .ok (.laload, 1) := by decide +kernel
theorem dX7_circleSign_107 : decode cX7_circleSign 107 = .ok (.invokevirtual 30, 3) := by decide +kernel
theorem dX7_circleSign_110 : decode cX7_circleSign 110 = .ok (.aload_n 0, 1) := by decide +kernel
theorem dX7_circleSign_111 : decode cX7_circleSign 111 = .ok (.bipush 8, 2) := by decide +kernel
theorem dX7_circleSign_113 : decode cX7_circleSign 113 = .ok (.iconst 2, 1) := by decide +kernel
theorem dX7_circleSign_114 : decode cX7_circleSign 114 = .ok (.iconst 4, 1) := by decide +kernel
theorem dX7_circleSign_115 : decode cX7_circleSign 115 = .ok (.bipush 6, 2) := by decide +kernel
theorem dX7_circleSign_117 : decode cX7_circleSign 117 = .ok (.invokevirtual 42, 3) := by decide +kernel
theorem dX7_circleSign_120 : decode cX7_circleSign 120 = .ok (.aload_n 0, 1) := by decide +kernel
theorem dX7_circleSign_121 : decode cX7_circleSign 121 = .ok (.bipush 9, 2) := by decide +kernel
theorem dX7_circleSign_123 : decode cX7_circleSign 123 = .ok (.iconst 4, 1) := by decide +kernel
theorem dX7_circleSign_124 : decode cX7_circleSign 124 = .ok (.bipush 6, 2) := by decide +kernel
theorem dX7_circleSign_126 : decode cX7_circleSign 126 = .ok (.iconst 2, 1) := by decide +kernel
theorem dX7_circleSign_127 : decode cX7_circleSign 127 = .ok (.invokevirtual 42, 3) := by decide +kernel
theorem dX7_circleSign_130 : decode cX7_circleSign 130 = .ok (.aload_n 0, 1) := by decide +kernel
theorem dX7_circleSign_131 : decode cX7_circleSign 131 = .ok (.bipush 10, 2) := by decide +kernel
theorem dX7_circleSign_133 : decode cX7_circleSign 133 = .ok (.bipush 6, 2) := by decide +kernel
theorem dX7_circleSign_135 : decode cX7_circleSign 135 = .ok (.iconst 2, 1) := by decide +kernel
theorem dX7_circleSign_136 : decode cX7_circleSign 136 = .ok (.iconst 4, 1) := by decide +kernel
theorem dX7_circleSign_137 : decode cX7_circleSign 137 = .ok (.invokevirtual 42, 3) := by decide +kernel
theorem dX7_circleSign_140 : decode cX7_circleSign 140 = .ok (.aload_n 0, 1) := by decide +kernel
theorem dX7_circleSign_141 : decode cX7_circleSign 141 = .ok (.bipush 11, 2) := by decide +kernel
theorem dX7_circleSign_143 : decode cX7_circleSign 143 = .ok (.bipush 8, 2) := by decide +kernel
theorem dX7_circleSign_145 : decode cX7_circleSign 145 = .ok (.bipush 9, 2) := by decide +kernel
theorem dX7_circleSign_147 : decode cX7_circleSign 147 = .ok (.iconst 1, 1) := by decide +kernel
theorem dX7_circleSign_148 : decode cX7_circleSign 148 = .ok (.invokevirtual 38, 3) := by decide +kernel
theorem dX7_circleSign_151 : decode cX7_circleSign 151 = .ok (.aload_n 0, 1) := by decide +kernel
theorem dX7_circleSign_152 : decode cX7_circleSign 152 = .ok (.bipush 12, 2) := by decide +kernel
theorem dX7_circleSign_154 : decode cX7_circleSign 154 = .ok (.bipush 11, 2) := by decide +kernel
theorem dX7_circleSign_156 : decode cX7_circleSign 156 = .ok (.bipush 10, 2) := by decide +kernel
theorem dX7_circleSign_158 : decode cX7_circleSign 158 = .ok (.iconst 1, 1) := by decide +kernel
theorem dX7_circleSign_159 : decode cX7_circleSign 159 = .ok (.invokevirtual 38, 3) := by decide +kernel
theorem dX7_circleSign_162 : decode cX7_circleSign 162 = .ok (.aload_n 0, 1) := by decide +kernel
theorem dX7_circleSign_163 : decode cX7_circleSign 163 = .ok (.getfield 27, 3) := by decide +kernel
theorem dX7_circleSign_166 : decode cX7_circleSign 166 = .ok (.bipush 12, 2) := by decide +kernel
theorem dX7_circleSign_168 : decode cX7_circleSign 168 = .ok (.iaload, 1) := by decide +kernel
theorem dX7_circleSign_169 : decode cX7_circleSign 169 = .ok (.ireturn, 1) := by decide +kernel
abbrev M_X7_circleSign : MRec := (yX7_circleSign, cX7_circleSign, 5, (some Jvm.ClassFile.FieldType.int), [])
theorem m_X7_circleSign : en_M M_X7_circleSign 4 := ⟨t_2374, t_13, ⟨by decide +kernel, by decide +kernel⟩, by decide +kernel, by decide +kernel, by decide +kernel⟩
theorem dX11_circle_0 : decode cX11_circle 0 = .ok (.iload_n 1, 1) := by decide +kernel
theorem dX11_circle_1 : decode cX11_circle 1 = .ok (.invokestatic 325, 3) := by decide +kernel
theorem dX11_circle_4 : decode cX11_circle 4 = .ok (.ifCond .ne 25, 3) := by decide +kernel
theorem dX11_circle_7 : decode cX11_circle 7 = .ok (.iload_n 2, 1) := by decide +kernel
theorem dX11_circle_8 : decode cX11_circle 8 = .ok (.invokestatic 325, 3) := by decide +kernel
theorem dX11_circle_11 : decode cX11_circle 11 = .ok (.ifCond .ne 18, 3) := by decide +kernel
theorem dX11_circle_14 : decode cX11_circle 14 = .ok (.iload_n 3, 1) := by decide +kernel
theorem dX11_circle_15 : decode cX11_circle 15 = .ok (.invokestatic 325, 3) := by decide +kernel
theorem dX11_circle_18 : decode cX11_circle 18 = .ok (.ifCond .ne 11, 3) := by decide +kernel
theorem dX11_circle_21 : decode cX11_circle 21 = .ok (.iload 4, 2) := by decide +kernel
theorem dX11_circle_23 : decode cX11_circle 23 = .ok (.invokestatic 325, 3) := by decide +kernel
theorem dX11_circle_26 : decode cX11_circle 26 = .ok (.ifCond .eq 11, 3) := by decide +kernel
theorem dX11_circle_29 : decode cX11_circle 29 = .ok (.new 137, 3) := by decide +kernel
theorem dX11_circle_32 : decode cX11_circle 32 = .ok (.dup, 1) := by decide +kernel
theorem dX11_circle_33 : decode cX11_circle 33 = .ok (.invokespecial 139, 3) := by decide +kernel
theorem dX11_circle_36 : decode cX11_circle 36 = .ok (.athrow, 1) := by decide +kernel
theorem dX11_circle_37 : decode cX11_circle 37 = .ok (.aload_n 0, 1) := by decide +kernel
theorem dX11_circle_38 : decode cX11_circle 38 = .ok (.getfield 90, 3) := by decide +kernel
theorem dX11_circle_41 : decode cX11_circle 41 = .ok (.iload_n 1, 1) := by decide +kernel
theorem dX11_circle_42 : decode cX11_circle 42 = .ok (.iload_n 2, 1) := by decide +kernel
theorem dX11_circle_43 : decode cX11_circle 43 = .ok (.iload_n 3, 1) := by decide +kernel
theorem dX11_circle_44 : decode cX11_circle 44 = .ok (.iload 4, 2) := by decide +kernel
theorem dX11_circle_46 : decode cX11_circle 46 = .ok (.invokevirtual 342, 3) := by decide +kernel
theorem dX11_circle_49 : decode cX11_circle 49 = .ok (.ireturn, 1) := by decide +kernel
abbrev M_X11_circle : MRec := (yX11_circle, cX11_circle, 5, (some Jvm.ClassFile.FieldType.int), [])
theorem m_X11_circle : en_M M_X11_circle 4 := ⟨t_2370, t_1, ⟨by decide +kernel, by decide +kernel⟩, by decide +kernel, by decide +kernel, by decide +kernel⟩
theorem dX6_hasRoomForPoint_0 : decode cX6_hasRoomForPoint 0 = .ok (.aload_n 0, 1) := by decide +kernel
theorem dX6_hasRoomForPoint_1 : decode cX6_hasRoomForPoint 1 = .ok (.getfield 25, 3) := by decide +kernel
theorem dX6_hasRoomForPoint_4 : decode cX6_hasRoomForPoint 4 = .ok (.sipush 2048, 3) := by decide +kernel
theorem dX6_hasRoomForPoint_7 : decode cX6_hasRoomForPoint 7 = .ok (.if_icmp .ge 7, 3) := by decide +kernel
theorem dX6_hasRoomForPoint_10 : decode cX6_hasRoomForPoint 10 = .ok (.iconst 1, 1) := by decide +kernel
theorem dX6_hasRoomForPoint_11 : decode cX6_hasRoomForPoint 11 = .ok (.goto 4, 3) := by decide +kernel
theorem dX6_hasRoomForPoint_14 : decode cX6_hasRoomForPoint 14 = .ok (.iconst 0, 1) := by decide +kernel
theorem dX6_hasRoomForPoint_15 : decode cX6_hasRoomForPoint 15 = .ok (.ireturn, 1) := by decide +kernel
abbrev M_X6_hasRoomForPoint : MRec := (yX6_hasRoomForPoint, cX6_hasRoomForPoint, 1, (some Jvm.ClassFile.FieldType.boolean), [])
theorem m_X6_hasRoomForPoint : en_M M_X6_hasRoomForPoint 0 := ⟨t_907, t_2, ⟨by decide +kernel, by decide +kernel⟩, by decide +kernel, by decide +kernel, by decide +kernel⟩
theorem dX9_fail_0 : decode cX9_fail 0 = .ok (.aload_n 0, 1) := by decide +kernel
theorem dX9_fail_1 : decode cX9_fail 1 = .ok (.iload_n 1, 1) := by decide +kernel
theorem dX9_fail_2 : decode cX9_fail 2 = .ok (.putfield 53, 3) := by decide +kernel
theorem dX9_fail_5 : decode cX9_fail 5 = .ok (.aload_n 0, 1) := by decide +kernel
theorem dX9_fail_6 : decode cX9_fail 6 = .ok (.aload_n 0, 1) := by decide +kernel
theorem dX9_fail_7 : decode cX9_fail 7 = .ok (.getfield 44, 3) := by decide +kernel
theorem dX9_fail_10 : decode cX9_fail 10 = .ok (.putfield 56, 3) := by decide +kernel
theorem dX9_fail_13 : decode cX9_fail 13 = .ok (.iconst 0, 1) := by decide +kernel
theorem dX9_fail_14 : decode cX9_fail 14 = .ok (.ireturn, 1) := by decide +kernel
abbrev M_X9_fail : MRec := (yX9_fail, cX9_fail, 2, (some Jvm.ClassFile.FieldType.boolean), [])
theorem m_X9_fail : en_M M_X9_fail 1 := ⟨t_800, t_3, ⟨by decide +kernel, by decide +kernel⟩, by decide +kernel, by decide +kernel, by decide +kernel⟩
theorem dX9_beginsNumber_0 : decode cX9_beginsNumber 0 = .ok (.iload_n 0, 1) := by decide +kernel
theorem dX9_beginsNumber_1 : decode cX9_beginsNumber 1 = .ok (.bipush 48, 2) := by decide +kernel
theorem dX9_beginsNumber_3 : decode cX9_beginsNumber 3 = .ok (.if_icmp .lt 9, 3) := by decide +kernel
theorem dX9_beginsNumber_6 : decode cX9_beginsNumber 6 = .ok (.iload_n 0, 1) := by decide +kernel
theorem dX9_beginsNumber_7 : decode cX9_beginsNumber 7 = .ok (.bipush 57, 2) := by decide +kernel
theorem dX9_beginsNumber_9 : decode cX9_beginsNumber 9 = .ok (.if_icmp .le 21, 3) := by decide +kernel
theorem dX9_beginsNumber_12 : decode cX9_beginsNumber 12 = .ok (.iload_n 0, 1) := by decide +kernel
theorem dX9_beginsNumber_13 : decode cX9_beginsNumber 13 = .ok (.bipush 43, 2) := by decide +kernel
theorem dX9_beginsNumber_15 : decode cX9_beginsNumber 15 = .ok (.if_icmp .eq 15, 3) := by decide +kernel
theorem dX9_beginsNumber_18 : decode cX9_beginsNumber 18 = .ok (.iload_n 0, 1) := by decide +kernel
theorem dX9_beginsNumber_19 : decode cX9_beginsNumber 19 = .ok (.bipush 45, 2) := by decide +kernel
theorem dX9_beginsNumber_21 : decode cX9_beginsNumber 21 = .ok (.if_icmp .eq 9, 3) := by decide +kernel
theorem dX9_beginsNumber_24 : decode cX9_beginsNumber 24 = .ok (.iload_n 0, 1) := by decide +kernel
theorem dX9_beginsNumber_25 : decode cX9_beginsNumber 25 = .ok (.bipush 46, 2) := by decide +kernel
theorem dX9_beginsNumber_27 : decode cX9_beginsNumber 27 = .ok (.if_icmp .ne 7, 3) := by decide +kernel
theorem dX9_beginsNumber_30 : decode cX9_beginsNumber 30 = .ok (.iconst 1, 1) := by decide +kernel
theorem dX9_beginsNumber_31 : decode cX9_beginsNumber 31 = .ok (.goto 4, 3) := by decide +kernel
theorem dX9_beginsNumber_34 : decode cX9_beginsNumber 34 = .ok (.iconst 0, 1) := by decide +kernel
theorem dX9_beginsNumber_35 : decode cX9_beginsNumber 35 = .ok (.ireturn, 1) := by decide +kernel
abbrev M_X9_beginsNumber : MRec := (yX9_beginsNumber, cX9_beginsNumber, 1, (some Jvm.ClassFile.FieldType.boolean), [])
theorem m_X9_beginsNumber : en_M M_X9_beginsNumber 1 := ⟨t_796, t_3, ⟨by decide +kernel, by decide +kernel⟩, by decide +kernel, by decide +kernel, by decide +kernel⟩
theorem dX9_isLetter_0 : decode cX9_isLetter 0 = .ok (.iload_n 0, 1) := by decide +kernel
theorem dX9_isLetter_1 : decode cX9_isLetter 1 = .ok (.bipush 65, 2) := by decide +kernel
theorem dX9_isLetter_3 : decode cX9_isLetter 3 = .ok (.if_icmp .lt 9, 3) := by decide +kernel
theorem dX9_isLetter_6 : decode cX9_isLetter 6 = .ok (.iload_n 0, 1) := by decide +kernel
theorem dX9_isLetter_7 : decode cX9_isLetter 7 = .ok (.bipush 90, 2) := by decide +kernel
theorem dX9_isLetter_9 : decode cX9_isLetter 9 = .ok (.if_icmp .le 15, 3) := by decide +kernel
theorem dX9_isLetter_12 : decode cX9_isLetter 12 = .ok (.iload_n 0, 1) := by decide +kernel
theorem dX9_isLetter_13 : decode cX9_isLetter 13 = .ok (.bipush 97, 2) := by decide +kernel
theorem dX9_isLetter_15 : decode cX9_isLetter 15 = .ok (.if_icmp .lt 13, 3) := by decide +kernel
theorem dX9_isLetter_18 : decode cX9_isLetter 18 = .ok (.iload_n 0, 1) := by decide +kernel
theorem dX9_isLetter_19 : decode cX9_isLetter 19 = .ok (.bipush 122, 2) := by decide +kernel
theorem dX9_isLetter_21 : decode cX9_isLetter 21 = .ok (.if_icmp .gt 7, 3) := by decide +kernel
theorem dX9_isLetter_24 : decode cX9_isLetter 24 = .ok (.iconst 1, 1) := by decide +kernel
theorem dX9_isLetter_25 : decode cX9_isLetter 25 = .ok (.goto 4, 3) := by decide +kernel
theorem dX9_isLetter_28 : decode cX9_isLetter 28 = .ok (.iconst 0, 1) := by decide +kernel
theorem dX9_isLetter_29 : decode cX9_isLetter 29 = .ok (.ireturn, 1) := by decide +kernel
abbrev M_X9_isLetter : MRec := (yX9_isLetter, cX9_isLetter, 1, (some Jvm.ClassFile.FieldType.boolean), [])
theorem m_X9_isLetter : en_M M_X9_isLetter 1 := ⟨t_789, t_3, ⟨by decide +kernel, by decide +kernel⟩, by decide +kernel, by decide +kernel, by decide +kernel⟩
theorem dX9_signAt_0 : decode cX9_signAt 0 = .ok (.iload_n 1, 1) := by decide +kernel
theorem dX9_signAt_1 : decode cX9_signAt 1 = .ok (.ifCond .lt 24, 3) := by decide +kernel
theorem dX9_signAt_4 : decode cX9_signAt 4 = .ok (.iload_n 1, 1) := by decide +kernel
theorem dX9_signAt_5 : decode cX9_signAt 5 = .ok (.aload_n 0, 1) := by decide +kernel
theorem dX9_signAt_6 : decode cX9_signAt 6 = .ok (.getfield 41, 3) := by decide +kernel
theorem dX9_signAt_9 : decode cX9_signAt 9 = .ok (.if_icmp .ge 16, 3) := by decide +kernel
theorem dX9_signAt_12 : decode cX9_signAt 12 = .ok (.aload_n 0, 1) := by decide +kernel
theorem dX9_signAt_13 : decode cX9_signAt 13 = .ok (.getfield 22, 3) := by decide +kernel
theorem dX9_signAt_16 : decode cX9_signAt 16 = .ok (.iload_n 1, 1) := by decide +kernel
theorem dX9_signAt_17 : decode cX9_signAt 17 = .ok (.baload, 1) := by decide +kernel
theorem dX9_signAt_18 : decode cX9_signAt 18 = .ok (.sipush 255, 3) := by decide +kernel
theorem dX9_signAt_21 : decode cX9_signAt 21 = .ok (.iand, 1) := by decide +kernel
theorem dX9_signAt_22 : decode cX9_signAt 22 = .ok (.goto 4, 3) := by decide +kernel
theorem dX9_signAt_25 : decode cX9_signAt 25 = .ok (.iconst (-1), 1) := by decide +kernel
theorem dX9_signAt_26 : decode cX9_signAt 26 = .ok (.ireturn, 1) := by decide +kernel
abbrev M_X9_signAt : MRec := (yX9_signAt, cX9_signAt, 2, (some Jvm.ClassFile.FieldType.int), [])
theorem m_X9_signAt : en_M M_X9_signAt 1 := ⟨t_786, t_3, ⟨by decide +kernel, by decide +kernel⟩, by decide +kernel, by decide +kernel, by decide +kernel⟩
theorem dX9_unexpected_0 : decode cX9_unexpected 0 = .ok (.aload_n 0, 1) := by decide +kernel
theorem dX9_unexpected_1 : decode cX9_unexpected 1 = .ok (.aload_n 0, 1) := by decide +kernel
theorem dX9_unexpected_2 : decode cX9_unexpected 2 = .ok (.getfield 44, 3) := by decide +kernel
theorem dX9_unexpected_5 : decode cX9_unexpected 5 = .ok (.invokevirtual 76, 3) := by decide +kernel
theorem dX9_unexpected_8 : decode cX9_unexpected 8 = .ok (.istore_n 1, 1) := by decide +kernel
theorem dX9_unexpected_9 : decode cX9_unexpected 9 = .ok (.iload_n 1, 1) := by decide +kernel
theorem dX9_unexpected_10 : decode cX9_unexpected 10 = .ok (.ifCond .lt 35, 3) := by decide +kernel
theorem dX9_unexpected_13 : decode cX9_unexpected 13 = .ok (.iload_n 1, 1) := by decide +kernel
theorem dX9_unexpected_14 : decode cX9_unexpected 14 = .ok (.invokestatic 80, 3) := by decide +kernel
theorem dX9_unexpected_17 : decode cX9_unexpected 17 = .ok (.ifCond .ne 28, 3) := by decide +kernel
theorem dX9_unexpected_20 : decode cX9_unexpected 20 = .ok (.iload_n 1, 1) := by decide +kernel
theorem dX9_unexpected_21 : decode cX9_unexpected 21 = .ok (.invokestatic 83, 3) := by decide +kernel
theorem dX9_unexpected_24 : decode cX9_unexpected 24 = .ok (.ifCond .ne 21, 3) := by decide +kernel
theorem dX9_unexpected_27 : decode cX9_unexpected 27 = .ok (.iload_n 1, 1) := by decide +kernel
theorem dX9_unexpected_28 : decode cX9_unexpected 28 = .ok (.bipush 40, 2) := by decide +kernel
theorem dX9_unexpected_30 : decode cX9_unexpected 30 = .ok (.if_icmp .eq 15, 3) := by decide +kernel
theorem dX9_unexpected_33 : decode cX9_unexpected 33 = .ok (.iload_n 1, 1) := by decide +kernel
theorem dX9_unexpected_34 : decode cX9_unexpected 34 = .ok (.bipush 41, 2) := by decide +kernel
theorem dX9_unexpected_36 : decode cX9_unexpected 36 = .ok (.if_icmp .eq 9, 3) := by decide +kernel
theorem dX9_unexpected_39 : decode cX9_unexpected 39 = .ok (.iload_n 1, 1) := by decide +kernel
theorem dX9_unexpected_40 : decode cX9_unexpected 40 = .ok (.bipush 44, 2) := by decide +kernel
theorem dX9_unexpected_42 : decode cX9_unexpected 42 = .ok (.if_icmp .ne 7, 3) := by decide +kernel
theorem dX9_unexpected_45 : decode cX9_unexpected 45 = .ok (.iconst 1, 1) := by decide +kernel
theorem dX9_unexpected_46 : decode cX9_unexpected 46 = .ok (.goto 4, 3) := by decide +kernel
theorem dX9_unexpected_49 : decode cX9_unexpected 49 = .ok (.iconst 0, 1) := by decide +kernel
theorem dX9_unexpected_50 : decode cX9_unexpected 50 = .ok (.istore_n 2, 1) := by decide +kernel
theorem dX9_unexpected_51 : decode cX9_unexpected 51 = .ok (.aload_n 0, 1) := by decide +kernel
theorem dX9_unexpected_52 : decode cX9_unexpected 52 = .ok (.iload_n 2, 1) := by decide +kernel
theorem dX9_unexpected_53 : decode cX9_unexpected 53 = .ok (.ifCond .eq 7, 3) := by decide +kernel
theorem dX9_unexpected_56 : decode cX9_unexpected 56 = .ok (.iconst 3, 1) := by decide +kernel
theorem dX9_unexpected_57 : decode cX9_unexpected 57 = .ok (.goto 4, 3) := by decide +kernel
theorem dX9_unexpected_60 : decode cX9_unexpected 60 = .ok (.iconst 1, 1) := by decide +kernel
theorem dX9_unexpected_61 : decode cX9_unexpected 61 = .ok (.invokevirtual 72, 3) := by decide +kernel
theorem dX9_unexpected_64 : decode cX9_unexpected 64 = .ok (.ireturn, 1) := by decide +kernel
abbrev M_X9_unexpected : MRec := (yX9_unexpected, cX9_unexpected, 3, (some Jvm.ClassFile.FieldType.boolean), [])
theorem m_X9_unexpected : en_M M_X9_unexpected 0 := ⟨t_793, t_3, ⟨by decide +kernel, by decide +kernel⟩, by decide +kernel, by decide +kernel, by decide +kernel⟩
theorem dX9_isBlank_0 : decode cX9_isBlank 0 = .ok (.iload_n 0, 1) := by decide +kernel
theorem dX9_isBlank_1 : decode cX9_isBlank 1 = .ok (.bipush 32, 2) := by decide +kernel
theorem dX9_isBlank_3 : decode cX9_isBlank 3 = .ok (.if_icmp .eq 21, 3) := by decide +kernel
theorem dX9_isBlank_6 : decode cX9_isBlank 6 = .ok (.iload_n 0, 1) := by decide +kernel
theorem dX9_isBlank_7 : decode cX9_isBlank 7 = .ok (.bipush 9, 2) := by decide +kernel
theorem dX9_isBlank_9 : decode cX9_isBlank 9 = .ok (.if_icmp .eq 15, 3) := by decide +kernel
theorem dX9_isBlank_12 : decode cX9_isBlank 12 = .ok (.iload_n 0, 1) := by decide +kernel
theorem dX9_isBlank_13 : decode cX9_isBlank 13 = .ok (.bipush 10, 2) := by decide +kernel
theorem dX9_isBlank_15 : decode cX9_isBlank 15 = .ok (.if_icmp .eq 9, 3) := by decide +kernel
theorem dX9_isBlank_18 : decode cX9_isBlank 18 = .ok (.iload_n 0, 1) := by decide +kernel
theorem dX9_isBlank_19 : decode cX9_isBlank 19 = .ok (.bipush 13, 2) := by decide +kernel
theorem dX9_isBlank_21 : decode cX9_isBlank 21 = .ok (.if_icmp .ne 7, 3) := by decide +kernel
theorem dX9_isBlank_24 : decode cX9_isBlank 24 = .ok (.iconst 1, 1) := by decide +kernel
theorem dX9_isBlank_25 : decode cX9_isBlank 25 = .ok (.goto 4, 3) := by decide +kernel
theorem dX9_isBlank_28 : decode cX9_isBlank 28 = .ok (.iconst 0, 1) := by decide +kernel
theorem dX9_isBlank_29 : decode cX9_isBlank 29 = .ok (.ireturn, 1) := by decide +kernel
abbrev M_X9_isBlank : MRec := (yX9_isBlank, cX9_isBlank, 1, (some Jvm.ClassFile.FieldType.boolean), [])
theorem m_X9_isBlank : en_M M_X9_isBlank 1 := ⟨t_782, t_3, ⟨by decide +kernel, by decide +kernel⟩, by decide +kernel, by decide +kernel, by decide +kernel⟩
theorem dX9_skipBlanks_0 : decode cX9_skipBlanks 0 = .ok (.aload_n 0, 1) := by decide +kernel
theorem dX9_skipBlanks_1 : decode cX9_skipBlanks 1 = .ok (.getfield 44, 3) := by decide +kernel
theorem dX9_skipBlanks_4 : decode cX9_skipBlanks 4 = .ok (.aload_n 0, 1) := by decide +kernel
theorem dX9_skipBlanks_5 : decode cX9_skipBlanks 5 = .ok (.getfield 41, 3) := by decide +kernel
theorem dX9_skipBlanks_8 : decode cX9_skipBlanks 8 = .ok (.if_icmp .ge 31, 3) := by decide +kernel
theorem dX9_skipBlanks_11 : decode cX9_skipBlanks 11 = .ok (.aload_n 0, 1) := by decide +kernel
theorem dX9_skipBlanks_12 : decode cX9_skipBlanks 12 = .ok (.getfield 22, 3) := by decide +kernel
theorem dX9_skipBlanks_15 : decode cX9_skipBlanks 15 = .ok (.aload_n 0, 1) := by decide +kernel
theorem dX9_skipBlanks_16 : decode cX9_skipBlanks 16 = .ok (.getfield 44, 3) := by decide +kernel
theorem dX9_skipBlanks_19 : decode cX9_skipBlanks 19 = .ok (.baload, 1) := by decide +kernel
theorem dX9_skipBlanks_20 : decode cX9_skipBlanks 20 = .ok (.invokestatic 86, 3) := by decide +kernel
theorem dX9_skipBlanks_23 : decode cX9_skipBlanks 23 = .ok (.ifCond .eq 16, 3) := by decide +kernel
theorem dX9_skipBlanks_26 : decode cX9_skipBlanks 26 = .ok (.aload_n 0, 1) := by decide +kernel
theorem dX9_skipBlanks_27 : decode cX9_skipBlanks 27 = .ok (.dup, 1) := by decide +kernel
theorem dX9_skipBlanks_28 : decode cX9_skipBlanks 28 = .ok (.getfield 44, 3) := by decide +kernel
theorem dX9_skipBlanks_31 : decode cX9_skipBlanks 31 = .ok (.iconst 1, 1) := by decide +kernel
theorem dX9_skipBlanks_32 : decode cX9_skipBlanks 32 = .ok (.iadd, 1) := by decide +kernel
theorem dX9_skipBlanks_33 : decode cX9_skipBlanks 33 = .ok (.putfield 44, 3) := by decide +kernel
theorem dX9_skipBlanks_36 : decode cX9_skipBlanks 36 = .ok (.goto (-36), 3) := by decide +kernel
theorem dX9_skipBlanks_39 : decode cX9_skipBlanks 39 = .ok (.return_, 1) := by decide +kernel
abbrev M_X9_skipBlanks : MRec := (yX9_skipBlanks, cX9_skipBlanks, 1, none, [])
theorem m_X9_skipBlanks : en_M M_X9_skipBlanks 0 := ⟨t_779, t_3, ⟨by decide +kernel, by decide +kernel⟩, by decide +kernel, by decide +kernel, by decide +kernel⟩
theorem dX9_isDigit_0 : decode cX9_isDigit 0 = .ok (.iload_n 0, 1) := by decide +kernel
theorem dX9_isDigit_1 : decode cX9_isDigit 1 = .ok (.bipush 48, 2) := by decide +kernel
theorem dX9_isDigit_3 : decode cX9_isDigit 3 = .ok (.if_icmp .lt 13, 3) := by decide +kernel
theorem dX9_isDigit_6 : decode cX9_isDigit 6 = .ok (.iload_n 0, 1) := by decide +kernel
theorem dX9_isDigit_7 : decode cX9_isDigit 7 = .ok (.bipush 57, 2) := by decide +kernel
theorem dX9_isDigit_9 : decode cX9_isDigit 9 = .ok (.if_icmp .gt 7, 3) := by decide +kernel
theorem dX9_isDigit_12 : decode cX9_isDigit 12 = .ok (.iconst 1, 1) := by decide +kernel
theorem dX9_isDigit_13 : decode cX9_isDigit 13 = .ok (.goto 4, 3) := by decide +kernel
theorem dX9_isDigit_16 : decode cX9_isDigit 16 = .ok (.iconst 0, 1) := by decide +kernel
theorem dX9_isDigit_17 : decode cX9_isDigit 17 = .ok (.ireturn, 1) := by decide +kernel
abbrev M_X9_isDigit : MRec := (yX9_isDigit, cX9_isDigit, 1, (some Jvm.ClassFile.FieldType.boolean), [])
theorem m_X9_isDigit : en_M M_X9_isDigit 1 := ⟨t_921, t_3, ⟨by decide +kernel, by decide +kernel⟩, by decide +kernel, by decide +kernel, by decide +kernel⟩
theorem dX9_behindWord_0 : decode cX9_behindWord 0 = .ok (.aload_n 0, 1) := by decide +kernel
theorem dX9_behindWord_1 : decode cX9_behindWord 1 = .ok (.getfield 44, 3) := by decide +kernel
theorem dX9_behindWord_4 : decode cX9_behindWord 4 = .ok (.istore_n 1, 1) := by decide +kernel
theorem dX9_behindWord_5 : decode cX9_behindWord 5 = .ok (.iload_n 1, 1) := by decide +kernel
theorem dX9_behindWord_6 : decode cX9_behindWord 6 = .ok (.aload_n 0, 1) := by decide +kernel
theorem dX9_behindWord_7 : decode cX9_behindWord 7 = .ok (.getfield 41, 3) := by decide +kernel
theorem dX9_behindWord_10 : decode cX9_behindWord 10 = .ok (.if_icmp .ge 21, 3) := by decide +kernel
theorem dX9_behindWord_13 : decode cX9_behindWord 13 = .ok (.aload_n 0, 1) := by decide +kernel
theorem dX9_behindWord_14 : decode cX9_behindWord 14 = .ok (.getfield 22, 3) := by decide +kernel
theorem dX9_behindWord_17 : decode cX9_behindWord 17 = .ok (.iload_n 1, 1) := by decide +kernel
theorem dX9_behindWord_18 : decode cX9_behindWord 18 = .ok (.baload, 1) := by decide +kernel
theorem dX9_behindWord_19 : decode cX9_behindWord 19 = .ok (.invokestatic 80, 3) := by decide +kernel
theorem dX9_behindWord_22 : decode cX9_behindWord 22 = .ok (.ifCond .eq 9, 3) := by decide +kernel
theorem dX9_behindWord_25 : decode cX9_behindWord 25 = .ok (.iinc 1 1, 3) := by decide +kernel
theorem dX9_behindWord_28 : decode cX9_behindWord 28 = .ok (.goto (-23), 3) := by decide +kernel
theorem dX9_behindWord_31 : decode cX9_behindWord 31 = .ok (.iload_n 1, 1) := by decide +kernel
theorem dX9_behindWord_32 : decode cX9_behindWord 32 = .ok (.ireturn, 1) := by decide +kernel
abbrev M_X9_behindWord : MRec := (yX9_behindWord, cX9_behindWord, 2, (some Jvm.ClassFile.FieldType.int), [])
theorem m_X9_behindWord : en_M M_X9_behindWord 0 := ⟨t_822, t_3, ⟨by decide +kernel, by decide +kernel⟩, by decide +kernel, by decide +kernel, by decide +kernel⟩
theorem dX9_openLevel_0 : decode cX9_openLevel 0 = .ok (.aload_n 0, 1) := by decide +kernel
theorem dX9_openLevel_1 : decode cX9_openLevel 1 = .ok (.getfield 47, 3) := by decide +kernel
theorem dX9_openLevel_4 : decode cX9_openLevel 4 = .ok (.bipush 64, 2) := by decide +kernel
theorem dX9_openLevel_6 : decode cX9_openLevel 6 = .ok (.if_icmp .lt 10, 3) := by decide +kernel
theorem dX9_openLevel_9 : decode cX9_openLevel 9 = .ok (.aload_n 0, 1) := by decide +kernel
theorem dX9_openLevel_10 : decode cX9_openLevel 10 = .ok (.bipush 6, 2) := by decide +kernel
theorem dX9_openLevel_12 : decode cX9_openLevel 12 = .ok (.invokevirtual 72, 3) := by decide +kernel
theorem dX9_openLevel_15 : decode cX9_openLevel 15 = .ok (.ireturn, 1) := by decide +kernel
theorem dX9_openLevel_16 : decode cX9_openLevel 16 = .ok (.aload_n 0, 1) := by decide +kernel
theorem dX9_openLevel_17 : decode cX9_openLevel 17 = .ok (.getfield 9, 3) := by decide +kernel
theorem dX9_openLevel_20 : decode cX9_openLevel 20 = .ok (.aload_n 0, 1) := by decide +kernel
theorem dX9_openLevel_21 : decode cX9_openLevel 21 = .ok (.getfield 47, 3) := by decide +kernel
theorem dX9_openLevel_24 : decode cX9_openLevel 24 = .ok (.iload_n 1, 1) := by decide +kernel
theorem dX9_openLevel_25 : decode cX9_openLevel 25 = .ok (.iastore, 1) := by decide +kernel
theorem dX9_openLevel_26 : decode cX9_openLevel 26 = .ok (.aload_n 0, 1) := by decide +kernel
theorem dX9_openLevel_27 : decode cX9_openLevel 27 = .ok (.getfield 15, 3) := by decide +kernel
theorem dX9_openLevel_30 : decode cX9_openLevel 30 = .ok (.aload_n 0, 1) := by decide +kernel
theorem dX9_openLevel_31 : decode cX9_openLevel 31 = .ok (.getfield 47, 3) := by decide +kernel
theorem dX9_openLevel_34 : decode cX9_openLevel 34 = .ok (.aload_n 0, 1) := by decide +kernel
theorem dX9_openLevel_35 : decode cX9_openLevel 35 = .ok (.getfield 26, 3) := by decide +kernel
theorem dX9_openLevel_38 : decode cX9_openLevel 38 = .ok (.getfield 142, 3) := by decide +kernel
theorem dX9_openLevel_41 : decode cX9_openLevel 41 = .ok (.iconst 1, 1) := by decide +kernel
theorem dX9_openLevel_42 : decode cX9_openLevel 42 = .ok (.isub, 1) := by decide +kernel
theorem dX9_openLevel_43 : decode cX9_openLevel 43 = .ok (.iastore, 1) := by decide +kernel
theorem dX9_openLevel_44 : decode cX9_openLevel 44 = .ok (.aload_n 0, 1) := by decide +kernel
theorem dX9_openLevel_45 : decode cX9_openLevel 45 = .ok (.dup, 1) := by decide +kernel
theorem dX9_openLevel_46 : decode cX9_openLevel 46 = .ok (.getfield 47, 3) := by decide +kernel
theorem dX9_openLevel_49 : decode cX9_openLevel 49 = .ok (.iconst 1, 1) := by decide +kernel
theorem dX9_openLevel_50 : decode cX9_openLevel 50 = .ok (.iadd, 1) := by decide +kernel
theorem dX9_openLevel_51 : decode cX9_openLevel 51 = .ok (.putfield 47, 3) := by decide +kernel
theorem dX9_openLevel_54 : decode cX9_openLevel 54 = .ok (.iload_n 1, 1) := by decide +kernel
theorem dX9_openLevel_55 : decode cX9_openLevel 55 = .ok (.bipush 7, 2) := by decide +kernel
theorem dX9_openLevel_57 : decode cX9_openLevel 57 = .ok (.if_icmp .ne 13, 3) := by decide +kernel
theorem dX9_openLevel_60 : decode cX9_openLevel 60 = .ok (.aload_n 0, 1) := by decide +kernel
theorem dX9_openLevel_61 : decode cX9_openLevel 61 = .ok (.dup, 1) := by decide +kernel
theorem dX9_openLevel_62 : decode cX9_openLevel 62 = .ok (.getfield 50, 3) := by decide +kernel
theorem dX9_openLevel_65 : decode cX9_openLevel 65 = .ok (.iconst 1, 1) := by decide +kernel
theorem dX9_openLevel_66 : decode cX9_openLevel 66 = .ok (.iadd, 1) := by decide +kernel
theorem dX9_openLevel_67 : decode cX9_openLevel 67 = .ok (.putfield 50, 3) := by decide +kernel
theorem dX9_openLevel_70 : decode cX9_openLevel 70 = .ok (.aload_n 0, 1) := by decide +kernel
theorem dX9_openLevel_71 : decode cX9_openLevel 71 = .ok (.dup, 1) := by decide +kernel
theorem dX9_openLevel_72 : decode cX9_openLevel 72 = .ok (.getfield 44, 3) := by decide +kernel
theorem dX9_openLevel_75 : decode cX9_openLevel 75 = .ok (.iconst 1, 1) := by decide +kernel
theorem dX9_openLevel_76 : decode cX9_openLevel 76 = .ok (.iadd, 1) := by decide +kernel
theorem dX9_openLevel_77 : decode cX9_openLevel 77 = .ok (.putfield 44, 3) := by decide +kernel
theorem dX9_openLevel_80 : decode cX9_openLevel 80 = .ok (.iconst 1, 1) := by decide +kernel
theorem dX9_openLevel_81 : decode cX9_openLevel 81 = .ok (.ireturn, 1) := by decide +kernel
abbrev M_X9_openLevel : MRec := (yX9_openLevel, cX9_openLevel, 2, (some Jvm.ClassFile.FieldType.boolean), [])
theorem m_X9_openLevel : en_M M_X9_openLevel 1 := ⟨t_882, t_3, ⟨by decide +kernel, by decide +kernel⟩, by decide +kernel, by decide +kernel, by decide +kernel⟩
theorem dX9_readRing_0 : decode cX9_readRing 0 = .ok (.aload_n 0, 1) := by decide +kernel
theorem dX9_readRing_1 : decode cX9_readRing 1 = .ok (.invokevirtual 69, 3) := by decide +kernel
theorem dX9_readRing_4 : decode cX9_readRing 4 = .ok (.aload_n 0, 1) := by decide +kernel
theorem dX9_readRing_5 : decode cX9_readRing 5 = .ok (.getfield 26, 3) := by decide +kernel
theorem dX9_readRing_8 : decode cX9_readRing 8 = .ok (.iconst 0, 1) := by decide +kernel
theorem dX9_readRing_9 : decode cX9_readRing 9 = .ok (.invokevirtual 136, 3) := by decide +kernel
theorem dX9_readRing_12 : decode cX9_readRing 12 = .ok (.ifCond .ne 10, 3) := by decide +kernel
theorem dX9_readRing_15 : decode cX9_readRing 15 = .ok (.aload_n 0, 1) := by decide +kernel
theorem dX9_readRing_16 : decode cX9_readRing 16 = .ok (.bipush 7, 2) := by decide +kernel
theorem dX9_readRing_18 : decode cX9_readRing 18 = .ok (.invokevirtual 72, 3) := by decide +kernel
theorem dX9_readRing_21 : decode cX9_readRing 21 = .ok (.ireturn, 1) := by decide +kernel
theorem dX9_readRing_22 : decode cX9_readRing 22 = .ok (.aload_n 0, 1) := by decide +kernel
theorem dX9_readRing_23 : decode cX9_readRing 23 = .ok (.aload_n 0, 1) := by decide +kernel
theorem dX9_readRing_24 : decode cX9_readRing 24 = .ok (.getfield 44, 3) := by decide +kernel
theorem dX9_readRing_27 : decode cX9_readRing 27 = .ok (.invokevirtual 76, 3) := by decide +kernel
theorem dX9_readRing_30 : decode cX9_readRing 30 = .ok (.bipush 40, 2) := by decide +kernel
theorem dX9_readRing_32 : decode cX9_readRing 32 = .ok (.if_icmp .ne 12, 3) := by decide +kernel
theorem dX9_readRing_35 : decode cX9_readRing 35 = .ok (.aload_n 0, 1) := by decide +kernel
theorem dX9_readRing_36 : decode cX9_readRing 36 = .ok (.bipush 8, 2) := by decide +kernel
theorem dX9_readRing_38 : decode cX9_readRing 38 = .ok (.invokevirtual 139, 3) := by decide +kernel
theorem dX9_readRing_41 : decode cX9_readRing 41 = .ok (.goto 7, 3) := by decide +kernel
theorem dX9_readRing_44 : decode cX9_readRing 44 = .ok (.aload_n 0, 1) := by decide +kernel
theorem dX9_readRing_45 : decode cX9_readRing 45 = .ok (.invokevirtual 111, 3) := by decide +kernel
theorem dX9_readRing_48 : decode cX9_readRing 48 = .ok (.ireturn, 1) := by decide +kernel
abbrev M_X9_readRing : MRec := (yX9_readRing, cX9_readRing, 1, (some Jvm.ClassFile.FieldType.boolean), [])
theorem m_X9_readRing : en_M M_X9_readRing 0 := ⟨t_891, t_3, ⟨by decide +kernel, by decide +kernel⟩, by decide +kernel, by decide +kernel, by decide +kernel⟩
theorem dX9_goOnBehindItem_0 : decode cX9_goOnBehindItem 0 = .ok (.aload_n 0, 1) := by decide +kernel
theorem dX9_goOnBehindItem_1 : decode cX9_goOnBehindItem 1 = .ok (.getfield 47, 3) := by decide +kernel
theorem dX9_goOnBehindItem_4 : decode cX9_goOnBehindItem 4 = .ok (.ifCond .le 101, 3) := by decide +kernel
theorem dX9_goOnBehindItem_7 : decode cX9_goOnBehindItem 7 = .ok (.aload_n 0, 1) := by decide +kernel
theorem dX9_goOnBehindItem_8 : decode cX9_goOnBehindItem 8 = .ok (.invokevirtual 69, 3) := by decide +kernel
theorem dX9_goOnBehindItem_11 : decode cX9_goOnBehindItem 11 = .ok (.aload_n 0, 1) := by decide +kernel
theorem dX9_goOnBehindItem_12 : decode cX9_goOnBehindItem 12 = .ok (.getfield 9, 3) := by decide +kernel
theorem dX9_goOnBehindItem_15 : decode cX9_goOnBehindItem 15 = .ok (.aload_n 0, 1) := by decide +kernel
theorem dX9_goOnBehindItem_16 : decode cX9_goOnBehindItem 16 = .ok (.getfield 47, 3) := by decide +kernel
theorem dX9_goOnBehindItem_19 : decode cX9_goOnBehindItem 19 = .ok (.iconst 1, 1) := by decide +kernel
theorem dX9_goOnBehindItem_20 : decode cX9_goOnBehindItem 20 = .ok (.isub, 1) := by decide +kernel
theorem dX9_goOnBehindItem_21 : decode cX9_goOnBehindItem 21 = .ok (.iaload, 1) := by decide +kernel
theorem dX9_goOnBehindItem_22 : decode cX9_goOnBehindItem 22 = .ok (.istore_n 1, 1) := by decide +kernel
theorem dX9_goOnBehindItem_23 : decode cX9_goOnBehindItem 23 = .ok (.aload_n 0, 1) := by decide +kernel
theorem dX9_goOnBehindItem_24 : decode cX9_goOnBehindItem 24 = .ok (.aload_n 0, 1) := by decide +kernel
theorem dX9_goOnBehindItem_25 : decode cX9_goOnBehindItem 25 = .ok (.getfield 44, 3) := by decide +kernel
theorem dX9_goOnBehindItem_28 : decode cX9_goOnBehindItem 28 = .ok (.invokevirtual 76, 3) := by decide +kernel
theorem dX9_goOnBehindItem_31 : decode cX9_goOnBehindItem 31 = .ok (.istore_n 2, 1) := by decide +kernel
theorem dX9_goOnBehindItem_32 : decode cX9_goOnBehindItem 32 = .ok (.iload_n 2, 1) := by decide +kernel
theorem dX9_goOnBehindItem_33 : decode cX9_goOnBehindItem 33 = .ok (.bipush 44, 2) := by decide +kernel
theorem dX9_goOnBehindItem_35 : decode cX9_goOnBehindItem 35 = .ok (.if_icmp .ne 20, 3) := by decide +kernel
theorem dX9_goOnBehindItem_38 : decode cX9_goOnBehindItem 38 = .ok (.iload_n 1, 1) := by decide +kernel
theorem dX9_goOnBehindItem_39 : decode cX9_goOnBehindItem 39 = .ok (.iconst 1, 1) := by decide +kernel
theorem dX9_goOnBehindItem_40 : decode cX9_goOnBehindItem 40 = .ok (.if_icmp .eq 15, 3) := by decide +kernel
theorem dX9_goOnBehindItem_43 : decode cX9_goOnBehindItem 43 = .ok (.aload_n 0, 1) := by decide +kernel
theorem dX9_goOnBehindItem_44 : decode cX9_goOnBehindItem 44 = .ok (.dup, 1) := by decide +kernel
theorem dX9_goOnBehindItem_45 : decode cX9_goOnBehindItem 45 = .ok (.getfield 44, 3) := by decide +kernel
theorem dX9_goOnBehindItem_48 : decode cX9_goOnBehindItem 48 = .ok (.iconst 1, 1) := by decide +kernel
theorem dX9_goOnBehindItem_49 : decode cX9_goOnBehindItem 49 = .ok (.iadd, 1) := by decide +kernel
theorem dX9_goOnBehindItem_50 : decode cX9_goOnBehindItem 50 = .ok (.putfield 44, 3) := by decide +kernel
theorem dX9_goOnBehindItem_53 : decode cX9_goOnBehindItem 53 = .ok (.iconst 1, 1) := by decide +kernel
theorem dX9_goOnBehindItem_54 : decode cX9_goOnBehindItem 54 = .ok (.ireturn, 1) := by decide +kernel
theorem dX9_goOnBehindItem_55 : decode cX9_goOnBehindItem 55 = .ok (.iload_n 2, 1) := by decide +kernel
theorem dX9_goOnBehindItem_56 : decode cX9_goOnBehindItem 56 = .ok (.bipush 41, 2) := by decide +kernel
theorem dX9_goOnBehindItem_58 : decode cX9_goOnBehindItem 58 = .ok (.if_icmp .eq 8, 3) := by decide +kernel
theorem dX9_goOnBehindItem_61 : decode cX9_goOnBehindItem 61 = .ok (.aload_n 0, 1) := by decide +kernel
theorem dX9_goOnBehindItem_62 : decode cX9_goOnBehindItem 62 = .ok (.invokevirtual 111, 3) := by decide +kernel
theorem dX9_goOnBehindItem_65 : decode cX9_goOnBehindItem 65 = .ok (.ireturn, 1) := by decide +kernel
theorem dX9_goOnBehindItem_66 : decode cX9_goOnBehindItem 66 = .ok (.aload_n 0, 1) := by decide +kernel
theorem dX9_goOnBehindItem_67 : decode cX9_goOnBehindItem 67 = .ok (.dup, 1) := by decide +kernel
theorem dX9_goOnBehindItem_68 : decode cX9_goOnBehindItem 68 = .ok (.getfield 44, 3) := by decide +kernel
theorem dX9_goOnBehindItem_71 : decode cX9_goOnBehindItem 71 = .ok (.iconst 1, 1) := by decide +kernel
theorem dX9_goOnBehindItem_72 : decode cX9_goOnBehindItem 72 = .ok (.iadd, 1) := by decide +kernel
theorem dX9_goOnBehindItem_73 : decode cX9_goOnBehindItem 73 = .ok (.putfield 44, 3) := by decide +kernel
theorem dX9_goOnBehindItem_76 : decode cX9_goOnBehindItem 76 = .ok (.aload_n 0, 1) := by decide +kernel
theorem dX9_goOnBehindItem_77 : decode cX9_goOnBehindItem 77 = .ok (.dup, 1) := by decide +kernel
theorem dX9_goOnBehindItem_78 : decode cX9_goOnBehindItem 78 = .ok (.getfield 47, 3) := by decide +kernel
theorem dX9_goOnBehindItem_81 : decode cX9_goOnBehindItem 81 = .ok (.iconst 1, 1) := by decide +kernel
theorem dX9_goOnBehindItem_82 : decode cX9_goOnBehindItem 82 = .ok (.isub, 1) := by decide +kernel
theorem dX9_goOnBehindItem_83 : decode cX9_goOnBehindItem 83 = .ok (.putfield 47, 3) := by decide +kernel
theorem dX9_goOnBehindItem_86 : decode cX9_goOnBehindItem 86 = .ok (.iload_n 1, 1) := by decide +kernel
theorem dX9_goOnBehindItem_87 : decode cX9_goOnBehindItem 87 = .ok (.bipush 7, 2) := by decide +kernel
theorem dX9_goOnBehindItem_89 : decode cX9_goOnBehindItem 89 = .ok (.if_icmp .ne 13, 3) := by decide +kernel
theorem dX9_goOnBehindItem_92 : decode cX9_goOnBehindItem 92 = .ok (.aload_n 0, 1) := by decide +kernel
theorem dX9_goOnBehindItem_93 : decode cX9_goOnBehindItem 93 = .ok (.dup, 1) := by decide +kernel
theorem dX9_goOnBehindItem_94 : decode cX9_goOnBehindItem 94 = .ok (.getfield 50, 3) := by decide +kernel
theorem dX9_goOnBehindItem_97 : decode cX9_goOnBehindItem 97 = .ok (.iconst 1, 1) := by decide +kernel
theorem dX9_goOnBehindItem_98 : decode cX9_goOnBehindItem 98 = .ok (.isub, 1) := by decide +kernel
theorem dX9_goOnBehindItem_99 : decode cX9_goOnBehindItem 99 = .ok (.putfield 50, 3) := by decide +kernel
theorem dX9_goOnBehindItem_102 : decode cX9_goOnBehindItem 102 = .ok (.goto (-102), 3) := by decide +kernel
theorem dX9_goOnBehindItem_105 : decode cX9_goOnBehindItem 105 = .ok (.iconst 1, 1) := by decide +kernel
theorem dX9_goOnBehindItem_106 : decode cX9_goOnBehindItem 106 = .ok (.ireturn, 1) := by decide +kernel
abbrev M_X9_goOnBehindItem : MRec := (yX9_goOnBehindItem, cX9_goOnBehindItem, 3, (some Jvm.ClassFile.FieldType.boolean), [])
theorem m_X9_goOnBehindItem : en_M M_X9_goOnBehindItem 0 := ⟨t_944, t_3, ⟨by decide +kernel, by decide +kernel⟩, by decide +kernel, by decide +kernel, by decide +kernel⟩
theorem dX9_digitsFrom_0 : decode cX9_digitsFrom 0 = .ok (.iload_n 1, 1) := by decide +kernel
theorem dX9_digitsFrom_1 : decode cX9_digitsFrom 1 = .ok (.istore_n 2, 1) := by decide +kernel
theorem dX9_digitsFrom_2 : decode cX9_digitsFrom 2 = .ok (.iload_n 2, 1) := by decide +kernel
theorem dX9_digitsFrom_3 : decode cX9_digitsFrom 3 = .ok (.aload_n 0, 1) := by decide +kernel
theorem dX9_digitsFrom_4 : decode cX9_digitsFrom 4 = .ok (.getfield 41, 3) := by decide +kernel
theorem dX9_digitsFrom_7 : decode cX9_digitsFrom 7 = .ok (.if_icmp .ge 20, 3) := by decide +kernel
theorem dX9_digitsFrom_10 : decode cX9_digitsFrom 10 = .ok (.aload_n 0, 1) := by decide +kernel
theorem dX9_digitsFrom_11 : decode cX9_digitsFrom 11 = .ok (.iload_n 2, 1) := by decide +kernel
theorem dX9_digitsFrom_12 : decode cX9_digitsFrom 12 = .ok (.invokevirtual 76, 3) := by decide +kernel
theorem dX9_digitsFrom_15 : decode cX9_digitsFrom 15 = .ok (.invokestatic 174, 3) := by decide +kernel
theorem dX9_digitsFrom_18 : decode cX9_digitsFrom 18 = .ok (.ifCond .eq 9, 3) := by decide +kernel
theorem dX9_digitsFrom_21 : decode cX9_digitsFrom 21 = .ok (.iinc 2 1, 3) := by decide +kernel
theorem dX9_digitsFrom_24 : decode cX9_digitsFrom 24 = .ok (.goto (-22), 3) := by decide +kernel
theorem dX9_digitsFrom_27 : decode cX9_digitsFrom 27 = .ok (.iload_n 2, 1) := by decide +kernel
theorem dX9_digitsFrom_28 : decode cX9_digitsFrom 28 = .ok (.iload_n 1, 1) := by decide +kernel
theorem dX9_digitsFrom_29 : decode cX9_digitsFrom 29 = .ok (.isub, 1) := by decide +kernel
theorem dX9_digitsFrom_30 : decode cX9_digitsFrom 30 = .ok (.ireturn, 1) := by decide +kernel
abbrev M_X9_digitsFrom : MRec := (yX9_digitsFrom, cX9_digitsFrom, 3, (some Jvm.ClassFile.FieldType.int), [])
theorem m_X9_digitsFrom : en_M M_X9_digitsFrom 1 := ⟨t_918, t_3, ⟨by decide +kernel, by decide +kernel⟩, by decide +kernel, by decide +kernel, by decide +kernel⟩
theorem dX9_exponentFrom_0 : decode cX9_exponentFrom 0 = .ok (.iconst 0, 1) := by decide +kernel
theorem dX9_exponentFrom_1 : decode cX9_exponentFrom 1 = .ok (.istore_n 3, 1) := by decide +kernel
theorem dX9_exponentFrom_2 : decode cX9_exponentFrom 2 = .ok (.iconst 0, 1) := by decide +kernel
theorem dX9_exponentFrom_3 : decode cX9_exponentFrom 3 = .ok (.istore 4, 2) := by decide +kernel
theorem dX9_exponentFrom_5 : decode cX9_exponentFrom 5 = .ok (.iload 4, 2) := by decide +kernel
theorem dX9_exponentFrom_7 : decode cX9_exponentFrom 7 = .ok (.iload_n 2, 1) := by decide +kernel
theorem dX9_exponentFrom_8 : decode cX9_exponentFrom 8 = .ok (.if_icmp .ge 31, 3) := by decide +kernel
theorem dX9_exponentFrom_11 : decode cX9_exponentFrom 11 = .ok (.iload_n 3, 1) := by decide +kernel
theorem dX9_exponentFrom_12 : decode cX9_exponentFrom 12 = .ok (.bipush 10, 2) := by decide +kernel
theorem dX9_exponentFrom_14 : decode cX9_exponentFrom 14 = .ok (.imul, 1) := by decide +kernel
theorem dX9_exponentFrom_15 : decode cX9_exponentFrom 15 = .ok (.aload_n 0, 1) := by decide +kernel
theorem dX9_exponentFrom_16 : decode cX9_exponentFrom 16 = .ok (.iload_n 1, 1) := by decide +kernel
theorem dX9_exponentFrom_17 : decode cX9_exponentFrom 17 = .ok (.iload 4, 2) := by decide +kernel
theorem dX9_exponentFrom_19 : decode cX9_exponentFrom 19 = .ok (.iadd, 1) := by decide +kernel
theorem dX9_exponentFrom_20 : decode cX9_exponentFrom 20 = .ok (.invokevirtual 76, 3) := by decide +kernel
theorem dX9_exponentFrom_23 : decode cX9_exponentFrom 23 = .ok (.iadd, 1) := by decide +kernel
theorem dX9_exponentFrom_24 : decode cX9_exponentFrom 24 = .ok (.bipush 48, 2) := by decide +kernel
theorem dX9_exponentFrom_26 : decode cX9_exponentFrom 26 = .ok (.isub, 1) := by decide +kernel
theorem dX9_exponentFrom_27 : decode cX9_exponentFrom 27 = .ok (.ldc 177, 2) := by decide +kernel
theorem dX9_exponentFrom_29 : decode cX9_exponentFrom 29 = .ok (.invokestatic 35, 3) := by decide +kernel
theorem dX9_exponentFrom_32 : decode cX9_exponentFrom 32 = .ok (.istore_n 3, 1) := by decide +kernel
theorem dX9_exponentFrom_33 : decode cX9_exponentFrom 33 = .ok (.iinc 4 1, 3) := by decide +kernel
theorem dX9_exponentFrom_36 : decode cX9_exponentFrom 36 = .ok (.goto (-31), 3) := by decide +kernel
theorem dX9_exponentFrom_39 : decode cX9_exponentFrom 39 = .ok (.iload_n 3, 1) := by decide +kernel
theorem dX9_exponentFrom_40 : decode cX9_exponentFrom 40 = .ok (.ireturn, 1) := by decide +kernel
abbrev M_X9_exponentFrom : MRec := (yX9_exponentFrom, cX9_exponentFrom, 5, (some Jvm.ClassFile.FieldType.int), [])
theorem m_X9_exponentFrom : en_M M_X9_exponentFrom 2 := ⟨t_925, t_3, ⟨by decide +kernel, by decide +kernel⟩, by decide +kernel, by decide +kernel, by decide +kernel⟩
theorem dX9_isSign_0 : decode cX9_isSign 0 = .ok (.iload_n 0, 1) := by decide +kernel
theorem dX9_isSign_1 : decode cX9_isSign 1 = .ok (.bipush 43, 2) := by decide +kernel
theorem dX9_isSign_3 : decode cX9_isSign 3 = .ok (.if_icmp .eq 9, 3) := by decide +kernel
theorem dX9_isSign_6 : decode cX9_isSign 6 = .ok (.iload_n 0, 1) := by decide +kernel
theorem dX9_isSign_7 : decode cX9_isSign 7 = .ok (.bipush 45, 2) := by decide +kernel
theorem dX9_isSign_9 : decode cX9_isSign 9 = .ok (.if_icmp .ne 7, 3) := by decide +kernel
theorem dX9_isSign_12 : decode cX9_isSign 12 = .ok (.iconst 1, 1) := by decide +kernel
theorem dX9_isSign_13 : decode cX9_isSign 13 = .ok (.goto 4, 3) := by decide +kernel
theorem dX9_isSign_16 : decode cX9_isSign 16 = .ok (.iconst 0, 1) := by decide +kernel
theorem dX9_isSign_17 : decode cX9_isSign 17 = .ok (.ireturn, 1) := by decide +kernel
abbrev M_X9_isSign : MRec := (yX9_isSign, cX9_isSign, 1, (some Jvm.ClassFile.FieldType.boolean), [])
theorem m_X9_isSign : en_M M_X9_isSign 1 := ⟨t_914, t_3, ⟨by decide +kernel, by decide +kernel⟩, by decide +kernel, by decide +kernel, by decide +kernel⟩
theorem dX9_roundedFrom_0 : decode cX9_roundedFrom 0 = .ok (.iload_n 2, 1) := by decide +kernel
theorem dX9_roundedFrom_1 : decode cX9_roundedFrom 1 = .ok (.iload 4, 2) := by decide +kernel
theorem dX9_roundedFrom_3 : decode cX9_roundedFrom 3 = .ok (.iadd, 1) := by decide +kernel
theorem dX9_roundedFrom_4 : decode cX9_roundedFrom 4 = .ok (.istore 5, 2) := by decide +kernel
theorem dX9_roundedFrom_6 : decode cX9_roundedFrom 6 = .ok (.lconst 0, 1) := by decide +kernel
theorem dX9_roundedFrom_7 : decode cX9_roundedFrom 7 = .ok (.lstore 6, 2) := by decide +kernel
theorem dX9_roundedFrom_9 : decode cX9_roundedFrom 9 = .ok (.iconst 0, 1) := by decide +kernel
theorem dX9_roundedFrom_10 : decode cX9_roundedFrom 10 = .ok (.istore 8, 2) := by decide +kernel
theorem dX9_roundedFrom_12 : decode cX9_roundedFrom 12 = .ok (.iconst 0, 1) := by decide +kernel
theorem dX9_roundedFrom_13 : decode cX9_roundedFrom 13 = .ok (.istore 9, 2) := by decide +kernel
theorem dX9_roundedFrom_15 : decode cX9_roundedFrom 15 = .ok (.iconst 0, 1) := by decide +kernel
theorem dX9_roundedFrom_16 : decode cX9_roundedFrom 16 = .ok (.istore 10, 2) := by decide +kernel
theorem dX9_roundedFrom_18 : decode cX9_roundedFrom 18 = .ok (.iload 10, 2) := by decide +kernel
theorem dX9_roundedFrom_20 : decode cX9_roundedFrom 20 = .ok (.iload_n 2, 1) := by decide +kernel
theorem dX9_roundedFrom_21 : decode cX9_roundedFrom 21 = .ok (.iload_n 3, 1) := by decide +kernel
theorem dX9_roundedFrom_22 : decode cX9_roundedFrom 22 = .ok (.iadd, 1) := by decide +kernel
theorem dX9_roundedFrom_23 : decode cX9_roundedFrom 23 = .ok (.if_icmp .ge 87, 3) := by decide +kernel
theorem dX9_roundedFrom_26 : decode cX9_roundedFrom 26 = .ok (.aload_n 0, 1) := by decide +kernel
theorem dX9_roundedFrom_27 : decode cX9_roundedFrom 27 = .ok (.iload 10, 2) := by decide +kernel
theorem dX9_roundedFrom_29 : decode cX9_roundedFrom 29 = .ok (.iload_n 2, 1) := by decide +kernel
theorem dX9_roundedFrom_30 : decode cX9_roundedFrom 30 = .ok (.if_icmp .ge 10, 3) := by decide +kernel
theorem dX9_roundedFrom_33 : decode cX9_roundedFrom 33 = .ok (.iload_n 1, 1) := by decide +kernel
theorem dX9_roundedFrom_34 : decode cX9_roundedFrom 34 = .ok (.iload 10, 2) := by decide +kernel
theorem dX9_roundedFrom_36 : decode cX9_roundedFrom 36 = .ok (.iadd, 1) := by decide +kernel
theorem dX9_roundedFrom_37 : decode cX9_roundedFrom 37 = .ok (.goto 9, 3) := by decide +kernel
theorem dX9_roundedFrom_40 : decode cX9_roundedFrom 40 = .ok (.iload_n 1, 1) := by decide +kernel
theorem dX9_roundedFrom_41 : decode cX9_roundedFrom 41 = .ok (.iload 10, 2) := by decide +kernel
theorem dX9_roundedFrom_43 : decode cX9_roundedFrom 43 = .ok (.iadd, 1) := by decide +kernel
theorem dX9_roundedFrom_44 : decode cX9_roundedFrom 44 = .ok (.iconst 1, 1) := by decide +kernel
theorem dX9_roundedFrom_45 : decode cX9_roundedFrom 45 = .ok (.iadd, 1) := by decide +kernel
theorem dX9_roundedFrom_46 : decode cX9_roundedFrom 46 = .ok (.invokevirtual 76, 3) := by decide +kernel
theorem dX9_roundedFrom_49 : decode cX9_roundedFrom 49 = .ok (.bipush 48, 2) := by decide +kernel
theorem dX9_roundedFrom_51 : decode cX9_roundedFrom 51 = .ok (.isub, 1) := by decide +kernel
theorem dX9_roundedFrom_52 : decode cX9_roundedFrom 52 = .ok (.istore 11, 2) := by decide +kernel
theorem dX9_roundedFrom_54 : decode cX9_roundedFrom 54 = .ok (.iload 10, 2) := by decide +kernel
theorem dX9_roundedFrom_56 : decode cX9_roundedFrom 56 = .ok (.iload 5, 2) := by decide +kernel
theorem dX9_roundedFrom_58 : decode cX9_roundedFrom 58 = .ok (.if_icmp .ge 24, 3) := by decide +kernel
theorem dX9_roundedFrom_61 : decode cX9_roundedFrom 61 = .ok (.lload 6, 2) := by decide +kernel
theorem dX9_roundedFrom_63 : decode cX9_roundedFrom 63 = .ok (.ldc2_w 178, 3) := by decide +kernel
theorem dX9_roundedFrom_66 : decode cX9_roundedFrom 66 = .ok (.lmul, 1) := by decide +kernel
theorem dX9_roundedFrom_67 : decode cX9_roundedFrom 67 = .ok (.iload 11, 2) := by decide +kernel
theorem dX9_roundedFrom_69 : decode cX9_roundedFrom 69 = .ok (.i2l, 1) := by decide +kernel
theorem dX9_roundedFrom_70 : decode cX9_roundedFrom 70 = .ok (.ladd, 1) := by decide +kernel
theorem dX9_roundedFrom_71 : decode cX9_roundedFrom 71 = .ok (.ldc2_w 180, 3) := by decide +kernel
theorem dX9_roundedFrom_74 : decode cX9_roundedFrom 74 = .ok (.invokestatic 182, 3) := by decide +kernel
theorem dX9_roundedFrom_77 : decode cX9_roundedFrom 77 = .ok (.lstore 6, 2) := by decide +kernel
theorem dX9_roundedFrom_79 : decode cX9_roundedFrom 79 = .ok (.goto 25, 3) := by decide +kernel
theorem dX9_roundedFrom_82 : decode cX9_roundedFrom 82 = .ok (.iload 10, 2) := by decide +kernel
theorem dX9_roundedFrom_84 : decode cX9_roundedFrom 84 = .ok (.iload 5, 2) := by decide +kernel
theorem dX9_roundedFrom_86 : decode cX9_roundedFrom 86 = .ok (.if_icmp .ne 10, 3) := by decide +kernel
theorem dX9_roundedFrom_89 : decode cX9_roundedFrom 89 = .ok (.iload 11, 2) := by decide +kernel
theorem dX9_roundedFrom_91 : decode cX9_roundedFrom 91 = .ok (.istore 8, 2) := by decide +kernel
theorem dX9_roundedFrom_93 : decode cX9_roundedFrom 93 = .ok (.goto 11, 3) := by decide +kernel
theorem dX9_roundedFrom_96 : decode cX9_roundedFrom 96 = .ok (.iload 11, 2) := by decide +kernel
theorem dX9_roundedFrom_98 : decode cX9_roundedFrom 98 = .ok (.ifCond .eq 6, 3) := by decide +kernel
theorem dX9_roundedFrom_101 : decode cX9_roundedFrom 101 = .ok (.iconst 1, 1) := by decide +kernel
theorem dX9_roundedFrom_102 : decode cX9_roundedFrom 102 = .ok (.istore 9, 2) := by decide +kernel
theorem dX9_roundedFrom_104 : decode cX9_roundedFrom 104 = .ok (.iinc 10 1, 3) := by decide +kernel
theorem dX9_roundedFrom_107 : decode cX9_roundedFrom 107 = .ok (.goto (-89), 3) := by decide +kernel
theorem dX9_roundedFrom_110 : decode cX9_roundedFrom 110 = .ok (.iload_n 2, 1) := by decide +kernel
theorem dX9_roundedFrom_111 : decode cX9_roundedFrom 111 = .ok (.iload_n 3, 1) := by decide +kernel
theorem dX9_roundedFrom_112 : decode cX9_roundedFrom 112 = .ok (.iadd, 1) := by decide +kernel
theorem dX9_roundedFrom_113 : decode cX9_roundedFrom 113 = .ok (.istore 10, 2) := by decide +kernel
theorem dX9_roundedFrom_115 : decode cX9_roundedFrom 115 = .ok (.iload 10, 2) := by decide +kernel
theorem dX9_roundedFrom_117 : decode cX9_roundedFrom 117 = .ok (.iload 5, 2) := by decide +kernel
theorem dX9_roundedFrom_119 : decode cX9_roundedFrom 119 = .ok (.if_icmp .ge 39, 3) := by decide +kernel
theorem dX9_roundedFrom_122 : decode cX9_roundedFrom 122 = .ok (.lload 6, 2) := by decide +kernel
theorem dX9_roundedFrom_124 : decode cX9_roundedFrom 124 = .ok (.lconst 0, 1) := by decide +kernel
theorem dX9_roundedFrom_125 : decode cX9_roundedFrom 125 = .ok (.lcmp, 1) := by decide +kernel
theorem dX9_roundedFrom_126 : decode cX9_roundedFrom 126 = .ok (.ifCond .le 32, 3) := by decide +kernel
theorem dX9_roundedFrom_129 : decode cX9_roundedFrom 129 = .ok (.lload 6, 2) := by decide +kernel
theorem dX9_roundedFrom_131 : decode cX9_roundedFrom 131 = .ok (.ldc2_w 180, 3) := by decide +kernel
theorem dX9_roundedFrom_134 : decode cX9_roundedFrom 134 = .ok (.lcmp, 1) := by decide +kernel
theorem dX9_roundedFrom_135 : decode cX9_roundedFrom 135 = .ok (.ifCond .ge 23, 3) := by decide +kernel
theorem dX9_roundedFrom_138 : decode cX9_roundedFrom 138 = .ok (.lload 6, 2) := by decide +kernel
theorem dX9_roundedFrom_140 : decode cX9_roundedFrom 140 = .ok (.ldc2_w 178, 3) := by decide +kernel
theorem dX9_roundedFrom_143 : decode cX9_roundedFrom 143 = .ok (.lmul, 1) := by decide +kernel
theorem dX9_roundedFrom_144 : decode cX9_roundedFrom 144 = .ok (.ldc2_w 180, 3) := by decide +kernel
theorem dX9_roundedFrom_147 : decode cX9_roundedFrom 147 = .ok (.invokestatic 182, 3) := by decide +kernel
theorem dX9_roundedFrom_150 : decode cX9_roundedFrom 150 = .ok (.lstore 6, 2) := by decide +kernel
theorem dX9_roundedFrom_152 : decode cX9_roundedFrom 152 = .ok (.iinc 10 1, 3) := by decide +kernel
theorem dX9_roundedFrom_155 : decode cX9_roundedFrom 155 = .ok (.goto (-40), 3) := by decide +kernel
theorem dX9_roundedFrom_158 : decode cX9_roundedFrom 158 = .ok (.iload 8, 2) := by decide +kernel
theorem dX9_roundedFrom_160 : decode cX9_roundedFrom 160 = .ok (.iconst 5, 1) := by decide +kernel
theorem dX9_roundedFrom_161 : decode cX9_roundedFrom 161 = .ok (.if_icmp .gt 23, 3) := by decide +kernel
theorem dX9_roundedFrom_164 : decode cX9_roundedFrom 164 = .ok (.iload 8, 2) := by decide +kernel
theorem dX9_roundedFrom_166 : decode cX9_roundedFrom 166 = .ok (.iconst 5, 1) := by decide +kernel
theorem dX9_roundedFrom_167 : decode cX9_roundedFrom 167 = .ok (.if_icmp .ne 21, 3) := by decide +kernel
theorem dX9_roundedFrom_170 : decode cX9_roundedFrom 170 = .ok (.iload 9, 2) := by decide +kernel
theorem dX9_roundedFrom_172 : decode cX9_roundedFrom 172 = .ok (.ifCond .ne 12, 3) := by decide +kernel
theorem dX9_roundedFrom_175 : decode cX9_roundedFrom 175 = .ok (.lload 6, 2) := by decide +kernel
theorem dX9_roundedFrom_177 : decode cX9_roundedFrom 177 = .ok (.lconst 1, 1) := by decide +kernel
theorem dX9_roundedFrom_178 : decode cX9_roundedFrom 178 = .ok (.land, 1) := by decide +kernel
theorem dX9_roundedFrom_179 : decode cX9_roundedFrom 179 = .ok (.lconst 1, 1) := by decide +kernel
theorem dX9_roundedFrom_180 : decode cX9_roundedFrom 180 = .ok (.lcmp, 1) := by decide +kernel
theorem dX9_roundedFrom_181 : decode cX9_roundedFrom 181 = .ok (.ifCond .ne 7, 3) := by decide +kernel
theorem dX9_roundedFrom_184 : decode cX9_roundedFrom 184 = .ok (.iconst 1, 1) := by decide +kernel
theorem dX9_roundedFrom_185 : decode cX9_roundedFrom 185 = .ok (.goto 4, 3) := by decide +kernel
theorem dX9_roundedFrom_188 : decode cX9_roundedFrom 188 = .ok (.iconst 0, 1) := by decide +kernel
theorem dX9_roundedFrom_189 : decode cX9_roundedFrom 189 = .ok (.istore 10, 2) := by decide +kernel
theorem dX9_roundedFrom_191 : decode cX9_roundedFrom 191 = .ok (.iload 10, 2) := by decide +kernel
theorem dX9_roundedFrom_193 : decode cX9_roundedFrom 193 = .ok (.ifCond .eq 10, 3) := by decide +kernel
theorem dX9_roundedFrom_196 : decode cX9_roundedFrom 196 = .ok (.lload 6, 2) := by decide +kernel
theorem dX9_roundedFrom_198 : decode cX9_roundedFrom 198 = .ok (.lconst 1, 1) := by decide +kernel
theorem dX9_roundedFrom_199 : decode cX9_roundedFrom 199 = .ok (.ladd, 1) := by decide +kernel
theorem dX9_roundedFrom_200 : decode cX9_roundedFrom 200 = .ok (.goto 5, 3) := by decide +kernel
theorem dX9_roundedFrom_203 : decode cX9_roundedFrom 203 = .ok (.lload 6, 2) := by decide +kernel
theorem dX9_roundedFrom_205 : decode cX9_roundedFrom 205 = .ok (.lreturn, 1) := by decide +kernel
abbrev M_X9_roundedFrom : MRec := (yX9_roundedFrom, cX9_roundedFrom, 12, (some Jvm.ClassFile.FieldType.long), [])
theorem m_X9_roundedFrom : en_M M_X9_roundedFrom 4 := ⟨t_930, t_3, ⟨by decide +kernel, by decide +kernel⟩, by decide +kernel, by decide +kernel, by decide +kernel⟩
theorem dX9_readNumber_0 : decode cX9_readNumber 0 = .ok (.aload_n 0, 1) := by decide +kernel
theorem dX9_readNumber_1 : decode cX9_readNumber 1 = .ok (.invokevirtual 69, 3) := by decide +kernel
theorem dX9_readNumber_4 : decode cX9_readNumber 4 = .ok (.aload_n 0, 1) := by decide +kernel
theorem dX9_readNumber_5 : decode cX9_readNumber 5 = .ok (.aload_n 0, 1) := by decide +kernel
theorem dX9_readNumber_6 : decode cX9_readNumber 6 = .ok (.getfield 44, 3) := by decide +kernel
theorem dX9_readNumber_9 : decode cX9_readNumber 9 = .ok (.invokevirtual 76, 3) := by decide +kernel
theorem dX9_readNumber_12 : decode cX9_readNumber 12 = .ok (.istore_n 1, 1) := by decide +kernel
theorem dX9_readNumber_13 : decode cX9_readNumber 13 = .ok (.iload_n 1, 1) := by decide +kernel
theorem dX9_readNumber_14 : decode cX9_readNumber 14 = .ok (.invokestatic 83, 3) := by decide +kernel
theorem dX9_readNumber_17 : decode cX9_readNumber 17 = .ok (.ifCond .ne 8, 3) := by decide +kernel
theorem dX9_readNumber_20 : decode cX9_readNumber 20 = .ok (.aload_n 0, 1) := by decide +kernel
theorem dX9_readNumber_21 : decode cX9_readNumber 21 = .ok (.invokevirtual 111, 3) := by decide +kernel
theorem dX9_readNumber_24 : decode cX9_readNumber 24 = .ok (.ireturn, 1) := by decide +kernel
theorem dX9_readNumber_25 : decode cX9_readNumber 25 = .ok (.iload_n 1, 1) := by decide +kernel
theorem dX9_readNumber_26 : decode cX9_readNumber 26 = .ok (.invokestatic 159, 3) := by decide +kernel
theorem dX9_readNumber_29 : decode cX9_readNumber 29 = .ok (.ifCond .eq 12, 3) := by decide +kernel
theorem dX9_readNumber_32 : decode cX9_readNumber 32 = .ok (.aload_n 0, 1) := by decide +kernel
theorem dX9_readNumber_33 : decode cX9_readNumber 33 = .ok (.getfield 44, 3) := by decide +kernel
theorem dX9_readNumber_36 : decode cX9_readNumber 36 = .ok (.iconst 1, 1) := by decide +kernel
theorem dX9_readNumber_37 : decode cX9_readNumber 37 = .ok (.iadd, 1) := by decide +kernel
theorem dX9_readNumber_38 : decode cX9_readNumber 38 = .ok (.goto 7, 3) := by decide +kernel
theorem dX9_readNumber_41 : decode cX9_readNumber 41 = .ok (.aload_n 0, 1) := by decide +kernel
theorem dX9_readNumber_42 : decode cX9_readNumber 42 = .ok (.getfield 44, 3) := by decide +kernel
theorem dX9_readNumber_45 : decode cX9_readNumber 45 = .ok (.istore_n 2, 1) := by decide +kernel
theorem dX9_readNumber_46 : decode cX9_readNumber 46 = .ok (.aload_n 0, 1) := by decide +kernel
theorem dX9_readNumber_47 : decode cX9_readNumber 47 = .ok (.iload_n 2, 1) := by decide +kernel
theorem dX9_readNumber_48 : decode cX9_readNumber 48 = .ok (.invokevirtual 162, 3) := by decide +kernel
theorem dX9_readNumber_51 : decode cX9_readNumber 51 = .ok (.istore_n 3, 1) := by decide +kernel
theorem dX9_readNumber_52 : decode cX9_readNumber 52 = .ok (.iload_n 2, 1) := by decide +kernel
theorem dX9_readNumber_53 : decode cX9_readNumber 53 = .ok (.iload_n 3, 1) := by decide +kernel
theorem dX9_readNumber_54 : decode cX9_readNumber 54 = .ok (.iadd, 1) := by decide +kernel
theorem dX9_readNumber_55 : decode cX9_readNumber 55 = .ok (.istore 4, 2) := by decide +kernel
theorem dX9_readNumber_57 : decode cX9_readNumber 57 = .ok (.iconst 0, 1) := by decide +kernel
theorem dX9_readNumber_58 : decode cX9_readNumber 58 = .ok (.istore 5, 2) := by decide +kernel
theorem dX9_readNumber_60 : decode cX9_readNumber 60 = .ok (.aload_n 0, 1) := by decide +kernel
theorem dX9_readNumber_61 : decode cX9_readNumber 61 = .ok (.iload 4, 2) := by decide +kernel
theorem dX9_readNumber_63 : decode cX9_readNumber 63 = .ok (.invokevirtual 76, 3) := by decide +kernel
theorem dX9_readNumber_66 : decode cX9_readNumber 66 = .ok (.bipush 46, 2) := by decide +kernel
theorem dX9_readNumber_68 : decode cX9_readNumber 68 = .ok (.if_icmp .ne 22, 3) := by decide +kernel
theorem dX9_readNumber_71 : decode cX9_readNumber 71 = .ok (.aload_n 0, 1) := by decide +kernel
theorem dX9_readNumber_72 : decode cX9_readNumber 72 = .ok (.iload 4, 2) := by decide +kernel
theorem dX9_readNumber_74 : decode cX9_readNumber 74 = .ok (.iconst 1, 1) := by decide +kernel
theorem dX9_readNumber_75 : decode cX9_readNumber 75 = .ok (.iadd, 1) := by decide +kernel
theorem dX9_readNumber_76 : decode cX9_readNumber 76 = .ok (.invokevirtual 162, 3) := by decide +kernel
theorem dX9_readNumber_79 : decode cX9_readNumber 79 = .ok (.istore 5, 2) := by decide +kernel
theorem dX9_readNumber_81 : decode cX9_readNumber 81 = .ok (.iload 4, 2) := by decide +kernel
theorem dX9_readNumber_83 : decode cX9_readNumber 83 = .ok (.iconst 1, 1) := by decide +kernel
theorem dX9_readNumber_84 : decode cX9_readNumber 84 = .ok (.iload 5, 2) := by decide +kernel
theorem dX9_readNumber_86 : decode cX9_readNumber 86 = .ok (.iadd, 1) := by decide +kernel
theorem dX9_readNumber_87 : decode cX9_readNumber 87 = .ok (.iadd, 1) := by decide +kernel
theorem dX9_readNumber_88 : decode cX9_readNumber 88 = .ok (.istore 4, 2) := by decide +kernel
theorem dX9_readNumber_90 : decode cX9_readNumber 90 = .ok (.iload_n 3, 1) := by decide +kernel
theorem dX9_readNumber_91 : decode cX9_readNumber 91 = .ok (.iload 5, 2) := by decide +kernel
theorem dX9_readNumber_93 : decode cX9_readNumber 93 = .ok (.iadd, 1) := by decide +kernel
theorem dX9_readNumber_94 : decode cX9_readNumber 94 = .ok (.ifCond .le 7, 3) := by decide +kernel
theorem dX9_readNumber_97 : decode cX9_readNumber 97 = .ok (.iconst 1, 1) := by decide +kernel
theorem dX9_readNumber_98 : decode cX9_readNumber 98 = .ok (.goto 4, 3) := by decide +kernel
theorem dX9_readNumber_101 : decode cX9_readNumber 101 = .ok (.iconst 0, 1) := by decide +kernel
theorem dX9_readNumber_102 : decode cX9_readNumber 102 = .ok (.istore 6, 2) := by decide +kernel
theorem dX9_readNumber_104 : decode cX9_readNumber 104 = .ok (.iconst 0, 1) := by decide +kernel
theorem dX9_readNumber_105 : decode cX9_readNumber 105 = .ok (.istore 7, 2) := by decide +kernel
theorem dX9_readNumber_107 : decode cX9_readNumber 107 = .ok (.iload 6, 2) := by decide +kernel
theorem dX9_readNumber_109 : decode cX9_readNumber 109 = .ok (.ifCond .eq 114, 3) := by decide +kernel
theorem dX9_readNumber_112 : decode cX9_readNumber 112 = .ok (.aload_n 0, 1) := by decide +kernel
theorem dX9_readNumber_113 : decode cX9_readNumber 113 = .ok (.iload 4, 2) := by decide +kernel
theorem dX9_readNumber_115 : decode cX9_readNumber 115 = .ok (.invokevirtual 76, 3) := by decide +kernel
theorem dX9_readNumber_118 : decode cX9_readNumber 118 = .ok (.bipush 101, 2) := by decide +kernel
theorem dX9_readNumber_120 : decode cX9_readNumber 120 = .ok (.if_icmp .eq 14, 3) := by decide +kernel
theorem dX9_readNumber_123 : decode cX9_readNumber 123 = .ok (.aload_n 0, 1) := by decide +kernel
theorem dX9_readNumber_124 : decode cX9_readNumber 124 = .ok (.iload 4, 2) := by decide +kernel
theorem dX9_readNumber_126 : decode cX9_readNumber 126 = .ok (.invokevirtual 76, 3) := by decide +kernel
theorem dX9_readNumber_129 : decode cX9_readNumber 129 = .ok (.bipush 69, 2) := by decide +kernel
theorem dX9_readNumber_131 : decode cX9_readNumber 131 = .ok (.if_icmp .ne 92, 3) := by decide +kernel
theorem dX9_readNumber_134 : decode cX9_readNumber 134 = .ok (.aload_n 0, 1) := by decide +kernel
theorem dX9_readNumber_135 : decode cX9_readNumber 135 = .ok (.iload 4, 2) := by decide +kernel
theorem dX9_readNumber_137 : decode cX9_readNumber 137 = .ok (.iconst 1, 1) := by decide +kernel
theorem dX9_readNumber_138 : decode cX9_readNumber 138 = .ok (.iadd, 1) := by decide +kernel
theorem dX9_readNumber_139 : decode cX9_readNumber 139 = .ok (.invokevirtual 76, 3) := by decide +kernel
theorem dX9_readNumber_142 : decode cX9_readNumber 142 = .ok (.invokestatic 159, 3) := by decide +kernel
theorem dX9_readNumber_145 : decode cX9_readNumber 145 = .ok (.ifCond .eq 10, 3) := by decide +kernel
theorem dX9_readNumber_148 : decode cX9_readNumber 148 = .ok (.iload 4, 2) := by decide +kernel
theorem dX9_readNumber_150 : decode cX9_readNumber 150 = .ok (.iconst 2, 1) := by decide +kernel
theorem dX9_readNumber_151 : decode cX9_readNumber 151 = .ok (.iadd, 1) := by decide +kernel
theorem dX9_readNumber_152 : decode cX9_readNumber 152 = .ok (.goto 7, 3) := by decide +kernel
theorem dX9_readNumber_155 : decode cX9_readNumber 155 = .ok (.iload 4, 2) := by decide +kernel
theorem dX9_readNumber_157 : decode cX9_readNumber 157 = .ok (.iconst 1, 1) := by decide +kernel
theorem dX9_readNumber_158 : decode cX9_readNumber 158 = .ok (.iadd, 1) := by decide +kernel
theorem dX9_readNumber_159 : decode cX9_readNumber 159 = .ok (.istore 8, 2) := by decide +kernel
theorem dX9_readNumber_161 : decode cX9_readNumber 161 = .ok (.aload_n 0, 1) := by decide +kernel
theorem dX9_readNumber_162 : decode cX9_readNumber 162 = .ok (.iload 8, 2) := by decide +kernel
theorem dX9_readNumber_164 : decode cX9_readNumber 164 = .ok (.invokevirtual 162, 3) := by decide +kernel
theorem dX9_readNumber_167 : decode cX9_readNumber 167 = .ok (.istore 9, 2) := by decide +kernel
theorem dX9_readNumber_169 : decode cX9_readNumber 169 = .ok (.iload 9, 2) := by decide +kernel
theorem dX9_readNumber_171 : decode cX9_readNumber 171 = .ok (.ifCond .le 7, 3) := by decide +kernel
theorem dX9_readNumber_174 : decode cX9_readNumber 174 = .ok (.iconst 1, 1) := by decide +kernel
theorem dX9_readNumber_175 : decode cX9_readNumber 175 = .ok (.goto 4, 3) := by decide +kernel
theorem dX9_readNumber_178 : decode cX9_readNumber 178 = .ok (.iconst 0, 1) := by decide +kernel
theorem dX9_readNumber_179 : decode cX9_readNumber 179 = .ok (.istore 6, 2) := by decide +kernel
theorem dX9_readNumber_181 : decode cX9_readNumber 181 = .ok (.aload_n 0, 1) := by decide +kernel
theorem dX9_readNumber_182 : decode cX9_readNumber 182 = .ok (.iload 4, 2) := by decide +kernel
theorem dX9_readNumber_184 : decode cX9_readNumber 184 = .ok (.iconst 1, 1) := by decide +kernel
theorem dX9_readNumber_185 : decode cX9_readNumber 185 = .ok (.iadd, 1) := by decide +kernel
theorem dX9_readNumber_186 : decode cX9_readNumber 186 = .ok (.invokevirtual 76, 3) := by decide +kernel
theorem dX9_readNumber_189 : decode cX9_readNumber 189 = .ok (.bipush 45, 2) := by decide +kernel
theorem dX9_readNumber_191 : decode cX9_readNumber 191 = .ok (.if_icmp .ne 15, 3) := by decide +kernel
theorem dX9_readNumber_194 : decode cX9_readNumber 194 = .ok (.aload_n 0, 1) := by decide +kernel
theorem dX9_readNumber_195 : decode cX9_readNumber 195 = .ok (.iload 8, 2) := by decide +kernel
theorem dX9_readNumber_197 : decode cX9_readNumber 197 = .ok (.iload 9, 2) := by decide +kernel
theorem dX9_readNumber_199 : decode cX9_readNumber 199 = .ok (.invokevirtual 165, 3) := by decide +kernel
theorem dX9_readNumber_202 : decode cX9_readNumber 202 = .ok (.ineg, 1) := by decide +kernel
theorem dX9_readNumber_203 : decode cX9_readNumber 203 = .ok (.goto 11, 3) := by decide +kernel
theorem dX9_readNumber_206 : decode cX9_readNumber 206 = .ok (.aload_n 0, 1) := by decide +kernel
theorem dX9_readNumber_207 : decode cX9_readNumber 207 = .ok (.iload 8, 2) := by decide +kernel
theorem dX9_readNumber_209 : decode cX9_readNumber 209 = .ok (.iload 9, 2) := by decide +kernel
theorem dX9_readNumber_211 : decode cX9_readNumber 211 = .ok (.invokevirtual 165, 3) := by decide +kernel
theorem dX9_readNumber_214 : decode cX9_readNumber 214 = .ok (.istore 7, 2) := by decide +kernel
theorem dX9_readNumber_216 : decode cX9_readNumber 216 = .ok (.iload 8, 2) := by decide +kernel
theorem dX9_readNumber_218 : decode cX9_readNumber 218 = .ok (.iload 9, 2) := by decide +kernel
theorem dX9_readNumber_220 : decode cX9_readNumber 220 = .ok (.iadd, 1) := by decide +kernel
theorem dX9_readNumber_221 : decode cX9_readNumber 221 = .ok (.istore 4, 2) := by decide +kernel
theorem dX9_readNumber_223 : decode cX9_readNumber 223 = .ok (.aload_n 0, 1) := by decide +kernel
theorem dX9_readNumber_224 : decode cX9_readNumber 224 = .ok (.iload 4, 2) := by decide +kernel
theorem dX9_readNumber_226 : decode cX9_readNumber 226 = .ok (.invokevirtual 76, 3) := by decide +kernel
theorem dX9_readNumber_229 : decode cX9_readNumber 229 = .ok (.istore 8, 2) := by decide +kernel
theorem dX9_readNumber_231 : decode cX9_readNumber 231 = .ok (.iload 6, 2) := by decide +kernel
theorem dX9_readNumber_233 : decode cX9_readNumber 233 = .ok (.ifCond .eq 19, 3) := by decide +kernel
theorem dX9_readNumber_236 : decode cX9_readNumber 236 = .ok (.iload 8, 2) := by decide +kernel
theorem dX9_readNumber_238 : decode cX9_readNumber 238 = .ok (.invokestatic 83, 3) := by decide +kernel
theorem dX9_readNumber_241 : decode cX9_readNumber 241 = .ok (.ifCond .ne 11, 3) := by decide +kernel
theorem dX9_readNumber_244 : decode cX9_readNumber 244 = .ok (.iload 8, 2) := by decide +kernel
theorem dX9_readNumber_246 : decode cX9_readNumber 246 = .ok (.invokestatic 80, 3) := by decide +kernel
theorem dX9_readNumber_249 : decode cX9_readNumber 249 = .ok (.ifCond .eq 9, 3) := by decide +kernel
theorem dX9_readNumber_252 : decode cX9_readNumber 252 = .ok (.aload_n 0, 1) := by decide +kernel
theorem dX9_readNumber_253 : decode cX9_readNumber 253 = .ok (.iconst 4, 1) := by decide +kernel
theorem dX9_readNumber_254 : decode cX9_readNumber 254 = .ok (.invokevirtual 72, 3) := by decide +kernel
theorem dX9_readNumber_257 : decode cX9_readNumber 257 = .ok (.ireturn, 1) := by decide +kernel
theorem dX9_readNumber_258 : decode cX9_readNumber 258 = .ok (.aload_n 0, 1) := by decide +kernel
theorem dX9_readNumber_259 : decode cX9_readNumber 259 = .ok (.iload_n 2, 1) := by decide +kernel
theorem dX9_readNumber_260 : decode cX9_readNumber 260 = .ok (.iload_n 3, 1) := by decide +kernel
theorem dX9_readNumber_261 : decode cX9_readNumber 261 = .ok (.iload 5, 2) := by decide +kernel
theorem dX9_readNumber_263 : decode cX9_readNumber 263 = .ok (.iload 7, 2) := by decide +kernel
theorem dX9_readNumber_265 : decode cX9_readNumber 265 = .ok (.aload_n 0, 1) := by decide +kernel
theorem dX9_readNumber_266 : decode cX9_readNumber 266 = .ok (.getfield 18, 3) := by decide +kernel
theorem dX9_readNumber_269 : decode cX9_readNumber 269 = .ok (.iadd, 1) := by decide +kernel
theorem dX9_readNumber_270 : decode cX9_readNumber 270 = .ok (.invokevirtual 168, 3) := by decide +kernel
theorem dX9_readNumber_273 : decode cX9_readNumber 273 = .ok (.lstore 9, 2) := by decide +kernel
theorem dX9_readNumber_275 : decode cX9_readNumber 275 = .ok (.lload 9, 2) := by decide +kernel
theorem dX9_readNumber_277 : decode cX9_readNumber 277 = .ok (.ldc2_w 172, 3) := by decide +kernel
theorem dX9_readNumber_280 : decode cX9_readNumber 280 = .ok (.lcmp, 1) := by decide +kernel
theorem dX9_readNumber_281 : decode cX9_readNumber 281 = .ok (.ifCond .le 9, 3) := by decide +kernel
theorem dX9_readNumber_284 : decode cX9_readNumber 284 = .ok (.aload_n 0, 1) := by decide +kernel
theorem dX9_readNumber_285 : decode cX9_readNumber 285 = .ok (.iconst 5, 1) := by decide +kernel
theorem dX9_readNumber_286 : decode cX9_readNumber 286 = .ok (.invokevirtual 72, 3) := by decide +kernel
theorem dX9_readNumber_289 : decode cX9_readNumber 289 = .ok (.ireturn, 1) := by decide +kernel
theorem dX9_readNumber_290 : decode cX9_readNumber 290 = .ok (.aload_n 0, 1) := by decide +kernel
theorem dX9_readNumber_291 : decode cX9_readNumber 291 = .ok (.iload_n 1, 1) := by decide +kernel
theorem dX9_readNumber_292 : decode cX9_readNumber 292 = .ok (.bipush 45, 2) := by decide +kernel
theorem dX9_readNumber_294 : decode cX9_readNumber 294 = .ok (.if_icmp .ne 9, 3) := by decide +kernel
theorem dX9_readNumber_297 : decode cX9_readNumber 297 = .ok (.lload 9, 2) := by decide +kernel
theorem dX9_readNumber_299 : decode cX9_readNumber 299 = .ok (.lneg, 1) := by decide +kernel
theorem dX9_readNumber_300 : decode cX9_readNumber 300 = .ok (.goto 5, 3) := by decide +kernel
theorem dX9_readNumber_303 : decode cX9_readNumber 303 = .ok (.lload 9, 2) := by decide +kernel
theorem dX9_readNumber_305 : decode cX9_readNumber 305 = .ok (.l2i, 1) := by decide +kernel
theorem dX9_readNumber_306 : decode cX9_readNumber 306 = .ok (.putfield 153, 3) := by decide +kernel
theorem dX9_readNumber_309 : decode cX9_readNumber 309 = .ok (.aload_n 0, 1) := by decide +kernel
theorem dX9_readNumber_310 : decode cX9_readNumber 310 = .ok (.iload 4, 2) := by decide +kernel
theorem dX9_readNumber_312 : decode cX9_readNumber 312 = .ok (.putfield 44, 3) := by decide +kernel
theorem dX9_readNumber_315 : decode cX9_readNumber 315 = .ok (.iconst 1, 1) := by decide +kernel
theorem dX9_readNumber_316 : decode cX9_readNumber 316 = .ok (.ireturn, 1) := by decide +kernel
abbrev M_X9_readNumber : MRec := (yX9_readNumber, cX9_readNumber, 11, (some Jvm.ClassFile.FieldType.boolean), [])
theorem m_X9_readNumber : en_M M_X9_readNumber 0 := ⟨t_911, t_3, ⟨by decide +kernel, by decide +kernel⟩, by decide +kernel, by decide +kernel, by decide +kernel⟩
theorem dX9_readCoordinate_0 : decode cX9_readCoordinate 0 = .ok (.aload_n 0, 1) := by decide +kernel
theorem dX9_readCoordinate_1 : decode cX9_readCoordinate 1 = .ok (.invokevirtual 69, 3) := by decide +kernel
theorem dX9_readCoordinate_4 : decode cX9_readCoordinate 4 = .ok (.aload_n 0, 1) := by decide +kernel
theorem dX9_readCoordinate_5 : decode cX9_readCoordinate 5 = .ok (.getfield 26, 3) := by decide +kernel
theorem dX9_readCoordinate_8 : decode cX9_readCoordinate 8 = .ok (.invokevirtual 147, 3) := by decide +kernel
theorem dX9_readCoordinate_11 : decode cX9_readCoordinate 11 = .ok (.ifCond .ne 10, 3) := by decide +kernel
theorem dX9_readCoordinate_14 : decode cX9_readCoordinate 14 = .ok (.aload_n 0, 1) := by decide +kernel
theorem dX9_readCoordinate_15 : decode cX9_readCoordinate 15 = .ok (.bipush 7, 2) := by decide +kernel
theorem dX9_readCoordinate_17 : decode cX9_readCoordinate 17 = .ok (.invokevirtual 72, 3) := by decide +kernel
theorem dX9_readCoordinate_20 : decode cX9_readCoordinate 20 = .ok (.ireturn, 1) := by decide +kernel
theorem dX9_readCoordinate_21 : decode cX9_readCoordinate 21 = .ok (.aload_n 0, 1) := by decide +kernel
theorem dX9_readCoordinate_22 : decode cX9_readCoordinate 22 = .ok (.invokevirtual 150, 3) := by decide +kernel
theorem dX9_readCoordinate_25 : decode cX9_readCoordinate 25 = .ok (.ifCond .ne 5, 3) := by decide +kernel
theorem dX9_readCoordinate_28 : decode cX9_readCoordinate 28 = .ok (.iconst 0, 1) := by decide +kernel
theorem dX9_readCoordinate_29 : decode cX9_readCoordinate 29 = .ok (.ireturn, 1) := by decide +kernel
theorem dX9_readCoordinate_30 : decode cX9_readCoordinate 30 = .ok (.aload_n 0, 1) := by decide +kernel
theorem dX9_readCoordinate_31 : decode cX9_readCoordinate 31 = .ok (.getfield 153, 3) := by decide +kernel
theorem dX9_readCoordinate_34 : decode cX9_readCoordinate 34 = .ok (.istore_n 1, 1) := by decide +kernel
theorem dX9_readCoordinate_35 : decode cX9_readCoordinate 35 = .ok (.aload_n 0, 1) := by decide +kernel
theorem dX9_readCoordinate_36 : decode cX9_readCoordinate 36 = .ok (.invokevirtual 150, 3) := by decide +kernel
theorem dX9_readCoordinate_39 : decode cX9_readCoordinate 39 = .ok (.ifCond .eq 22, 3) := by decide +kernel
theorem dX9_readCoordinate_42 : decode cX9_readCoordinate 42 = .ok (.aload_n 0, 1) := by decide +kernel
theorem dX9_readCoordinate_43 : decode cX9_readCoordinate 43 = .ok (.getfield 26, 3) := by decide +kernel
theorem dX9_readCoordinate_46 : decode cX9_readCoordinate 46 = .ok (.iload_n 1, 1) := by decide +kernel
theorem dX9_readCoordinate_47 : decode cX9_readCoordinate 47 = .ok (.aload_n 0, 1) := by decide +kernel
theorem dX9_readCoordinate_48 : decode cX9_readCoordinate 48 = .ok (.getfield 153, 3) := by decide +kernel
theorem dX9_readCoordinate_51 : decode cX9_readCoordinate 51 = .ok (.invokevirtual 156, 3) := by decide +kernel
theorem dX9_readCoordinate_54 : decode cX9_readCoordinate 54 = .ok (.ifCond .eq 7, 3) := by decide +kernel
theorem dX9_readCoordinate_57 : decode cX9_readCoordinate 57 = .ok (.iconst 1, 1) := by decide +kernel
theorem dX9_readCoordinate_58 : decode cX9_readCoordinate 58 = .ok (.goto 4, 3) := by decide +kernel
theorem dX9_readCoordinate_61 : decode cX9_readCoordinate 61 = .ok (.iconst 0, 1) := by decide +kernel
theorem dX9_readCoordinate_62 : decode cX9_readCoordinate 62 = .ok (.ireturn, 1) := by decide +kernel
abbrev M_X9_readCoordinate : MRec := (yX9_readCoordinate, cX9_readCoordinate, 2, (some Jvm.ClassFile.FieldType.boolean), [])
theorem m_X9_readCoordinate : en_M M_X9_readCoordinate 0 := ⟨t_903, t_3, ⟨by decide +kernel, by decide +kernel⟩, by decide +kernel, by decide +kernel, by decide +kernel⟩
theorem dX0_isPartLeft_0 : decode cX0_isPartLeft 0 = .ok (.aload_n 0, 1) := by decide +kernel
theorem dX0_isPartLeft_1 : decode cX0_isPartLeft 1 = .ok (.getfield 48, 3) := by decide +kernel
theorem dX0_isPartLeft_4 : decode cX0_isPartLeft 4 = .ok (.ifCond .le 56, 3) := by decide +kernel
theorem dX0_isPartLeft_7 : decode cX0_isPartLeft 7 = .ok (.aload_n 0, 1) := by decide +kernel
theorem dX0_isPartLeft_8 : decode cX0_isPartLeft 8 = .ok (.getfield 11, 3) := by decide +kernel
theorem dX0_isPartLeft_11 : decode cX0_isPartLeft 11 = .ok (.aload_n 0, 1) := by decide +kernel
theorem dX0_isPartLeft_12 : decode cX0_isPartLeft 12 = .ok (.getfield 48, 3) := by decide +kernel
theorem dX0_isPartLeft_15 : decode cX0_isPartLeft 15 = .ok (.iconst 1, 1) := by decide +kernel
theorem dX0_isPartLeft_16 : decode cX0_isPartLeft 16 = .ok (.isub, 1) := by decide +kernel
theorem dX0_isPartLeft_17 : decode cX0_isPartLeft 17 = .ok (.laload, 1) := by decide +kernel
theorem dX0_isPartLeft_18 : decode cX0_isPartLeft 18 = .ok (.lconst 0, 1) := by decide +kernel
theorem dX0_isPartLeft_19 : decode cX0_isPartLeft 19 = .ok (.lcmp, 1) := by decide +kernel
theorem dX0_isPartLeft_20 : decode cX0_isPartLeft 20 = .ok (.ifCond .gt 40, 3) := by decide +kernel
theorem dX0_isPartLeft_23 : decode cX0_isPartLeft 23 = .ok (.aload_n 0, 1) := by decide +kernel
theorem dX0_isPartLeft_24 : decode cX0_isPartLeft 24 = .ok (.dup, 1) := by decide +kernel
theorem dX0_isPartLeft_25 : decode cX0_isPartLeft 25 = .ok (.getfield 48, 3) := by decide +kernel
theorem dX0_isPartLeft_28 : decode cX0_isPartLeft 28 = .ok (.iconst 1, 1) := by decide +kernel
theorem dX0_isPartLeft_29 : decode cX0_isPartLeft 29 = .ok (.isub, 1) := by decide +kernel
theorem dX0_isPartLeft_30 : decode cX0_isPartLeft 30 = .ok (.putfield 48, 3) := by decide +kernel
theorem dX0_isPartLeft_33 : decode cX0_isPartLeft 33 = .ok (.aload_n 0, 1) := by decide +kernel
theorem dX0_isPartLeft_34 : decode cX0_isPartLeft 34 = .ok (.getfield 15, 3) := by decide +kernel
theorem dX0_isPartLeft_37 : decode cX0_isPartLeft 37 = .ok (.aload_n 0, 1) := by decide +kernel
theorem dX0_isPartLeft_38 : decode cX0_isPartLeft 38 = .ok (.getfield 48, 3) := by decide +kernel
theorem dX0_isPartLeft_41 : decode cX0_isPartLeft 41 = .ok (.iaload, 1) := by decide +kernel
theorem dX0_isPartLeft_42 : decode cX0_isPartLeft 42 = .ok (.bipush 7, 2) := by decide +kernel
theorem dX0_isPartLeft_44 : decode cX0_isPartLeft 44 = .ok (.if_icmp .ne (-44), 3) := by decide +kernel
theorem dX0_isPartLeft_47 : decode cX0_isPartLeft 47 = .ok (.aload_n 0, 1) := by decide +kernel
theorem dX0_isPartLeft_48 : decode cX0_isPartLeft 48 = .ok (.dup, 1) := by decide +kernel
theorem dX0_isPartLeft_49 : decode cX0_isPartLeft 49 = .ok (.getfield 51, 3) := by decide +kernel
theorem dX0_isPartLeft_52 : decode cX0_isPartLeft 52 = .ok (.iconst 1, 1) := by decide +kernel
theorem dX0_isPartLeft_53 : decode cX0_isPartLeft 53 = .ok (.isub, 1) := by decide +kernel
theorem dX0_isPartLeft_54 : decode cX0_isPartLeft 54 = .ok (.putfield 51, 3) := by decide +kernel
theorem dX0_isPartLeft_57 : decode cX0_isPartLeft 57 = .ok (.goto (-57), 3) := by decide +kernel
theorem dX0_isPartLeft_60 : decode cX0_isPartLeft 60 = .ok (.aload_n 0, 1) := by decide +kernel
theorem dX0_isPartLeft_61 : decode cX0_isPartLeft 61 = .ok (.getfield 48, 3) := by decide +kernel
theorem dX0_isPartLeft_64 : decode cX0_isPartLeft 64 = .ok (.ifCond .le 7, 3) := by decide +kernel
theorem dX0_isPartLeft_67 : decode cX0_isPartLeft 67 = .ok (.iconst 1, 1) := by decide +kernel
theorem dX0_isPartLeft_68 : decode cX0_isPartLeft 68 = .ok (.goto 4, 3) := by decide +kernel
theorem dX0_isPartLeft_71 : decode cX0_isPartLeft 71 = .ok (.iconst 0, 1) := by decide +kernel
theorem dX0_isPartLeft_72 : decode cX0_isPartLeft 72 = .ok (.ireturn, 1) := by decide +kernel
abbrev M_X0_isPartLeft : MRec := (yX0_isPartLeft, cX0_isPartLeft, 1, (some Jvm.ClassFile.FieldType.boolean), [])
theorem m_X0_isPartLeft : en_M M_X0_isPartLeft 0 := ⟨t_1032, t_4, ⟨by decide +kernel, by decide +kernel⟩, by decide +kernel, by decide +kernel, by decide +kernel⟩
theorem dX0_fail_0 : decode cX0_fail 0 = .ok (.aload_n 0, 1) := by decide +kernel
theorem dX0_fail_1 : decode cX0_fail 1 = .ok (.iload_n 1, 1) := by decide +kernel
theorem dX0_fail_2 : decode cX0_fail 2 = .ok (.putfield 54, 3) := by decide +kernel
theorem dX0_fail_5 : decode cX0_fail 5 = .ok (.aload_n 0, 1) := by decide +kernel
theorem dX0_fail_6 : decode cX0_fail 6 = .ok (.aload_n 0, 1) := by decide +kernel
theorem dX0_fail_7 : decode cX0_fail 7 = .ok (.getfield 45, 3) := by decide +kernel
theorem dX0_fail_10 : decode cX0_fail 10 = .ok (.putfield 57, 3) := by decide +kernel
theorem dX0_fail_13 : decode cX0_fail 13 = .ok (.iconst 0, 1) := by decide +kernel
theorem dX0_fail_14 : decode cX0_fail 14 = .ok (.ireturn, 1) := by decide +kernel
abbrev M_X0_fail : MRec := (yX0_fail, cX0_fail, 2, (some Jvm.ClassFile.FieldType.boolean), [])
theorem m_X0_fail : en_M M_X0_fail 1 := ⟨t_978, t_4, ⟨by decide +kernel, by decide +kernel⟩, by decide +kernel, by decide +kernel, by decide +kernel⟩
theorem dX0_has_0 : decode cX0_has 0 = .ok (.aload_n 0, 1) := by decide +kernel
theorem dX0_has_1 : decode cX0_has 1 = .ok (.getfield 42, 3) := by decide +kernel
theorem dX0_has_4 : decode cX0_has 4 = .ok (.aload_n 0, 1) := by decide +kernel
theorem dX0_has_5 : decode cX0_has 5 = .ok (.getfield 45, 3) := by decide +kernel
theorem dX0_has_8 : decode cX0_has 8 = .ok (.isub, 1) := by decide +kernel
theorem dX0_has_9 : decode cX0_has 9 = .ok (.iload_n 1, 1) := by decide +kernel
theorem dX0_has_10 : decode cX0_has 10 = .ok (.if_icmp .lt 7, 3) := by decide +kernel
theorem dX0_has_13 : decode cX0_has 13 = .ok (.iconst 1, 1) := by decide +kernel
theorem dX0_has_14 : decode cX0_has 14 = .ok (.goto 4, 3) := by decide +kernel
theorem dX0_has_17 : decode cX0_has 17 = .ok (.iconst 0, 1) := by decide +kernel
theorem dX0_has_18 : decode cX0_has 18 = .ok (.ireturn, 1) := by decide +kernel
abbrev M_X0_has : MRec := (yX0_has, cX0_has, 2, (some Jvm.ClassFile.FieldType.boolean), [])
theorem m_X0_has : en_M M_X0_has 1 := ⟨t_974, t_4, ⟨by decide +kernel, by decide +kernel⟩, by decide +kernel, by decide +kernel, by decide +kernel⟩
theorem dX0_numberAt_0 : decode cX0_numberAt 0 = .ok (.lconst 0, 1) := by decide +kernel
theorem dX0_numberAt_1 : decode cX0_numberAt 1 = .ok (.lstore_n 3, 1) := by decide +kernel
theorem dX0_numberAt_2 : decode cX0_numberAt 2 = .ok (.iconst 0, 1) := by decide +kernel
theorem dX0_numberAt_3 : decode cX0_numberAt 3 = .ok (.istore 5, 2) := by decide +kernel
theorem dX0_numberAt_5 : decode cX0_numberAt 5 = .ok (.iload 5, 2) := by decide +kernel
theorem dX0_numberAt_7 : decode cX0_numberAt 7 = .ok (.iload_n 2, 1) := by decide +kernel
theorem dX0_numberAt_8 : decode cX0_numberAt 8 = .ok (.if_icmp .ge 73, 3) := by decide +kernel
theorem dX0_numberAt_11 : decode cX0_numberAt 11 = .ok (.aload_n 0, 1) := by decide +kernel
theorem dX0_numberAt_12 : decode cX0_numberAt 12 = .ok (.getfield 71, 3) := by decide +kernel
theorem dX0_numberAt_15 : decode cX0_numberAt 15 = .ok (.ifCond .eq 14, 3) := by decide +kernel
theorem dX0_numberAt_18 : decode cX0_numberAt 18 = .ok (.iload_n 1, 1) := by decide +kernel
theorem dX0_numberAt_19 : decode cX0_numberAt 19 = .ok (.iload_n 2, 1) := by decide +kernel
theorem dX0_numberAt_20 : decode cX0_numberAt 20 = .ok (.iadd, 1) := by decide +kernel
theorem dX0_numberAt_21 : decode cX0_numberAt 21 = .ok (.iconst 1, 1) := by decide +kernel
theorem dX0_numberAt_22 : decode cX0_numberAt 22 = .ok (.isub, 1) := by decide +kernel
theorem dX0_numberAt_23 : decode cX0_numberAt 23 = .ok (.iload 5, 2) := by decide +kernel
theorem dX0_numberAt_25 : decode cX0_numberAt 25 = .ok (.isub, 1) := by decide +kernel
theorem dX0_numberAt_26 : decode cX0_numberAt 26 = .ok (.goto 7, 3) := by decide +kernel
theorem dX0_numberAt_29 : decode cX0_numberAt 29 = .ok (.iload_n 1, 1) := by decide +kernel
theorem dX0_numberAt_30 : decode cX0_numberAt 30 = .ok (.iload 5, 2) := by decide +kernel
theorem dX0_numberAt_32 : decode cX0_numberAt 32 = .ok (.iadd, 1) := by decide +kernel
theorem dX0_numberAt_33 : decode cX0_numberAt 33 = .ok (.istore 6, 2) := by decide +kernel
theorem dX0_numberAt_35 : decode cX0_numberAt 35 = .ok (.iload 6, 2) := by decide +kernel
theorem dX0_numberAt_37 : decode cX0_numberAt 37 = .ok (.ifCond .lt 26, 3) := by decide +kernel
theorem dX0_numberAt_40 : decode cX0_numberAt 40 = .ok (.iload 6, 2) := by decide +kernel
theorem dX0_numberAt_42 : decode cX0_numberAt 42 = .ok (.aload_n 0, 1) := by decide +kernel
theorem dX0_numberAt_43 : decode cX0_numberAt 43 = .ok (.getfield 42, 3) := by decide +kernel
theorem dX0_numberAt_46 : decode cX0_numberAt 46 = .ok (.if_icmp .ge 17, 3) := by decide +kernel
theorem dX0_numberAt_49 : decode cX0_numberAt 49 = .ok (.aload_n 0, 1) := by decide +kernel
theorem dX0_numberAt_50 : decode cX0_numberAt 50 = .ok (.getfield 23, 3) := by decide +kernel
theorem dX0_numberAt_53 : decode cX0_numberAt 53 = .ok (.iload 6, 2) := by decide +kernel
theorem dX0_numberAt_55 : decode cX0_numberAt 55 = .ok (.baload, 1) := by decide +kernel
theorem dX0_numberAt_56 : decode cX0_numberAt 56 = .ok (.sipush 255, 3) := by decide +kernel
theorem dX0_numberAt_59 : decode cX0_numberAt 59 = .ok (.iand, 1) := by decide +kernel
theorem dX0_numberAt_60 : decode cX0_numberAt 60 = .ok (.goto 4, 3) := by decide +kernel
theorem dX0_numberAt_63 : decode cX0_numberAt 63 = .ok (.iconst 0, 1) := by decide +kernel
theorem dX0_numberAt_64 : decode cX0_numberAt 64 = .ok (.istore 7, 2) := by decide +kernel
theorem dX0_numberAt_66 : decode cX0_numberAt 66 = .ok (.lload_n 3, 1) := by decide +kernel
theorem dX0_numberAt_67 : decode cX0_numberAt 67 = .ok (.bipush 8, 2) := by decide +kernel
theorem dX0_numberAt_69 : decode cX0_numberAt 69 = .ok (.lshl, 1) := by decide +kernel
theorem dX0_numberAt_70 : decode cX0_numberAt 70 = .ok (.iload 7, 2) := by decide +kernel
theorem dX0_numberAt_72 : decode cX0_numberAt 72 = .ok (.i2l, 1) := by decide +kernel
theorem dX0_numberAt_73 : decode cX0_numberAt 73 = .ok (.lor, 1) := by decide +kernel
theorem dX0_numberAt_74 : decode cX0_numberAt 74 = .ok (.lstore_n 3, 1) := by decide +kernel
theorem dX0_numberAt_75 : decode cX0_numberAt 75 = .ok (.iinc 5 1, 3) := by decide +kernel
theorem dX0_numberAt_78 : decode cX0_numberAt 78 = .ok (.goto (-73), 3) := by decide +kernel
theorem dX0_numberAt_81 : decode cX0_numberAt 81 = .ok (.lload_n 3, 1) := by decide +kernel
theorem dX0_numberAt_82 : decode cX0_numberAt 82 = .ok (.lreturn, 1) := by decide +kernel
abbrev M_X0_numberAt : MRec := (yX0_numberAt, cX0_numberAt, 8, (some Jvm.ClassFile.FieldType.long), [])
theorem m_X0_numberAt : en_M M_X0_numberAt 2 := ⟨t_982, t_4, ⟨by decide +kernel, by decide +kernel⟩, by decide +kernel, by decide +kernel, by decide +kernel⟩
