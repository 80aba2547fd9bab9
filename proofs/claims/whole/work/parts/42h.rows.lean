theorem dX0_openLevel_0 : decode cX0_openLevel 0 = .ok (.aload_n 0, 1) := by decide +kernel
theorem dX0_openLevel_1 : decode cX0_openLevel 1 = .ok (.getfield 48, 3) := by decide +kernel
theorem dX0_openLevel_4 : decode cX0_openLevel 4 = .ok (.bipush 64, 2) := by decide +kernel
theorem dX0_openLevel_6 : decode cX0_openLevel 6 = .ok (.if_icmp .lt 10, 3) := by decide +kernel
theorem dX0_openLevel_9 : decode cX0_openLevel 9 = .ok (.aload_n 0, 1) := by decide +kernel
theorem dX0_openLevel_10 : decode cX0_openLevel 10 = .ok (.bipush 6, 2) := by decide +kernel
theorem dX0_openLevel_12 : decode cX0_openLevel 12 = .ok (.invokevirtual 68, 3) := by decide +kernel
theorem dX0_openLevel_15 : decode cX0_openLevel 15 = .ok (.ireturn, 1) := by decide +kernel
theorem dX0_openLevel_16 : decode cX0_openLevel 16 = .ok (.aload_n 0, 1) := by decide +kernel
theorem dX0_openLevel_17 : decode cX0_openLevel 17 = .ok (.getfield 15, 3) := by decide +kernel
theorem dX0_openLevel_20 : decode cX0_openLevel 20 = .ok (.aload_n 0, 1) := by decide +kernel
theorem dX0_openLevel_21 : decode cX0_openLevel 21 = .ok (.getfield 48, 3) := by decide +kernel
theorem dX0_openLevel_24 : decode cX0_openLevel 24 = .ok (.iload_n 1, 1) := by decide +kernel
theorem dX0_openLevel_25 : decode cX0_openLevel 25 = .ok (.iastore, 1) := by decide +kernel
theorem dX0_openLevel_26 : decode cX0_openLevel 26 = .ok (.aload_n 0, 1) := by decide +kernel
theorem dX0_openLevel_27 : decode cX0_openLevel 27 = .ok (.getfield 11, 3) := by decide +kernel
theorem dX0_openLevel_30 : decode cX0_openLevel 30 = .ok (.aload_n 0, 1) := by decide +kernel
theorem dX0_openLevel_31 : decode cX0_openLevel 31 = .ok (.getfield 48, 3) := by decide +kernel
theorem dX0_openLevel_34 : decode cX0_openLevel 34 = .ok (.lload_n 2, 1) := by decide +kernel
theorem dX0_openLevel_35 : decode cX0_openLevel 35 = .ok (.lastore, 1) := by decide +kernel
theorem dX0_openLevel_36 : decode cX0_openLevel 36 = .ok (.aload_n 0, 1) := by decide +kernel
theorem dX0_openLevel_37 : decode cX0_openLevel 37 = .ok (.dup, 1) := by decide +kernel
theorem dX0_openLevel_38 : decode cX0_openLevel 38 = .ok (.getfield 48, 3) := by decide +kernel
theorem dX0_openLevel_41 : decode cX0_openLevel 41 = .ok (.iconst 1, 1) := by decide +kernel
theorem dX0_openLevel_42 : decode cX0_openLevel 42 = .ok (.iadd, 1) := by decide +kernel
theorem dX0_openLevel_43 : decode cX0_openLevel 43 = .ok (.putfield 48, 3) := by decide +kernel
theorem dX0_openLevel_46 : decode cX0_openLevel 46 = .ok (.iload_n 1, 1) := by decide +kernel
theorem dX0_openLevel_47 : decode cX0_openLevel 47 = .ok (.bipush 7, 2) := by decide +kernel
theorem dX0_openLevel_49 : decode cX0_openLevel 49 = .ok (.if_icmp .ne 13, 3) := by decide +kernel
theorem dX0_openLevel_52 : decode cX0_openLevel 52 = .ok (.aload_n 0, 1) := by decide +kernel
theorem dX0_openLevel_53 : decode cX0_openLevel 53 = .ok (.dup, 1) := by decide +kernel
theorem dX0_openLevel_54 : decode cX0_openLevel 54 = .ok (.getfield 51, 3) := by decide +kernel
theorem dX0_openLevel_57 : decode cX0_openLevel 57 = .ok (.iconst 1, 1) := by decide +kernel
theorem dX0_openLevel_58 : decode cX0_openLevel 58 = .ok (.iadd, 1) := by decide +kernel
theorem dX0_openLevel_59 : decode cX0_openLevel 59 = .ok (.putfield 51, 3) := by decide +kernel
theorem dX0_openLevel_62 : decode cX0_openLevel 62 = .ok (.iconst 1, 1) := by decide +kernel
theorem dX0_openLevel_63 : decode cX0_openLevel 63 = .ok (.ireturn, 1) := by decide +kernel
abbrev M_X0_openLevel : MRec := (yX0_openLevel, cX0_openLevel, 4, (some Jvm.ClassFile.FieldType.boolean), [])
theorem m_X0_openLevel : en_M M_X0_openLevel 2 := ⟨t_1028, t_4, ⟨by decide +kernel, by decide +kernel⟩, by decide +kernel, by decide +kernel, by decide +kernel⟩
theorem dX0_isNoNumber_0 : decode cX0_isNoNumber 0 = .ok (.lload_n 0, 1) := by decide +kernel
theorem dX0_isNoNumber_1 : decode cX0_isNoNumber 1 = .ok (.bipush 52, 2) := by decide +kernel
theorem dX0_isNoNumber_3 : decode cX0_isNoNumber 3 = .ok (.lushr, 1) := by decide +kernel
theorem dX0_isNoNumber_4 : decode cX0_isNoNumber 4 = .ok (.ldc2_w 116, 3) := by decide +kernel
theorem dX0_isNoNumber_7 : decode cX0_isNoNumber 7 = .ok (.land, 1) := by decide +kernel
theorem dX0_isNoNumber_8 : decode cX0_isNoNumber 8 = .ok (.ldc2_w 116, 3) := by decide +kernel
theorem dX0_isNoNumber_11 : decode cX0_isNoNumber 11 = .ok (.lcmp, 1) := by decide +kernel
theorem dX0_isNoNumber_12 : decode cX0_isNoNumber 12 = .ok (.ifCond .ne 17, 3) := by decide +kernel
theorem dX0_isNoNumber_15 : decode cX0_isNoNumber 15 = .ok (.lload_n 0, 1) := by decide +kernel
theorem dX0_isNoNumber_16 : decode cX0_isNoNumber 16 = .ok (.ldc2_w 118, 3) := by decide +kernel
theorem dX0_isNoNumber_19 : decode cX0_isNoNumber 19 = .ok (.land, 1) := by decide +kernel
theorem dX0_isNoNumber_20 : decode cX0_isNoNumber 20 = .ok (.lconst 0, 1) := by decide +kernel
theorem dX0_isNoNumber_21 : decode cX0_isNoNumber 21 = .ok (.lcmp, 1) := by decide +kernel
theorem dX0_isNoNumber_22 : decode cX0_isNoNumber 22 = .ok (.ifCond .eq 7, 3) := by decide +kernel
theorem dX0_isNoNumber_25 : decode cX0_isNoNumber 25 = .ok (.iconst 1, 1) := by decide +kernel
theorem dX0_isNoNumber_26 : decode cX0_isNoNumber 26 = .ok (.goto 4, 3) := by decide +kernel
theorem dX0_isNoNumber_29 : decode cX0_isNoNumber 29 = .ok (.iconst 0, 1) := by decide +kernel
theorem dX0_isNoNumber_30 : decode cX0_isNoNumber 30 = .ok (.ireturn, 1) := by decide +kernel
abbrev M_X0_isNoNumber : MRec := (yX0_isNoNumber, cX0_isNoNumber, 2, (some Jvm.ClassFile.FieldType.boolean), [])
theorem m_X0_isNoNumber : en_M M_X0_isNoNumber 1 := ⟨t_996, t_4, ⟨by decide +kernel, by decide +kernel⟩, by decide +kernel, by decide +kernel, by decide +kernel⟩
theorem dX10_put_0 : decode cX10_put 0 = .ok (.aload_n 0, 1) := by decide +kernel
theorem dX10_put_1 : decode cX10_put 1 = .ok (.getfield 41, 3) := by decide +kernel
theorem dX10_put_4 : decode cX10_put 4 = .ok (.ldc 18, 2) := by decide +kernel
theorem dX10_put_6 : decode cX10_put 6 = .ok (.if_icmp .ge 24, 3) := by decide +kernel
theorem dX10_put_9 : decode cX10_put 9 = .ok (.aload_n 0, 1) := by decide +kernel
theorem dX10_put_10 : decode cX10_put 10 = .ok (.getfield 19, 3) := by decide +kernel
theorem dX10_put_13 : decode cX10_put 13 = .ok (.aload_n 0, 1) := by decide +kernel
theorem dX10_put_14 : decode cX10_put 14 = .ok (.getfield 41, 3) := by decide +kernel
theorem dX10_put_17 : decode cX10_put 17 = .ok (.iload_n 1, 1) := by decide +kernel
theorem dX10_put_18 : decode cX10_put 18 = .ok (.i2b, 1) := by decide +kernel
theorem dX10_put_19 : decode cX10_put 19 = .ok (.bastore, 1) := by decide +kernel
theorem dX10_put_20 : decode cX10_put 20 = .ok (.aload_n 0, 1) := by decide +kernel
theorem dX10_put_21 : decode cX10_put 21 = .ok (.dup, 1) := by decide +kernel
theorem dX10_put_22 : decode cX10_put 22 = .ok (.getfield 41, 3) := by decide +kernel
theorem dX10_put_25 : decode cX10_put 25 = .ok (.iconst 1, 1) := by decide +kernel
theorem dX10_put_26 : decode cX10_put 26 = .ok (.iadd, 1) := by decide +kernel
theorem dX10_put_27 : decode cX10_put 27 = .ok (.putfield 41, 3) := by decide +kernel
theorem dX10_put_30 : decode cX10_put 30 = .ok (.return_, 1) := by decide +kernel
abbrev M_X10_put : MRec := (yX10_put, cX10_put, 2, none, [])
theorem m_X10_put : en_M M_X10_put 1 := ⟨t_1068, t_5, ⟨by decide +kernel, by decide +kernel⟩, by decide +kernel, by decide +kernel, by decide +kernel⟩
theorem dX10_putBytes_0 : decode cX10_putBytes 0 = .ok (.iconst 0, 1) := by decide +kernel
theorem dX10_putBytes_1 : decode cX10_putBytes 1 = .ok (.istore 4, 2) := by decide +kernel
theorem dX10_putBytes_3 : decode cX10_putBytes 3 = .ok (.iload 4, 2) := by decide +kernel
theorem dX10_putBytes_5 : decode cX10_putBytes 5 = .ok (.iload_n 3, 1) := by decide +kernel
theorem dX10_putBytes_6 : decode cX10_putBytes 6 = .ok (.if_icmp .ge 44, 3) := by decide +kernel
theorem dX10_putBytes_9 : decode cX10_putBytes 9 = .ok (.aload_n 0, 1) := by decide +kernel
theorem dX10_putBytes_10 : decode cX10_putBytes 10 = .ok (.getfield 120, 3) := by decide +kernel
theorem dX10_putBytes_13 : decode cX10_putBytes 13 = .ok (.ifCond .eq 11, 3) := by decide +kernel
theorem dX10_putBytes_16 : decode cX10_putBytes 16 = .ok (.bipush 8, 2) := by decide +kernel
theorem dX10_putBytes_18 : decode cX10_putBytes 18 = .ok (.iload 4, 2) := by decide +kernel
theorem dX10_putBytes_20 : decode cX10_putBytes 20 = .ok (.imul, 1) := by decide +kernel
theorem dX10_putBytes_21 : decode cX10_putBytes 21 = .ok (.goto 12, 3) := by decide +kernel
theorem dX10_putBytes_24 : decode cX10_putBytes 24 = .ok (.bipush 8, 2) := by decide +kernel
theorem dX10_putBytes_26 : decode cX10_putBytes 26 = .ok (.iload_n 3, 1) := by decide +kernel
theorem dX10_putBytes_27 : decode cX10_putBytes 27 = .ok (.iconst 1, 1) := by decide +kernel
theorem dX10_putBytes_28 : decode cX10_putBytes 28 = .ok (.isub, 1) := by decide +kernel
theorem dX10_putBytes_29 : decode cX10_putBytes 29 = .ok (.iload 4, 2) := by decide +kernel
theorem dX10_putBytes_31 : decode cX10_putBytes 31 = .ok (.isub, 1) := by decide +kernel
theorem dX10_putBytes_32 : decode cX10_putBytes 32 = .ok (.imul, 1) := by decide +kernel
theorem dX10_putBytes_33 : decode cX10_putBytes 33 = .ok (.istore 5, 2) := by decide +kernel
theorem dX10_putBytes_35 : decode cX10_putBytes 35 = .ok (.aload_n 0, 1) := by decide +kernel
theorem dX10_putBytes_36 : decode cX10_putBytes 36 = .ok (.lload_n 1, 1) := by decide +kernel
theorem dX10_putBytes_37 : decode cX10_putBytes 37 = .ok (.iload 5, 2) := by decide +kernel
theorem dX10_putBytes_39 : decode cX10_putBytes 39 = .ok (.lushr, 1) := by decide +kernel
theorem dX10_putBytes_40 : decode cX10_putBytes 40 = .ok (.l2i, 1) := by decide +kernel
theorem dX10_putBytes_41 : decode cX10_putBytes 41 = .ok (.invokevirtual 54, 3) := by decide +kernel
theorem dX10_putBytes_44 : decode cX10_putBytes 44 = .ok (.iinc 4 1, 3) := by decide +kernel
theorem dX10_putBytes_47 : decode cX10_putBytes 47 = .ok (.goto (-44), 3) := by decide +kernel
theorem dX10_putBytes_50 : decode cX10_putBytes 50 = .ok (.return_, 1) := by decide +kernel
abbrev M_X10_putBytes : MRec := (yX10_putBytes, cX10_putBytes, 6, none, [])
theorem m_X10_putBytes : en_M M_X10_putBytes 2 := ⟨t_1124, t_5, ⟨by decide +kernel, by decide +kernel⟩, by decide +kernel, by decide +kernel, by decide +kernel⟩
theorem dX5_holds_0 : decode cX5_holds 0 = .ok (.aload_n 0, 1) := by decide +kernel
theorem dX5_holds_1 : decode cX5_holds 1 = .ok (.getfield 7, 3) := by decide +kernel
theorem dX5_holds_4 : decode cX5_holds 4 = .ok (.iload_n 1, 1) := by decide +kernel
theorem dX5_holds_5 : decode cX5_holds 5 = .ok (.iaload, 1) := by decide +kernel
theorem dX5_holds_6 : decode cX5_holds 6 = .ok (.aload_n 0, 1) := by decide +kernel
theorem dX5_holds_7 : decode cX5_holds 7 = .ok (.getfield 13, 3) := by decide +kernel
theorem dX5_holds_10 : decode cX5_holds 10 = .ok (.iload_n 1, 1) := by decide +kernel
theorem dX5_holds_11 : decode cX5_holds 11 = .ok (.iaload, 1) := by decide +kernel
theorem dX5_holds_12 : decode cX5_holds 12 = .ok (.aload_n 0, 1) := by decide +kernel
theorem dX5_holds_13 : decode cX5_holds 13 = .ok (.getfield 16, 3) := by decide +kernel
theorem dX5_holds_16 : decode cX5_holds 16 = .ok (.iload_n 1, 1) := by decide +kernel
theorem dX5_holds_17 : decode cX5_holds 17 = .ok (.iaload, 1) := by decide +kernel
theorem dX5_holds_18 : decode cX5_holds 18 = .ok (.aload_n 0, 1) := by decide +kernel
theorem dX5_holds_19 : decode cX5_holds 19 = .ok (.getfield 19, 3) := by decide +kernel
theorem dX5_holds_22 : decode cX5_holds 22 = .ok (.iload_n 1, 1) := by decide +kernel
theorem dX5_holds_23 : decode cX5_holds 23 = .ok (.iaload, 1) := by decide +kernel
theorem dX5_holds_24 : decode cX5_holds 24 = .ok (.iload_n 2, 1) := by decide +kernel
theorem dX5_holds_25 : decode cX5_holds 25 = .ok (.iload_n 3, 1) := by decide +kernel
theorem dX5_holds_26 : decode cX5_holds 26 = .ok (.invokestatic 65, 3) := by decide +kernel
theorem dX5_holds_29 : decode cX5_holds 29 = .ok (.ireturn, 1) := by decide +kernel
abbrev M_X5_holds : MRec := (yX5_holds, cX5_holds, 4, (some Jvm.ClassFile.FieldType.boolean), [])
theorem m_X5_holds : en_M M_X5_holds 3 := ⟨t_1958, t_7, ⟨by decide +kernel, by decide +kernel⟩, by decide +kernel, by decide +kernel, by decide +kernel⟩
theorem dX3_isOfLines_0 : decode cX3_isOfLines 0 = .ok (.aload_n 0, 1) := by decide +kernel
theorem dX3_isOfLines_1 : decode cX3_isOfLines 1 = .ok (.invokevirtual 49, 3) := by decide +kernel
theorem dX3_isOfLines_4 : decode cX3_isOfLines 4 = .ok (.iconst 2, 1) := by decide +kernel
theorem dX3_isOfLines_5 : decode cX3_isOfLines 5 = .ok (.if_icmp .eq 11, 3) := by decide +kernel
theorem dX3_isOfLines_8 : decode cX3_isOfLines 8 = .ok (.aload_n 0, 1) := by decide +kernel
theorem dX3_isOfLines_9 : decode cX3_isOfLines 9 = .ok (.invokevirtual 49, 3) := by decide +kernel
theorem dX3_isOfLines_12 : decode cX3_isOfLines 12 = .ok (.iconst 5, 1) := by decide +kernel
theorem dX3_isOfLines_13 : decode cX3_isOfLines 13 = .ok (.if_icmp .ne 7, 3) := by decide +kernel
theorem dX3_isOfLines_16 : decode cX3_isOfLines 16 = .ok (.iconst 1, 1) := by decide +kernel
theorem dX3_isOfLines_17 : decode cX3_isOfLines 17 = .ok (.goto 4, 3) := by decide +kernel
theorem dX3_isOfLines_20 : decode cX3_isOfLines 20 = .ok (.iconst 0, 1) := by decide +kernel
theorem dX3_isOfLines_21 : decode cX3_isOfLines 21 = .ok (.ireturn, 1) := by decide +kernel
abbrev M_X3_isOfLines : MRec := (yX3_isOfLines, cX3_isOfLines, 1, (some Jvm.ClassFile.FieldType.boolean), [])
theorem m_X3_isOfLines : en_M M_X3_isOfLines 1 := ⟨t_1923, t_11, ⟨by decide +kernel, by decide +kernel⟩, by decide +kernel, by decide +kernel, by decide +kernel⟩
theorem dX3_raise_0 : decode cX3_raise 0 = .ok (.iconst 3, 1) := by decide +kernel
theorem dX3_raise_1 : decode cX3_raise 1 = .ok (.iload_n 1, 1) := by decide +kernel
theorem dX3_raise_2 : decode cX3_raise 2 = .ok (.imul, 1) := by decide +kernel
theorem dX3_raise_3 : decode cX3_raise 3 = .ok (.iload_n 2, 1) := by decide +kernel
theorem dX3_raise_4 : decode cX3_raise 4 = .ok (.iadd, 1) := by decide +kernel
theorem dX3_raise_5 : decode cX3_raise 5 = .ok (.istore 4, 2) := by decide +kernel
theorem dX3_raise_7 : decode cX3_raise 7 = .ok (.aload_n 0, 1) := by decide +kernel
theorem dX3_raise_8 : decode cX3_raise 8 = .ok (.getfield 20, 3) := by decide +kernel
theorem dX3_raise_11 : decode cX3_raise 11 = .ok (.iload 4, 2) := by decide +kernel
theorem dX3_raise_13 : decode cX3_raise 13 = .ok (.aload_n 0, 1) := by decide +kernel
theorem dX3_raise_14 : decode cX3_raise 14 = .ok (.getfield 20, 3) := by decide +kernel
theorem dX3_raise_17 : decode cX3_raise 17 = .ok (.iload 4, 2) := by decide +kernel
theorem dX3_raise_19 : decode cX3_raise 19 = .ok (.iaload, 1) := by decide +kernel
theorem dX3_raise_20 : decode cX3_raise 20 = .ok (.iload_n 3, 1) := by decide +kernel
theorem dX3_raise_21 : decode cX3_raise 21 = .ok (.invokestatic 154, 3) := by decide +kernel
theorem dX3_raise_24 : decode cX3_raise 24 = .ok (.iastore, 1) := by decide +kernel
theorem dX3_raise_25 : decode cX3_raise 25 = .ok (.return_, 1) := by decide +kernel
abbrev M_X3_raise : MRec := (yX3_raise, cX3_raise, 5, none, [])
theorem m_X3_raise : en_M M_X3_raise 3 := ⟨t_2001, t_11, ⟨by decide +kernel, by decide +kernel⟩, by decide +kernel, by decide +kernel, by decide +kernel⟩
theorem dX3_collect_0 : decode cX3_collect 0 = .ok (.aload_n 1, 1) := by decide +kernel
theorem dX3_collect_1 : decode cX3_collect 1 = .ok (.invokestatic 55, 3) := by decide +kernel
theorem dX3_collect_4 : decode cX3_collect 4 = .ok (.ifCond .eq 5, 3) := by decide +kernel
theorem dX3_collect_7 : decode cX3_collect 7 = .ok (.iconst 1, 1) := by decide +kernel
theorem dX3_collect_8 : decode cX3_collect 8 = .ok (.ireturn, 1) := by decide +kernel
theorem dX3_collect_9 : decode cX3_collect 9 = .ok (.iconst 0, 1) := by decide +kernel
theorem dX3_collect_10 : decode cX3_collect 10 = .ok (.istore_n 3, 1) := by decide +kernel
theorem dX3_collect_11 : decode cX3_collect 11 = .ok (.iconst 0, 1) := by decide +kernel
theorem dX3_collect_12 : decode cX3_collect 12 = .ok (.istore 4, 2) := by decide +kernel
theorem dX3_collect_14 : decode cX3_collect 14 = .ok (.iload 4, 2) := by decide +kernel
theorem dX3_collect_16 : decode cX3_collect 16 = .ok (.iconst 1, 1) := by decide +kernel
theorem dX3_collect_17 : decode cX3_collect 17 = .ok (.iadd, 1) := by decide +kernel
theorem dX3_collect_18 : decode cX3_collect 18 = .ok (.aload_n 1, 1) := by decide +kernel
theorem dX3_collect_19 : decode cX3_collect 19 = .ok (.getfield 59, 3) := by decide +kernel
theorem dX3_collect_22 : decode cX3_collect 22 = .ok (.if_icmp .ge 129, 3) := by decide +kernel
theorem dX3_collect_25 : decode cX3_collect 25 = .ok (.iconst 0, 1) := by decide +kernel
theorem dX3_collect_26 : decode cX3_collect 26 = .ok (.istore 5, 2) := by decide +kernel
theorem dX3_collect_28 : decode cX3_collect 28 = .ok (.iload 5, 2) := by decide +kernel
theorem dX3_collect_30 : decode cX3_collect 30 = .ok (.aload_n 1, 1) := by decide +kernel
theorem dX3_collect_31 : decode cX3_collect 31 = .ok (.iload 4, 2) := by decide +kernel
theorem dX3_collect_33 : decode cX3_collect 33 = .ok (.invokevirtual 63, 3) := by decide +kernel
theorem dX3_collect_36 : decode cX3_collect 36 = .ok (.if_icmp .ge 104, 3) := by decide +kernel
theorem dX3_collect_39 : decode cX3_collect 39 = .ok (.iload_n 3, 1) := by decide +kernel
theorem dX3_collect_40 : decode cX3_collect 40 = .ok (.aload_n 1, 1) := by decide +kernel
theorem dX3_collect_41 : decode cX3_collect 41 = .ok (.iload 4, 2) := by decide +kernel
theorem dX3_collect_43 : decode cX3_collect 43 = .ok (.iload 5, 2) := by decide +kernel
theorem dX3_collect_45 : decode cX3_collect 45 = .ok (.invokevirtual 77, 3) := by decide +kernel
theorem dX3_collect_48 : decode cX3_collect 48 = .ok (.iadd, 1) := by decide +kernel
theorem dX3_collect_49 : decode cX3_collect 49 = .ok (.istore 6, 2) := by decide +kernel
theorem dX3_collect_51 : decode cX3_collect 51 = .ok (.iload_n 3, 1) := by decide +kernel
theorem dX3_collect_52 : decode cX3_collect 52 = .ok (.istore 7, 2) := by decide +kernel
theorem dX3_collect_54 : decode cX3_collect 54 = .ok (.iload 7, 2) := by decide +kernel
theorem dX3_collect_56 : decode cX3_collect 56 = .ok (.iload 6, 2) := by decide +kernel
theorem dX3_collect_58 : decode cX3_collect 58 = .ok (.if_icmp .ge 73, 3) := by decide +kernel
theorem dX3_collect_61 : decode cX3_collect 61 = .ok (.iload 7, 2) := by decide +kernel
theorem dX3_collect_63 : decode cX3_collect 63 = .ok (.iconst 1, 1) := by decide +kernel
theorem dX3_collect_64 : decode cX3_collect 64 = .ok (.iadd, 1) := by decide +kernel
theorem dX3_collect_65 : decode cX3_collect 65 = .ok (.iload 6, 2) := by decide +kernel
theorem dX3_collect_67 : decode cX3_collect 67 = .ok (.if_icmp .ge 10, 3) := by decide +kernel
theorem dX3_collect_70 : decode cX3_collect 70 = .ok (.iload 7, 2) := by decide +kernel
theorem dX3_collect_72 : decode cX3_collect 72 = .ok (.iconst 1, 1) := by decide +kernel
theorem dX3_collect_73 : decode cX3_collect 73 = .ok (.iadd, 1) := by decide +kernel
theorem dX3_collect_74 : decode cX3_collect 74 = .ok (.goto 4, 3) := by decide +kernel
theorem dX3_collect_77 : decode cX3_collect 77 = .ok (.iload_n 3, 1) := by decide +kernel
theorem dX3_collect_78 : decode cX3_collect 78 = .ok (.istore 8, 2) := by decide +kernel
theorem dX3_collect_80 : decode cX3_collect 80 = .ok (.aload_n 1, 1) := by decide +kernel
theorem dX3_collect_81 : decode cX3_collect 81 = .ok (.iload 7, 2) := by decide +kernel
theorem dX3_collect_83 : decode cX3_collect 83 = .ok (.iload 8, 2) := by decide +kernel
theorem dX3_collect_85 : decode cX3_collect 85 = .ok (.invokevirtual 85, 3) := by decide +kernel
theorem dX3_collect_88 : decode cX3_collect 88 = .ok (.ifCond .ne 37, 3) := by decide +kernel
theorem dX3_collect_91 : decode cX3_collect 91 = .ok (.iload 8, 2) := by decide +kernel
theorem dX3_collect_93 : decode cX3_collect 93 = .ok (.iload_n 3, 1) := by decide +kernel
theorem dX3_collect_94 : decode cX3_collect 94 = .ok (.if_icmp .ne 13, 3) := by decide +kernel
theorem dX3_collect_97 : decode cX3_collect 97 = .ok (.aload_n 1, 1) := by decide +kernel
theorem dX3_collect_98 : decode cX3_collect 98 = .ok (.invokestatic 74, 3) := by decide +kernel
theorem dX3_collect_101 : decode cX3_collect 101 = .ok (.ifCond .ne 6, 3) := by decide +kernel
theorem dX3_collect_104 : decode cX3_collect 104 = .ok (.goto 21, 3) := by decide +kernel
theorem dX3_collect_107 : decode cX3_collect 107 = .ok (.aload_n 0, 1) := by decide +kernel
theorem dX3_collect_108 : decode cX3_collect 108 = .ok (.getfield 16, 3) := by decide +kernel
theorem dX3_collect_111 : decode cX3_collect 111 = .ok (.aload_n 1, 1) := by decide +kernel
theorem dX3_collect_112 : decode cX3_collect 112 = .ok (.iload 7, 2) := by decide +kernel
theorem dX3_collect_114 : decode cX3_collect 114 = .ok (.iload 8, 2) := by decide +kernel
theorem dX3_collect_116 : decode cX3_collect 116 = .ok (.iload_n 2, 1) := by decide +kernel
theorem dX3_collect_117 : decode cX3_collect 117 = .ok (.invokevirtual 159, 3) := by decide +kernel
theorem dX3_collect_120 : decode cX3_collect 120 = .ok (.ifCond .ne 5, 3) := by decide +kernel
theorem dX3_collect_123 : decode cX3_collect 123 = .ok (.iconst 0, 1) := by decide +kernel
theorem dX3_collect_124 : decode cX3_collect 124 = .ok (.ireturn, 1) := by decide +kernel
theorem dX3_collect_125 : decode cX3_collect 125 = .ok (.iinc 7 1, 3) := by decide +kernel
theorem dX3_collect_128 : decode cX3_collect 128 = .ok (.goto (-74), 3) := by decide +kernel
theorem dX3_collect_131 : decode cX3_collect 131 = .ok (.iload 6, 2) := by decide +kernel
theorem dX3_collect_133 : decode cX3_collect 133 = .ok (.istore_n 3, 1) := by decide +kernel
theorem dX3_collect_134 : decode cX3_collect 134 = .ok (.iinc 5 1, 3) := by decide +kernel
theorem dX3_collect_137 : decode cX3_collect 137 = .ok (.goto (-109), 3) := by decide +kernel
theorem dX3_collect_140 : decode cX3_collect 140 = .ok (.aload_n 1, 1) := by decide +kernel
theorem dX3_collect_141 : decode cX3_collect 141 = .ok (.iload 4, 2) := by decide +kernel
theorem dX3_collect_143 : decode cX3_collect 143 = .ok (.invokevirtual 67, 3) := by decide +kernel
theorem dX3_collect_146 : decode cX3_collect 146 = .ok (.istore 4, 2) := by decide +kernel
theorem dX3_collect_148 : decode cX3_collect 148 = .ok (.goto (-134), 3) := by decide +kernel
theorem dX3_collect_151 : decode cX3_collect 151 = .ok (.iconst 1, 1) := by decide +kernel
theorem dX3_collect_152 : decode cX3_collect 152 = .ok (.ireturn, 1) := by decide +kernel
abbrev M_X3_collect : MRec := (yX3_collect, cX3_collect, 9, (some Jvm.ClassFile.FieldType.boolean), [])
theorem m_X3_collect : en_M M_X3_collect 2 := ⟨t_1902, t_11, ⟨by decide +kernel, by decide +kernel⟩, by decide +kernel, by decide +kernel, by decide +kernel⟩
theorem dX3_hasTooManyMeetings_0 : decode cX3_hasTooManyMeetings 0 = .ok (.iconst 0, 1) := by decide +kernel
theorem dX3_hasTooManyMeetings_1 : decode cX3_hasTooManyMeetings 1 = .ok (.istore_n 1, 1) := by decide +kernel
theorem dX3_hasTooManyMeetings_2 : decode cX3_hasTooManyMeetings 2 = .ok (.iconst 0, 1) := by decide +kernel
theorem dX3_hasTooManyMeetings_3 : decode cX3_hasTooManyMeetings 3 = .ok (.istore_n 2, 1) := by decide +kernel
theorem dX3_hasTooManyMeetings_4 : decode cX3_hasTooManyMeetings 4 = .ok (.iload_n 2, 1) := by decide +kernel
theorem dX3_hasTooManyMeetings_5 : decode cX3_hasTooManyMeetings 5 = .ok (.aload_n 0, 1) := by decide +kernel
theorem dX3_hasTooManyMeetings_6 : decode cX3_hasTooManyMeetings 6 = .ok (.getfield 16, 3) := by decide +kernel
theorem dX3_hasTooManyMeetings_9 : decode cX3_hasTooManyMeetings 9 = .ok (.getfield 105, 3) := by decide +kernel
theorem dX3_hasTooManyMeetings_12 : decode cX3_hasTooManyMeetings 12 = .ok (.if_icmp .ge 45, 3) := by decide +kernel
theorem dX3_hasTooManyMeetings_15 : decode cX3_hasTooManyMeetings 15 = .ok (.iload_n 2, 1) := by decide +kernel
theorem dX3_hasTooManyMeetings_16 : decode cX3_hasTooManyMeetings 16 = .ok (.iconst 1, 1) := by decide +kernel
theorem dX3_hasTooManyMeetings_17 : decode cX3_hasTooManyMeetings 17 = .ok (.iadd, 1) := by decide +kernel
theorem dX3_hasTooManyMeetings_18 : decode cX3_hasTooManyMeetings 18 = .ok (.istore_n 3, 1) := by decide +kernel
theorem dX3_hasTooManyMeetings_19 : decode cX3_hasTooManyMeetings 19 = .ok (.iload_n 3, 1) := by decide +kernel
theorem dX3_hasTooManyMeetings_20 : decode cX3_hasTooManyMeetings 20 = .ok (.aload_n 0, 1) := by decide +kernel
theorem dX3_hasTooManyMeetings_21 : decode cX3_hasTooManyMeetings 21 = .ok (.getfield 16, 3) := by decide +kernel
theorem dX3_hasTooManyMeetings_24 : decode cX3_hasTooManyMeetings 24 = .ok (.getfield 105, 3) := by decide +kernel
theorem dX3_hasTooManyMeetings_27 : decode cX3_hasTooManyMeetings 27 = .ok (.if_icmp .ge 24, 3) := by decide +kernel
theorem dX3_hasTooManyMeetings_30 : decode cX3_hasTooManyMeetings 30 = .ok (.aload_n 0, 1) := by decide +kernel
theorem dX3_hasTooManyMeetings_31 : decode cX3_hasTooManyMeetings 31 = .ok (.getfield 16, 3) := by decide +kernel
theorem dX3_hasTooManyMeetings_34 : decode cX3_hasTooManyMeetings 34 = .ok (.iload_n 2, 1) := by decide +kernel
theorem dX3_hasTooManyMeetings_35 : decode cX3_hasTooManyMeetings 35 = .ok (.iload_n 3, 1) := by decide +kernel
theorem dX3_hasTooManyMeetings_36 : decode cX3_hasTooManyMeetings 36 = .ok (.invokevirtual 163, 3) := by decide +kernel
theorem dX3_hasTooManyMeetings_39 : decode cX3_hasTooManyMeetings 39 = .ok (.ifCond .eq 6, 3) := by decide +kernel
theorem dX3_hasTooManyMeetings_42 : decode cX3_hasTooManyMeetings 42 = .ok (.iinc 1 1, 3) := by decide +kernel
theorem dX3_hasTooManyMeetings_45 : decode cX3_hasTooManyMeetings 45 = .ok (.iinc 3 1, 3) := by decide +kernel
theorem dX3_hasTooManyMeetings_48 : decode cX3_hasTooManyMeetings 48 = .ok (.goto (-29), 3) := by decide +kernel
theorem dX3_hasTooManyMeetings_51 : decode cX3_hasTooManyMeetings 51 = .ok (.iinc 2 1, 3) := by decide +kernel
theorem dX3_hasTooManyMeetings_54 : decode cX3_hasTooManyMeetings 54 = .ok (.goto (-50), 3) := by decide +kernel
theorem dX3_hasTooManyMeetings_57 : decode cX3_hasTooManyMeetings 57 = .ok (.iload_n 1, 1) := by decide +kernel
theorem dX3_hasTooManyMeetings_58 : decode cX3_hasTooManyMeetings 58 = .ok (.sipush 1024, 3) := by decide +kernel
theorem dX3_hasTooManyMeetings_61 : decode cX3_hasTooManyMeetings 61 = .ok (.if_icmp .le 7, 3) := by decide +kernel
theorem dX3_hasTooManyMeetings_64 : decode cX3_hasTooManyMeetings 64 = .ok (.iconst 1, 1) := by decide +kernel
theorem dX3_hasTooManyMeetings_65 : decode cX3_hasTooManyMeetings 65 = .ok (.goto 4, 3) := by decide +kernel
theorem dX3_hasTooManyMeetings_68 : decode cX3_hasTooManyMeetings 68 = .ok (.iconst 0, 1) := by decide +kernel
theorem dX3_hasTooManyMeetings_69 : decode cX3_hasTooManyMeetings 69 = .ok (.ireturn, 1) := by decide +kernel
abbrev M_X3_hasTooManyMeetings : MRec := (yX3_hasTooManyMeetings, cX3_hasTooManyMeetings, 4, (some Jvm.ClassFile.FieldType.boolean), [])
theorem m_X3_hasTooManyMeetings : en_M M_X3_hasTooManyMeetings 0 := ⟨t_1912, t_11, ⟨by decide +kernel, by decide +kernel⟩, by decide +kernel, by decide +kernel, by decide +kernel⟩
theorem dX3_listRims_0 : decode cX3_listRims 0 = .ok (.aload_n 1, 1) := by decide +kernel
theorem dX3_listRims_1 : decode cX3_listRims 1 = .ok (.invokestatic 166, 3) := by decide +kernel
theorem dX3_listRims_4 : decode cX3_listRims 4 = .ok (.ifCond .ne 4, 3) := by decide +kernel
theorem dX3_listRims_7 : decode cX3_listRims 7 = .ok (.return_, 1) := by decide +kernel
theorem dX3_listRims_8 : decode cX3_listRims 8 = .ok (.iconst 0, 1) := by decide +kernel
theorem dX3_listRims_9 : decode cX3_listRims 9 = .ok (.istore_n 3, 1) := by decide +kernel
theorem dX3_listRims_10 : decode cX3_listRims 10 = .ok (.iconst 0, 1) := by decide +kernel
theorem dX3_listRims_11 : decode cX3_listRims 11 = .ok (.istore 4, 2) := by decide +kernel
theorem dX3_listRims_13 : decode cX3_listRims 13 = .ok (.iconst 0, 1) := by decide +kernel
theorem dX3_listRims_14 : decode cX3_listRims 14 = .ok (.istore 5, 2) := by decide +kernel
theorem dX3_listRims_16 : decode cX3_listRims 16 = .ok (.iload 5, 2) := by decide +kernel
theorem dX3_listRims_18 : decode cX3_listRims 18 = .ok (.iconst 1, 1) := by decide +kernel
theorem dX3_listRims_19 : decode cX3_listRims 19 = .ok (.iadd, 1) := by decide +kernel
theorem dX3_listRims_20 : decode cX3_listRims 20 = .ok (.aload_n 1, 1) := by decide +kernel
theorem dX3_listRims_21 : decode cX3_listRims 21 = .ok (.getfield 59, 3) := by decide +kernel
theorem dX3_listRims_24 : decode cX3_listRims 24 = .ok (.if_icmp .ge 113, 3) := by decide +kernel
theorem dX3_listRims_27 : decode cX3_listRims 27 = .ok (.iload 4, 2) := by decide +kernel
theorem dX3_listRims_29 : decode cX3_listRims 29 = .ok (.aload_n 1, 1) := by decide +kernel
theorem dX3_listRims_30 : decode cX3_listRims 30 = .ok (.iload 5, 2) := by decide +kernel
theorem dX3_listRims_32 : decode cX3_listRims 32 = .ok (.invokevirtual 169, 3) := by decide +kernel
theorem dX3_listRims_35 : decode cX3_listRims 35 = .ok (.iadd, 1) := by decide +kernel
theorem dX3_listRims_36 : decode cX3_listRims 36 = .ok (.iconst 1, 1) := by decide +kernel
theorem dX3_listRims_37 : decode cX3_listRims 37 = .ok (.isub, 1) := by decide +kernel
theorem dX3_listRims_38 : decode cX3_listRims 38 = .ok (.istore 6, 2) := by decide +kernel
theorem dX3_listRims_40 : decode cX3_listRims 40 = .ok (.iload 6, 2) := by decide +kernel
theorem dX3_listRims_42 : decode cX3_listRims 42 = .ok (.iload 4, 2) := by decide +kernel
theorem dX3_listRims_44 : decode cX3_listRims 44 = .ok (.if_icmp .le 76, 3) := by decide +kernel
theorem dX3_listRims_47 : decode cX3_listRims 47 = .ok (.aload_n 1, 1) := by decide +kernel
theorem dX3_listRims_48 : decode cX3_listRims 48 = .ok (.iload 4, 2) := by decide +kernel
theorem dX3_listRims_50 : decode cX3_listRims 50 = .ok (.iload 6, 2) := by decide +kernel
theorem dX3_listRims_52 : decode cX3_listRims 52 = .ok (.invokevirtual 85, 3) := by decide +kernel
theorem dX3_listRims_55 : decode cX3_listRims 55 = .ok (.ifCond .ne 65, 3) := by decide +kernel
theorem dX3_listRims_58 : decode cX3_listRims 58 = .ok (.iload_n 3, 1) := by decide +kernel
theorem dX3_listRims_59 : decode cX3_listRims 59 = .ok (.iconst 1, 1) := by decide +kernel
theorem dX3_listRims_60 : decode cX3_listRims 60 = .ok (.iadd, 1) := by decide +kernel
theorem dX3_listRims_61 : decode cX3_listRims 61 = .ok (.aload_n 0, 1) := by decide +kernel
theorem dX3_listRims_62 : decode cX3_listRims 62 = .ok (.getfield 24, 3) := by decide +kernel
theorem dX3_listRims_65 : decode cX3_listRims 65 = .ok (.arraylength, 1) := by decide +kernel
theorem dX3_listRims_66 : decode cX3_listRims 66 = .ok (.if_icmp .ge 54, 3) := by decide +kernel
theorem dX3_listRims_69 : decode cX3_listRims 69 = .ok (.aload_n 0, 1) := by decide +kernel
theorem dX3_listRims_70 : decode cX3_listRims 70 = .ok (.getfield 24, 3) := by decide +kernel
theorem dX3_listRims_73 : decode cX3_listRims 73 = .ok (.iload_n 3, 1) := by decide +kernel
theorem dX3_listRims_74 : decode cX3_listRims 74 = .ok (.aload_n 1, 1) := by decide +kernel
theorem dX3_listRims_75 : decode cX3_listRims 75 = .ok (.getfield 89, 3) := by decide +kernel
theorem dX3_listRims_78 : decode cX3_listRims 78 = .ok (.iload 4, 2) := by decide +kernel
theorem dX3_listRims_80 : decode cX3_listRims 80 = .ok (.iaload, 1) := by decide +kernel
theorem dX3_listRims_81 : decode cX3_listRims 81 = .ok (.aload_n 1, 1) := by decide +kernel
theorem dX3_listRims_82 : decode cX3_listRims 82 = .ok (.getfield 92, 3) := by decide +kernel
theorem dX3_listRims_85 : decode cX3_listRims 85 = .ok (.iload 4, 2) := by decide +kernel
theorem dX3_listRims_87 : decode cX3_listRims 87 = .ok (.iaload, 1) := by decide +kernel
theorem dX3_listRims_88 : decode cX3_listRims 88 = .ok (.invokestatic 172, 3) := by decide +kernel
theorem dX3_listRims_91 : decode cX3_listRims 91 = .ok (.lastore, 1) := by decide +kernel
theorem dX3_listRims_92 : decode cX3_listRims 92 = .ok (.aload_n 0, 1) := by decide +kernel
theorem dX3_listRims_93 : decode cX3_listRims 93 = .ok (.getfield 24, 3) := by decide +kernel
theorem dX3_listRims_96 : decode cX3_listRims 96 = .ok (.iload_n 3, 1) := by decide +kernel
theorem dX3_listRims_97 : decode cX3_listRims 97 = .ok (.iconst 1, 1) := by decide +kernel
theorem dX3_listRims_98 : decode cX3_listRims 98 = .ok (.iadd, 1) := by decide +kernel
theorem dX3_listRims_99 : decode cX3_listRims 99 = .ok (.aload_n 1, 1) := by decide +kernel
theorem dX3_listRims_100 : decode cX3_listRims 100 = .ok (.getfield 89, 3) := by decide +kernel
theorem dX3_listRims_103 : decode cX3_listRims 103 = .ok (.iload 6, 2) := by decide +kernel
theorem dX3_listRims_105 : decode cX3_listRims 105 = .ok (.iaload, 1) := by decide +kernel
theorem dX3_listRims_106 : decode cX3_listRims 106 = .ok (.aload_n 1, 1) := by decide +kernel
theorem dX3_listRims_107 : decode cX3_listRims 107 = .ok (.getfield 92, 3) := by decide +kernel
theorem dX3_listRims_110 : decode cX3_listRims 110 = .ok (.iload 6, 2) := by decide +kernel
theorem dX3_listRims_112 : decode cX3_listRims 112 = .ok (.iaload, 1) := by decide +kernel
theorem dX3_listRims_113 : decode cX3_listRims 113 = .ok (.invokestatic 172, 3) := by decide +kernel
theorem dX3_listRims_116 : decode cX3_listRims 116 = .ok (.lastore, 1) := by decide +kernel
theorem dX3_listRims_117 : decode cX3_listRims 117 = .ok (.iinc 3 2, 3) := by decide +kernel
theorem dX3_listRims_120 : decode cX3_listRims 120 = .ok (.iload 6, 2) := by decide +kernel
theorem dX3_listRims_122 : decode cX3_listRims 122 = .ok (.iconst 1, 1) := by decide +kernel
theorem dX3_listRims_123 : decode cX3_listRims 123 = .ok (.iadd, 1) := by decide +kernel
theorem dX3_listRims_124 : decode cX3_listRims 124 = .ok (.istore 4, 2) := by decide +kernel
theorem dX3_listRims_126 : decode cX3_listRims 126 = .ok (.aload_n 1, 1) := by decide +kernel
theorem dX3_listRims_127 : decode cX3_listRims 127 = .ok (.iload 5, 2) := by decide +kernel
theorem dX3_listRims_129 : decode cX3_listRims 129 = .ok (.invokevirtual 67, 3) := by decide +kernel
theorem dX3_listRims_132 : decode cX3_listRims 132 = .ok (.istore 5, 2) := by decide +kernel
theorem dX3_listRims_134 : decode cX3_listRims 134 = .ok (.goto (-118), 3) := by decide +kernel
theorem dX3_listRims_137 : decode cX3_listRims 137 = .ok (.aload_n 0, 1) := by decide +kernel
theorem dX3_listRims_138 : decode cX3_listRims 138 = .ok (.getfield 24, 3) := by decide +kernel
theorem dX3_listRims_141 : decode cX3_listRims 141 = .ok (.iload_n 3, 1) := by decide +kernel
theorem dX3_listRims_142 : decode cX3_listRims 142 = .ok (.invokestatic 176, 3) := by decide +kernel
theorem dX3_listRims_145 : decode cX3_listRims 145 = .ok (.iconst 0, 1) := by decide +kernel
theorem dX3_listRims_146 : decode cX3_listRims 146 = .ok (.istore 5, 2) := by decide +kernel
theorem dX3_listRims_148 : decode cX3_listRims 148 = .ok (.iconst 0, 1) := by decide +kernel
theorem dX3_listRims_149 : decode cX3_listRims 149 = .ok (.istore 6, 2) := by decide +kernel
theorem dX3_listRims_151 : decode cX3_listRims 151 = .ok (.iload 6, 2) := by decide +kernel
theorem dX3_listRims_153 : decode cX3_listRims 153 = .ok (.iload_n 3, 1) := by decide +kernel
theorem dX3_listRims_154 : decode cX3_listRims 154 = .ok (.if_icmp .ge 130, 3) := by decide +kernel
theorem dX3_listRims_157 : decode cX3_listRims 157 = .ok (.iload 5, 2) := by decide +kernel
theorem dX3_listRims_159 : decode cX3_listRims 159 = .ok (.ifCond .ne 7, 3) := by decide +kernel
theorem dX3_listRims_162 : decode cX3_listRims 162 = .ok (.iconst 1, 1) := by decide +kernel
theorem dX3_listRims_163 : decode cX3_listRims 163 = .ok (.goto 4, 3) := by decide +kernel
theorem dX3_listRims_166 : decode cX3_listRims 166 = .ok (.iconst 0, 1) := by decide +kernel
theorem dX3_listRims_167 : decode cX3_listRims 167 = .ok (.istore 5, 2) := by decide +kernel
theorem dX3_listRims_169 : decode cX3_listRims 169 = .ok (.iload 6, 2) := by decide +kernel
theorem dX3_listRims_171 : decode cX3_listRims 171 = .ok (.iconst 1, 1) := by decide +kernel
theorem dX3_listRims_172 : decode cX3_listRims 172 = .ok (.iadd, 1) := by decide +kernel
theorem dX3_listRims_173 : decode cX3_listRims 173 = .ok (.iload_n 3, 1) := by decide +kernel
theorem dX3_listRims_174 : decode cX3_listRims 174 = .ok (.if_icmp .ge 26, 3) := by decide +kernel
theorem dX3_listRims_177 : decode cX3_listRims 177 = .ok (.aload_n 0, 1) := by decide +kernel
theorem dX3_listRims_178 : decode cX3_listRims 178 = .ok (.getfield 24, 3) := by decide +kernel
theorem dX3_listRims_181 : decode cX3_listRims 181 = .ok (.iload 6, 2) := by decide +kernel
theorem dX3_listRims_183 : decode cX3_listRims 183 = .ok (.iconst 1, 1) := by decide +kernel
theorem dX3_listRims_184 : decode cX3_listRims 184 = .ok (.iadd, 1) := by decide +kernel
theorem dX3_listRims_185 : decode cX3_listRims 185 = .ok (.laload, 1) := by decide +kernel
theorem dX3_listRims_186 : decode cX3_listRims 186 = .ok (.aload_n 0, 1) := by decide +kernel
theorem dX3_listRims_187 : decode cX3_listRims 187 = .ok (.getfield 24, 3) := by decide +kernel
theorem dX3_listRims_190 : decode cX3_listRims 190 = .ok (.iload 6, 2) := by decide +kernel
theorem dX3_listRims_192 : decode cX3_listRims 192 = .ok (.laload, 1) := by decide +kernel
theorem dX3_listRims_193 : decode cX3_listRims 193 = .ok (.lcmp, 1) := by decide +kernel
theorem dX3_listRims_194 : decode cX3_listRims 194 = .ok (.ifCond .ne 6, 3) := by decide +kernel
theorem dX3_listRims_197 : decode cX3_listRims 197 = .ok (.goto 81, 3) := by decide +kernel
theorem dX3_listRims_200 : decode cX3_listRims 200 = .ok (.iload 5, 2) := by decide +kernel
theorem dX3_listRims_202 : decode cX3_listRims 202 = .ok (.ifCond .eq 73, 3) := by decide +kernel
theorem dX3_listRims_205 : decode cX3_listRims 205 = .ok (.aload_n 0, 1) := by decide +kernel
theorem dX3_listRims_206 : decode cX3_listRims 206 = .ok (.getfield 128, 3) := by decide +kernel
theorem dX3_listRims_209 : decode cX3_listRims 209 = .ok (.aload_n 0, 1) := by decide +kernel
theorem dX3_listRims_210 : decode cX3_listRims 210 = .ok (.getfield 28, 3) := by decide +kernel
theorem dX3_listRims_213 : decode cX3_listRims 213 = .ok (.arraylength, 1) := by decide +kernel
theorem dX3_listRims_214 : decode cX3_listRims 214 = .ok (.if_icmp .ge 61, 3) := by decide +kernel
theorem dX3_listRims_217 : decode cX3_listRims 217 = .ok (.aload_n 0, 1) := by decide +kernel
theorem dX3_listRims_218 : decode cX3_listRims 218 = .ok (.getfield 28, 3) := by decide +kernel
theorem dX3_listRims_221 : decode cX3_listRims 221 = .ok (.aload_n 0, 1) := by decide +kernel
theorem dX3_listRims_222 : decode cX3_listRims 222 = .ok (.getfield 128, 3) := by decide +kernel
theorem dX3_listRims_225 : decode cX3_listRims 225 = .ok (.aload_n 0, 1) := by decide +kernel
theorem dX3_listRims_226 : decode cX3_listRims 226 = .ok (.getfield 24, 3) := by decide +kernel
theorem dX3_listRims_229 : decode cX3_listRims 229 = .ok (.iload 6, 2) := by decide +kernel
theorem dX3_listRims_231 : decode cX3_listRims 231 = .ok (.laload, 1) := by decide +kernel
theorem dX3_listRims_232 : decode cX3_listRims 232 = .ok (.invokestatic 180, 3) := by decide +kernel
theorem dX3_listRims_235 : decode cX3_listRims 235 = .ok (.iastore, 1) := by decide +kernel
theorem dX3_listRims_236 : decode cX3_listRims 236 = .ok (.aload_n 0, 1) := by decide +kernel
theorem dX3_listRims_237 : decode cX3_listRims 237 = .ok (.getfield 31, 3) := by decide +kernel
theorem dX3_listRims_240 : decode cX3_listRims 240 = .ok (.aload_n 0, 1) := by decide +kernel
theorem dX3_listRims_241 : decode cX3_listRims 241 = .ok (.getfield 128, 3) := by decide +kernel
theorem dX3_listRims_244 : decode cX3_listRims 244 = .ok (.aload_n 0, 1) := by decide +kernel
theorem dX3_listRims_245 : decode cX3_listRims 245 = .ok (.getfield 24, 3) := by decide +kernel
theorem dX3_listRims_248 : decode cX3_listRims 248 = .ok (.iload 6, 2) := by decide +kernel
theorem dX3_listRims_250 : decode cX3_listRims 250 = .ok (.laload, 1) := by decide +kernel
theorem dX3_listRims_251 : decode cX3_listRims 251 = .ok (.invokestatic 184, 3) := by decide +kernel
theorem dX3_listRims_254 : decode cX3_listRims 254 = .ok (.iastore, 1) := by decide +kernel
theorem dX3_listRims_255 : decode cX3_listRims 255 = .ok (.aload_n 0, 1) := by decide +kernel
theorem dX3_listRims_256 : decode cX3_listRims 256 = .ok (.getfield 34, 3) := by decide +kernel
theorem dX3_listRims_259 : decode cX3_listRims 259 = .ok (.aload_n 0, 1) := by decide +kernel
theorem dX3_listRims_260 : decode cX3_listRims 260 = .ok (.getfield 128, 3) := by decide +kernel
theorem dX3_listRims_263 : decode cX3_listRims 263 = .ok (.iload_n 2, 1) := by decide +kernel
theorem dX3_listRims_264 : decode cX3_listRims 264 = .ok (.iastore, 1) := by decide +kernel
theorem dX3_listRims_265 : decode cX3_listRims 265 = .ok (.aload_n 0, 1) := by decide +kernel
theorem dX3_listRims_266 : decode cX3_listRims 266 = .ok (.dup, 1) := by decide +kernel
theorem dX3_listRims_267 : decode cX3_listRims 267 = .ok (.getfield 128, 3) := by decide +kernel
theorem dX3_listRims_270 : decode cX3_listRims 270 = .ok (.iconst 1, 1) := by decide +kernel
theorem dX3_listRims_271 : decode cX3_listRims 271 = .ok (.iadd, 1) := by decide +kernel
theorem dX3_listRims_272 : decode cX3_listRims 272 = .ok (.putfield 128, 3) := by decide +kernel
theorem dX3_listRims_275 : decode cX3_listRims 275 = .ok (.iconst 0, 1) := by decide +kernel
theorem dX3_listRims_276 : decode cX3_listRims 276 = .ok (.istore 5, 2) := by decide +kernel
theorem dX3_listRims_278 : decode cX3_listRims 278 = .ok (.iinc 6 1, 3) := by decide +kernel
theorem dX3_listRims_281 : decode cX3_listRims 281 = .ok (.goto (-130), 3) := by decide +kernel
theorem dX3_listRims_284 : decode cX3_listRims 284 = .ok (.return_, 1) := by decide +kernel
abbrev M_X3_listRims : MRec := (yX3_listRims, cX3_listRims, 7, none, [])
theorem m_X3_listRims : en_M M_X3_listRims 2 := ⟨t_1920, t_11, ⟨by decide +kernel, by decide +kernel⟩, by decide +kernel, by decide +kernel, by decide +kernel⟩
theorem dX3_addCut_0 : decode cX3_addCut 0 = .ok (.lload_n 1, 1) := by decide +kernel
theorem dX3_addCut_1 : decode cX3_addCut 1 = .ok (.lload_n 3, 1) := by decide +kernel
theorem dX3_addCut_2 : decode cX3_addCut 2 = .ok (.lcmp, 1) := by decide +kernel
theorem dX3_addCut_3 : decode cX3_addCut 3 = .ok (.ifCond .ge 15, 3) := by decide +kernel
theorem dX3_addCut_6 : decode cX3_addCut 6 = .ok (.aload_n 0, 1) := by decide +kernel
theorem dX3_addCut_7 : decode cX3_addCut 7 = .ok (.getfield 187, 3) := by decide +kernel
theorem dX3_addCut_10 : decode cX3_addCut 10 = .ok (.aload_n 0, 1) := by decide +kernel
theorem dX3_addCut_11 : decode cX3_addCut 11 = .ok (.getfield 37, 3) := by decide +kernel
theorem dX3_addCut_14 : decode cX3_addCut 14 = .ok (.arraylength, 1) := by decide +kernel
theorem dX3_addCut_15 : decode cX3_addCut 15 = .ok (.if_icmp .lt 4, 3) := by decide +kernel
theorem dX3_addCut_18 : decode cX3_addCut 18 = .ok (.return_, 1) := by decide +kernel
theorem dX3_addCut_19 : decode cX3_addCut 19 = .ok (.aload_n 0, 1) := by decide +kernel
theorem dX3_addCut_20 : decode cX3_addCut 20 = .ok (.getfield 187, 3) := by decide +kernel
theorem dX3_addCut_23 : decode cX3_addCut 23 = .ok (.istore 5, 2) := by decide +kernel
theorem dX3_addCut_25 : decode cX3_addCut 25 = .ok (.iload 5, 2) := by decide +kernel
theorem dX3_addCut_27 : decode cX3_addCut 27 = .ok (.ifCond .le 70, 3) := by decide +kernel
theorem dX3_addCut_30 : decode cX3_addCut 30 = .ok (.aload_n 0, 1) := by decide +kernel
theorem dX3_addCut_31 : decode cX3_addCut 31 = .ok (.getfield 37, 3) := by decide +kernel
theorem dX3_addCut_34 : decode cX3_addCut 34 = .ok (.iload 5, 2) := by decide +kernel
theorem dX3_addCut_36 : decode cX3_addCut 36 = .ok (.iconst 1, 1) := by decide +kernel
theorem dX3_addCut_37 : decode cX3_addCut 37 = .ok (.isub, 1) := by decide +kernel
theorem dX3_addCut_38 : decode cX3_addCut 38 = .ok (.laload, 1) := by decide +kernel
theorem dX3_addCut_39 : decode cX3_addCut 39 = .ok (.lload_n 3, 1) := by decide +kernel
theorem dX3_addCut_40 : decode cX3_addCut 40 = .ok (.lload_n 1, 1) := by decide +kernel
theorem dX3_addCut_41 : decode cX3_addCut 41 = .ok (.lneg, 1) := by decide +kernel
theorem dX3_addCut_42 : decode cX3_addCut 42 = .ok (.aload_n 0, 1) := by decide +kernel
theorem dX3_addCut_43 : decode cX3_addCut 43 = .ok (.getfield 40, 3) := by decide +kernel
theorem dX3_addCut_46 : decode cX3_addCut 46 = .ok (.iload 5, 2) := by decide +kernel
theorem dX3_addCut_48 : decode cX3_addCut 48 = .ok (.iconst 1, 1) := by decide +kernel
theorem dX3_addCut_49 : decode cX3_addCut 49 = .ok (.isub, 1) := by decide +kernel
theorem dX3_addCut_50 : decode cX3_addCut 50 = .ok (.laload, 1) := by decide +kernel
theorem dX3_addCut_51 : decode cX3_addCut 51 = .ok (.lconst 0, 1) := by decide +kernel
theorem dX3_addCut_52 : decode cX3_addCut 52 = .ok (.lconst 0, 1) := by decide +kernel
theorem dX3_addCut_53 : decode cX3_addCut 53 = .ok (.invokestatic 198, 3) := by decide +kernel
theorem dX3_addCut_56 : decode cX3_addCut 56 = .ok (.ifCond .le 41, 3) := by decide +kernel
theorem dX3_addCut_59 : decode cX3_addCut 59 = .ok (.aload_n 0, 1) := by decide +kernel
theorem dX3_addCut_60 : decode cX3_addCut 60 = .ok (.getfield 37, 3) := by decide +kernel
theorem dX3_addCut_63 : decode cX3_addCut 63 = .ok (.iload 5, 2) := by decide +kernel
theorem dX3_addCut_65 : decode cX3_addCut 65 = .ok (.aload_n 0, 1) := by decide +kernel
theorem dX3_addCut_66 : decode cX3_addCut 66 = .ok (.getfield 37, 3) := by decide +kernel
theorem dX3_addCut_69 : decode cX3_addCut 69 = .ok (.iload 5, 2) := by decide +kernel
theorem dX3_addCut_71 : decode cX3_addCut 71 = .ok (.iconst 1, 1) := by decide +kernel
theorem dX3_addCut_72 : decode cX3_addCut 72 = .ok (.isub, 1) := by decide +kernel
theorem dX3_addCut_73 : decode cX3_addCut 73 = .ok (.laload, 1) := by decide +kernel
theorem dX3_addCut_74 : decode cX3_addCut 74 = .ok (.lastore, 1) := by decide +kernel
theorem dX3_addCut_75 : decode cX3_addCut 75 = .ok (.aload_n 0, 1) := by decide +kernel
theorem dX3_addCut_76 : decode cX3_addCut 76 = .ok (.getfield 40, 3) := by decide +kernel
theorem dX3_addCut_79 : decode cX3_addCut 79 = .ok (.iload 5, 2) := by decide +kernel
theorem dX3_addCut_81 : decode cX3_addCut 81 = .ok (.aload_n 0, 1) := by decide +kernel
theorem dX3_addCut_82 : decode cX3_addCut 82 = .ok (.getfield 40, 3) := by decide +kernel
theorem dX3_addCut_85 : decode cX3_addCut 85 = .ok (.iload 5, 2) := by decide +kernel
theorem dX3_addCut_87 : decode cX3_addCut 87 = .ok (.iconst 1, 1) := by decide +kernel
theorem dX3_addCut_88 : decode cX3_addCut 88 = .ok (.isub, 1) := by decide +kernel
theorem dX3_addCut_89 : decode cX3_addCut 89 = .ok (.laload, 1) := by decide +kernel
theorem dX3_addCut_90 : decode cX3_addCut 90 = .ok (.lastore, 1) := by decide +kernel
theorem dX3_addCut_91 : decode cX3_addCut 91 = .ok (.iinc 5 (-1), 3) := by decide +kernel
theorem dX3_addCut_94 : decode cX3_addCut 94 = .ok (.goto (-69), 3) := by decide +kernel
theorem dX3_addCut_97 : decode cX3_addCut 97 = .ok (.aload_n 0, 1) := by decide +kernel
theorem dX3_addCut_98 : decode cX3_addCut 98 = .ok (.getfield 37, 3) := by decide +kernel
theorem dX3_addCut_101 : decode cX3_addCut 101 = .ok (.iload 5, 2) := by decide +kernel
theorem dX3_addCut_103 : decode cX3_addCut 103 = .ok (.lload_n 1, 1) := by decide +kernel
theorem dX3_addCut_104 : decode cX3_addCut 104 = .ok (.lastore, 1) := by decide +kernel
theorem dX3_addCut_105 : decode cX3_addCut 105 = .ok (.aload_n 0, 1) := by decide +kernel
theorem dX3_addCut_106 : decode cX3_addCut 106 = .ok (.getfield 40, 3) := by decide +kernel
theorem dX3_addCut_109 : decode cX3_addCut 109 = .ok (.iload 5, 2) := by decide +kernel
theorem dX3_addCut_111 : decode cX3_addCut 111 = .ok (.lload_n 3, 1) := by decide +kernel
theorem dX3_addCut_112 : decode cX3_addCut 112 = .ok (.lastore, 1) := by decide +kernel
theorem dX3_addCut_113 : decode cX3_addCut 113 = .ok (.aload_n 0, 1) := by decide +kernel
theorem dX3_addCut_114 : decode cX3_addCut 114 = .ok (.dup, 1) := by decide +kernel
theorem dX3_addCut_115 : decode cX3_addCut 115 = .ok (.getfield 187, 3) := by decide +kernel
theorem dX3_addCut_118 : decode cX3_addCut 118 = .ok (.iconst 1, 1) := by decide +kernel
theorem dX3_addCut_119 : decode cX3_addCut 119 = .ok (.iadd, 1) := by decide +kernel
theorem dX3_addCut_120 : decode cX3_addCut 120 = .ok (.putfield 187, 3) := by decide +kernel
theorem dX3_addCut_123 : decode cX3_addCut 123 = .ok (.return_, 1) := by decide +kernel
abbrev M_X3_addCut : MRec := (yX3_addCut, cX3_addCut, 6, none, [])
theorem m_X3_addCut : en_M M_X3_addCut 2 := ⟨t_1936, t_11, ⟨by decide +kernel, by decide +kernel⟩, by decide +kernel, by decide +kernel, by decide +kernel⟩
theorem dX3_wayX_0 : decode cX3_wayX 0 = .ok (.aload_n 0, 1) := by decide +kernel
theorem dX3_wayX_1 : decode cX3_wayX 1 = .ok (.getfield 16, 3) := by decide +kernel
theorem dX3_wayX_4 : decode cX3_wayX 4 = .ok (.getfield 221, 3) := by decide +kernel
theorem dX3_wayX_7 : decode cX3_wayX 7 = .ok (.iload_n 1, 1) := by decide +kernel
theorem dX3_wayX_8 : decode cX3_wayX 8 = .ok (.iaload, 1) := by decide +kernel
theorem dX3_wayX_9 : decode cX3_wayX 9 = .ok (.i2l, 1) := by decide +kernel
theorem dX3_wayX_10 : decode cX3_wayX 10 = .ok (.aload_n 0, 1) := by decide +kernel
theorem dX3_wayX_11 : decode cX3_wayX 11 = .ok (.getfield 16, 3) := by decide +kernel
theorem dX3_wayX_14 : decode cX3_wayX 14 = .ok (.getfield 215, 3) := by decide +kernel
theorem dX3_wayX_17 : decode cX3_wayX 17 = .ok (.iload_n 1, 1) := by decide +kernel
theorem dX3_wayX_18 : decode cX3_wayX 18 = .ok (.iaload, 1) := by decide +kernel
theorem dX3_wayX_19 : decode cX3_wayX 19 = .ok (.i2l, 1) := by decide +kernel
theorem dX3_wayX_20 : decode cX3_wayX 20 = .ok (.lsub, 1) := by decide +kernel
theorem dX3_wayX_21 : decode cX3_wayX 21 = .ok (.lreturn, 1) := by decide +kernel
abbrev M_X3_wayX : MRec := (yX3_wayX, cX3_wayX, 2, (some Jvm.ClassFile.FieldType.long), [])
theorem m_X3_wayX : en_M M_X3_wayX 1 := ⟨t_1963, t_11, ⟨by decide +kernel, by decide +kernel⟩, by decide +kernel, by decide +kernel, by decide +kernel⟩
theorem dX3_wayY_0 : decode cX3_wayY 0 = .ok (.aload_n 0, 1) := by decide +kernel
theorem dX3_wayY_1 : decode cX3_wayY 1 = .ok (.getfield 16, 3) := by decide +kernel
theorem dX3_wayY_4 : decode cX3_wayY 4 = .ok (.getfield 224, 3) := by decide +kernel
theorem dX3_wayY_7 : decode cX3_wayY 7 = .ok (.iload_n 1, 1) := by decide +kernel
theorem dX3_wayY_8 : decode cX3_wayY 8 = .ok (.iaload, 1) := by decide +kernel
theorem dX3_wayY_9 : decode cX3_wayY 9 = .ok (.i2l, 1) := by decide +kernel
theorem dX3_wayY_10 : decode cX3_wayY 10 = .ok (.aload_n 0, 1) := by decide +kernel
theorem dX3_wayY_11 : decode cX3_wayY 11 = .ok (.getfield 16, 3) := by decide +kernel
theorem dX3_wayY_14 : decode cX3_wayY 14 = .ok (.getfield 218, 3) := by decide +kernel
theorem dX3_wayY_17 : decode cX3_wayY 17 = .ok (.iload_n 1, 1) := by decide +kernel
theorem dX3_wayY_18 : decode cX3_wayY 18 = .ok (.iaload, 1) := by decide +kernel
theorem dX3_wayY_19 : decode cX3_wayY 19 = .ok (.i2l, 1) := by decide +kernel
theorem dX3_wayY_20 : decode cX3_wayY 20 = .ok (.lsub, 1) := by decide +kernel
theorem dX3_wayY_21 : decode cX3_wayY 21 = .ok (.lreturn, 1) := by decide +kernel
abbrev M_X3_wayY : MRec := (yX3_wayY, cX3_wayY, 2, (some Jvm.ClassFile.FieldType.long), [])
theorem m_X3_wayY : en_M M_X3_wayY 1 := ⟨t_1968, t_11, ⟨by decide +kernel, by decide +kernel⟩, by decide +kernel, by decide +kernel, by decide +kernel⟩
theorem dX3_isAbove_0 : decode cX3_isAbove 0 = .ok (.iload_n 1, 1) := by decide +kernel
theorem dX3_isAbove_1 : decode cX3_isAbove 1 = .ok (.i2l, 1) := by decide +kernel
theorem dX3_isAbove_2 : decode cX3_isAbove 2 = .ok (.aload_n 0, 1) := by decide +kernel
theorem dX3_isAbove_3 : decode cX3_isAbove 3 = .ok (.getfield 16, 3) := by decide +kernel
theorem dX3_isAbove_6 : decode cX3_isAbove 6 = .ok (.getfield 218, 3) := by decide +kernel
theorem dX3_isAbove_9 : decode cX3_isAbove 9 = .ok (.iload_n 2, 1) := by decide +kernel
theorem dX3_isAbove_10 : decode cX3_isAbove 10 = .ok (.iaload, 1) := by decide +kernel
theorem dX3_isAbove_11 : decode cX3_isAbove 11 = .ok (.i2l, 1) := by decide +kernel
theorem dX3_isAbove_12 : decode cX3_isAbove 12 = .ok (.lsub, 1) := by decide +kernel
theorem dX3_isAbove_13 : decode cX3_isAbove 13 = .ok (.lload 5, 2) := by decide +kernel
theorem dX3_isAbove_15 : decode cX3_isAbove 15 = .ok (.aload_n 0, 1) := by decide +kernel
theorem dX3_isAbove_16 : decode cX3_isAbove 16 = .ok (.iload_n 2, 1) := by decide +kernel
theorem dX3_isAbove_17 : decode cX3_isAbove 17 = .ok (.invokevirtual 231, 3) := by decide +kernel
theorem dX3_isAbove_20 : decode cX3_isAbove 20 = .ok (.lneg, 1) := by decide +kernel
theorem dX3_isAbove_21 : decode cX3_isAbove 21 = .ok (.lload_n 3, 1) := by decide +kernel
theorem dX3_isAbove_22 : decode cX3_isAbove 22 = .ok (.lconst 0, 1) := by decide +kernel
theorem dX3_isAbove_23 : decode cX3_isAbove 23 = .ok (.lconst 0, 1) := by decide +kernel
theorem dX3_isAbove_24 : decode cX3_isAbove 24 = .ok (.invokestatic 198, 3) := by decide +kernel
theorem dX3_isAbove_27 : decode cX3_isAbove 27 = .ok (.istore 7, 2) := by decide +kernel
theorem dX3_isAbove_29 : decode cX3_isAbove 29 = .ok (.iload 7, 2) := by decide +kernel
theorem dX3_isAbove_31 : decode cX3_isAbove 31 = .ok (.ifCond .ne 14, 3) := by decide +kernel
theorem dX3_isAbove_34 : decode cX3_isAbove 34 = .ok (.lconst 0, 1) := by decide +kernel
theorem dX3_isAbove_35 : decode cX3_isAbove 35 = .ok (.aload_n 0, 1) := by decide +kernel
theorem dX3_isAbove_36 : decode cX3_isAbove 36 = .ok (.iload_n 2, 1) := by decide +kernel
theorem dX3_isAbove_37 : decode cX3_isAbove 37 = .ok (.invokevirtual 231, 3) := by decide +kernel
theorem dX3_isAbove_40 : decode cX3_isAbove 40 = .ok (.invokestatic 281, 3) := by decide +kernel
theorem dX3_isAbove_43 : decode cX3_isAbove 43 = .ok (.istore 7, 2) := by decide +kernel
theorem dX3_isAbove_45 : decode cX3_isAbove 45 = .ok (.iload 7, 2) := by decide +kernel
theorem dX3_isAbove_47 : decode cX3_isAbove 47 = .ok (.ifCond .eq 16, 3) := by decide +kernel
theorem dX3_isAbove_50 : decode cX3_isAbove 50 = .ok (.iload 7, 2) := by decide +kernel
theorem dX3_isAbove_52 : decode cX3_isAbove 52 = .ok (.ifCond .le 7, 3) := by decide +kernel
theorem dX3_isAbove_55 : decode cX3_isAbove 55 = .ok (.iconst 1, 1) := by decide +kernel
theorem dX3_isAbove_56 : decode cX3_isAbove 56 = .ok (.goto 22, 3) := by decide +kernel
theorem dX3_isAbove_59 : decode cX3_isAbove 59 = .ok (.iconst 0, 1) := by decide +kernel
theorem dX3_isAbove_60 : decode cX3_isAbove 60 = .ok (.goto 18, 3) := by decide +kernel
theorem dX3_isAbove_63 : decode cX3_isAbove 63 = .ok (.aload_n 0, 1) := by decide +kernel
theorem dX3_isAbove_64 : decode cX3_isAbove 64 = .ok (.iload_n 2, 1) := by decide +kernel
theorem dX3_isAbove_65 : decode cX3_isAbove 65 = .ok (.invokevirtual 227, 3) := by decide +kernel
theorem dX3_isAbove_68 : decode cX3_isAbove 68 = .ok (.lconst 0, 1) := by decide +kernel
theorem dX3_isAbove_69 : decode cX3_isAbove 69 = .ok (.lcmp, 1) := by decide +kernel
theorem dX3_isAbove_70 : decode cX3_isAbove 70 = .ok (.ifCond .ge 7, 3) := by decide +kernel
theorem dX3_isAbove_73 : decode cX3_isAbove 73 = .ok (.iconst 1, 1) := by decide +kernel
theorem dX3_isAbove_74 : decode cX3_isAbove 74 = .ok (.goto 4, 3) := by decide +kernel
theorem dX3_isAbove_77 : decode cX3_isAbove 77 = .ok (.iconst 0, 1) := by decide +kernel
theorem dX3_isAbove_78 : decode cX3_isAbove 78 = .ok (.ireturn, 1) := by decide +kernel
abbrev M_X3_isAbove : MRec := (yX3_isAbove, cX3_isAbove, 8, (some Jvm.ClassFile.FieldType.boolean), [])
theorem m_X3_isAbove : en_M M_X3_isAbove 4 := ⟨t_1985, t_11, ⟨by decide +kernel, by decide +kernel⟩, by decide +kernel, by decide +kernel, by decide +kernel⟩
theorem dX3_isCovered_0 : decode cX3_isCovered 0 = .ok (.aload_n 0, 1) := by decide +kernel
theorem dX3_isCovered_1 : decode cX3_isCovered 1 = .ok (.iload_n 1, 1) := by decide +kernel
theorem dX3_isCovered_2 : decode cX3_isCovered 2 = .ok (.invokevirtual 227, 3) := by decide +kernel
theorem dX3_isCovered_5 : decode cX3_isCovered 5 = .ok (.lconst 0, 1) := by decide +kernel
theorem dX3_isCovered_6 : decode cX3_isCovered 6 = .ok (.lcmp, 1) := by decide +kernel
theorem dX3_isCovered_7 : decode cX3_isCovered 7 = .ok (.ifCond .eq 7, 3) := by decide +kernel
theorem dX3_isCovered_10 : decode cX3_isCovered 10 = .ok (.iconst 1, 1) := by decide +kernel
theorem dX3_isCovered_11 : decode cX3_isCovered 11 = .ok (.goto 4, 3) := by decide +kernel
theorem dX3_isCovered_14 : decode cX3_isCovered 14 = .ok (.iconst 0, 1) := by decide +kernel
theorem dX3_isCovered_15 : decode cX3_isCovered 15 = .ok (.istore 7, 2) := by decide +kernel
theorem dX3_isCovered_17 : decode cX3_isCovered 17 = .ok (.iload 7, 2) := by decide +kernel
theorem dX3_isCovered_19 : decode cX3_isCovered 19 = .ok (.ifCond .eq 11, 3) := by decide +kernel
theorem dX3_isCovered_22 : decode cX3_isCovered 22 = .ok (.aload_n 0, 1) := by decide +kernel
theorem dX3_isCovered_23 : decode cX3_isCovered 23 = .ok (.iload_n 1, 1) := by decide +kernel
theorem dX3_isCovered_24 : decode cX3_isCovered 24 = .ok (.invokevirtual 227, 3) := by decide +kernel
theorem dX3_isCovered_27 : decode cX3_isCovered 27 = .ok (.goto 8, 3) := by decide +kernel
theorem dX3_isCovered_30 : decode cX3_isCovered 30 = .ok (.aload_n 0, 1) := by decide +kernel
theorem dX3_isCovered_31 : decode cX3_isCovered 31 = .ok (.iload_n 1, 1) := by decide +kernel
theorem dX3_isCovered_32 : decode cX3_isCovered 32 = .ok (.invokevirtual 231, 3) := by decide +kernel
theorem dX3_isCovered_35 : decode cX3_isCovered 35 = .ok (.lstore 8, 2) := by decide +kernel
theorem dX3_isCovered_37 : decode cX3_isCovered 37 = .ok (.iload 7, 2) := by decide +kernel
theorem dX3_isCovered_39 : decode cX3_isCovered 39 = .ok (.ifCond .eq 28, 3) := by decide +kernel
theorem dX3_isCovered_42 : decode cX3_isCovered 42 = .ok (.aload_n 0, 1) := by decide +kernel
theorem dX3_isCovered_43 : decode cX3_isCovered 43 = .ok (.getfield 16, 3) := by decide +kernel
theorem dX3_isCovered_46 : decode cX3_isCovered 46 = .ok (.getfield 215, 3) := by decide +kernel
theorem dX3_isCovered_49 : decode cX3_isCovered 49 = .ok (.iload 6, 2) := by decide +kernel
theorem dX3_isCovered_51 : decode cX3_isCovered 51 = .ok (.iaload, 1) := by decide +kernel
theorem dX3_isCovered_52 : decode cX3_isCovered 52 = .ok (.i2l, 1) := by decide +kernel
theorem dX3_isCovered_53 : decode cX3_isCovered 53 = .ok (.aload_n 0, 1) := by decide +kernel
theorem dX3_isCovered_54 : decode cX3_isCovered 54 = .ok (.getfield 16, 3) := by decide +kernel
theorem dX3_isCovered_57 : decode cX3_isCovered 57 = .ok (.getfield 215, 3) := by decide +kernel
theorem dX3_isCovered_60 : decode cX3_isCovered 60 = .ok (.iload_n 1, 1) := by decide +kernel
theorem dX3_isCovered_61 : decode cX3_isCovered 61 = .ok (.iaload, 1) := by decide +kernel
theorem dX3_isCovered_62 : decode cX3_isCovered 62 = .ok (.i2l, 1) := by decide +kernel
theorem dX3_isCovered_63 : decode cX3_isCovered 63 = .ok (.lsub, 1) := by decide +kernel
theorem dX3_isCovered_64 : decode cX3_isCovered 64 = .ok (.goto 25, 3) := by decide +kernel
theorem dX3_isCovered_67 : decode cX3_isCovered 67 = .ok (.aload_n 0, 1) := by decide +kernel
theorem dX3_isCovered_68 : decode cX3_isCovered 68 = .ok (.getfield 16, 3) := by decide +kernel
theorem dX3_isCovered_71 : decode cX3_isCovered 71 = .ok (.getfield 218, 3) := by decide +kernel
theorem dX3_isCovered_74 : decode cX3_isCovered 74 = .ok (.iload 6, 2) := by decide +kernel
theorem dX3_isCovered_76 : decode cX3_isCovered 76 = .ok (.iaload, 1) := by decide +kernel
theorem dX3_isCovered_77 : decode cX3_isCovered 77 = .ok (.i2l, 1) := by decide +kernel
theorem dX3_isCovered_78 : decode cX3_isCovered 78 = .ok (.aload_n 0, 1) := by decide +kernel
theorem dX3_isCovered_79 : decode cX3_isCovered 79 = .ok (.getfield 16, 3) := by decide +kernel
theorem dX3_isCovered_82 : decode cX3_isCovered 82 = .ok (.getfield 218, 3) := by decide +kernel
theorem dX3_isCovered_85 : decode cX3_isCovered 85 = .ok (.iload_n 1, 1) := by decide +kernel
theorem dX3_isCovered_86 : decode cX3_isCovered 86 = .ok (.iaload, 1) := by decide +kernel
theorem dX3_isCovered_87 : decode cX3_isCovered 87 = .ok (.i2l, 1) := by decide +kernel
theorem dX3_isCovered_88 : decode cX3_isCovered 88 = .ok (.lsub, 1) := by decide +kernel
theorem dX3_isCovered_89 : decode cX3_isCovered 89 = .ok (.lstore 10, 2) := by decide +kernel
theorem dX3_isCovered_91 : decode cX3_isCovered 91 = .ok (.iload 7, 2) := by decide +kernel
theorem dX3_isCovered_93 : decode cX3_isCovered 93 = .ok (.ifCond .eq 28, 3) := by decide +kernel
theorem dX3_isCovered_96 : decode cX3_isCovered 96 = .ok (.aload_n 0, 1) := by decide +kernel
theorem dX3_isCovered_97 : decode cX3_isCovered 97 = .ok (.getfield 16, 3) := by decide +kernel
theorem dX3_isCovered_100 : decode cX3_isCovered 100 = .ok (.getfield 221, 3) := by decide +kernel
theorem dX3_isCovered_103 : decode cX3_isCovered 103 = .ok (.iload 6, 2) := by decide +kernel
theorem dX3_isCovered_105 : decode cX3_isCovered 105 = .ok (.iaload, 1) := by decide +kernel
theorem dX3_isCovered_106 : decode cX3_isCovered 106 = .ok (.i2l, 1) := by decide +kernel
theorem dX3_isCovered_107 : decode cX3_isCovered 107 = .ok (.aload_n 0, 1) := by decide +kernel
theorem dX3_isCovered_108 : decode cX3_isCovered 108 = .ok (.getfield 16, 3) := by decide +kernel
theorem dX3_isCovered_111 : decode cX3_isCovered 111 = .ok (.getfield 215, 3) := by decide +kernel
theorem dX3_isCovered_114 : decode cX3_isCovered 114 = .ok (.iload_n 1, 1) := by decide +kernel
theorem dX3_isCovered_115 : decode cX3_isCovered 115 = .ok (.iaload, 1) := by decide +kernel
theorem dX3_isCovered_116 : decode cX3_isCovered 116 = .ok (.i2l, 1) := by decide +kernel
theorem dX3_isCovered_117 : decode cX3_isCovered 117 = .ok (.lsub, 1) := by decide +kernel
theorem dX3_isCovered_118 : decode cX3_isCovered 118 = .ok (.goto 25, 3) := by decide +kernel
theorem dX3_isCovered_121 : decode cX3_isCovered 121 = .ok (.aload_n 0, 1) := by decide +kernel
theorem dX3_isCovered_122 : decode cX3_isCovered 122 = .ok (.getfield 16, 3) := by decide +kernel
theorem dX3_isCovered_125 : decode cX3_isCovered 125 = .ok (.getfield 224, 3) := by decide +kernel
theorem dX3_isCovered_128 : decode cX3_isCovered 128 = .ok (.iload 6, 2) := by decide +kernel
theorem dX3_isCovered_130 : decode cX3_isCovered 130 = .ok (.iaload, 1) := by decide +kernel
theorem dX3_isCovered_131 : decode cX3_isCovered 131 = .ok (.i2l, 1) := by decide +kernel
theorem dX3_isCovered_132 : decode cX3_isCovered 132 = .ok (.aload_n 0, 1) := by decide +kernel
theorem dX3_isCovered_133 : decode cX3_isCovered 133 = .ok (.getfield 16, 3) := by decide +kernel
theorem dX3_isCovered_136 : decode cX3_isCovered 136 = .ok (.getfield 218, 3) := by decide +kernel
theorem dX3_isCovered_139 : decode cX3_isCovered 139 = .ok (.iload_n 1, 1) := by decide +kernel
theorem dX3_isCovered_140 : decode cX3_isCovered 140 = .ok (.iaload, 1) := by decide +kernel
theorem dX3_isCovered_141 : decode cX3_isCovered 141 = .ok (.i2l, 1) := by decide +kernel
theorem dX3_isCovered_142 : decode cX3_isCovered 142 = .ok (.lsub, 1) := by decide +kernel
theorem dX3_isCovered_143 : decode cX3_isCovered 143 = .ok (.lstore 12, 2) := by decide +kernel
theorem dX3_isCovered_145 : decode cX3_isCovered 145 = .ok (.lload 8, 2) := by decide +kernel
theorem dX3_isCovered_147 : decode cX3_isCovered 147 = .ok (.lconst 0, 1) := by decide +kernel
theorem dX3_isCovered_148 : decode cX3_isCovered 148 = .ok (.lcmp, 1) := by decide +kernel
theorem dX3_isCovered_149 : decode cX3_isCovered 149 = .ok (.ifCond .le 13, 3) := by decide +kernel
theorem dX3_isCovered_152 : decode cX3_isCovered 152 = .ok (.lload 10, 2) := by decide +kernel
theorem dX3_isCovered_154 : decode cX3_isCovered 154 = .ok (.lload 12, 2) := by decide +kernel
theorem dX3_isCovered_156 : decode cX3_isCovered 156 = .ok (.invokestatic 287, 3) := by decide +kernel
theorem dX3_isCovered_159 : decode cX3_isCovered 159 = .ok (.goto 11, 3) := by decide +kernel
theorem dX3_isCovered_162 : decode cX3_isCovered 162 = .ok (.lload 10, 2) := by decide +kernel
theorem dX3_isCovered_164 : decode cX3_isCovered 164 = .ok (.lload 12, 2) := by decide +kernel
theorem dX3_isCovered_166 : decode cX3_isCovered 166 = .ok (.invokestatic 291, 3) := by decide +kernel
theorem dX3_isCovered_169 : decode cX3_isCovered 169 = .ok (.lneg, 1) := by decide +kernel
theorem dX3_isCovered_170 : decode cX3_isCovered 170 = .ok (.lstore 14, 2) := by decide +kernel
theorem dX3_isCovered_172 : decode cX3_isCovered 172 = .ok (.lload 8, 2) := by decide +kernel
theorem dX3_isCovered_174 : decode cX3_isCovered 174 = .ok (.lconst 0, 1) := by decide +kernel
theorem dX3_isCovered_175 : decode cX3_isCovered 175 = .ok (.lcmp, 1) := by decide +kernel
theorem dX3_isCovered_176 : decode cX3_isCovered 176 = .ok (.ifCond .le 13, 3) := by decide +kernel
theorem dX3_isCovered_179 : decode cX3_isCovered 179 = .ok (.lload 10, 2) := by decide +kernel
theorem dX3_isCovered_181 : decode cX3_isCovered 181 = .ok (.lload 12, 2) := by decide +kernel
theorem dX3_isCovered_183 : decode cX3_isCovered 183 = .ok (.invokestatic 291, 3) := by decide +kernel
theorem dX3_isCovered_186 : decode cX3_isCovered 186 = .ok (.goto 11, 3) := by decide +kernel
theorem dX3_isCovered_189 : decode cX3_isCovered 189 = .ok (.lload 10, 2) := by decide +kernel
theorem dX3_isCovered_191 : decode cX3_isCovered 191 = .ok (.lload 12, 2) := by decide +kernel
theorem dX3_isCovered_193 : decode cX3_isCovered 193 = .ok (.invokestatic 287, 3) := by decide +kernel
theorem dX3_isCovered_196 : decode cX3_isCovered 196 = .ok (.lneg, 1) := by decide +kernel
theorem dX3_isCovered_197 : decode cX3_isCovered 197 = .ok (.lstore 16, 2) := by decide +kernel
theorem dX3_isCovered_199 : decode cX3_isCovered 199 = .ok (.lload 14, 2) := by decide +kernel
theorem dX3_isCovered_201 : decode cX3_isCovered 201 = .ok (.lload 4, 2) := by decide +kernel
theorem dX3_isCovered_203 : decode cX3_isCovered 203 = .ok (.lload_n 2, 1) := by decide +kernel
theorem dX3_isCovered_204 : decode cX3_isCovered 204 = .ok (.lneg, 1) := by decide +kernel
theorem dX3_isCovered_205 : decode cX3_isCovered 205 = .ok (.lload 8, 2) := by decide +kernel
theorem dX3_isCovered_207 : decode cX3_isCovered 207 = .ok (.invokestatic 234, 3) := by decide +kernel
theorem dX3_isCovered_210 : decode cX3_isCovered 210 = .ok (.lconst 0, 1) := by decide +kernel
theorem dX3_isCovered_211 : decode cX3_isCovered 211 = .ok (.lconst 0, 1) := by decide +kernel
theorem dX3_isCovered_212 : decode cX3_isCovered 212 = .ok (.invokestatic 198, 3) := by decide +kernel
theorem dX3_isCovered_215 : decode cX3_isCovered 215 = .ok (.ifCond .gt 26, 3) := by decide +kernel
theorem dX3_isCovered_218 : decode cX3_isCovered 218 = .ok (.lload 16, 2) := by decide +kernel
theorem dX3_isCovered_220 : decode cX3_isCovered 220 = .ok (.lload 4, 2) := by decide +kernel
theorem dX3_isCovered_222 : decode cX3_isCovered 222 = .ok (.lload_n 2, 1) := by decide +kernel
theorem dX3_isCovered_223 : decode cX3_isCovered 223 = .ok (.lneg, 1) := by decide +kernel
theorem dX3_isCovered_224 : decode cX3_isCovered 224 = .ok (.lload 8, 2) := by decide +kernel
theorem dX3_isCovered_226 : decode cX3_isCovered 226 = .ok (.invokestatic 234, 3) := by decide +kernel
theorem dX3_isCovered_229 : decode cX3_isCovered 229 = .ok (.lconst 0, 1) := by decide +kernel
theorem dX3_isCovered_230 : decode cX3_isCovered 230 = .ok (.lconst 0, 1) := by decide +kernel
theorem dX3_isCovered_231 : decode cX3_isCovered 231 = .ok (.invokestatic 198, 3) := by decide +kernel
theorem dX3_isCovered_234 : decode cX3_isCovered 234 = .ok (.ifCond .le 7, 3) := by decide +kernel
theorem dX3_isCovered_237 : decode cX3_isCovered 237 = .ok (.iconst 1, 1) := by decide +kernel
theorem dX3_isCovered_238 : decode cX3_isCovered 238 = .ok (.goto 4, 3) := by decide +kernel
theorem dX3_isCovered_241 : decode cX3_isCovered 241 = .ok (.iconst 0, 1) := by decide +kernel
theorem dX3_isCovered_242 : decode cX3_isCovered 242 = .ok (.ireturn, 1) := by decide +kernel
abbrev M_X3_isCovered : MRec := (yX3_isCovered, cX3_isCovered, 18, (some Jvm.ClassFile.FieldType.boolean), [])
theorem m_X3_isCovered : en_M M_X3_isCovered 4 := ⟨t_1990, t_11, ⟨by decide +kernel, by decide +kernel⟩, by decide +kernel, by decide +kernel, by decide +kernel⟩
theorem dX3_countSegment_0 : decode cX3_countSegment 0 = .ok (.aload_n 0, 1) := by decide +kernel
theorem dX3_countSegment_1 : decode cX3_countSegment 1 = .ok (.getfield 16, 3) := by decide +kernel
theorem dX3_countSegment_4 : decode cX3_countSegment 4 = .ok (.getfield 270, 3) := by decide +kernel
theorem dX3_countSegment_7 : decode cX3_countSegment 7 = .ok (.iload 6, 2) := by decide +kernel
theorem dX3_countSegment_9 : decode cX3_countSegment 9 = .ok (.iaload, 1) := by decide +kernel
theorem dX3_countSegment_10 : decode cX3_countSegment 10 = .ok (.istore 7, 2) := by decide +kernel
theorem dX3_countSegment_12 : decode cX3_countSegment 12 = .ok (.aload_n 0, 1) := by decide +kernel
theorem dX3_countSegment_13 : decode cX3_countSegment 13 = .ok (.aload_n 0, 1) := by decide +kernel
theorem dX3_countSegment_14 : decode cX3_countSegment 14 = .ok (.getfield 16, 3) := by decide +kernel
theorem dX3_countSegment_17 : decode cX3_countSegment 17 = .ok (.getfield 218, 3) := by decide +kernel
theorem dX3_countSegment_20 : decode cX3_countSegment 20 = .ok (.iload 6, 2) := by decide +kernel
theorem dX3_countSegment_22 : decode cX3_countSegment 22 = .ok (.iaload, 1) := by decide +kernel
theorem dX3_countSegment_23 : decode cX3_countSegment 23 = .ok (.iload_n 1, 1) := by decide +kernel
theorem dX3_countSegment_24 : decode cX3_countSegment 24 = .ok (.lload_n 2, 1) := by decide +kernel
theorem dX3_countSegment_25 : decode cX3_countSegment 25 = .ok (.lload 4, 2) := by decide +kernel
theorem dX3_countSegment_27 : decode cX3_countSegment 27 = .ok (.invokevirtual 273, 3) := by decide +kernel
theorem dX3_countSegment_30 : decode cX3_countSegment 30 = .ok (.istore 8, 2) := by decide +kernel
theorem dX3_countSegment_32 : decode cX3_countSegment 32 = .ok (.aload_n 0, 1) := by decide +kernel
theorem dX3_countSegment_33 : decode cX3_countSegment 33 = .ok (.aload_n 0, 1) := by decide +kernel
theorem dX3_countSegment_34 : decode cX3_countSegment 34 = .ok (.getfield 16, 3) := by decide +kernel
theorem dX3_countSegment_37 : decode cX3_countSegment 37 = .ok (.getfield 224, 3) := by decide +kernel
theorem dX3_countSegment_40 : decode cX3_countSegment 40 = .ok (.iload 6, 2) := by decide +kernel
theorem dX3_countSegment_42 : decode cX3_countSegment 42 = .ok (.iaload, 1) := by decide +kernel
theorem dX3_countSegment_43 : decode cX3_countSegment 43 = .ok (.iload_n 1, 1) := by decide +kernel
theorem dX3_countSegment_44 : decode cX3_countSegment 44 = .ok (.lload_n 2, 1) := by decide +kernel
theorem dX3_countSegment_45 : decode cX3_countSegment 45 = .ok (.lload 4, 2) := by decide +kernel
theorem dX3_countSegment_47 : decode cX3_countSegment 47 = .ok (.invokevirtual 273, 3) := by decide +kernel
theorem dX3_countSegment_50 : decode cX3_countSegment 50 = .ok (.istore 9, 2) := by decide +kernel
theorem dX3_countSegment_52 : decode cX3_countSegment 52 = .ok (.aload_n 0, 1) := by decide +kernel
theorem dX3_countSegment_53 : decode cX3_countSegment 53 = .ok (.iload 6, 2) := by decide +kernel
theorem dX3_countSegment_55 : decode cX3_countSegment 55 = .ok (.invokevirtual 227, 3) := by decide +kernel
theorem dX3_countSegment_58 : decode cX3_countSegment 58 = .ok (.aload_n 0, 1) := by decide +kernel
theorem dX3_countSegment_59 : decode cX3_countSegment 59 = .ok (.iload_n 1, 1) := by decide +kernel
theorem dX3_countSegment_60 : decode cX3_countSegment 60 = .ok (.invokevirtual 231, 3) := by decide +kernel
theorem dX3_countSegment_63 : decode cX3_countSegment 63 = .ok (.lmul, 1) := by decide +kernel
theorem dX3_countSegment_64 : decode cX3_countSegment 64 = .ok (.aload_n 0, 1) := by decide +kernel
theorem dX3_countSegment_65 : decode cX3_countSegment 65 = .ok (.iload 6, 2) := by decide +kernel
theorem dX3_countSegment_67 : decode cX3_countSegment 67 = .ok (.invokevirtual 231, 3) := by decide +kernel
theorem dX3_countSegment_70 : decode cX3_countSegment 70 = .ok (.aload_n 0, 1) := by decide +kernel
theorem dX3_countSegment_71 : decode cX3_countSegment 71 = .ok (.iload_n 1, 1) := by decide +kernel
theorem dX3_countSegment_72 : decode cX3_countSegment 72 = .ok (.invokevirtual 227, 3) := by decide +kernel
theorem dX3_countSegment_75 : decode cX3_countSegment 75 = .ok (.lmul, 1) := by decide +kernel
theorem dX3_countSegment_76 : decode cX3_countSegment 76 = .ok (.lsub, 1) := by decide +kernel
theorem dX3_countSegment_77 : decode cX3_countSegment 77 = .ok (.lstore 10, 2) := by decide +kernel
theorem dX3_countSegment_79 : decode cX3_countSegment 79 = .ok (.aload_n 0, 1) := by decide +kernel
theorem dX3_countSegment_80 : decode cX3_countSegment 80 = .ok (.iload 6, 2) := by decide +kernel
theorem dX3_countSegment_82 : decode cX3_countSegment 82 = .ok (.invokevirtual 227, 3) := by decide +kernel
theorem dX3_countSegment_85 : decode cX3_countSegment 85 = .ok (.aload_n 0, 1) := by decide +kernel
theorem dX3_countSegment_86 : decode cX3_countSegment 86 = .ok (.getfield 16, 3) := by decide +kernel
theorem dX3_countSegment_89 : decode cX3_countSegment 89 = .ok (.getfield 218, 3) := by decide +kernel
theorem dX3_countSegment_92 : decode cX3_countSegment 92 = .ok (.iload_n 1, 1) := by decide +kernel
theorem dX3_countSegment_93 : decode cX3_countSegment 93 = .ok (.iaload, 1) := by decide +kernel
theorem dX3_countSegment_94 : decode cX3_countSegment 94 = .ok (.i2l, 1) := by decide +kernel
theorem dX3_countSegment_95 : decode cX3_countSegment 95 = .ok (.aload_n 0, 1) := by decide +kernel
theorem dX3_countSegment_96 : decode cX3_countSegment 96 = .ok (.getfield 16, 3) := by decide +kernel
theorem dX3_countSegment_99 : decode cX3_countSegment 99 = .ok (.getfield 218, 3) := by decide +kernel
theorem dX3_countSegment_102 : decode cX3_countSegment 102 = .ok (.iload 6, 2) := by decide +kernel
theorem dX3_countSegment_104 : decode cX3_countSegment 104 = .ok (.iaload, 1) := by decide +kernel
theorem dX3_countSegment_105 : decode cX3_countSegment 105 = .ok (.i2l, 1) := by decide +kernel
theorem dX3_countSegment_106 : decode cX3_countSegment 106 = .ok (.lsub, 1) := by decide +kernel
theorem dX3_countSegment_107 : decode cX3_countSegment 107 = .ok (.lmul, 1) := by decide +kernel
theorem dX3_countSegment_108 : decode cX3_countSegment 108 = .ok (.aload_n 0, 1) := by decide +kernel
theorem dX3_countSegment_109 : decode cX3_countSegment 109 = .ok (.iload 6, 2) := by decide +kernel
theorem dX3_countSegment_111 : decode cX3_countSegment 111 = .ok (.invokevirtual 231, 3) := by decide +kernel
theorem dX3_countSegment_114 : decode cX3_countSegment 114 = .ok (.aload_n 0, 1) := by decide +kernel
theorem dX3_countSegment_115 : decode cX3_countSegment 115 = .ok (.getfield 16, 3) := by decide +kernel
theorem dX3_countSegment_118 : decode cX3_countSegment 118 = .ok (.getfield 215, 3) := by decide +kernel
theorem dX3_countSegment_121 : decode cX3_countSegment 121 = .ok (.iload_n 1, 1) := by decide +kernel
theorem dX3_countSegment_122 : decode cX3_countSegment 122 = .ok (.iaload, 1) := by decide +kernel
theorem dX3_countSegment_123 : decode cX3_countSegment 123 = .ok (.i2l, 1) := by decide +kernel
theorem dX3_countSegment_124 : decode cX3_countSegment 124 = .ok (.aload_n 0, 1) := by decide +kernel
theorem dX3_countSegment_125 : decode cX3_countSegment 125 = .ok (.getfield 16, 3) := by decide +kernel
theorem dX3_countSegment_128 : decode cX3_countSegment 128 = .ok (.getfield 215, 3) := by decide +kernel
theorem dX3_countSegment_131 : decode cX3_countSegment 131 = .ok (.iload 6, 2) := by decide +kernel
theorem dX3_countSegment_133 : decode cX3_countSegment 133 = .ok (.iaload, 1) := by decide +kernel
theorem dX3_countSegment_134 : decode cX3_countSegment 134 = .ok (.i2l, 1) := by decide +kernel
theorem dX3_countSegment_135 : decode cX3_countSegment 135 = .ok (.lsub, 1) := by decide +kernel
theorem dX3_countSegment_136 : decode cX3_countSegment 136 = .ok (.lmul, 1) := by decide +kernel
theorem dX3_countSegment_137 : decode cX3_countSegment 137 = .ok (.lsub, 1) := by decide +kernel
theorem dX3_countSegment_138 : decode cX3_countSegment 138 = .ok (.lstore 12, 2) := by decide +kernel
theorem dX3_countSegment_140 : decode cX3_countSegment 140 = .ok (.lload 10, 2) := by decide +kernel
theorem dX3_countSegment_142 : decode cX3_countSegment 142 = .ok (.lconst 0, 1) := by decide +kernel
theorem dX3_countSegment_143 : decode cX3_countSegment 143 = .ok (.lcmp, 1) := by decide +kernel
theorem dX3_countSegment_144 : decode cX3_countSegment 144 = .ok (.ifCond .ne 38, 3) := by decide +kernel
theorem dX3_countSegment_147 : decode cX3_countSegment 147 = .ok (.lload 12, 2) := by decide +kernel
theorem dX3_countSegment_149 : decode cX3_countSegment 149 = .ok (.lconst 0, 1) := by decide +kernel
theorem dX3_countSegment_150 : decode cX3_countSegment 150 = .ok (.lcmp, 1) := by decide +kernel
theorem dX3_countSegment_151 : decode cX3_countSegment 151 = .ok (.ifCond .ne 31, 3) := by decide +kernel
theorem dX3_countSegment_154 : decode cX3_countSegment 154 = .ok (.aload_n 0, 1) := by decide +kernel
theorem dX3_countSegment_155 : decode cX3_countSegment 155 = .ok (.getfield 43, 3) := by decide +kernel
theorem dX3_countSegment_158 : decode cX3_countSegment 158 = .ok (.iload 7, 2) := by decide +kernel
theorem dX3_countSegment_160 : decode cX3_countSegment 160 = .ok (.dup2, 1) := by decide +kernel
theorem dX3_countSegment_161 : decode cX3_countSegment 161 = .ok (.iaload, 1) := by decide +kernel
theorem dX3_countSegment_162 : decode cX3_countSegment 162 = .ok (.aload_n 0, 1) := by decide +kernel
theorem dX3_countSegment_163 : decode cX3_countSegment 163 = .ok (.iload_n 1, 1) := by decide +kernel
theorem dX3_countSegment_164 : decode cX3_countSegment 164 = .ok (.lload_n 2, 1) := by decide +kernel
theorem dX3_countSegment_165 : decode cX3_countSegment 165 = .ok (.lload 4, 2) := by decide +kernel
theorem dX3_countSegment_167 : decode cX3_countSegment 167 = .ok (.iload 6, 2) := by decide +kernel
theorem dX3_countSegment_169 : decode cX3_countSegment 169 = .ok (.invokevirtual 277, 3) := by decide +kernel
theorem dX3_countSegment_172 : decode cX3_countSegment 172 = .ok (.ifCond .eq 7, 3) := by decide +kernel
theorem dX3_countSegment_175 : decode cX3_countSegment 175 = .ok (.iconst 1, 1) := by decide +kernel
theorem dX3_countSegment_176 : decode cX3_countSegment 176 = .ok (.goto 4, 3) := by decide +kernel
theorem dX3_countSegment_179 : decode cX3_countSegment 179 = .ok (.iconst 0, 1) := by decide +kernel
theorem dX3_countSegment_180 : decode cX3_countSegment 180 = .ok (.iadd, 1) := by decide +kernel
theorem dX3_countSegment_181 : decode cX3_countSegment 181 = .ok (.iastore, 1) := by decide +kernel
theorem dX3_countSegment_182 : decode cX3_countSegment 182 = .ok (.iload 8, 2) := by decide +kernel
theorem dX3_countSegment_184 : decode cX3_countSegment 184 = .ok (.iload 9, 2) := by decide +kernel
theorem dX3_countSegment_186 : decode cX3_countSegment 186 = .ok (.if_icmp .ne 4, 3) := by decide +kernel
theorem dX3_countSegment_189 : decode cX3_countSegment 189 = .ok (.return_, 1) := by decide +kernel
theorem dX3_countSegment_190 : decode cX3_countSegment 190 = .ok (.lload 12, 2) := by decide +kernel
theorem dX3_countSegment_192 : decode cX3_countSegment 192 = .ok (.lload 4, 2) := by decide +kernel
theorem dX3_countSegment_194 : decode cX3_countSegment 194 = .ok (.lload 10, 2) := by decide +kernel
theorem dX3_countSegment_196 : decode cX3_countSegment 196 = .ok (.lload_n 2, 1) := by decide +kernel
theorem dX3_countSegment_197 : decode cX3_countSegment 197 = .ok (.lconst 0, 1) := by decide +kernel
theorem dX3_countSegment_198 : decode cX3_countSegment 198 = .ok (.lconst 0, 1) := by decide +kernel
theorem dX3_countSegment_199 : decode cX3_countSegment 199 = .ok (.invokestatic 198, 3) := by decide +kernel
theorem dX3_countSegment_202 : decode cX3_countSegment 202 = .ok (.istore 14, 2) := by decide +kernel
theorem dX3_countSegment_204 : decode cX3_countSegment 204 = .ok (.iload 14, 2) := by decide +kernel
theorem dX3_countSegment_206 : decode cX3_countSegment 206 = .ok (.ifCond .ne 11, 3) := by decide +kernel
theorem dX3_countSegment_209 : decode cX3_countSegment 209 = .ok (.lload 10, 2) := by decide +kernel
theorem dX3_countSegment_211 : decode cX3_countSegment 211 = .ok (.lconst 0, 1) := by decide +kernel
theorem dX3_countSegment_212 : decode cX3_countSegment 212 = .ok (.invokestatic 281, 3) := by decide +kernel
theorem dX3_countSegment_215 : decode cX3_countSegment 215 = .ok (.istore 14, 2) := by decide +kernel
theorem dX3_countSegment_217 : decode cX3_countSegment 217 = .ok (.iload 14, 2) := by decide +kernel
theorem dX3_countSegment_219 : decode cX3_countSegment 219 = .ok (.ifCond .ne 34, 3) := by decide +kernel
theorem dX3_countSegment_222 : decode cX3_countSegment 222 = .ok (.aload_n 0, 1) := by decide +kernel
theorem dX3_countSegment_223 : decode cX3_countSegment 223 = .ok (.iload 6, 2) := by decide +kernel
theorem dX3_countSegment_225 : decode cX3_countSegment 225 = .ok (.invokevirtual 227, 3) := by decide +kernel
theorem dX3_countSegment_228 : decode cX3_countSegment 228 = .ok (.aload_n 0, 1) := by decide +kernel
theorem dX3_countSegment_229 : decode cX3_countSegment 229 = .ok (.iload_n 1, 1) := by decide +kernel
theorem dX3_countSegment_230 : decode cX3_countSegment 230 = .ok (.invokevirtual 227, 3) := by decide +kernel
theorem dX3_countSegment_233 : decode cX3_countSegment 233 = .ok (.lmul, 1) := by decide +kernel
theorem dX3_countSegment_234 : decode cX3_countSegment 234 = .ok (.aload_n 0, 1) := by decide +kernel
theorem dX3_countSegment_235 : decode cX3_countSegment 235 = .ok (.iload 6, 2) := by decide +kernel
theorem dX3_countSegment_237 : decode cX3_countSegment 237 = .ok (.invokevirtual 231, 3) := by decide +kernel
theorem dX3_countSegment_240 : decode cX3_countSegment 240 = .ok (.aload_n 0, 1) := by decide +kernel
theorem dX3_countSegment_241 : decode cX3_countSegment 241 = .ok (.iload_n 1, 1) := by decide +kernel
theorem dX3_countSegment_242 : decode cX3_countSegment 242 = .ok (.invokevirtual 231, 3) := by decide +kernel
theorem dX3_countSegment_245 : decode cX3_countSegment 245 = .ok (.lmul, 1) := by decide +kernel
theorem dX3_countSegment_246 : decode cX3_countSegment 246 = .ok (.ladd, 1) := by decide +kernel
theorem dX3_countSegment_247 : decode cX3_countSegment 247 = .ok (.lconst 0, 1) := by decide +kernel
theorem dX3_countSegment_248 : decode cX3_countSegment 248 = .ok (.invokestatic 281, 3) := by decide +kernel
theorem dX3_countSegment_251 : decode cX3_countSegment 251 = .ok (.istore 14, 2) := by decide +kernel
theorem dX3_countSegment_253 : decode cX3_countSegment 253 = .ok (.aload_n 0, 1) := by decide +kernel
theorem dX3_countSegment_254 : decode cX3_countSegment 254 = .ok (.getfield 46, 3) := by decide +kernel
theorem dX3_countSegment_257 : decode cX3_countSegment 257 = .ok (.iload 7, 2) := by decide +kernel
theorem dX3_countSegment_259 : decode cX3_countSegment 259 = .ok (.dup2, 1) := by decide +kernel
theorem dX3_countSegment_260 : decode cX3_countSegment 260 = .ok (.iaload, 1) := by decide +kernel
theorem dX3_countSegment_261 : decode cX3_countSegment 261 = .ok (.iload 9, 2) := by decide +kernel
theorem dX3_countSegment_263 : decode cX3_countSegment 263 = .ok (.ifCond .eq 11, 3) := by decide +kernel
theorem dX3_countSegment_266 : decode cX3_countSegment 266 = .ok (.iload 14, 2) := by decide +kernel
theorem dX3_countSegment_268 : decode cX3_countSegment 268 = .ok (.ifCond .le 15, 3) := by decide +kernel
theorem dX3_countSegment_271 : decode cX3_countSegment 271 = .ok (.goto 8, 3) := by decide +kernel
theorem dX3_countSegment_274 : decode cX3_countSegment 274 = .ok (.iload 14, 2) := by decide +kernel
theorem dX3_countSegment_276 : decode cX3_countSegment 276 = .ok (.ifCond .ge 7, 3) := by decide +kernel
theorem dX3_countSegment_279 : decode cX3_countSegment 279 = .ok (.iconst 1, 1) := by decide +kernel
theorem dX3_countSegment_280 : decode cX3_countSegment 280 = .ok (.goto 4, 3) := by decide +kernel
theorem dX3_countSegment_283 : decode cX3_countSegment 283 = .ok (.iconst 0, 1) := by decide +kernel
theorem dX3_countSegment_284 : decode cX3_countSegment 284 = .ok (.iadd, 1) := by decide +kernel
theorem dX3_countSegment_285 : decode cX3_countSegment 285 = .ok (.iastore, 1) := by decide +kernel
theorem dX3_countSegment_286 : decode cX3_countSegment 286 = .ok (.return_, 1) := by decide +kernel
abbrev M_X3_countSegment : MRec := (yX3_countSegment, cX3_countSegment, 15, none, [])
theorem m_X3_countSegment : en_M M_X3_countSegment 4 := ⟨t_1981, t_11, ⟨by decide +kernel, by decide +kernel⟩, by decide +kernel, by decide +kernel, by decide +kernel⟩
theorem dX3_faceOf_0 : decode cX3_faceOf 0 = .ok (.aload_n 0, 1) := by decide +kernel
theorem dX3_faceOf_1 : decode cX3_faceOf 1 = .ok (.invokestatic 74, 3) := by decide +kernel
theorem dX3_faceOf_4 : decode cX3_faceOf 4 = .ok (.ifCond .eq 14, 3) := by decide +kernel
theorem dX3_faceOf_7 : decode cX3_faceOf 7 = .ok (.iload_n 1, 1) := by decide +kernel
theorem dX3_faceOf_8 : decode cX3_faceOf 8 = .ok (.iconst 1, 1) := by decide +kernel
theorem dX3_faceOf_9 : decode cX3_faceOf 9 = .ok (.iand, 1) := by decide +kernel
theorem dX3_faceOf_10 : decode cX3_faceOf 10 = .ok (.iconst 1, 1) := by decide +kernel
theorem dX3_faceOf_11 : decode cX3_faceOf 11 = .ok (.if_icmp .ne 7, 3) := by decide +kernel
theorem dX3_faceOf_14 : decode cX3_faceOf 14 = .ok (.iconst 0, 1) := by decide +kernel
theorem dX3_faceOf_15 : decode cX3_faceOf 15 = .ok (.goto 4, 3) := by decide +kernel
theorem dX3_faceOf_18 : decode cX3_faceOf 18 = .ok (.iconst 2, 1) := by decide +kernel
theorem dX3_faceOf_19 : decode cX3_faceOf 19 = .ok (.ireturn, 1) := by decide +kernel
abbrev M_X3_faceOf : MRec := (yX3_faceOf, cX3_faceOf, 2, (some Jvm.ClassFile.FieldType.int), [])
theorem m_X3_faceOf : en_M M_X3_faceOf 2 := ⟨t_1997, t_11, ⟨by decide +kernel, by decide +kernel⟩, by decide +kernel, by decide +kernel, by decide +kernel⟩
theorem dX3_edgeOf_0 : decode cX3_edgeOf 0 = .ok (.aload_n 0, 1) := by decide +kernel
theorem dX3_edgeOf_1 : decode cX3_edgeOf 1 = .ok (.getfield 43, 3) := by decide +kernel
theorem dX3_edgeOf_4 : decode cX3_edgeOf 4 = .ok (.iload_n 2, 1) := by decide +kernel
theorem dX3_edgeOf_5 : decode cX3_edgeOf 5 = .ok (.iaload, 1) := by decide +kernel
theorem dX3_edgeOf_6 : decode cX3_edgeOf 6 = .ok (.ifCond .le 16, 3) := by decide +kernel
theorem dX3_edgeOf_9 : decode cX3_edgeOf 9 = .ok (.aload_n 1, 1) := by decide +kernel
theorem dX3_edgeOf_10 : decode cX3_edgeOf 10 = .ok (.invokestatic 74, 3) := by decide +kernel
theorem dX3_edgeOf_13 : decode cX3_edgeOf 13 = .ok (.ifCond .eq 7, 3) := by decide +kernel
theorem dX3_edgeOf_16 : decode cX3_edgeOf 16 = .ok (.iconst 1, 1) := by decide +kernel
theorem dX3_edgeOf_17 : decode cX3_edgeOf 17 = .ok (.goto 4, 3) := by decide +kernel
theorem dX3_edgeOf_20 : decode cX3_edgeOf 20 = .ok (.iconst 0, 1) := by decide +kernel
theorem dX3_edgeOf_21 : decode cX3_edgeOf 21 = .ok (.ireturn, 1) := by decide +kernel
theorem dX3_edgeOf_22 : decode cX3_edgeOf 22 = .ok (.aload_n 1, 1) := by decide +kernel
theorem dX3_edgeOf_23 : decode cX3_edgeOf 23 = .ok (.aload_n 0, 1) := by decide +kernel
theorem dX3_edgeOf_24 : decode cX3_edgeOf 24 = .ok (.getfield 46, 3) := by decide +kernel
theorem dX3_edgeOf_27 : decode cX3_edgeOf 27 = .ok (.iload_n 2, 1) := by decide +kernel
theorem dX3_edgeOf_28 : decode cX3_edgeOf 28 = .ok (.iaload, 1) := by decide +kernel
theorem dX3_edgeOf_29 : decode cX3_edgeOf 29 = .ok (.invokestatic 263, 3) := by decide +kernel
theorem dX3_edgeOf_32 : decode cX3_edgeOf 32 = .ok (.ireturn, 1) := by decide +kernel
abbrev M_X3_edgeOf : MRec := (yX3_edgeOf, cX3_edgeOf, 3, (some Jvm.ClassFile.FieldType.int), [])
theorem m_X3_edgeOf : en_M M_X3_edgeOf 2 := ⟨t_2006, t_11, ⟨by decide +kernel, by decide +kernel⟩, by decide +kernel, by decide +kernel, by decide +kernel⟩
theorem dX3_addEdge_0 : decode cX3_addEdge 0 = .ok (.aload_n 0, 1) := by decide +kernel
theorem dX3_addEdge_1 : decode cX3_addEdge 1 = .ok (.getfield 43, 3) := by decide +kernel
theorem dX3_addEdge_4 : decode cX3_addEdge 4 = .ok (.iconst 0, 1) := by decide +kernel
theorem dX3_addEdge_5 : decode cX3_addEdge 5 = .ok (.invokestatic 241, 3) := by decide +kernel
theorem dX3_addEdge_8 : decode cX3_addEdge 8 = .ok (.aload_n 0, 1) := by decide +kernel
theorem dX3_addEdge_9 : decode cX3_addEdge 9 = .ok (.getfield 46, 3) := by decide +kernel
theorem dX3_addEdge_12 : decode cX3_addEdge 12 = .ok (.iconst 0, 1) := by decide +kernel
theorem dX3_addEdge_13 : decode cX3_addEdge 13 = .ok (.invokestatic 241, 3) := by decide +kernel
theorem dX3_addEdge_16 : decode cX3_addEdge 16 = .ok (.iconst 0, 1) := by decide +kernel
theorem dX3_addEdge_17 : decode cX3_addEdge 17 = .ok (.istore 5, 2) := by decide +kernel
theorem dX3_addEdge_19 : decode cX3_addEdge 19 = .ok (.iload 5, 2) := by decide +kernel
theorem dX3_addEdge_21 : decode cX3_addEdge 21 = .ok (.aload_n 0, 1) := by decide +kernel
theorem dX3_addEdge_22 : decode cX3_addEdge 22 = .ok (.getfield 16, 3) := by decide +kernel
theorem dX3_addEdge_25 : decode cX3_addEdge 25 = .ok (.getfield 105, 3) := by decide +kernel
theorem dX3_addEdge_28 : decode cX3_addEdge 28 = .ok (.if_icmp .ge 90, 3) := by decide +kernel
theorem dX3_addEdge_31 : decode cX3_addEdge 31 = .ok (.aload_n 0, 1) := by decide +kernel
theorem dX3_addEdge_32 : decode cX3_addEdge 32 = .ok (.getfield 16, 3) := by decide +kernel
theorem dX3_addEdge_35 : decode cX3_addEdge 35 = .ok (.iload 5, 2) := by decide +kernel
theorem dX3_addEdge_37 : decode cX3_addEdge 37 = .ok (.invokevirtual 247, 3) := by decide +kernel
theorem dX3_addEdge_40 : decode cX3_addEdge 40 = .ok (.aload_n 0, 1) := by decide +kernel
theorem dX3_addEdge_41 : decode cX3_addEdge 41 = .ok (.getfield 16, 3) := by decide +kernel
theorem dX3_addEdge_44 : decode cX3_addEdge 44 = .ok (.iload_n 3, 1) := by decide +kernel
theorem dX3_addEdge_45 : decode cX3_addEdge 45 = .ok (.invokevirtual 250, 3) := by decide +kernel
theorem dX3_addEdge_48 : decode cX3_addEdge 48 = .ok (.if_icmp .gt 64, 3) := by decide +kernel
theorem dX3_addEdge_51 : decode cX3_addEdge 51 = .ok (.aload_n 0, 1) := by decide +kernel
theorem dX3_addEdge_52 : decode cX3_addEdge 52 = .ok (.getfield 16, 3) := by decide +kernel
theorem dX3_addEdge_55 : decode cX3_addEdge 55 = .ok (.iload 5, 2) := by decide +kernel
theorem dX3_addEdge_57 : decode cX3_addEdge 57 = .ok (.invokevirtual 250, 3) := by decide +kernel
theorem dX3_addEdge_60 : decode cX3_addEdge 60 = .ok (.aload_n 0, 1) := by decide +kernel
theorem dX3_addEdge_61 : decode cX3_addEdge 61 = .ok (.getfield 16, 3) := by decide +kernel
theorem dX3_addEdge_64 : decode cX3_addEdge 64 = .ok (.iload_n 3, 1) := by decide +kernel
theorem dX3_addEdge_65 : decode cX3_addEdge 65 = .ok (.invokevirtual 247, 3) := by decide +kernel
theorem dX3_addEdge_68 : decode cX3_addEdge 68 = .ok (.if_icmp .lt 44, 3) := by decide +kernel
theorem dX3_addEdge_71 : decode cX3_addEdge 71 = .ok (.aload_n 0, 1) := by decide +kernel
theorem dX3_addEdge_72 : decode cX3_addEdge 72 = .ok (.getfield 16, 3) := by decide +kernel
theorem dX3_addEdge_75 : decode cX3_addEdge 75 = .ok (.iload 5, 2) := by decide +kernel
theorem dX3_addEdge_77 : decode cX3_addEdge 77 = .ok (.invokevirtual 253, 3) := by decide +kernel
theorem dX3_addEdge_80 : decode cX3_addEdge 80 = .ok (.aload_n 0, 1) := by decide +kernel
theorem dX3_addEdge_81 : decode cX3_addEdge 81 = .ok (.getfield 16, 3) := by decide +kernel
theorem dX3_addEdge_84 : decode cX3_addEdge 84 = .ok (.iload_n 3, 1) := by decide +kernel
theorem dX3_addEdge_85 : decode cX3_addEdge 85 = .ok (.invokevirtual 256, 3) := by decide +kernel
theorem dX3_addEdge_88 : decode cX3_addEdge 88 = .ok (.if_icmp .lt 24, 3) := by decide +kernel
theorem dX3_addEdge_91 : decode cX3_addEdge 91 = .ok (.aload_n 0, 1) := by decide +kernel
theorem dX3_addEdge_92 : decode cX3_addEdge 92 = .ok (.iload_n 3, 1) := by decide +kernel
theorem dX3_addEdge_93 : decode cX3_addEdge 93 = .ok (.aload_n 0, 1) := by decide +kernel
theorem dX3_addEdge_94 : decode cX3_addEdge 94 = .ok (.getfield 37, 3) := by decide +kernel
theorem dX3_addEdge_97 : decode cX3_addEdge 97 = .ok (.iload 4, 2) := by decide +kernel
theorem dX3_addEdge_99 : decode cX3_addEdge 99 = .ok (.laload, 1) := by decide +kernel
theorem dX3_addEdge_100 : decode cX3_addEdge 100 = .ok (.aload_n 0, 1) := by decide +kernel
theorem dX3_addEdge_101 : decode cX3_addEdge 101 = .ok (.getfield 40, 3) := by decide +kernel
theorem dX3_addEdge_104 : decode cX3_addEdge 104 = .ok (.iload 4, 2) := by decide +kernel
theorem dX3_addEdge_106 : decode cX3_addEdge 106 = .ok (.laload, 1) := by decide +kernel
theorem dX3_addEdge_107 : decode cX3_addEdge 107 = .ok (.iload 5, 2) := by decide +kernel
theorem dX3_addEdge_109 : decode cX3_addEdge 109 = .ok (.invokevirtual 259, 3) := by decide +kernel
theorem dX3_addEdge_112 : decode cX3_addEdge 112 = .ok (.iinc 5 1, 3) := by decide +kernel
theorem dX3_addEdge_115 : decode cX3_addEdge 115 = .ok (.goto (-96), 3) := by decide +kernel
theorem dX3_addEdge_118 : decode cX3_addEdge 118 = .ok (.aload_n 0, 1) := by decide +kernel
theorem dX3_addEdge_119 : decode cX3_addEdge 119 = .ok (.aload_n 1, 1) := by decide +kernel
theorem dX3_addEdge_120 : decode cX3_addEdge 120 = .ok (.aload_n 0, 1) := by decide +kernel
theorem dX3_addEdge_121 : decode cX3_addEdge 121 = .ok (.getfield 46, 3) := by decide +kernel
theorem dX3_addEdge_124 : decode cX3_addEdge 124 = .ok (.iconst 0, 1) := by decide +kernel
theorem dX3_addEdge_125 : decode cX3_addEdge 125 = .ok (.iaload, 1) := by decide +kernel
theorem dX3_addEdge_126 : decode cX3_addEdge 126 = .ok (.invokestatic 263, 3) := by decide +kernel
theorem dX3_addEdge_129 : decode cX3_addEdge 129 = .ok (.aload_n 2, 1) := by decide +kernel
theorem dX3_addEdge_130 : decode cX3_addEdge 130 = .ok (.aload_n 0, 1) := by decide +kernel
theorem dX3_addEdge_131 : decode cX3_addEdge 131 = .ok (.getfield 46, 3) := by decide +kernel
theorem dX3_addEdge_134 : decode cX3_addEdge 134 = .ok (.iconst 1, 1) := by decide +kernel
theorem dX3_addEdge_135 : decode cX3_addEdge 135 = .ok (.iaload, 1) := by decide +kernel
theorem dX3_addEdge_136 : decode cX3_addEdge 136 = .ok (.invokestatic 263, 3) := by decide +kernel
theorem dX3_addEdge_139 : decode cX3_addEdge 139 = .ok (.iconst 2, 1) := by decide +kernel
theorem dX3_addEdge_140 : decode cX3_addEdge 140 = .ok (.invokevirtual 147, 3) := by decide +kernel
theorem dX3_addEdge_143 : decode cX3_addEdge 143 = .ok (.aload_n 0, 1) := by decide +kernel
theorem dX3_addEdge_144 : decode cX3_addEdge 144 = .ok (.aload_n 1, 1) := by decide +kernel
theorem dX3_addEdge_145 : decode cX3_addEdge 145 = .ok (.aload_n 0, 1) := by decide +kernel
theorem dX3_addEdge_146 : decode cX3_addEdge 146 = .ok (.getfield 46, 3) := by decide +kernel
theorem dX3_addEdge_149 : decode cX3_addEdge 149 = .ok (.iconst 0, 1) := by decide +kernel
theorem dX3_addEdge_150 : decode cX3_addEdge 150 = .ok (.iaload, 1) := by decide +kernel
theorem dX3_addEdge_151 : decode cX3_addEdge 151 = .ok (.aload_n 0, 1) := by decide +kernel
theorem dX3_addEdge_152 : decode cX3_addEdge 152 = .ok (.getfield 43, 3) := by decide +kernel
theorem dX3_addEdge_155 : decode cX3_addEdge 155 = .ok (.iconst 0, 1) := by decide +kernel
theorem dX3_addEdge_156 : decode cX3_addEdge 156 = .ok (.iaload, 1) := by decide +kernel
theorem dX3_addEdge_157 : decode cX3_addEdge 157 = .ok (.iadd, 1) := by decide +kernel
theorem dX3_addEdge_158 : decode cX3_addEdge 158 = .ok (.invokestatic 263, 3) := by decide +kernel
theorem dX3_addEdge_161 : decode cX3_addEdge 161 = .ok (.aload_n 2, 1) := by decide +kernel
theorem dX3_addEdge_162 : decode cX3_addEdge 162 = .ok (.aload_n 0, 1) := by decide +kernel
theorem dX3_addEdge_163 : decode cX3_addEdge 163 = .ok (.getfield 46, 3) := by decide +kernel
theorem dX3_addEdge_166 : decode cX3_addEdge 166 = .ok (.iconst 1, 1) := by decide +kernel
theorem dX3_addEdge_167 : decode cX3_addEdge 167 = .ok (.iaload, 1) := by decide +kernel
theorem dX3_addEdge_168 : decode cX3_addEdge 168 = .ok (.aload_n 0, 1) := by decide +kernel
theorem dX3_addEdge_169 : decode cX3_addEdge 169 = .ok (.getfield 43, 3) := by decide +kernel
theorem dX3_addEdge_172 : decode cX3_addEdge 172 = .ok (.iconst 1, 1) := by decide +kernel
theorem dX3_addEdge_173 : decode cX3_addEdge 173 = .ok (.iaload, 1) := by decide +kernel
theorem dX3_addEdge_174 : decode cX3_addEdge 174 = .ok (.iadd, 1) := by decide +kernel
theorem dX3_addEdge_175 : decode cX3_addEdge 175 = .ok (.invokestatic 263, 3) := by decide +kernel
theorem dX3_addEdge_178 : decode cX3_addEdge 178 = .ok (.iconst 2, 1) := by decide +kernel
theorem dX3_addEdge_179 : decode cX3_addEdge 179 = .ok (.invokevirtual 147, 3) := by decide +kernel
theorem dX3_addEdge_182 : decode cX3_addEdge 182 = .ok (.aload_n 0, 1) := by decide +kernel
theorem dX3_addEdge_183 : decode cX3_addEdge 183 = .ok (.aload_n 0, 1) := by decide +kernel
theorem dX3_addEdge_184 : decode cX3_addEdge 184 = .ok (.aload_n 1, 1) := by decide +kernel
theorem dX3_addEdge_185 : decode cX3_addEdge 185 = .ok (.iconst 0, 1) := by decide +kernel
theorem dX3_addEdge_186 : decode cX3_addEdge 186 = .ok (.invokevirtual 267, 3) := by decide +kernel
theorem dX3_addEdge_189 : decode cX3_addEdge 189 = .ok (.aload_n 0, 1) := by decide +kernel
theorem dX3_addEdge_190 : decode cX3_addEdge 190 = .ok (.aload_n 2, 1) := by decide +kernel
theorem dX3_addEdge_191 : decode cX3_addEdge 191 = .ok (.iconst 1, 1) := by decide +kernel
theorem dX3_addEdge_192 : decode cX3_addEdge 192 = .ok (.invokevirtual 267, 3) := by decide +kernel
theorem dX3_addEdge_195 : decode cX3_addEdge 195 = .ok (.iconst 1, 1) := by decide +kernel
theorem dX3_addEdge_196 : decode cX3_addEdge 196 = .ok (.invokevirtual 147, 3) := by decide +kernel
theorem dX3_addEdge_199 : decode cX3_addEdge 199 = .ok (.return_, 1) := by decide +kernel
abbrev M_X3_addEdge : MRec := (yX3_addEdge, cX3_addEdge, 6, none, [])
theorem m_X3_addEdge : en_M M_X3_addEdge 4 := ⟨t_1972, t_11, ⟨by decide +kernel, by decide +kernel⟩, by decide +kernel, by decide +kernel, by decide +kernel⟩
theorem dX3_cutAt_0 : decode cX3_cutAt 0 = .ok (.aload_n 0, 1) := by decide +kernel
theorem dX3_cutAt_1 : decode cX3_cutAt 1 = .ok (.getfield 16, 3) := by decide +kernel
theorem dX3_cutAt_4 : decode cX3_cutAt 4 = .ok (.iload_n 1, 1) := by decide +kernel
theorem dX3_cutAt_5 : decode cX3_cutAt 5 = .ok (.iload_n 2, 1) := by decide +kernel
theorem dX3_cutAt_6 : decode cX3_cutAt 6 = .ok (.iload_n 3, 1) := by decide +kernel
theorem dX3_cutAt_7 : decode cX3_cutAt 7 = .ok (.invokevirtual 238, 3) := by decide +kernel
theorem dX3_cutAt_10 : decode cX3_cutAt 10 = .ok (.ifCond .ne 4, 3) := by decide +kernel
theorem dX3_cutAt_13 : decode cX3_cutAt 13 = .ok (.return_, 1) := by decide +kernel
theorem dX3_cutAt_14 : decode cX3_cutAt 14 = .ok (.aload_n 0, 1) := by decide +kernel
theorem dX3_cutAt_15 : decode cX3_cutAt 15 = .ok (.iload_n 1, 1) := by decide +kernel
theorem dX3_cutAt_16 : decode cX3_cutAt 16 = .ok (.invokevirtual 227, 3) := by decide +kernel
theorem dX3_cutAt_19 : decode cX3_cutAt 19 = .ok (.lconst 0, 1) := by decide +kernel
theorem dX3_cutAt_20 : decode cX3_cutAt 20 = .ok (.lcmp, 1) := by decide +kernel
theorem dX3_cutAt_21 : decode cX3_cutAt 21 = .ok (.ifCond .eq 34, 3) := by decide +kernel
theorem dX3_cutAt_24 : decode cX3_cutAt 24 = .ok (.aload_n 0, 1) := by decide +kernel
theorem dX3_cutAt_25 : decode cX3_cutAt 25 = .ok (.iload_n 2, 1) := by decide +kernel
theorem dX3_cutAt_26 : decode cX3_cutAt 26 = .ok (.i2l, 1) := by decide +kernel
theorem dX3_cutAt_27 : decode cX3_cutAt 27 = .ok (.aload_n 0, 1) := by decide +kernel
theorem dX3_cutAt_28 : decode cX3_cutAt 28 = .ok (.getfield 16, 3) := by decide +kernel
theorem dX3_cutAt_31 : decode cX3_cutAt 31 = .ok (.getfield 215, 3) := by decide +kernel
theorem dX3_cutAt_34 : decode cX3_cutAt 34 = .ok (.iload_n 1, 1) := by decide +kernel
theorem dX3_cutAt_35 : decode cX3_cutAt 35 = .ok (.iaload, 1) := by decide +kernel
theorem dX3_cutAt_36 : decode cX3_cutAt 36 = .ok (.i2l, 1) := by decide +kernel
theorem dX3_cutAt_37 : decode cX3_cutAt 37 = .ok (.lsub, 1) := by decide +kernel
theorem dX3_cutAt_38 : decode cX3_cutAt 38 = .ok (.invokestatic 234, 3) := by decide +kernel
theorem dX3_cutAt_41 : decode cX3_cutAt 41 = .ok (.aload_n 0, 1) := by decide +kernel
theorem dX3_cutAt_42 : decode cX3_cutAt 42 = .ok (.iload_n 1, 1) := by decide +kernel
theorem dX3_cutAt_43 : decode cX3_cutAt 43 = .ok (.invokevirtual 227, 3) := by decide +kernel
theorem dX3_cutAt_46 : decode cX3_cutAt 46 = .ok (.invokestatic 234, 3) := by decide +kernel
theorem dX3_cutAt_49 : decode cX3_cutAt 49 = .ok (.invokevirtual 190, 3) := by decide +kernel
theorem dX3_cutAt_52 : decode cX3_cutAt 52 = .ok (.goto 31, 3) := by decide +kernel
theorem dX3_cutAt_55 : decode cX3_cutAt 55 = .ok (.aload_n 0, 1) := by decide +kernel
theorem dX3_cutAt_56 : decode cX3_cutAt 56 = .ok (.iload_n 3, 1) := by decide +kernel
theorem dX3_cutAt_57 : decode cX3_cutAt 57 = .ok (.i2l, 1) := by decide +kernel
theorem dX3_cutAt_58 : decode cX3_cutAt 58 = .ok (.aload_n 0, 1) := by decide +kernel
theorem dX3_cutAt_59 : decode cX3_cutAt 59 = .ok (.getfield 16, 3) := by decide +kernel
theorem dX3_cutAt_62 : decode cX3_cutAt 62 = .ok (.getfield 218, 3) := by decide +kernel
theorem dX3_cutAt_65 : decode cX3_cutAt 65 = .ok (.iload_n 1, 1) := by decide +kernel
theorem dX3_cutAt_66 : decode cX3_cutAt 66 = .ok (.iaload, 1) := by decide +kernel
theorem dX3_cutAt_67 : decode cX3_cutAt 67 = .ok (.i2l, 1) := by decide +kernel
theorem dX3_cutAt_68 : decode cX3_cutAt 68 = .ok (.lsub, 1) := by decide +kernel
theorem dX3_cutAt_69 : decode cX3_cutAt 69 = .ok (.invokestatic 234, 3) := by decide +kernel
theorem dX3_cutAt_72 : decode cX3_cutAt 72 = .ok (.aload_n 0, 1) := by decide +kernel
theorem dX3_cutAt_73 : decode cX3_cutAt 73 = .ok (.iload_n 1, 1) := by decide +kernel
theorem dX3_cutAt_74 : decode cX3_cutAt 74 = .ok (.invokevirtual 231, 3) := by decide +kernel
theorem dX3_cutAt_77 : decode cX3_cutAt 77 = .ok (.invokestatic 234, 3) := by decide +kernel
theorem dX3_cutAt_80 : decode cX3_cutAt 80 = .ok (.invokevirtual 190, 3) := by decide +kernel
theorem dX3_cutAt_83 : decode cX3_cutAt 83 = .ok (.return_, 1) := by decide +kernel
abbrev M_X3_cutAt : MRec := (yX3_cutAt, cX3_cutAt, 4, none, [])
theorem m_X3_cutAt : en_M M_X3_cutAt 3 := ⟨t_1954, t_11, ⟨by decide +kernel, by decide +kernel⟩, by decide +kernel, by decide +kernel, by decide +kernel⟩
theorem dX3_cut_0 : decode cX3_cut 0 = .ok (.aload_n 0, 1) := by decide +kernel
theorem dX3_cut_1 : decode cX3_cut 1 = .ok (.getfield 16, 3) := by decide +kernel
theorem dX3_cut_4 : decode cX3_cut 4 = .ok (.iload_n 1, 1) := by decide +kernel
theorem dX3_cut_5 : decode cX3_cut 5 = .ok (.iload_n 2, 1) := by decide +kernel
theorem dX3_cut_6 : decode cX3_cut 6 = .ok (.invokevirtual 163, 3) := by decide +kernel
theorem dX3_cut_9 : decode cX3_cut 9 = .ok (.istore_n 3, 1) := by decide +kernel
theorem dX3_cut_10 : decode cX3_cut 10 = .ok (.iload_n 3, 1) := by decide +kernel
theorem dX3_cut_11 : decode cX3_cut 11 = .ok (.iconst 2, 1) := by decide +kernel
theorem dX3_cut_12 : decode cX3_cut 12 = .ok (.if_icmp .ne 25, 3) := by decide +kernel
theorem dX3_cut_15 : decode cX3_cut 15 = .ok (.aload_n 0, 1) := by decide +kernel
theorem dX3_cut_16 : decode cX3_cut 16 = .ok (.iload_n 1, 1) := by decide +kernel
theorem dX3_cut_17 : decode cX3_cut 17 = .ok (.aload_n 0, 1) := by decide +kernel
theorem dX3_cut_18 : decode cX3_cut 18 = .ok (.getfield 16, 3) := by decide +kernel
theorem dX3_cut_21 : decode cX3_cut 21 = .ok (.getfield 206, 3) := by decide +kernel
theorem dX3_cut_24 : decode cX3_cut 24 = .ok (.aload_n 0, 1) := by decide +kernel
theorem dX3_cut_25 : decode cX3_cut 25 = .ok (.getfield 16, 3) := by decide +kernel
theorem dX3_cut_28 : decode cX3_cut 28 = .ok (.getfield 209, 3) := by decide +kernel
theorem dX3_cut_31 : decode cX3_cut 31 = .ok (.invokevirtual 212, 3) := by decide +kernel
theorem dX3_cut_34 : decode cX3_cut 34 = .ok (.goto 160, 3) := by decide +kernel
theorem dX3_cut_37 : decode cX3_cut 37 = .ok (.iload_n 3, 1) := by decide +kernel
theorem dX3_cut_38 : decode cX3_cut 38 = .ok (.iconst 3, 1) := by decide +kernel
theorem dX3_cut_39 : decode cX3_cut 39 = .ok (.if_icmp .ne 52, 3) := by decide +kernel
theorem dX3_cut_42 : decode cX3_cut 42 = .ok (.aload_n 0, 1) := by decide +kernel
theorem dX3_cut_43 : decode cX3_cut 43 = .ok (.iload_n 1, 1) := by decide +kernel
theorem dX3_cut_44 : decode cX3_cut 44 = .ok (.aload_n 0, 1) := by decide +kernel
theorem dX3_cut_45 : decode cX3_cut 45 = .ok (.getfield 16, 3) := by decide +kernel
theorem dX3_cut_48 : decode cX3_cut 48 = .ok (.getfield 215, 3) := by decide +kernel
theorem dX3_cut_51 : decode cX3_cut 51 = .ok (.iload_n 2, 1) := by decide +kernel
theorem dX3_cut_52 : decode cX3_cut 52 = .ok (.iaload, 1) := by decide +kernel
theorem dX3_cut_53 : decode cX3_cut 53 = .ok (.aload_n 0, 1) := by decide +kernel
theorem dX3_cut_54 : decode cX3_cut 54 = .ok (.getfield 16, 3) := by decide +kernel
theorem dX3_cut_57 : decode cX3_cut 57 = .ok (.getfield 218, 3) := by decide +kernel
theorem dX3_cut_60 : decode cX3_cut 60 = .ok (.iload_n 2, 1) := by decide +kernel
theorem dX3_cut_61 : decode cX3_cut 61 = .ok (.iaload, 1) := by decide +kernel
theorem dX3_cut_62 : decode cX3_cut 62 = .ok (.invokevirtual 212, 3) := by decide +kernel
theorem dX3_cut_65 : decode cX3_cut 65 = .ok (.aload_n 0, 1) := by decide +kernel
theorem dX3_cut_66 : decode cX3_cut 66 = .ok (.iload_n 1, 1) := by decide +kernel
theorem dX3_cut_67 : decode cX3_cut 67 = .ok (.aload_n 0, 1) := by decide +kernel
theorem dX3_cut_68 : decode cX3_cut 68 = .ok (.getfield 16, 3) := by decide +kernel
theorem dX3_cut_71 : decode cX3_cut 71 = .ok (.getfield 221, 3) := by decide +kernel
theorem dX3_cut_74 : decode cX3_cut 74 = .ok (.iload_n 2, 1) := by decide +kernel
theorem dX3_cut_75 : decode cX3_cut 75 = .ok (.iaload, 1) := by decide +kernel
theorem dX3_cut_76 : decode cX3_cut 76 = .ok (.aload_n 0, 1) := by decide +kernel
theorem dX3_cut_77 : decode cX3_cut 77 = .ok (.getfield 16, 3) := by decide +kernel
theorem dX3_cut_80 : decode cX3_cut 80 = .ok (.getfield 224, 3) := by decide +kernel
theorem dX3_cut_83 : decode cX3_cut 83 = .ok (.iload_n 2, 1) := by decide +kernel
theorem dX3_cut_84 : decode cX3_cut 84 = .ok (.iaload, 1) := by decide +kernel
theorem dX3_cut_85 : decode cX3_cut 85 = .ok (.invokevirtual 212, 3) := by decide +kernel
theorem dX3_cut_88 : decode cX3_cut 88 = .ok (.goto 106, 3) := by decide +kernel
theorem dX3_cut_91 : decode cX3_cut 91 = .ok (.iload_n 3, 1) := by decide +kernel
theorem dX3_cut_92 : decode cX3_cut 92 = .ok (.iconst 1, 1) := by decide +kernel
theorem dX3_cut_93 : decode cX3_cut 93 = .ok (.if_icmp .ne 101, 3) := by decide +kernel
theorem dX3_cut_96 : decode cX3_cut 96 = .ok (.aload_n 0, 1) := by decide +kernel
theorem dX3_cut_97 : decode cX3_cut 97 = .ok (.iload_n 2, 1) := by decide +kernel
theorem dX3_cut_98 : decode cX3_cut 98 = .ok (.invokevirtual 227, 3) := by decide +kernel
theorem dX3_cut_101 : decode cX3_cut 101 = .ok (.lstore 4, 2) := by decide +kernel
theorem dX3_cut_103 : decode cX3_cut 103 = .ok (.aload_n 0, 1) := by decide +kernel
theorem dX3_cut_104 : decode cX3_cut 104 = .ok (.iload_n 2, 1) := by decide +kernel
theorem dX3_cut_105 : decode cX3_cut 105 = .ok (.invokevirtual 231, 3) := by decide +kernel
theorem dX3_cut_108 : decode cX3_cut 108 = .ok (.lstore 6, 2) := by decide +kernel
theorem dX3_cut_110 : decode cX3_cut 110 = .ok (.aload_n 0, 1) := by decide +kernel
theorem dX3_cut_111 : decode cX3_cut 111 = .ok (.getfield 16, 3) := by decide +kernel
theorem dX3_cut_114 : decode cX3_cut 114 = .ok (.getfield 215, 3) := by decide +kernel
theorem dX3_cut_117 : decode cX3_cut 117 = .ok (.iload_n 2, 1) := by decide +kernel
theorem dX3_cut_118 : decode cX3_cut 118 = .ok (.iaload, 1) := by decide +kernel
theorem dX3_cut_119 : decode cX3_cut 119 = .ok (.i2l, 1) := by decide +kernel
theorem dX3_cut_120 : decode cX3_cut 120 = .ok (.aload_n 0, 1) := by decide +kernel
theorem dX3_cut_121 : decode cX3_cut 121 = .ok (.getfield 16, 3) := by decide +kernel
theorem dX3_cut_124 : decode cX3_cut 124 = .ok (.getfield 215, 3) := by decide +kernel
theorem dX3_cut_127 : decode cX3_cut 127 = .ok (.iload_n 1, 1) := by decide +kernel
theorem dX3_cut_128 : decode cX3_cut 128 = .ok (.iaload, 1) := by decide +kernel
theorem dX3_cut_129 : decode cX3_cut 129 = .ok (.i2l, 1) := by decide +kernel
theorem dX3_cut_130 : decode cX3_cut 130 = .ok (.lsub, 1) := by decide +kernel
theorem dX3_cut_131 : decode cX3_cut 131 = .ok (.lstore 8, 2) := by decide +kernel
theorem dX3_cut_133 : decode cX3_cut 133 = .ok (.aload_n 0, 1) := by decide +kernel
theorem dX3_cut_134 : decode cX3_cut 134 = .ok (.getfield 16, 3) := by decide +kernel
theorem dX3_cut_137 : decode cX3_cut 137 = .ok (.getfield 218, 3) := by decide +kernel
theorem dX3_cut_140 : decode cX3_cut 140 = .ok (.iload_n 2, 1) := by decide +kernel
theorem dX3_cut_141 : decode cX3_cut 141 = .ok (.iaload, 1) := by decide +kernel
theorem dX3_cut_142 : decode cX3_cut 142 = .ok (.i2l, 1) := by decide +kernel
theorem dX3_cut_143 : decode cX3_cut 143 = .ok (.aload_n 0, 1) := by decide +kernel
theorem dX3_cut_144 : decode cX3_cut 144 = .ok (.getfield 16, 3) := by decide +kernel
theorem dX3_cut_147 : decode cX3_cut 147 = .ok (.getfield 218, 3) := by decide +kernel
theorem dX3_cut_150 : decode cX3_cut 150 = .ok (.iload_n 1, 1) := by decide +kernel
theorem dX3_cut_151 : decode cX3_cut 151 = .ok (.iaload, 1) := by decide +kernel
theorem dX3_cut_152 : decode cX3_cut 152 = .ok (.i2l, 1) := by decide +kernel
theorem dX3_cut_153 : decode cX3_cut 153 = .ok (.lsub, 1) := by decide +kernel
theorem dX3_cut_154 : decode cX3_cut 154 = .ok (.lstore 10, 2) := by decide +kernel
theorem dX3_cut_156 : decode cX3_cut 156 = .ok (.aload_n 0, 1) := by decide +kernel
theorem dX3_cut_157 : decode cX3_cut 157 = .ok (.lload 8, 2) := by decide +kernel
theorem dX3_cut_159 : decode cX3_cut 159 = .ok (.lload 6, 2) := by decide +kernel
theorem dX3_cut_161 : decode cX3_cut 161 = .ok (.lmul, 1) := by decide +kernel
theorem dX3_cut_162 : decode cX3_cut 162 = .ok (.lload 10, 2) := by decide +kernel
theorem dX3_cut_164 : decode cX3_cut 164 = .ok (.lload 4, 2) := by decide +kernel
theorem dX3_cut_166 : decode cX3_cut 166 = .ok (.lmul, 1) := by decide +kernel
theorem dX3_cut_167 : decode cX3_cut 167 = .ok (.lsub, 1) := by decide +kernel
theorem dX3_cut_168 : decode cX3_cut 168 = .ok (.invokestatic 234, 3) := by decide +kernel
theorem dX3_cut_171 : decode cX3_cut 171 = .ok (.aload_n 0, 1) := by decide +kernel
theorem dX3_cut_172 : decode cX3_cut 172 = .ok (.iload_n 1, 1) := by decide +kernel
theorem dX3_cut_173 : decode cX3_cut 173 = .ok (.invokevirtual 227, 3) := by decide +kernel
theorem dX3_cut_176 : decode cX3_cut 176 = .ok (.lload 6, 2) := by decide +kernel
theorem dX3_cut_178 : decode cX3_cut 178 = .ok (.lmul, 1) := by decide +kernel
theorem dX3_cut_179 : decode cX3_cut 179 = .ok (.aload_n 0, 1) := by decide +kernel
theorem dX3_cut_180 : decode cX3_cut 180 = .ok (.iload_n 1, 1) := by decide +kernel
theorem dX3_cut_181 : decode cX3_cut 181 = .ok (.invokevirtual 231, 3) := by decide +kernel
theorem dX3_cut_184 : decode cX3_cut 184 = .ok (.lload 4, 2) := by decide +kernel
theorem dX3_cut_186 : decode cX3_cut 186 = .ok (.lmul, 1) := by decide +kernel
theorem dX3_cut_187 : decode cX3_cut 187 = .ok (.lsub, 1) := by decide +kernel
theorem dX3_cut_188 : decode cX3_cut 188 = .ok (.invokestatic 234, 3) := by decide +kernel
theorem dX3_cut_191 : decode cX3_cut 191 = .ok (.invokevirtual 190, 3) := by decide +kernel
theorem dX3_cut_194 : decode cX3_cut 194 = .ok (.return_, 1) := by decide +kernel
abbrev M_X3_cut : MRec := (yX3_cut, cX3_cut, 12, none, [])
theorem m_X3_cut : en_M M_X3_cut 2 := ⟨t_1950, t_11, ⟨by decide +kernel, by decide +kernel⟩, by decide +kernel, by decide +kernel, by decide +kernel⟩
theorem dX3_addEdges_0 : decode cX3_addEdges 0 = .ok (.aload_n 0, 1) := by decide +kernel
theorem dX3_addEdges_1 : decode cX3_addEdges 1 = .ok (.iconst 0, 1) := by decide +kernel
theorem dX3_addEdges_2 : decode cX3_addEdges 2 = .ok (.putfield 187, 3) := by decide +kernel
theorem dX3_addEdges_5 : decode cX3_addEdges 5 = .ok (.aload_n 0, 1) := by decide +kernel
theorem dX3_addEdges_6 : decode cX3_addEdges 6 = .ok (.lconst 0, 1) := by decide +kernel
theorem dX3_addEdges_7 : decode cX3_addEdges 7 = .ok (.lconst 1, 1) := by decide +kernel
theorem dX3_addEdges_8 : decode cX3_addEdges 8 = .ok (.invokevirtual 190, 3) := by decide +kernel
theorem dX3_addEdges_11 : decode cX3_addEdges 11 = .ok (.iconst 0, 1) := by decide +kernel
theorem dX3_addEdges_12 : decode cX3_addEdges 12 = .ok (.istore 4, 2) := by decide +kernel
theorem dX3_addEdges_14 : decode cX3_addEdges 14 = .ok (.iload 4, 2) := by decide +kernel
theorem dX3_addEdges_16 : decode cX3_addEdges 16 = .ok (.aload_n 0, 1) := by decide +kernel
theorem dX3_addEdges_17 : decode cX3_addEdges 17 = .ok (.getfield 16, 3) := by decide +kernel
theorem dX3_addEdges_20 : decode cX3_addEdges 20 = .ok (.getfield 105, 3) := by decide +kernel
theorem dX3_addEdges_23 : decode cX3_addEdges 23 = .ok (.if_icmp .ge 22, 3) := by decide +kernel
theorem dX3_addEdges_26 : decode cX3_addEdges 26 = .ok (.iload 4, 2) := by decide +kernel
theorem dX3_addEdges_28 : decode cX3_addEdges 28 = .ok (.iload_n 3, 1) := by decide +kernel
theorem dX3_addEdges_29 : decode cX3_addEdges 29 = .ok (.if_icmp .eq 10, 3) := by decide +kernel
theorem dX3_addEdges_32 : decode cX3_addEdges 32 = .ok (.aload_n 0, 1) := by decide +kernel
theorem dX3_addEdges_33 : decode cX3_addEdges 33 = .ok (.iload_n 3, 1) := by decide +kernel
theorem dX3_addEdges_34 : decode cX3_addEdges 34 = .ok (.iload 4, 2) := by decide +kernel
theorem dX3_addEdges_36 : decode cX3_addEdges 36 = .ok (.invokevirtual 194, 3) := by decide +kernel
theorem dX3_addEdges_39 : decode cX3_addEdges 39 = .ok (.iinc 4 1, 3) := by decide +kernel
theorem dX3_addEdges_42 : decode cX3_addEdges 42 = .ok (.goto (-28), 3) := by decide +kernel
theorem dX3_addEdges_45 : decode cX3_addEdges 45 = .ok (.iconst 0, 1) := by decide +kernel
theorem dX3_addEdges_46 : decode cX3_addEdges 46 = .ok (.istore 4, 2) := by decide +kernel
theorem dX3_addEdges_48 : decode cX3_addEdges 48 = .ok (.iload 4, 2) := by decide +kernel
theorem dX3_addEdges_50 : decode cX3_addEdges 50 = .ok (.aload_n 0, 1) := by decide +kernel
theorem dX3_addEdges_51 : decode cX3_addEdges 51 = .ok (.getfield 187, 3) := by decide +kernel
theorem dX3_addEdges_54 : decode cX3_addEdges 54 = .ok (.if_icmp .ge 64, 3) := by decide +kernel
theorem dX3_addEdges_57 : decode cX3_addEdges 57 = .ok (.iload 4, 2) := by decide +kernel
theorem dX3_addEdges_59 : decode cX3_addEdges 59 = .ok (.ifCond .eq 44, 3) := by decide +kernel
theorem dX3_addEdges_62 : decode cX3_addEdges 62 = .ok (.aload_n 0, 1) := by decide +kernel
theorem dX3_addEdges_63 : decode cX3_addEdges 63 = .ok (.getfield 37, 3) := by decide +kernel
theorem dX3_addEdges_66 : decode cX3_addEdges 66 = .ok (.iload 4, 2) := by decide +kernel
theorem dX3_addEdges_68 : decode cX3_addEdges 68 = .ok (.iconst 1, 1) := by decide +kernel
theorem dX3_addEdges_69 : decode cX3_addEdges 69 = .ok (.isub, 1) := by decide +kernel
theorem dX3_addEdges_70 : decode cX3_addEdges 70 = .ok (.laload, 1) := by decide +kernel
theorem dX3_addEdges_71 : decode cX3_addEdges 71 = .ok (.aload_n 0, 1) := by decide +kernel
theorem dX3_addEdges_72 : decode cX3_addEdges 72 = .ok (.getfield 40, 3) := by decide +kernel
theorem dX3_addEdges_75 : decode cX3_addEdges 75 = .ok (.iload 4, 2) := by decide +kernel
theorem dX3_addEdges_77 : decode cX3_addEdges 77 = .ok (.laload, 1) := by decide +kernel
theorem dX3_addEdges_78 : decode cX3_addEdges 78 = .ok (.aload_n 0, 1) := by decide +kernel
theorem dX3_addEdges_79 : decode cX3_addEdges 79 = .ok (.getfield 37, 3) := by decide +kernel
theorem dX3_addEdges_82 : decode cX3_addEdges 82 = .ok (.iload 4, 2) := by decide +kernel
theorem dX3_addEdges_84 : decode cX3_addEdges 84 = .ok (.laload, 1) := by decide +kernel
theorem dX3_addEdges_85 : decode cX3_addEdges 85 = .ok (.lneg, 1) := by decide +kernel
theorem dX3_addEdges_86 : decode cX3_addEdges 86 = .ok (.aload_n 0, 1) := by decide +kernel
theorem dX3_addEdges_87 : decode cX3_addEdges 87 = .ok (.getfield 40, 3) := by decide +kernel
theorem dX3_addEdges_90 : decode cX3_addEdges 90 = .ok (.iload 4, 2) := by decide +kernel
theorem dX3_addEdges_92 : decode cX3_addEdges 92 = .ok (.iconst 1, 1) := by decide +kernel
theorem dX3_addEdges_93 : decode cX3_addEdges 93 = .ok (.isub, 1) := by decide +kernel
theorem dX3_addEdges_94 : decode cX3_addEdges 94 = .ok (.laload, 1) := by decide +kernel
theorem dX3_addEdges_95 : decode cX3_addEdges 95 = .ok (.lconst 0, 1) := by decide +kernel
theorem dX3_addEdges_96 : decode cX3_addEdges 96 = .ok (.lconst 0, 1) := by decide +kernel
theorem dX3_addEdges_97 : decode cX3_addEdges 97 = .ok (.invokestatic 198, 3) := by decide +kernel
theorem dX3_addEdges_100 : decode cX3_addEdges 100 = .ok (.ifCond .eq 12, 3) := by decide +kernel
theorem dX3_addEdges_103 : decode cX3_addEdges 103 = .ok (.aload_n 0, 1) := by decide +kernel
theorem dX3_addEdges_104 : decode cX3_addEdges 104 = .ok (.aload_n 1, 1) := by decide +kernel
theorem dX3_addEdges_105 : decode cX3_addEdges 105 = .ok (.aload_n 2, 1) := by decide +kernel
theorem dX3_addEdges_106 : decode cX3_addEdges 106 = .ok (.iload_n 3, 1) := by decide +kernel
theorem dX3_addEdges_107 : decode cX3_addEdges 107 = .ok (.iload 4, 2) := by decide +kernel
theorem dX3_addEdges_109 : decode cX3_addEdges 109 = .ok (.invokevirtual 202, 3) := by decide +kernel
theorem dX3_addEdges_112 : decode cX3_addEdges 112 = .ok (.iinc 4 1, 3) := by decide +kernel
theorem dX3_addEdges_115 : decode cX3_addEdges 115 = .ok (.goto (-67), 3) := by decide +kernel
theorem dX3_addEdges_118 : decode cX3_addEdges 118 = .ok (.return_, 1) := by decide +kernel
abbrev M_X3_addEdges : MRec := (yX3_addEdges, cX3_addEdges, 5, none, [])
theorem m_X3_addEdges : en_M M_X3_addEdges 3 := ⟨t_1932, t_11, ⟨by decide +kernel, by decide +kernel⟩, by decide +kernel, by decide +kernel, by decide +kernel⟩
theorem dX3_isRimOfBoth_0 : decode cX3_isRimOfBoth 0 = .ok (.iconst 0, 1) := by decide +kernel
theorem dX3_isRimOfBoth_1 : decode cX3_isRimOfBoth 1 = .ok (.istore_n 3, 1) := by decide +kernel
theorem dX3_isRimOfBoth_2 : decode cX3_isRimOfBoth 2 = .ok (.iload_n 3, 1) := by decide +kernel
theorem dX3_isRimOfBoth_3 : decode cX3_isRimOfBoth 3 = .ok (.aload_n 0, 1) := by decide +kernel
theorem dX3_isRimOfBoth_4 : decode cX3_isRimOfBoth 4 = .ok (.getfield 128, 3) := by decide +kernel
theorem dX3_isRimOfBoth_7 : decode cX3_isRimOfBoth 7 = .ok (.if_icmp .ge 57, 3) := by decide +kernel
theorem dX3_isRimOfBoth_10 : decode cX3_isRimOfBoth 10 = .ok (.aload_n 0, 1) := by decide +kernel
theorem dX3_isRimOfBoth_11 : decode cX3_isRimOfBoth 11 = .ok (.getfield 16, 3) := by decide +kernel
theorem dX3_isRimOfBoth_14 : decode cX3_isRimOfBoth 14 = .ok (.iload_n 1, 1) := by decide +kernel
theorem dX3_isRimOfBoth_15 : decode cX3_isRimOfBoth 15 = .ok (.aload_n 0, 1) := by decide +kernel
theorem dX3_isRimOfBoth_16 : decode cX3_isRimOfBoth 16 = .ok (.getfield 28, 3) := by decide +kernel
theorem dX3_isRimOfBoth_19 : decode cX3_isRimOfBoth 19 = .ok (.iload_n 3, 1) := by decide +kernel
theorem dX3_isRimOfBoth_20 : decode cX3_isRimOfBoth 20 = .ok (.iaload, 1) := by decide +kernel
theorem dX3_isRimOfBoth_21 : decode cX3_isRimOfBoth 21 = .ok (.aload_n 0, 1) := by decide +kernel
theorem dX3_isRimOfBoth_22 : decode cX3_isRimOfBoth 22 = .ok (.getfield 31, 3) := by decide +kernel
theorem dX3_isRimOfBoth_25 : decode cX3_isRimOfBoth 25 = .ok (.iload_n 3, 1) := by decide +kernel
theorem dX3_isRimOfBoth_26 : decode cX3_isRimOfBoth 26 = .ok (.iaload, 1) := by decide +kernel
theorem dX3_isRimOfBoth_27 : decode cX3_isRimOfBoth 27 = .ok (.invokevirtual 238, 3) := by decide +kernel
theorem dX3_isRimOfBoth_30 : decode cX3_isRimOfBoth 30 = .ok (.ifCond .eq 28, 3) := by decide +kernel
theorem dX3_isRimOfBoth_33 : decode cX3_isRimOfBoth 33 = .ok (.aload_n 0, 1) := by decide +kernel
theorem dX3_isRimOfBoth_34 : decode cX3_isRimOfBoth 34 = .ok (.getfield 16, 3) := by decide +kernel
theorem dX3_isRimOfBoth_37 : decode cX3_isRimOfBoth 37 = .ok (.iload_n 2, 1) := by decide +kernel
theorem dX3_isRimOfBoth_38 : decode cX3_isRimOfBoth 38 = .ok (.aload_n 0, 1) := by decide +kernel
theorem dX3_isRimOfBoth_39 : decode cX3_isRimOfBoth 39 = .ok (.getfield 28, 3) := by decide +kernel
theorem dX3_isRimOfBoth_42 : decode cX3_isRimOfBoth 42 = .ok (.iload_n 3, 1) := by decide +kernel
theorem dX3_isRimOfBoth_43 : decode cX3_isRimOfBoth 43 = .ok (.iaload, 1) := by decide +kernel
theorem dX3_isRimOfBoth_44 : decode cX3_isRimOfBoth 44 = .ok (.aload_n 0, 1) := by decide +kernel
theorem dX3_isRimOfBoth_45 : decode cX3_isRimOfBoth 45 = .ok (.getfield 31, 3) := by decide +kernel
theorem dX3_isRimOfBoth_48 : decode cX3_isRimOfBoth 48 = .ok (.iload_n 3, 1) := by decide +kernel
theorem dX3_isRimOfBoth_49 : decode cX3_isRimOfBoth 49 = .ok (.iaload, 1) := by decide +kernel
theorem dX3_isRimOfBoth_50 : decode cX3_isRimOfBoth 50 = .ok (.invokevirtual 238, 3) := by decide +kernel
theorem dX3_isRimOfBoth_53 : decode cX3_isRimOfBoth 53 = .ok (.ifCond .eq 5, 3) := by decide +kernel
theorem dX3_isRimOfBoth_56 : decode cX3_isRimOfBoth 56 = .ok (.iconst 1, 1) := by decide +kernel
theorem dX3_isRimOfBoth_57 : decode cX3_isRimOfBoth 57 = .ok (.ireturn, 1) := by decide +kernel
theorem dX3_isRimOfBoth_58 : decode cX3_isRimOfBoth 58 = .ok (.iinc 3 1, 3) := by decide +kernel
theorem dX3_isRimOfBoth_61 : decode cX3_isRimOfBoth 61 = .ok (.goto (-59), 3) := by decide +kernel
theorem dX3_isRimOfBoth_64 : decode cX3_isRimOfBoth 64 = .ok (.iconst 0, 1) := by decide +kernel
theorem dX3_isRimOfBoth_65 : decode cX3_isRimOfBoth 65 = .ok (.ireturn, 1) := by decide +kernel
abbrev M_X3_isRimOfBoth : MRec := (yX3_isRimOfBoth, cX3_isRimOfBoth, 4, (some Jvm.ClassFile.FieldType.boolean), [])
theorem m_X3_isRimOfBoth : en_M M_X3_isRimOfBoth 2 := ⟨t_2014, t_11, ⟨by decide +kernel, by decide +kernel⟩, by decide +kernel, by decide +kernel, by decide +kernel⟩
theorem dX3_addMeetings_0 : decode cX3_addMeetings 0 = .ok (.aload_n 1, 1) := by decide +kernel
theorem dX3_addMeetings_1 : decode cX3_addMeetings 1 = .ok (.invokestatic 74, 3) := by decide +kernel
theorem dX3_addMeetings_4 : decode cX3_addMeetings 4 = .ok (.ifCond .eq 7, 3) := by decide +kernel
theorem dX3_addMeetings_7 : decode cX3_addMeetings 7 = .ok (.iconst 1, 1) := by decide +kernel
theorem dX3_addMeetings_8 : decode cX3_addMeetings 8 = .ok (.goto 4, 3) := by decide +kernel
theorem dX3_addMeetings_11 : decode cX3_addMeetings 11 = .ok (.iconst 0, 1) := by decide +kernel
theorem dX3_addMeetings_12 : decode cX3_addMeetings 12 = .ok (.istore_n 3, 1) := by decide +kernel
theorem dX3_addMeetings_13 : decode cX3_addMeetings 13 = .ok (.aload_n 2, 1) := by decide +kernel
theorem dX3_addMeetings_14 : decode cX3_addMeetings 14 = .ok (.invokestatic 74, 3) := by decide +kernel
theorem dX3_addMeetings_17 : decode cX3_addMeetings 17 = .ok (.ifCond .eq 7, 3) := by decide +kernel
theorem dX3_addMeetings_20 : decode cX3_addMeetings 20 = .ok (.iconst 1, 1) := by decide +kernel
theorem dX3_addMeetings_21 : decode cX3_addMeetings 21 = .ok (.goto 4, 3) := by decide +kernel
theorem dX3_addMeetings_24 : decode cX3_addMeetings 24 = .ok (.iconst 0, 1) := by decide +kernel
theorem dX3_addMeetings_25 : decode cX3_addMeetings 25 = .ok (.istore 4, 2) := by decide +kernel
theorem dX3_addMeetings_27 : decode cX3_addMeetings 27 = .ok (.iconst 0, 1) := by decide +kernel
theorem dX3_addMeetings_28 : decode cX3_addMeetings 28 = .ok (.istore 5, 2) := by decide +kernel
theorem dX3_addMeetings_30 : decode cX3_addMeetings 30 = .ok (.iload 5, 2) := by decide +kernel
theorem dX3_addMeetings_32 : decode cX3_addMeetings 32 = .ok (.aload_n 0, 1) := by decide +kernel
theorem dX3_addMeetings_33 : decode cX3_addMeetings 33 = .ok (.getfield 16, 3) := by decide +kernel
theorem dX3_addMeetings_36 : decode cX3_addMeetings 36 = .ok (.getfield 105, 3) := by decide +kernel
theorem dX3_addMeetings_39 : decode cX3_addMeetings 39 = .ok (.if_icmp .ge 116, 3) := by decide +kernel
theorem dX3_addMeetings_42 : decode cX3_addMeetings 42 = .ok (.aload_n 0, 1) := by decide +kernel
theorem dX3_addMeetings_43 : decode cX3_addMeetings 43 = .ok (.getfield 20, 3) := by decide +kernel
theorem dX3_addMeetings_46 : decode cX3_addMeetings 46 = .ok (.iconst 3, 1) := by decide +kernel
theorem dX3_addMeetings_47 : decode cX3_addMeetings 47 = .ok (.iload_n 3, 1) := by decide +kernel
theorem dX3_addMeetings_48 : decode cX3_addMeetings 48 = .ok (.imul, 1) := by decide +kernel
theorem dX3_addMeetings_49 : decode cX3_addMeetings 49 = .ok (.iload 4, 2) := by decide +kernel
theorem dX3_addMeetings_51 : decode cX3_addMeetings 51 = .ok (.iadd, 1) := by decide +kernel
theorem dX3_addMeetings_52 : decode cX3_addMeetings 52 = .ok (.iaload, 1) := by decide +kernel
theorem dX3_addMeetings_53 : decode cX3_addMeetings 53 = .ok (.ifCond .ge 102, 3) := by decide +kernel
theorem dX3_addMeetings_56 : decode cX3_addMeetings 56 = .ok (.iload 5, 2) := by decide +kernel
theorem dX3_addMeetings_58 : decode cX3_addMeetings 58 = .ok (.iconst 1, 1) := by decide +kernel
theorem dX3_addMeetings_59 : decode cX3_addMeetings 59 = .ok (.iadd, 1) := by decide +kernel
theorem dX3_addMeetings_60 : decode cX3_addMeetings 60 = .ok (.istore 6, 2) := by decide +kernel
theorem dX3_addMeetings_62 : decode cX3_addMeetings 62 = .ok (.iload 6, 2) := by decide +kernel
theorem dX3_addMeetings_64 : decode cX3_addMeetings 64 = .ok (.aload_n 0, 1) := by decide +kernel
theorem dX3_addMeetings_65 : decode cX3_addMeetings 65 = .ok (.getfield 16, 3) := by decide +kernel
theorem dX3_addMeetings_68 : decode cX3_addMeetings 68 = .ok (.getfield 105, 3) := by decide +kernel
theorem dX3_addMeetings_71 : decode cX3_addMeetings 71 = .ok (.if_icmp .ge 78, 3) := by decide +kernel
theorem dX3_addMeetings_74 : decode cX3_addMeetings 74 = .ok (.aload_n 0, 1) := by decide +kernel
theorem dX3_addMeetings_75 : decode cX3_addMeetings 75 = .ok (.getfield 16, 3) := by decide +kernel
theorem dX3_addMeetings_78 : decode cX3_addMeetings 78 = .ok (.getfield 270, 3) := by decide +kernel
theorem dX3_addMeetings_81 : decode cX3_addMeetings 81 = .ok (.iload 5, 2) := by decide +kernel
theorem dX3_addMeetings_83 : decode cX3_addMeetings 83 = .ok (.iaload, 1) := by decide +kernel
theorem dX3_addMeetings_84 : decode cX3_addMeetings 84 = .ok (.aload_n 0, 1) := by decide +kernel
theorem dX3_addMeetings_85 : decode cX3_addMeetings 85 = .ok (.getfield 16, 3) := by decide +kernel
theorem dX3_addMeetings_88 : decode cX3_addMeetings 88 = .ok (.getfield 270, 3) := by decide +kernel
theorem dX3_addMeetings_91 : decode cX3_addMeetings 91 = .ok (.iload 6, 2) := by decide +kernel
theorem dX3_addMeetings_93 : decode cX3_addMeetings 93 = .ok (.iaload, 1) := by decide +kernel
theorem dX3_addMeetings_94 : decode cX3_addMeetings 94 = .ok (.if_icmp .ne 6, 3) := by decide +kernel
theorem dX3_addMeetings_97 : decode cX3_addMeetings 97 = .ok (.goto 46, 3) := by decide +kernel
theorem dX3_addMeetings_100 : decode cX3_addMeetings 100 = .ok (.aload_n 0, 1) := by decide +kernel
theorem dX3_addMeetings_101 : decode cX3_addMeetings 101 = .ok (.getfield 16, 3) := by decide +kernel
theorem dX3_addMeetings_104 : decode cX3_addMeetings 104 = .ok (.iload 5, 2) := by decide +kernel
theorem dX3_addMeetings_106 : decode cX3_addMeetings 106 = .ok (.iload 6, 2) := by decide +kernel
theorem dX3_addMeetings_108 : decode cX3_addMeetings 108 = .ok (.invokevirtual 163, 3) := by decide +kernel
theorem dX3_addMeetings_111 : decode cX3_addMeetings 111 = .ok (.istore 7, 2) := by decide +kernel
theorem dX3_addMeetings_113 : decode cX3_addMeetings 113 = .ok (.iload 7, 2) := by decide +kernel
theorem dX3_addMeetings_115 : decode cX3_addMeetings 115 = .ok (.ifCond .eq 28, 3) := by decide +kernel
theorem dX3_addMeetings_118 : decode cX3_addMeetings 118 = .ok (.iload 7, 2) := by decide +kernel
theorem dX3_addMeetings_120 : decode cX3_addMeetings 120 = .ok (.iconst 3, 1) := by decide +kernel
theorem dX3_addMeetings_121 : decode cX3_addMeetings 121 = .ok (.if_icmp .eq 22, 3) := by decide +kernel
theorem dX3_addMeetings_124 : decode cX3_addMeetings 124 = .ok (.aload_n 0, 1) := by decide +kernel
theorem dX3_addMeetings_125 : decode cX3_addMeetings 125 = .ok (.iload 5, 2) := by decide +kernel
theorem dX3_addMeetings_127 : decode cX3_addMeetings 127 = .ok (.iload 6, 2) := by decide +kernel
theorem dX3_addMeetings_129 : decode cX3_addMeetings 129 = .ok (.invokevirtual 293, 3) := by decide +kernel
theorem dX3_addMeetings_132 : decode cX3_addMeetings 132 = .ok (.ifCond .ne 11, 3) := by decide +kernel
theorem dX3_addMeetings_135 : decode cX3_addMeetings 135 = .ok (.aload_n 0, 1) := by decide +kernel
theorem dX3_addMeetings_136 : decode cX3_addMeetings 136 = .ok (.iload_n 3, 1) := by decide +kernel
theorem dX3_addMeetings_137 : decode cX3_addMeetings 137 = .ok (.iload 4, 2) := by decide +kernel
theorem dX3_addMeetings_139 : decode cX3_addMeetings 139 = .ok (.iconst 0, 1) := by decide +kernel
theorem dX3_addMeetings_140 : decode cX3_addMeetings 140 = .ok (.invokevirtual 147, 3) := by decide +kernel
theorem dX3_addMeetings_143 : decode cX3_addMeetings 143 = .ok (.iinc 6 1, 3) := by decide +kernel
theorem dX3_addMeetings_146 : decode cX3_addMeetings 146 = .ok (.goto (-84), 3) := by decide +kernel
theorem dX3_addMeetings_149 : decode cX3_addMeetings 149 = .ok (.iinc 5 1, 3) := by decide +kernel
theorem dX3_addMeetings_152 : decode cX3_addMeetings 152 = .ok (.goto (-122), 3) := by decide +kernel
theorem dX3_addMeetings_155 : decode cX3_addMeetings 155 = .ok (.return_, 1) := by decide +kernel
abbrev M_X3_addMeetings : MRec := (yX3_addMeetings, cX3_addMeetings, 8, none, [])
theorem m_X3_addMeetings : en_M M_X3_addMeetings 2 := ⟨t_2010, t_11, ⟨by decide +kernel, by decide +kernel⟩, by decide +kernel, by decide +kernel, by decide +kernel⟩
theorem dX3_addPoints_0 : decode cX3_addPoints 0 = .ok (.iconst 0, 1) := by decide +kernel
theorem dX3_addPoints_1 : decode cX3_addPoints 1 = .ok (.istore_n 3, 1) := by decide +kernel
theorem dX3_addPoints_2 : decode cX3_addPoints 2 = .ok (.iload_n 3, 1) := by decide +kernel
theorem dX3_addPoints_3 : decode cX3_addPoints 3 = .ok (.aload_n 1, 1) := by decide +kernel
theorem dX3_addPoints_4 : decode cX3_addPoints 4 = .ok (.getfield 102, 3) := by decide +kernel
theorem dX3_addPoints_7 : decode cX3_addPoints 7 = .ok (.if_icmp .ge 38, 3) := by decide +kernel
theorem dX3_addPoints_10 : decode cX3_addPoints 10 = .ok (.aload_n 1, 1) := by decide +kernel
theorem dX3_addPoints_11 : decode cX3_addPoints 11 = .ok (.invokestatic 55, 3) := by decide +kernel
theorem dX3_addPoints_14 : decode cX3_addPoints 14 = .ok (.ifCond .eq 31, 3) := by decide +kernel
theorem dX3_addPoints_17 : decode cX3_addPoints 17 = .ok (.aload_n 0, 1) := by decide +kernel
theorem dX3_addPoints_18 : decode cX3_addPoints 18 = .ok (.iconst 0, 1) := by decide +kernel
theorem dX3_addPoints_19 : decode cX3_addPoints 19 = .ok (.aload_n 2, 1) := by decide +kernel
theorem dX3_addPoints_20 : decode cX3_addPoints 20 = .ok (.aload_n 1, 1) := by decide +kernel
theorem dX3_addPoints_21 : decode cX3_addPoints 21 = .ok (.getfield 89, 3) := by decide +kernel
theorem dX3_addPoints_24 : decode cX3_addPoints 24 = .ok (.iload_n 3, 1) := by decide +kernel
theorem dX3_addPoints_25 : decode cX3_addPoints 25 = .ok (.iaload, 1) := by decide +kernel
theorem dX3_addPoints_26 : decode cX3_addPoints 26 = .ok (.aload_n 1, 1) := by decide +kernel
theorem dX3_addPoints_27 : decode cX3_addPoints 27 = .ok (.getfield 92, 3) := by decide +kernel
theorem dX3_addPoints_30 : decode cX3_addPoints 30 = .ok (.iload_n 3, 1) := by decide +kernel
theorem dX3_addPoints_31 : decode cX3_addPoints 31 = .ok (.iaload, 1) := by decide +kernel
theorem dX3_addPoints_32 : decode cX3_addPoints 32 = .ok (.invokestatic 143, 3) := by decide +kernel
theorem dX3_addPoints_35 : decode cX3_addPoints 35 = .ok (.iconst 0, 1) := by decide +kernel
theorem dX3_addPoints_36 : decode cX3_addPoints 36 = .ok (.invokevirtual 147, 3) := by decide +kernel
theorem dX3_addPoints_39 : decode cX3_addPoints 39 = .ok (.iinc 3 1, 3) := by decide +kernel
theorem dX3_addPoints_42 : decode cX3_addPoints 42 = .ok (.goto (-40), 3) := by decide +kernel
theorem dX3_addPoints_45 : decode cX3_addPoints 45 = .ok (.iconst 0, 1) := by decide +kernel
theorem dX3_addPoints_46 : decode cX3_addPoints 46 = .ok (.istore_n 3, 1) := by decide +kernel
theorem dX3_addPoints_47 : decode cX3_addPoints 47 = .ok (.iload_n 3, 1) := by decide +kernel
theorem dX3_addPoints_48 : decode cX3_addPoints 48 = .ok (.aload_n 2, 1) := by decide +kernel
theorem dX3_addPoints_49 : decode cX3_addPoints 49 = .ok (.getfield 102, 3) := by decide +kernel
theorem dX3_addPoints_52 : decode cX3_addPoints 52 = .ok (.if_icmp .ge 38, 3) := by decide +kernel
theorem dX3_addPoints_55 : decode cX3_addPoints 55 = .ok (.aload_n 2, 1) := by decide +kernel
theorem dX3_addPoints_56 : decode cX3_addPoints 56 = .ok (.invokestatic 55, 3) := by decide +kernel
theorem dX3_addPoints_59 : decode cX3_addPoints 59 = .ok (.ifCond .eq 31, 3) := by decide +kernel
theorem dX3_addPoints_62 : decode cX3_addPoints 62 = .ok (.aload_n 0, 1) := by decide +kernel
theorem dX3_addPoints_63 : decode cX3_addPoints 63 = .ok (.aload_n 1, 1) := by decide +kernel
theorem dX3_addPoints_64 : decode cX3_addPoints 64 = .ok (.aload_n 2, 1) := by decide +kernel
theorem dX3_addPoints_65 : decode cX3_addPoints 65 = .ok (.getfield 89, 3) := by decide +kernel
theorem dX3_addPoints_68 : decode cX3_addPoints 68 = .ok (.iload_n 3, 1) := by decide +kernel
theorem dX3_addPoints_69 : decode cX3_addPoints 69 = .ok (.iaload, 1) := by decide +kernel
theorem dX3_addPoints_70 : decode cX3_addPoints 70 = .ok (.aload_n 2, 1) := by decide +kernel
theorem dX3_addPoints_71 : decode cX3_addPoints 71 = .ok (.getfield 92, 3) := by decide +kernel
theorem dX3_addPoints_74 : decode cX3_addPoints 74 = .ok (.iload_n 3, 1) := by decide +kernel
theorem dX3_addPoints_75 : decode cX3_addPoints 75 = .ok (.iaload, 1) := by decide +kernel
theorem dX3_addPoints_76 : decode cX3_addPoints 76 = .ok (.invokestatic 143, 3) := by decide +kernel
theorem dX3_addPoints_79 : decode cX3_addPoints 79 = .ok (.iconst 0, 1) := by decide +kernel
theorem dX3_addPoints_80 : decode cX3_addPoints 80 = .ok (.iconst 0, 1) := by decide +kernel
theorem dX3_addPoints_81 : decode cX3_addPoints 81 = .ok (.invokevirtual 147, 3) := by decide +kernel
theorem dX3_addPoints_84 : decode cX3_addPoints 84 = .ok (.iinc 3 1, 3) := by decide +kernel
theorem dX3_addPoints_87 : decode cX3_addPoints 87 = .ok (.goto (-40), 3) := by decide +kernel
theorem dX3_addPoints_90 : decode cX3_addPoints 90 = .ok (.return_, 1) := by decide +kernel
abbrev M_X3_addPoints : MRec := (yX3_addPoints, cX3_addPoints, 4, none, [])
theorem m_X3_addPoints : en_M M_X3_addPoints 2 := ⟨t_2030, t_11, ⟨by decide +kernel, by decide +kernel⟩, by decide +kernel, by decide +kernel, by decide +kernel⟩
theorem dX3_matrixNumber_0 : decode cX3_matrixNumber 0 = .ok (.iconst 0, 1) := by decide +kernel
theorem dX3_matrixNumber_1 : decode cX3_matrixNumber 1 = .ok (.istore_n 1, 1) := by decide +kernel
theorem dX3_matrixNumber_2 : decode cX3_matrixNumber 2 = .ok (.iconst 0, 1) := by decide +kernel
theorem dX3_matrixNumber_3 : decode cX3_matrixNumber 3 = .ok (.istore_n 2, 1) := by decide +kernel
theorem dX3_matrixNumber_4 : decode cX3_matrixNumber 4 = .ok (.iload_n 2, 1) := by decide +kernel
theorem dX3_matrixNumber_5 : decode cX3_matrixNumber 5 = .ok (.aload_n 0, 1) := by decide +kernel
theorem dX3_matrixNumber_6 : decode cX3_matrixNumber 6 = .ok (.getfield 20, 3) := by decide +kernel
theorem dX3_matrixNumber_9 : decode cX3_matrixNumber 9 = .ok (.arraylength, 1) := by decide +kernel
theorem dX3_matrixNumber_10 : decode cX3_matrixNumber 10 = .ok (.if_icmp .ge 22, 3) := by decide +kernel
theorem dX3_matrixNumber_13 : decode cX3_matrixNumber 13 = .ok (.iconst 4, 1) := by decide +kernel
theorem dX3_matrixNumber_14 : decode cX3_matrixNumber 14 = .ok (.iload_n 1, 1) := by decide +kernel
theorem dX3_matrixNumber_15 : decode cX3_matrixNumber 15 = .ok (.imul, 1) := by decide +kernel
theorem dX3_matrixNumber_16 : decode cX3_matrixNumber 16 = .ok (.aload_n 0, 1) := by decide +kernel
theorem dX3_matrixNumber_17 : decode cX3_matrixNumber 17 = .ok (.getfield 20, 3) := by decide +kernel
theorem dX3_matrixNumber_20 : decode cX3_matrixNumber 20 = .ok (.iload_n 2, 1) := by decide +kernel
theorem dX3_matrixNumber_21 : decode cX3_matrixNumber 21 = .ok (.iaload, 1) := by decide +kernel
theorem dX3_matrixNumber_22 : decode cX3_matrixNumber 22 = .ok (.iadd, 1) := by decide +kernel
theorem dX3_matrixNumber_23 : decode cX3_matrixNumber 23 = .ok (.iconst 1, 1) := by decide +kernel
theorem dX3_matrixNumber_24 : decode cX3_matrixNumber 24 = .ok (.iadd, 1) := by decide +kernel
theorem dX3_matrixNumber_25 : decode cX3_matrixNumber 25 = .ok (.istore_n 1, 1) := by decide +kernel
theorem dX3_matrixNumber_26 : decode cX3_matrixNumber 26 = .ok (.iinc 2 1, 3) := by decide +kernel
theorem dX3_matrixNumber_29 : decode cX3_matrixNumber 29 = .ok (.goto (-25), 3) := by decide +kernel
theorem dX3_matrixNumber_32 : decode cX3_matrixNumber 32 = .ok (.iload_n 1, 1) := by decide +kernel
theorem dX3_matrixNumber_33 : decode cX3_matrixNumber 33 = .ok (.ireturn, 1) := by decide +kernel
abbrev M_X3_matrixNumber : MRec := (yX3_matrixNumber, cX3_matrixNumber, 3, (some Jvm.ClassFile.FieldType.int), [])
theorem m_X3_matrixNumber : en_M M_X3_matrixNumber 0 := ⟨t_2034, t_11, ⟨by decide +kernel, by decide +kernel⟩, by decide +kernel, by decide +kernel, by decide +kernel⟩
theorem dX3_has_0 : decode cX3_has 0 = .ok (.aload_n 0, 1) := by decide +kernel
theorem dX3_has_1 : decode cX3_has 1 = .ok (.getfield 20, 3) := by decide +kernel
theorem dX3_has_4 : decode cX3_has 4 = .ok (.iconst 3, 1) := by decide +kernel
theorem dX3_has_5 : decode cX3_has 5 = .ok (.iload_n 1, 1) := by decide +kernel
theorem dX3_has_6 : decode cX3_has 6 = .ok (.imul, 1) := by decide +kernel
theorem dX3_has_7 : decode cX3_has 7 = .ok (.iload_n 2, 1) := by decide +kernel
theorem dX3_has_8 : decode cX3_has 8 = .ok (.iadd, 1) := by decide +kernel
theorem dX3_has_9 : decode cX3_has 9 = .ok (.iaload, 1) := by decide +kernel
theorem dX3_has_10 : decode cX3_has 10 = .ok (.ifCond .lt 7, 3) := by decide +kernel
theorem dX3_has_13 : decode cX3_has 13 = .ok (.iconst 1, 1) := by decide +kernel
theorem dX3_has_14 : decode cX3_has 14 = .ok (.goto 4, 3) := by decide +kernel
theorem dX3_has_17 : decode cX3_has 17 = .ok (.iconst 0, 1) := by decide +kernel
theorem dX3_has_18 : decode cX3_has 18 = .ok (.ireturn, 1) := by decide +kernel
abbrev M_X3_has : MRec := (yX3_has, cX3_has, 3, (some Jvm.ClassFile.FieldType.boolean), [])
theorem m_X3_has : en_M M_X3_has 2 := ⟨t_2049, t_11, ⟨by decide +kernel, by decide +kernel⟩, by decide +kernel, by decide +kernel, by decide +kernel⟩
