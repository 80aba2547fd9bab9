section PRR
theorem dX0_fail_0 : decode cX0_fail 0 = .ok (.aload_n 0, 1) := by decide +kernel
theorem dX0_fail_1 : decode cX0_fail 1 = .ok (.iload_n 1, 1) := by decide +kernel
theorem dX0_fail_2 : decode cX0_fail 2 = .ok (.putfield 54, 3) := by decide +kernel
theorem dX0_fail_5 : decode cX0_fail 5 = .ok (.aload_n 0, 1) := by decide +kernel
theorem dX0_fail_6 : decode cX0_fail 6 = .ok (.aload_n 0, 1) := by decide +kernel
theorem dX0_fail_7 : decode cX0_fail 7 = .ok (.getfield 45, 3) := by decide +kernel
theorem dX0_fail_10 : decode cX0_fail 10 = .ok (.putfield 57, 3) := by decide +kernel
theorem dX0_fail_13 : decode cX0_fail 13 = .ok (.iconst 0, 1) := by decide +kernel
theorem dX0_fail_14 : decode cX0_fail 14 = .ok (.ireturn, 1) := by decide +kernel
theorem dX0_has_0 : decode cX0_has 0 = .ok (.aload_n 0, 1) := by decide +kernel
theorem dX0_has_1 : decode cX0_has 1 = .ok (.getfield 42, 3) := by decide +kernel
theorem dX0_has_4 : decode cX0_has 4 = .ok (.aload_n 0, 1) := by decide +kernel
theorem dX0_has_5 : decode cX0_has 5 = .ok (.getfield 45, 3) := by decide +kernel
theorem dX0_has_8 : decode cX0_has 8 = .ok (.isub, 1) := by decide +kernel
theorem dX0_has_9 : decode cX0_has 9 = .ok (.iload_n 1, 1) := by decide +kernel
theorem dX0_has_10 : decode cX0_has 10 = .ok (.if_icmp .lt 7, 3) := by decide +kernel
theorem dX0_has_13 : decode cX0_has 13 = .ok (.iconst 1, 1) := by decide +kernel
theorem dX0_has_14 : decode cX0_has 14 = .ok (.goto 4, 3) := by decide +kernel
theorem dX0_has_17 : decode cX0_has 17 = .ok (.iconst 0, 1) := by decide +kernel
theorem dX0_has_18 : decode cX0_has 18 = .ok (.ireturn, 1) := by decide +kernel
theorem dX0_openLevel_0 : decode cX0_openLevel 0 = .ok (.aload_n 0, 1) := by decide +kernel
theorem dX0_openLevel_1 : decode cX0_openLevel 1 = .ok (.getfield 48, 3) := by decide +kernel
theorem dX0_openLevel_4 : decode cX0_openLevel 4 = .ok (.bipush 64, 2) := by decide +kernel
theorem dX0_openLevel_6 : decode cX0_openLevel 6 = .ok (.if_icmp .lt 10, 3) := by decide +kernel
theorem dX0_openLevel_9 : decode cX0_openLevel 9 = .ok (.aload_n 0, 1) := by decide +kernel
theorem dX0_openLevel_10 : decode cX0_openLevel 10 = .ok (.bipush 6, 2) := by decide +kernel
theorem dX0_openLevel_12 : decode cX0_openLevel 12 = .ok (.invokevirtual 68, 3) := by decide +kernel
theorem dX0_openLevel_15 : decode cX0_openLevel 15 = .ok (.ireturn, 1) := by decide +kernel
theorem dX0_openLevel_16 : decode cX0_openLevel 16 = .ok (.aload_n 0, 1) := by decide +kernel
theorem dX0_openLevel_17 : decode cX0_openLevel 17 = .ok (.getfield 15, 3) := by decide +kernel
theorem dX0_openLevel_20 : decode cX0_openLevel 20 = .ok (.aload_n 0, 1) := by decide +kernel
theorem dX0_openLevel_21 : decode cX0_openLevel 21 = .ok (.getfield 48, 3) := by decide +kernel
theorem dX0_openLevel_24 : decode cX0_openLevel 24 = .ok (.iload_n 1, 1) := by decide +kernel
theorem dX0_openLevel_25 : decode cX0_openLevel 25 = .ok (.iastore, 1) := by decide +kernel
theorem dX0_openLevel_26 : decode cX0_openLevel 26 = .ok (.aload_n 0, 1) := by decide +kernel
theorem dX0_openLevel_27 : decode cX0_openLevel 27 = .ok (.getfield 11, 3) := by decide +kernel
theorem dX0_openLevel_30 : decode cX0_openLevel 30 = .ok (.aload_n 0, 1) := by decide +kernel
theorem dX0_openLevel_31 : decode cX0_openLevel 31 = .ok (.getfield 48, 3) := by decide +kernel
theorem dX0_openLevel_34 : decode cX0_openLevel 34 = .ok (.lload_n 2, 1) := by decide +kernel
theorem dX0_openLevel_35 : decode cX0_openLevel 35 = .ok (.lastore, 1) := by decide +kernel
theorem dX0_openLevel_36 : decode cX0_openLevel 36 = .ok (.aload_n 0, 1) := by decide +kernel
theorem dX0_openLevel_37 : decode cX0_openLevel 37 = .ok (.dup, 1) := by decide +kernel
theorem dX0_openLevel_38 : decode cX0_openLevel 38 = .ok (.getfield 48, 3) := by decide +kernel
theorem dX0_openLevel_41 : decode cX0_openLevel 41 = .ok (.iconst 1, 1) := by decide +kernel
theorem dX0_openLevel_42 : decode cX0_openLevel 42 = .ok (.iadd, 1) := by decide +kernel
theorem dX0_openLevel_43 : decode cX0_openLevel 43 = .ok (.putfield 48, 3) := by decide +kernel
theorem dX0_openLevel_46 : decode cX0_openLevel 46 = .ok (.iload_n 1, 1) := by decide +kernel
theorem dX0_openLevel_47 : decode cX0_openLevel 47 = .ok (.bipush 7, 2) := by decide +kernel
theorem dX0_openLevel_49 : decode cX0_openLevel 49 = .ok (.if_icmp .ne 13, 3) := by decide +kernel
theorem dX0_openLevel_52 : decode cX0_openLevel 52 = .ok (.aload_n 0, 1) := by decide +kernel
theorem dX0_openLevel_53 : decode cX0_openLevel 53 = .ok (.dup, 1) := by decide +kernel
theorem dX0_openLevel_54 : decode cX0_openLevel 54 = .ok (.getfield 51, 3) := by decide +kernel
theorem dX0_openLevel_57 : decode cX0_openLevel 57 = .ok (.iconst 1, 1) := by decide +kernel
theorem dX0_openLevel_58 : decode cX0_openLevel 58 = .ok (.iadd, 1) := by decide +kernel
theorem dX0_openLevel_59 : decode cX0_openLevel 59 = .ok (.putfield 51, 3) := by decide +kernel
theorem dX0_openLevel_62 : decode cX0_openLevel 62 = .ok (.iconst 1, 1) := by decide +kernel
theorem dX0_openLevel_63 : decode cX0_openLevel 63 = .ok (.ireturn, 1) := by decide +kernel
theorem dX0_isNoNumber_0 : decode cX0_isNoNumber 0 = .ok (.lload_n 0, 1) := by decide +kernel
theorem dX0_isNoNumber_1 : decode cX0_isNoNumber 1 = .ok (.bipush 52, 2) := by decide +kernel
theorem dX0_isNoNumber_3 : decode cX0_isNoNumber 3 = .ok (.lushr, 1) := by decide +kernel
theorem dX0_isNoNumber_4 : decode cX0_isNoNumber 4 = .ok (.ldc2_w 116, 3) := by decide +kernel
theorem dX0_isNoNumber_7 : decode cX0_isNoNumber 7 = .ok (.land, 1) := by decide +kernel
theorem dX0_isNoNumber_8 : decode cX0_isNoNumber 8 = .ok (.ldc2_w 116, 3) := by decide +kernel
theorem dX0_isNoNumber_11 : decode cX0_isNoNumber 11 = .ok (.lcmp, 1) := by decide +kernel
theorem dX0_isNoNumber_12 : decode cX0_isNoNumber 12 = .ok (.ifCond .ne 17, 3) := by decide +kernel
theorem dX0_isNoNumber_15 : decode cX0_isNoNumber 15 = .ok (.lload_n 0, 1) := by decide +kernel
theorem dX0_isNoNumber_16 : decode cX0_isNoNumber 16 = .ok (.ldc2_w 118, 3) := by decide +kernel
theorem dX0_isNoNumber_19 : decode cX0_isNoNumber 19 = .ok (.land, 1) := by decide +kernel
theorem dX0_isNoNumber_20 : decode cX0_isNoNumber 20 = .ok (.lconst 0, 1) := by decide +kernel
theorem dX0_isNoNumber_21 : decode cX0_isNoNumber 21 = .ok (.lcmp, 1) := by decide +kernel
theorem dX0_isNoNumber_22 : decode cX0_isNoNumber 22 = .ok (.ifCond .eq 7, 3) := by decide +kernel
theorem dX0_isNoNumber_25 : decode cX0_isNoNumber 25 = .ok (.iconst 1, 1) := by decide +kernel
theorem dX0_isNoNumber_26 : decode cX0_isNoNumber 26 = .ok (.goto 4, 3) := by decide +kernel
theorem dX0_isNoNumber_29 : decode cX0_isNoNumber 29 = .ok (.iconst 0, 1) := by decide +kernel
theorem dX0_isNoNumber_30 : decode cX0_isNoNumber 30 = .ok (.ireturn, 1) := by decide +kernel
theorem dX1_tell_0 : decode cX1_tell 0 = .ok (.aload_n 0, 1) := by decide +kernel
theorem dX1_tell_1 : decode cX1_tell 1 = .ok (.getfield 11, 3) := by decide +kernel
theorem dX1_tell_4 : decode cX1_tell 4 = .ok (.iconst 1, 1) := by decide +kernel
theorem dX1_tell_5 : decode cX1_tell 5 = .ok (.iload_n 2, 1) := by decide +kernel
theorem dX1_tell_6 : decode cX1_tell 6 = .ok (.iastore, 1) := by decide +kernel
theorem dX1_tell_7 : decode cX1_tell 7 = .ok (.aload_n 0, 1) := by decide +kernel
theorem dX1_tell_8 : decode cX1_tell 8 = .ok (.getfield 11, 3) := by decide +kernel
theorem dX1_tell_11 : decode cX1_tell 11 = .ok (.iconst 2, 1) := by decide +kernel
theorem dX1_tell_12 : decode cX1_tell 12 = .ok (.iload_n 3, 1) := by decide +kernel
theorem dX1_tell_13 : decode cX1_tell 13 = .ok (.iastore, 1) := by decide +kernel
theorem dX1_tell_14 : decode cX1_tell 14 = .ok (.iload_n 1, 1) := by decide +kernel
theorem dX1_tell_15 : decode cX1_tell 15 = .ok (.ireturn, 1) := by decide +kernel
theorem dX1_isEmpty_0 : decode cX1_isEmpty 0 = .ok (.aload_n 0, 1) := by decide +kernel
theorem dX1_isEmpty_1 : decode cX1_isEmpty 1 = .ok (.getfield 41, 3) := by decide +kernel
theorem dX1_isEmpty_4 : decode cX1_isEmpty 4 = .ok (.iload_n 1, 1) := by decide +kernel
theorem dX1_isEmpty_5 : decode cX1_isEmpty 5 = .ok (.iaload, 1) := by decide +kernel
theorem dX1_isEmpty_6 : decode cX1_isEmpty 6 = .ok (.aload_n 0, 1) := by decide +kernel
theorem dX1_isEmpty_7 : decode cX1_isEmpty 7 = .ok (.getfield 44, 3) := by decide +kernel
theorem dX1_isEmpty_10 : decode cX1_isEmpty 10 = .ok (.iload_n 1, 1) := by decide +kernel
theorem dX1_isEmpty_11 : decode cX1_isEmpty 11 = .ok (.iaload, 1) := by decide +kernel
theorem dX1_isEmpty_12 : decode cX1_isEmpty 12 = .ok (.if_icmp .lt 7, 3) := by decide +kernel
theorem dX1_isEmpty_15 : decode cX1_isEmpty 15 = .ok (.iconst 1, 1) := by decide +kernel
theorem dX1_isEmpty_16 : decode cX1_isEmpty 16 = .ok (.goto 4, 3) := by decide +kernel
theorem dX1_isEmpty_19 : decode cX1_isEmpty 19 = .ok (.iconst 0, 1) := by decide +kernel
theorem dX1_isEmpty_20 : decode cX1_isEmpty 20 = .ok (.ireturn, 1) := by decide +kernel
theorem dX2_isTold_0 : decode cX2_isTold 0 = .ok (.iload_n 1, 1) := by decide +kernel
theorem dX2_isTold_1 : decode cX2_isTold 1 = .ok (.aload_n 0, 1) := by decide +kernel
theorem dX2_isTold_2 : decode cX2_isTold 2 = .ok (.getfield 77, 3) := by decide +kernel
theorem dX2_isTold_5 : decode cX2_isTold 5 = .ok (.imul, 1) := by decide +kernel
theorem dX2_isTold_6 : decode cX2_isTold 6 = .ok (.iload_n 2, 1) := by decide +kernel
theorem dX2_isTold_7 : decode cX2_isTold 7 = .ok (.iadd, 1) := by decide +kernel
theorem dX2_isTold_8 : decode cX2_isTold 8 = .ok (.istore_n 3, 1) := by decide +kernel
theorem dX2_isTold_9 : decode cX2_isTold 9 = .ok (.aload_n 0, 1) := by decide +kernel
theorem dX2_isTold_10 : decode cX2_isTold 10 = .ok (.getfield 33, 3) := by decide +kernel
theorem dX2_isTold_13 : decode cX2_isTold 13 = .ok (.iload_n 3, 1) := by decide +kernel
theorem dX2_isTold_14 : decode cX2_isTold 14 = .ok (.bipush 6, 2) := by decide +kernel
theorem dX2_isTold_16 : decode cX2_isTold 16 = .ok (.ishr, 1) := by decide +kernel
theorem dX2_isTold_17 : decode cX2_isTold 17 = .ok (.laload, 1) := by decide +kernel
theorem dX2_isTold_18 : decode cX2_isTold 18 = .ok (.iload_n 3, 1) := by decide +kernel
theorem dX2_isTold_19 : decode cX2_isTold 19 = .ok (.bipush 63, 2) := by decide +kernel
theorem dX2_isTold_21 : decode cX2_isTold 21 = .ok (.iand, 1) := by decide +kernel
theorem dX2_isTold_22 : decode cX2_isTold 22 = .ok (.lshr, 1) := by decide +kernel
theorem dX2_isTold_23 : decode cX2_isTold 23 = .ok (.lconst 1, 1) := by decide +kernel
theorem dX2_isTold_24 : decode cX2_isTold 24 = .ok (.land, 1) := by decide +kernel
theorem dX2_isTold_25 : decode cX2_isTold 25 = .ok (.lconst 0, 1) := by decide +kernel
theorem dX2_isTold_26 : decode cX2_isTold 26 = .ok (.lcmp, 1) := by decide +kernel
theorem dX2_isTold_27 : decode cX2_isTold 27 = .ok (.ifCond .eq 7, 3) := by decide +kernel
theorem dX2_isTold_30 : decode cX2_isTold 30 = .ok (.iconst 1, 1) := by decide +kernel
theorem dX2_isTold_31 : decode cX2_isTold 31 = .ok (.goto 4, 3) := by decide +kernel
theorem dX2_isTold_34 : decode cX2_isTold 34 = .ok (.iconst 0, 1) := by decide +kernel
theorem dX2_isTold_35 : decode cX2_isTold 35 = .ok (.ireturn, 1) := by decide +kernel
theorem dX2_setTold_0 : decode cX2_setTold 0 = .ok (.iload_n 1, 1) := by decide +kernel
theorem dX2_setTold_1 : decode cX2_setTold 1 = .ok (.aload_n 0, 1) := by decide +kernel
theorem dX2_setTold_2 : decode cX2_setTold 2 = .ok (.getfield 77, 3) := by decide +kernel
theorem dX2_setTold_5 : decode cX2_setTold 5 = .ok (.imul, 1) := by decide +kernel
theorem dX2_setTold_6 : decode cX2_setTold 6 = .ok (.iload_n 2, 1) := by decide +kernel
theorem dX2_setTold_7 : decode cX2_setTold 7 = .ok (.iadd, 1) := by decide +kernel
theorem dX2_setTold_8 : decode cX2_setTold 8 = .ok (.istore_n 3, 1) := by decide +kernel
theorem dX2_setTold_9 : decode cX2_setTold 9 = .ok (.aload_n 0, 1) := by decide +kernel
theorem dX2_setTold_10 : decode cX2_setTold 10 = .ok (.getfield 33, 3) := by decide +kernel
theorem dX2_setTold_13 : decode cX2_setTold 13 = .ok (.iload_n 3, 1) := by decide +kernel
theorem dX2_setTold_14 : decode cX2_setTold 14 = .ok (.bipush 6, 2) := by decide +kernel
theorem dX2_setTold_16 : decode cX2_setTold 16 = .ok (.ishr, 1) := by decide +kernel
theorem dX2_setTold_17 : decode cX2_setTold 17 = .ok (.dup2, 1) := by decide +kernel
theorem dX2_setTold_18 : decode cX2_setTold 18 = .ok (.laload, 1) := by decide +kernel
theorem dX2_setTold_19 : decode cX2_setTold 19 = .ok (.lconst 1, 1) := by decide +kernel
theorem dX2_setTold_20 : decode cX2_setTold 20 = .ok (.iload_n 3, 1) := by decide +kernel
theorem dX2_setTold_21 : decode cX2_setTold 21 = .ok (.bipush 63, 2) := by decide +kernel
theorem dX2_setTold_23 : decode cX2_setTold 23 = .ok (.iand, 1) := by decide +kernel
theorem dX2_setTold_24 : decode cX2_setTold 24 = .ok (.lshl, 1) := by decide +kernel
theorem dX2_setTold_25 : decode cX2_setTold 25 = .ok (.lor, 1) := by decide +kernel
theorem dX2_setTold_26 : decode cX2_setTold 26 = .ok (.lastore, 1) := by decide +kernel
theorem dX2_setTold_27 : decode cX2_setTold 27 = .ok (.return_, 1) := by decide +kernel
theorem dX2_triangleKeyFrom_0 : decode cX2_triangleKeyFrom 0 = .ok (.lload_n 0, 1) := by decide +kernel
theorem dX2_triangleKeyFrom_1 : decode cX2_triangleKeyFrom 1 = .ok (.bipush 10, 2) := by decide +kernel
theorem dX2_triangleKeyFrom_3 : decode cX2_triangleKeyFrom 3 = .ok (.lshl, 1) := by decide +kernel
theorem dX2_triangleKeyFrom_4 : decode cX2_triangleKeyFrom 4 = .ok (.lload_n 2, 1) := by decide +kernel
theorem dX2_triangleKeyFrom_5 : decode cX2_triangleKeyFrom 5 = .ok (.lor, 1) := by decide +kernel
theorem dX2_triangleKeyFrom_6 : decode cX2_triangleKeyFrom 6 = .ok (.bipush 10, 2) := by decide +kernel
theorem dX2_triangleKeyFrom_8 : decode cX2_triangleKeyFrom 8 = .ok (.lshl, 1) := by decide +kernel
theorem dX2_triangleKeyFrom_9 : decode cX2_triangleKeyFrom 9 = .ok (.lload 4, 2) := by decide +kernel
theorem dX2_triangleKeyFrom_11 : decode cX2_triangleKeyFrom 11 = .ok (.lor, 1) := by decide +kernel
theorem dX2_triangleKeyFrom_12 : decode cX2_triangleKeyFrom 12 = .ok (.lreturn, 1) := by decide +kernel
theorem dX3_raise_0 : decode cX3_raise 0 = .ok (.iconst 3, 1) := by decide +kernel
theorem dX3_raise_1 : decode cX3_raise 1 = .ok (.iload_n 1, 1) := by decide +kernel
theorem dX3_raise_2 : decode cX3_raise 2 = .ok (.imul, 1) := by decide +kernel
theorem dX3_raise_3 : decode cX3_raise 3 = .ok (.iload_n 2, 1) := by decide +kernel
theorem dX3_raise_4 : decode cX3_raise 4 = .ok (.iadd, 1) := by decide +kernel
theorem dX3_raise_5 : decode cX3_raise 5 = .ok (.istore 4, 2) := by decide +kernel
theorem dX3_raise_7 : decode cX3_raise 7 = .ok (.aload_n 0, 1) := by decide +kernel
theorem dX3_raise_8 : decode cX3_raise 8 = .ok (.getfield 20, 3) := by decide +kernel
theorem dX3_raise_11 : decode cX3_raise 11 = .ok (.iload 4, 2) := by decide +kernel
theorem dX3_raise_13 : decode cX3_raise 13 = .ok (.aload_n 0, 1) := by decide +kernel
theorem dX3_raise_14 : decode cX3_raise 14 = .ok (.getfield 20, 3) := by decide +kernel
theorem dX3_raise_17 : decode cX3_raise 17 = .ok (.iload 4, 2) := by decide +kernel
theorem dX3_raise_19 : decode cX3_raise 19 = .ok (.iaload, 1) := by decide +kernel
theorem dX3_raise_20 : decode cX3_raise 20 = .ok (.iload_n 3, 1) := by decide +kernel
theorem dX3_raise_21 : decode cX3_raise 21 = .ok (.invokestatic 154, 3) := by decide +kernel
theorem dX3_raise_24 : decode cX3_raise 24 = .ok (.iastore, 1) := by decide +kernel
theorem dX3_raise_25 : decode cX3_raise 25 = .ok (.return_, 1) := by decide +kernel
theorem dX3_has_0 : decode cX3_has 0 = .ok (.aload_n 0, 1) := by decide +kernel
theorem dX3_has_1 : decode cX3_has 1 = .ok (.getfield 20, 3) := by decide +kernel
theorem dX3_has_4 : decode cX3_has 4 = .ok (.iconst 3, 1) := by decide +kernel
theorem dX3_has_5 : decode cX3_has 5 = .ok (.iload_n 1, 1) := by decide +kernel
theorem dX3_has_6 : decode cX3_has 6 = .ok (.imul, 1) := by decide +kernel
theorem dX3_has_7 : decode cX3_has 7 = .ok (.iload_n 2, 1) := by decide +kernel
theorem dX3_has_8 : decode cX3_has 8 = .ok (.iadd, 1) := by decide +kernel
theorem dX3_has_9 : decode cX3_has 9 = .ok (.iaload, 1) := by decide +kernel
theorem dX3_has_10 : decode cX3_has 10 = .ok (.ifCond .lt 7, 3) := by decide +kernel
theorem dX3_has_13 : decode cX3_has 13 = .ok (.iconst 1, 1) := by decide +kernel
theorem dX3_has_14 : decode cX3_has 14 = .ok (.goto 4, 3) := by decide +kernel
theorem dX3_has_17 : decode cX3_has 17 = .ok (.iconst 0, 1) := by decide +kernel
theorem dX3_has_18 : decode cX3_has 18 = .ok (.ireturn, 1) := by decide +kernel
theorem dX3_haveCommonPlace_0 : decode cX3_haveCommonPlace 0 = .ok (.aload_n 0, 1) := by decide +kernel
theorem dX3_haveCommonPlace_1 : decode cX3_haveCommonPlace 1 = .ok (.iconst 0, 1) := by decide +kernel
theorem dX3_haveCommonPlace_2 : decode cX3_haveCommonPlace 2 = .ok (.iconst 0, 1) := by decide +kernel
theorem dX3_haveCommonPlace_3 : decode cX3_haveCommonPlace 3 = .ok (.invokevirtual 296, 3) := by decide +kernel
theorem dX3_haveCommonPlace_6 : decode cX3_haveCommonPlace 6 = .ok (.ifCond .ne 30, 3) := by decide +kernel
theorem dX3_haveCommonPlace_9 : decode cX3_haveCommonPlace 9 = .ok (.aload_n 0, 1) := by decide +kernel
theorem dX3_haveCommonPlace_10 : decode cX3_haveCommonPlace 10 = .ok (.iconst 0, 1) := by decide +kernel
theorem dX3_haveCommonPlace_11 : decode cX3_haveCommonPlace 11 = .ok (.iconst 1, 1) := by decide +kernel
theorem dX3_haveCommonPlace_12 : decode cX3_haveCommonPlace 12 = .ok (.invokevirtual 296, 3) := by decide +kernel
theorem dX3_haveCommonPlace_15 : decode cX3_haveCommonPlace 15 = .ok (.ifCond .ne 21, 3) := by decide +kernel
theorem dX3_haveCommonPlace_18 : decode cX3_haveCommonPlace 18 = .ok (.aload_n 0, 1) := by decide +kernel
theorem dX3_haveCommonPlace_19 : decode cX3_haveCommonPlace 19 = .ok (.iconst 1, 1) := by decide +kernel
theorem dX3_haveCommonPlace_20 : decode cX3_haveCommonPlace 20 = .ok (.iconst 0, 1) := by decide +kernel
theorem dX3_haveCommonPlace_21 : decode cX3_haveCommonPlace 21 = .ok (.invokevirtual 296, 3) := by decide +kernel
theorem dX3_haveCommonPlace_24 : decode cX3_haveCommonPlace 24 = .ok (.ifCond .ne 12, 3) := by decide +kernel
theorem dX3_haveCommonPlace_27 : decode cX3_haveCommonPlace 27 = .ok (.aload_n 0, 1) := by decide +kernel
theorem dX3_haveCommonPlace_28 : decode cX3_haveCommonPlace 28 = .ok (.iconst 1, 1) := by decide +kernel
theorem dX3_haveCommonPlace_29 : decode cX3_haveCommonPlace 29 = .ok (.iconst 1, 1) := by decide +kernel
theorem dX3_haveCommonPlace_30 : decode cX3_haveCommonPlace 30 = .ok (.invokevirtual 296, 3) := by decide +kernel
theorem dX3_haveCommonPlace_33 : decode cX3_haveCommonPlace 33 = .ok (.ifCond .eq 7, 3) := by decide +kernel
theorem dX3_haveCommonPlace_36 : decode cX3_haveCommonPlace 36 = .ok (.iconst 1, 1) := by decide +kernel
theorem dX3_haveCommonPlace_37 : decode cX3_haveCommonPlace 37 = .ok (.goto 4, 3) := by decide +kernel
theorem dX3_haveCommonPlace_40 : decode cX3_haveCommonPlace 40 = .ok (.iconst 0, 1) := by decide +kernel
theorem dX3_haveCommonPlace_41 : decode cX3_haveCommonPlace 41 = .ok (.ireturn, 1) := by decide +kernel
theorem dX3_isFirstOutside_0 : decode cX3_isFirstOutside 0 = .ok (.aload_n 0, 1) := by decide +kernel
theorem dX3_isFirstOutside_1 : decode cX3_isFirstOutside 1 = .ok (.iconst 0, 1) := by decide +kernel
theorem dX3_isFirstOutside_2 : decode cX3_isFirstOutside 2 = .ok (.iconst 2, 1) := by decide +kernel
theorem dX3_isFirstOutside_3 : decode cX3_isFirstOutside 3 = .ok (.invokevirtual 296, 3) := by decide +kernel
theorem dX3_isFirstOutside_6 : decode cX3_isFirstOutside 6 = .ok (.ifCond .ne 12, 3) := by decide +kernel
theorem dX3_isFirstOutside_9 : decode cX3_isFirstOutside 9 = .ok (.aload_n 0, 1) := by decide +kernel
theorem dX3_isFirstOutside_10 : decode cX3_isFirstOutside 10 = .ok (.iconst 1, 1) := by decide +kernel
theorem dX3_isFirstOutside_11 : decode cX3_isFirstOutside 11 = .ok (.iconst 2, 1) := by decide +kernel
theorem dX3_isFirstOutside_12 : decode cX3_isFirstOutside 12 = .ok (.invokevirtual 296, 3) := by decide +kernel
theorem dX3_isFirstOutside_15 : decode cX3_isFirstOutside 15 = .ok (.ifCond .eq 7, 3) := by decide +kernel
theorem dX3_isFirstOutside_18 : decode cX3_isFirstOutside 18 = .ok (.iconst 1, 1) := by decide +kernel
theorem dX3_isFirstOutside_19 : decode cX3_isFirstOutside 19 = .ok (.goto 4, 3) := by decide +kernel
theorem dX3_isFirstOutside_22 : decode cX3_isFirstOutside 22 = .ok (.iconst 0, 1) := by decide +kernel
theorem dX3_isFirstOutside_23 : decode cX3_isFirstOutside 23 = .ok (.ireturn, 1) := by decide +kernel
theorem dX3_isSecondOutside_0 : decode cX3_isSecondOutside 0 = .ok (.aload_n 0, 1) := by decide +kernel
theorem dX3_isSecondOutside_1 : decode cX3_isSecondOutside 1 = .ok (.iconst 2, 1) := by decide +kernel
theorem dX3_isSecondOutside_2 : decode cX3_isSecondOutside 2 = .ok (.iconst 0, 1) := by decide +kernel
theorem dX3_isSecondOutside_3 : decode cX3_isSecondOutside 3 = .ok (.invokevirtual 296, 3) := by decide +kernel
theorem dX3_isSecondOutside_6 : decode cX3_isSecondOutside 6 = .ok (.ifCond .ne 12, 3) := by decide +kernel
theorem dX3_isSecondOutside_9 : decode cX3_isSecondOutside 9 = .ok (.aload_n 0, 1) := by decide +kernel
theorem dX3_isSecondOutside_10 : decode cX3_isSecondOutside 10 = .ok (.iconst 2, 1) := by decide +kernel
theorem dX3_isSecondOutside_11 : decode cX3_isSecondOutside 11 = .ok (.iconst 1, 1) := by decide +kernel
theorem dX3_isSecondOutside_12 : decode cX3_isSecondOutside 12 = .ok (.invokevirtual 296, 3) := by decide +kernel
theorem dX3_isSecondOutside_15 : decode cX3_isSecondOutside 15 = .ok (.ifCond .eq 7, 3) := by decide +kernel
theorem dX3_isSecondOutside_18 : decode cX3_isSecondOutside 18 = .ok (.iconst 1, 1) := by decide +kernel
theorem dX3_isSecondOutside_19 : decode cX3_isSecondOutside 19 = .ok (.goto 4, 3) := by decide +kernel
theorem dX3_isSecondOutside_22 : decode cX3_isSecondOutside 22 = .ok (.iconst 0, 1) := by decide +kernel
theorem dX3_isSecondOutside_23 : decode cX3_isSecondOutside 23 = .ok (.ireturn, 1) := by decide +kernel
theorem dX3_lieAcross_0 : decode cX3_lieAcross 0 = .ok (.iload_n 1, 1) := by decide +kernel
theorem dX3_lieAcross_1 : decode cX3_lieAcross 1 = .ok (.iload_n 2, 1) := by decide +kernel
theorem dX3_lieAcross_2 : decode cX3_lieAcross 2 = .ok (.if_icmp .ge 27, 3) := by decide +kernel
theorem dX3_lieAcross_5 : decode cX3_lieAcross 5 = .ok (.aload_n 0, 1) := by decide +kernel
theorem dX3_lieAcross_6 : decode cX3_lieAcross 6 = .ok (.iconst 0, 1) := by decide +kernel
theorem dX3_lieAcross_7 : decode cX3_lieAcross 7 = .ok (.iconst 0, 1) := by decide +kernel
theorem dX3_lieAcross_8 : decode cX3_lieAcross 8 = .ok (.invokevirtual 296, 3) := by decide +kernel
theorem dX3_lieAcross_11 : decode cX3_lieAcross 11 = .ok (.ifCond .eq 16, 3) := by decide +kernel
theorem dX3_lieAcross_14 : decode cX3_lieAcross 14 = .ok (.aload_n 0, 1) := by decide +kernel
theorem dX3_lieAcross_15 : decode cX3_lieAcross 15 = .ok (.iconst 0, 1) := by decide +kernel
theorem dX3_lieAcross_16 : decode cX3_lieAcross 16 = .ok (.iconst 2, 1) := by decide +kernel
theorem dX3_lieAcross_17 : decode cX3_lieAcross 17 = .ok (.invokevirtual 296, 3) := by decide +kernel
theorem dX3_lieAcross_20 : decode cX3_lieAcross 20 = .ok (.ifCond .eq 7, 3) := by decide +kernel
theorem dX3_lieAcross_23 : decode cX3_lieAcross 23 = .ok (.iconst 1, 1) := by decide +kernel
theorem dX3_lieAcross_24 : decode cX3_lieAcross 24 = .ok (.goto 4, 3) := by decide +kernel
theorem dX3_lieAcross_27 : decode cX3_lieAcross 27 = .ok (.iconst 0, 1) := by decide +kernel
theorem dX3_lieAcross_28 : decode cX3_lieAcross 28 = .ok (.ireturn, 1) := by decide +kernel
theorem dX3_lieAcross_29 : decode cX3_lieAcross 29 = .ok (.iload_n 1, 1) := by decide +kernel
theorem dX3_lieAcross_30 : decode cX3_lieAcross 30 = .ok (.iload_n 2, 1) := by decide +kernel
theorem dX3_lieAcross_31 : decode cX3_lieAcross 31 = .ok (.if_icmp .le 27, 3) := by decide +kernel
theorem dX3_lieAcross_34 : decode cX3_lieAcross 34 = .ok (.aload_n 0, 1) := by decide +kernel
theorem dX3_lieAcross_35 : decode cX3_lieAcross 35 = .ok (.iconst 0, 1) := by decide +kernel
theorem dX3_lieAcross_36 : decode cX3_lieAcross 36 = .ok (.iconst 0, 1) := by decide +kernel
theorem dX3_lieAcross_37 : decode cX3_lieAcross 37 = .ok (.invokevirtual 296, 3) := by decide +kernel
theorem dX3_lieAcross_40 : decode cX3_lieAcross 40 = .ok (.ifCond .eq 16, 3) := by decide +kernel
theorem dX3_lieAcross_43 : decode cX3_lieAcross 43 = .ok (.aload_n 0, 1) := by decide +kernel
theorem dX3_lieAcross_44 : decode cX3_lieAcross 44 = .ok (.iconst 2, 1) := by decide +kernel
theorem dX3_lieAcross_45 : decode cX3_lieAcross 45 = .ok (.iconst 0, 1) := by decide +kernel
theorem dX3_lieAcross_46 : decode cX3_lieAcross 46 = .ok (.invokevirtual 296, 3) := by decide +kernel
theorem dX3_lieAcross_49 : decode cX3_lieAcross 49 = .ok (.ifCond .eq 7, 3) := by decide +kernel
theorem dX3_lieAcross_52 : decode cX3_lieAcross 52 = .ok (.iconst 1, 1) := by decide +kernel
theorem dX3_lieAcross_53 : decode cX3_lieAcross 53 = .ok (.goto 4, 3) := by decide +kernel
theorem dX3_lieAcross_56 : decode cX3_lieAcross 56 = .ok (.iconst 0, 1) := by decide +kernel
theorem dX3_lieAcross_57 : decode cX3_lieAcross 57 = .ok (.ireturn, 1) := by decide +kernel
theorem dX3_lieAcross_58 : decode cX3_lieAcross 58 = .ok (.iload_n 1, 1) := by decide +kernel
theorem dX3_lieAcross_59 : decode cX3_lieAcross 59 = .ok (.iconst 1, 1) := by decide +kernel
theorem dX3_lieAcross_60 : decode cX3_lieAcross 60 = .ok (.if_icmp .ne 16, 3) := by decide +kernel
theorem dX3_lieAcross_63 : decode cX3_lieAcross 63 = .ok (.aload_n 0, 1) := by decide +kernel
theorem dX3_lieAcross_64 : decode cX3_lieAcross 64 = .ok (.getfield 20, 3) := by decide +kernel
theorem dX3_lieAcross_67 : decode cX3_lieAcross 67 = .ok (.iconst 0, 1) := by decide +kernel
theorem dX3_lieAcross_68 : decode cX3_lieAcross 68 = .ok (.iaload, 1) := by decide +kernel
theorem dX3_lieAcross_69 : decode cX3_lieAcross 69 = .ok (.ifCond .ne 7, 3) := by decide +kernel
theorem dX3_lieAcross_72 : decode cX3_lieAcross 72 = .ok (.iconst 1, 1) := by decide +kernel
theorem dX3_lieAcross_73 : decode cX3_lieAcross 73 = .ok (.goto 4, 3) := by decide +kernel
theorem dX3_lieAcross_76 : decode cX3_lieAcross 76 = .ok (.iconst 0, 1) := by decide +kernel
theorem dX3_lieAcross_77 : decode cX3_lieAcross 77 = .ok (.ireturn, 1) := by decide +kernel
theorem dX4_addIncident_0 : decode cX4_addIncident 0 = .ok (.aload_n 0, 1) := by decide +kernel
theorem dX4_addIncident_1 : decode cX4_addIncident 1 = .ok (.getfield 33, 3) := by decide +kernel
theorem dX4_addIncident_4 : decode cX4_addIncident 4 = .ok (.aload_n 0, 1) := by decide +kernel
theorem dX4_addIncident_5 : decode cX4_addIncident 5 = .ok (.getfield 29, 3) := by decide +kernel
theorem dX4_addIncident_8 : decode cX4_addIncident 8 = .ok (.iload_n 1, 1) := by decide +kernel
theorem dX4_addIncident_9 : decode cX4_addIncident 9 = .ok (.iconst 1, 1) := by decide +kernel
theorem dX4_addIncident_10 : decode cX4_addIncident 10 = .ok (.iadd, 1) := by decide +kernel
theorem dX4_addIncident_11 : decode cX4_addIncident 11 = .ok (.iaload, 1) := by decide +kernel
theorem dX4_addIncident_12 : decode cX4_addIncident 12 = .ok (.iload_n 2, 1) := by decide +kernel
theorem dX4_addIncident_13 : decode cX4_addIncident 13 = .ok (.iastore, 1) := by decide +kernel
theorem dX4_addIncident_14 : decode cX4_addIncident 14 = .ok (.aload_n 0, 1) := by decide +kernel
theorem dX4_addIncident_15 : decode cX4_addIncident 15 = .ok (.getfield 29, 3) := by decide +kernel
theorem dX4_addIncident_18 : decode cX4_addIncident 18 = .ok (.iload_n 1, 1) := by decide +kernel
theorem dX4_addIncident_19 : decode cX4_addIncident 19 = .ok (.iconst 1, 1) := by decide +kernel
theorem dX4_addIncident_20 : decode cX4_addIncident 20 = .ok (.iadd, 1) := by decide +kernel
theorem dX4_addIncident_21 : decode cX4_addIncident 21 = .ok (.dup2, 1) := by decide +kernel
theorem dX4_addIncident_22 : decode cX4_addIncident 22 = .ok (.iaload, 1) := by decide +kernel
theorem dX4_addIncident_23 : decode cX4_addIncident 23 = .ok (.iconst 1, 1) := by decide +kernel
theorem dX4_addIncident_24 : decode cX4_addIncident 24 = .ok (.iadd, 1) := by decide +kernel
theorem dX4_addIncident_25 : decode cX4_addIncident 25 = .ok (.iastore, 1) := by decide +kernel
theorem dX4_addIncident_26 : decode cX4_addIncident 26 = .ok (.return_, 1) := by decide +kernel
theorem dX4_isShell_0 : decode cX4_isShell 0 = .ok (.aload_n 0, 1) := by decide +kernel
theorem dX4_isShell_1 : decode cX4_isShell 1 = .ok (.getfield 48, 3) := by decide +kernel
theorem dX4_isShell_4 : decode cX4_isShell 4 = .ok (.iload_n 1, 1) := by decide +kernel
theorem dX4_isShell_5 : decode cX4_isShell 5 = .ok (.laload, 1) := by decide +kernel
theorem dX4_isShell_6 : decode cX4_isShell 6 = .ok (.lconst 0, 1) := by decide +kernel
theorem dX4_isShell_7 : decode cX4_isShell 7 = .ok (.lcmp, 1) := by decide +kernel
theorem dX4_isShell_8 : decode cX4_isShell 8 = .ok (.ifCond .le 7, 3) := by decide +kernel
theorem dX4_isShell_11 : decode cX4_isShell 11 = .ok (.iconst 1, 1) := by decide +kernel
theorem dX4_isShell_12 : decode cX4_isShell 12 = .ok (.goto 4, 3) := by decide +kernel
theorem dX4_isShell_15 : decode cX4_isShell 15 = .ok (.iconst 0, 1) := by decide +kernel
theorem dX4_isShell_16 : decode cX4_isShell 16 = .ok (.ireturn, 1) := by decide +kernel
theorem dX4_ringInOrder_0 : decode cX4_ringInOrder 0 = .ok (.aload_n 0, 1) := by decide +kernel
theorem dX4_ringInOrder_1 : decode cX4_ringInOrder 1 = .ok (.getfield 55, 3) := by decide +kernel
theorem dX4_ringInOrder_4 : decode cX4_ringInOrder 4 = .ok (.iload_n 1, 1) := by decide +kernel
theorem dX4_ringInOrder_5 : decode cX4_ringInOrder 5 = .ok (.laload, 1) := by decide +kernel
theorem dX4_ringInOrder_6 : decode cX4_ringInOrder 6 = .ok (.ldc2_w 201, 3) := by decide +kernel
theorem dX4_ringInOrder_9 : decode cX4_ringInOrder 9 = .ok (.land, 1) := by decide +kernel
theorem dX4_ringInOrder_10 : decode cX4_ringInOrder 10 = .ok (.l2i, 1) := by decide +kernel
theorem dX4_ringInOrder_11 : decode cX4_ringInOrder 11 = .ok (.ireturn, 1) := by decide +kernel
theorem dX5_lowX_0 : decode cX5_lowX 0 = .ok (.aload_n 0, 1) := by decide +kernel
theorem dX5_lowX_1 : decode cX5_lowX 1 = .ok (.getfield 7, 3) := by decide +kernel
theorem dX5_lowX_4 : decode cX5_lowX 4 = .ok (.iload_n 1, 1) := by decide +kernel
theorem dX5_lowX_5 : decode cX5_lowX 5 = .ok (.iaload, 1) := by decide +kernel
theorem dX5_lowX_6 : decode cX5_lowX 6 = .ok (.aload_n 0, 1) := by decide +kernel
theorem dX5_lowX_7 : decode cX5_lowX 7 = .ok (.getfield 16, 3) := by decide +kernel
theorem dX5_lowX_10 : decode cX5_lowX 10 = .ok (.iload_n 1, 1) := by decide +kernel
theorem dX5_lowX_11 : decode cX5_lowX 11 = .ok (.iaload, 1) := by decide +kernel
theorem dX5_lowX_12 : decode cX5_lowX 12 = .ok (.invokestatic 37, 3) := by decide +kernel
theorem dX5_lowX_15 : decode cX5_lowX 15 = .ok (.ireturn, 1) := by decide +kernel
theorem dX5_highX_0 : decode cX5_highX 0 = .ok (.aload_n 0, 1) := by decide +kernel
theorem dX5_highX_1 : decode cX5_highX 1 = .ok (.getfield 7, 3) := by decide +kernel
theorem dX5_highX_4 : decode cX5_highX 4 = .ok (.iload_n 1, 1) := by decide +kernel
theorem dX5_highX_5 : decode cX5_highX 5 = .ok (.iaload, 1) := by decide +kernel
theorem dX5_highX_6 : decode cX5_highX 6 = .ok (.aload_n 0, 1) := by decide +kernel
theorem dX5_highX_7 : decode cX5_highX 7 = .ok (.getfield 16, 3) := by decide +kernel
theorem dX5_highX_10 : decode cX5_highX 10 = .ok (.iload_n 1, 1) := by decide +kernel
theorem dX5_highX_11 : decode cX5_highX 11 = .ok (.iaload, 1) := by decide +kernel
theorem dX5_highX_12 : decode cX5_highX 12 = .ok (.invokestatic 43, 3) := by decide +kernel
theorem dX5_highX_15 : decode cX5_highX 15 = .ok (.ireturn, 1) := by decide +kernel
theorem dX5_lowY_0 : decode cX5_lowY 0 = .ok (.aload_n 0, 1) := by decide +kernel
theorem dX5_lowY_1 : decode cX5_lowY 1 = .ok (.getfield 13, 3) := by decide +kernel
theorem dX5_lowY_4 : decode cX5_lowY 4 = .ok (.iload_n 1, 1) := by decide +kernel
theorem dX5_lowY_5 : decode cX5_lowY 5 = .ok (.iaload, 1) := by decide +kernel
theorem dX5_lowY_6 : decode cX5_lowY 6 = .ok (.aload_n 0, 1) := by decide +kernel
theorem dX5_lowY_7 : decode cX5_lowY 7 = .ok (.getfield 19, 3) := by decide +kernel
theorem dX5_lowY_10 : decode cX5_lowY 10 = .ok (.iload_n 1, 1) := by decide +kernel
theorem dX5_lowY_11 : decode cX5_lowY 11 = .ok (.iaload, 1) := by decide +kernel
theorem dX5_lowY_12 : decode cX5_lowY 12 = .ok (.invokestatic 37, 3) := by decide +kernel
theorem dX5_lowY_15 : decode cX5_lowY 15 = .ok (.ireturn, 1) := by decide +kernel
theorem dX5_highY_0 : decode cX5_highY 0 = .ok (.aload_n 0, 1) := by decide +kernel
theorem dX5_highY_1 : decode cX5_highY 1 = .ok (.getfield 13, 3) := by decide +kernel
theorem dX5_highY_4 : decode cX5_highY 4 = .ok (.iload_n 1, 1) := by decide +kernel
theorem dX5_highY_5 : decode cX5_highY 5 = .ok (.iaload, 1) := by decide +kernel
theorem dX5_highY_6 : decode cX5_highY 6 = .ok (.aload_n 0, 1) := by decide +kernel
theorem dX5_highY_7 : decode cX5_highY 7 = .ok (.getfield 19, 3) := by decide +kernel
theorem dX5_highY_10 : decode cX5_highY 10 = .ok (.iload_n 1, 1) := by decide +kernel
theorem dX5_highY_11 : decode cX5_highY 11 = .ok (.iaload, 1) := by decide +kernel
theorem dX5_highY_12 : decode cX5_highY 12 = .ok (.invokestatic 43, 3) := by decide +kernel
theorem dX5_highY_15 : decode cX5_highY 15 = .ok (.ireturn, 1) := by decide +kernel
theorem dX5_begins_0 : decode cX5_begins 0 = .ok (.aload_n 0, 1) := by decide +kernel
theorem dX5_begins_1 : decode cX5_begins 1 = .ok (.getfield 7, 3) := by decide +kernel
theorem dX5_begins_4 : decode cX5_begins 4 = .ok (.iload_n 1, 1) := by decide +kernel
theorem dX5_begins_5 : decode cX5_begins 5 = .ok (.iaload, 1) := by decide +kernel
theorem dX5_begins_6 : decode cX5_begins 6 = .ok (.iload_n 2, 1) := by decide +kernel
theorem dX5_begins_7 : decode cX5_begins 7 = .ok (.if_icmp .ne 17, 3) := by decide +kernel
theorem dX5_begins_10 : decode cX5_begins 10 = .ok (.aload_n 0, 1) := by decide +kernel
theorem dX5_begins_11 : decode cX5_begins 11 = .ok (.getfield 13, 3) := by decide +kernel
theorem dX5_begins_14 : decode cX5_begins 14 = .ok (.iload_n 1, 1) := by decide +kernel
theorem dX5_begins_15 : decode cX5_begins 15 = .ok (.iaload, 1) := by decide +kernel
theorem dX5_begins_16 : decode cX5_begins 16 = .ok (.iload_n 3, 1) := by decide +kernel
theorem dX5_begins_17 : decode cX5_begins 17 = .ok (.if_icmp .ne 7, 3) := by decide +kernel
theorem dX5_begins_20 : decode cX5_begins 20 = .ok (.iconst 1, 1) := by decide +kernel
theorem dX5_begins_21 : decode cX5_begins 21 = .ok (.goto 4, 3) := by decide +kernel
theorem dX5_begins_24 : decode cX5_begins 24 = .ok (.iconst 0, 1) := by decide +kernel
theorem dX5_begins_25 : decode cX5_begins 25 = .ok (.ireturn, 1) := by decide +kernel
theorem dX5_ends_0 : decode cX5_ends 0 = .ok (.aload_n 0, 1) := by decide +kernel
theorem dX5_ends_1 : decode cX5_ends 1 = .ok (.getfield 16, 3) := by decide +kernel
theorem dX5_ends_4 : decode cX5_ends 4 = .ok (.iload_n 1, 1) := by decide +kernel
theorem dX5_ends_5 : decode cX5_ends 5 = .ok (.iaload, 1) := by decide +kernel
theorem dX5_ends_6 : decode cX5_ends 6 = .ok (.iload_n 2, 1) := by decide +kernel
theorem dX5_ends_7 : decode cX5_ends 7 = .ok (.if_icmp .ne 17, 3) := by decide +kernel
theorem dX5_ends_10 : decode cX5_ends 10 = .ok (.aload_n 0, 1) := by decide +kernel
theorem dX5_ends_11 : decode cX5_ends 11 = .ok (.getfield 19, 3) := by decide +kernel
theorem dX5_ends_14 : decode cX5_ends 14 = .ok (.iload_n 1, 1) := by decide +kernel
theorem dX5_ends_15 : decode cX5_ends 15 = .ok (.iaload, 1) := by decide +kernel
theorem dX5_ends_16 : decode cX5_ends 16 = .ok (.iload_n 3, 1) := by decide +kernel
theorem dX5_ends_17 : decode cX5_ends 17 = .ok (.if_icmp .ne 7, 3) := by decide +kernel
theorem dX5_ends_20 : decode cX5_ends 20 = .ok (.iconst 1, 1) := by decide +kernel
theorem dX5_ends_21 : decode cX5_ends 21 = .ok (.goto 4, 3) := by decide +kernel
theorem dX5_ends_24 : decode cX5_ends 24 = .ok (.iconst 0, 1) := by decide +kernel
theorem dX5_ends_25 : decode cX5_ends 25 = .ok (.ireturn, 1) := by decide +kernel
theorem dX5_areApart_0 : decode cX5_areApart 0 = .ok (.aload_n 0, 1) := by decide +kernel
theorem dX5_areApart_1 : decode cX5_areApart 1 = .ok (.iload_n 1, 1) := by decide +kernel
theorem dX5_areApart_2 : decode cX5_areApart 2 = .ok (.invokevirtual 46, 3) := by decide +kernel
theorem dX5_areApart_5 : decode cX5_areApart 5 = .ok (.aload_n 0, 1) := by decide +kernel
theorem dX5_areApart_6 : decode cX5_areApart 6 = .ok (.iload_n 2, 1) := by decide +kernel
theorem dX5_areApart_7 : decode cX5_areApart 7 = .ok (.invokevirtual 50, 3) := by decide +kernel
theorem dX5_areApart_10 : decode cX5_areApart 10 = .ok (.if_icmp .gt 42, 3) := by decide +kernel
theorem dX5_areApart_13 : decode cX5_areApart 13 = .ok (.aload_n 0, 1) := by decide +kernel
theorem dX5_areApart_14 : decode cX5_areApart 14 = .ok (.iload_n 2, 1) := by decide +kernel
theorem dX5_areApart_15 : decode cX5_areApart 15 = .ok (.invokevirtual 46, 3) := by decide +kernel
theorem dX5_areApart_18 : decode cX5_areApart 18 = .ok (.aload_n 0, 1) := by decide +kernel
theorem dX5_areApart_19 : decode cX5_areApart 19 = .ok (.iload_n 1, 1) := by decide +kernel
theorem dX5_areApart_20 : decode cX5_areApart 20 = .ok (.invokevirtual 50, 3) := by decide +kernel
theorem dX5_areApart_23 : decode cX5_areApart 23 = .ok (.if_icmp .gt 29, 3) := by decide +kernel
theorem dX5_areApart_26 : decode cX5_areApart 26 = .ok (.aload_n 0, 1) := by decide +kernel
theorem dX5_areApart_27 : decode cX5_areApart 27 = .ok (.iload_n 1, 1) := by decide +kernel
theorem dX5_areApart_28 : decode cX5_areApart 28 = .ok (.invokevirtual 53, 3) := by decide +kernel
theorem dX5_areApart_31 : decode cX5_areApart 31 = .ok (.aload_n 0, 1) := by decide +kernel
theorem dX5_areApart_32 : decode cX5_areApart 32 = .ok (.iload_n 2, 1) := by decide +kernel
theorem dX5_areApart_33 : decode cX5_areApart 33 = .ok (.invokevirtual 56, 3) := by decide +kernel
theorem dX5_areApart_36 : decode cX5_areApart 36 = .ok (.if_icmp .gt 16, 3) := by decide +kernel
theorem dX5_areApart_39 : decode cX5_areApart 39 = .ok (.aload_n 0, 1) := by decide +kernel
theorem dX5_areApart_40 : decode cX5_areApart 40 = .ok (.iload_n 2, 1) := by decide +kernel
theorem dX5_areApart_41 : decode cX5_areApart 41 = .ok (.invokevirtual 53, 3) := by decide +kernel
theorem dX5_areApart_44 : decode cX5_areApart 44 = .ok (.aload_n 0, 1) := by decide +kernel
theorem dX5_areApart_45 : decode cX5_areApart 45 = .ok (.iload_n 1, 1) := by decide +kernel
theorem dX5_areApart_46 : decode cX5_areApart 46 = .ok (.invokevirtual 56, 3) := by decide +kernel
theorem dX5_areApart_49 : decode cX5_areApart 49 = .ok (.if_icmp .le 7, 3) := by decide +kernel
theorem dX5_areApart_52 : decode cX5_areApart 52 = .ok (.iconst 1, 1) := by decide +kernel
theorem dX5_areApart_53 : decode cX5_areApart 53 = .ok (.goto 4, 3) := by decide +kernel
theorem dX5_areApart_56 : decode cX5_areApart 56 = .ok (.iconst 0, 1) := by decide +kernel
theorem dX5_areApart_57 : decode cX5_areApart 57 = .ok (.ireturn, 1) := by decide +kernel
theorem dX5_touchAtEnd_0 : decode cX5_touchAtEnd 0 = .ok (.aload_n 0, 1) := by decide +kernel
theorem dX5_touchAtEnd_1 : decode cX5_touchAtEnd 1 = .ok (.iload_n 2, 1) := by decide +kernel
theorem dX5_touchAtEnd_2 : decode cX5_touchAtEnd 2 = .ok (.ifCond .eq 12, 3) := by decide +kernel
theorem dX5_touchAtEnd_5 : decode cX5_touchAtEnd 5 = .ok (.aload_n 0, 1) := by decide +kernel
theorem dX5_touchAtEnd_6 : decode cX5_touchAtEnd 6 = .ok (.getfield 7, 3) := by decide +kernel
theorem dX5_touchAtEnd_9 : decode cX5_touchAtEnd 9 = .ok (.iload_n 1, 1) := by decide +kernel
theorem dX5_touchAtEnd_10 : decode cX5_touchAtEnd 10 = .ok (.iaload, 1) := by decide +kernel
theorem dX5_touchAtEnd_11 : decode cX5_touchAtEnd 11 = .ok (.goto 9, 3) := by decide +kernel
theorem dX5_touchAtEnd_14 : decode cX5_touchAtEnd 14 = .ok (.aload_n 0, 1) := by decide +kernel
theorem dX5_touchAtEnd_15 : decode cX5_touchAtEnd 15 = .ok (.getfield 16, 3) := by decide +kernel
theorem dX5_touchAtEnd_18 : decode cX5_touchAtEnd 18 = .ok (.iload_n 1, 1) := by decide +kernel
theorem dX5_touchAtEnd_19 : decode cX5_touchAtEnd 19 = .ok (.iaload, 1) := by decide +kernel
theorem dX5_touchAtEnd_20 : decode cX5_touchAtEnd 20 = .ok (.putfield 84, 3) := by decide +kernel
theorem dX5_touchAtEnd_23 : decode cX5_touchAtEnd 23 = .ok (.aload_n 0, 1) := by decide +kernel
theorem dX5_touchAtEnd_24 : decode cX5_touchAtEnd 24 = .ok (.iload_n 2, 1) := by decide +kernel
theorem dX5_touchAtEnd_25 : decode cX5_touchAtEnd 25 = .ok (.ifCond .eq 12, 3) := by decide +kernel
theorem dX5_touchAtEnd_28 : decode cX5_touchAtEnd 28 = .ok (.aload_n 0, 1) := by decide +kernel
theorem dX5_touchAtEnd_29 : decode cX5_touchAtEnd 29 = .ok (.getfield 13, 3) := by decide +kernel
theorem dX5_touchAtEnd_32 : decode cX5_touchAtEnd 32 = .ok (.iload_n 1, 1) := by decide +kernel
theorem dX5_touchAtEnd_33 : decode cX5_touchAtEnd 33 = .ok (.iaload, 1) := by decide +kernel
theorem dX5_touchAtEnd_34 : decode cX5_touchAtEnd 34 = .ok (.goto 9, 3) := by decide +kernel
theorem dX5_touchAtEnd_37 : decode cX5_touchAtEnd 37 = .ok (.aload_n 0, 1) := by decide +kernel
theorem dX5_touchAtEnd_38 : decode cX5_touchAtEnd 38 = .ok (.getfield 19, 3) := by decide +kernel
theorem dX5_touchAtEnd_41 : decode cX5_touchAtEnd 41 = .ok (.iload_n 1, 1) := by decide +kernel
theorem dX5_touchAtEnd_42 : decode cX5_touchAtEnd 42 = .ok (.iaload, 1) := by decide +kernel
theorem dX5_touchAtEnd_43 : decode cX5_touchAtEnd 43 = .ok (.putfield 87, 3) := by decide +kernel
theorem dX5_touchAtEnd_46 : decode cX5_touchAtEnd 46 = .ok (.iconst 2, 1) := by decide +kernel
theorem dX5_touchAtEnd_47 : decode cX5_touchAtEnd 47 = .ok (.ireturn, 1) := by decide +kernel
theorem dX6_isThere_0 : decode cX6_isThere 0 = .ok (.aload_n 0, 1) := by decide +kernel
theorem dX6_isThere_1 : decode cX6_isThere 1 = .ok (.getfield 21, 3) := by decide +kernel
theorem dX6_isThere_4 : decode cX6_isThere 4 = .ok (.ifCond .le 7, 3) := by decide +kernel
theorem dX6_isThere_7 : decode cX6_isThere 7 = .ok (.iconst 1, 1) := by decide +kernel
theorem dX6_isThere_8 : decode cX6_isThere 8 = .ok (.goto 4, 3) := by decide +kernel
theorem dX6_isThere_11 : decode cX6_isThere 11 = .ok (.iconst 0, 1) := by decide +kernel
theorem dX6_isThere_12 : decode cX6_isThere 12 = .ok (.ireturn, 1) := by decide +kernel
theorem dX6_kind_0 : decode cX6_kind 0 = .ok (.aload_n 0, 1) := by decide +kernel
theorem dX6_kind_1 : decode cX6_kind 1 = .ok (.getfield 21, 3) := by decide +kernel
theorem dX6_kind_4 : decode cX6_kind 4 = .ok (.ifCond .le 12, 3) := by decide +kernel
theorem dX6_kind_7 : decode cX6_kind 7 = .ok (.aload_n 0, 1) := by decide +kernel
theorem dX6_kind_8 : decode cX6_kind 8 = .ok (.getfield 11, 3) := by decide +kernel
theorem dX6_kind_11 : decode cX6_kind 11 = .ok (.iconst 0, 1) := by decide +kernel
theorem dX6_kind_12 : decode cX6_kind 12 = .ok (.iaload, 1) := by decide +kernel
theorem dX6_kind_13 : decode cX6_kind 13 = .ok (.goto 4, 3) := by decide +kernel
theorem dX6_kind_16 : decode cX6_kind 16 = .ok (.iconst 0, 1) := by decide +kernel
theorem dX6_kind_17 : decode cX6_kind 17 = .ok (.ireturn, 1) := by decide +kernel
theorem dX6_clear_0 : decode cX6_clear 0 = .ok (.aload_n 0, 1) := by decide +kernel
theorem dX6_clear_1 : decode cX6_clear 1 = .ok (.iconst 0, 1) := by decide +kernel
theorem dX6_clear_2 : decode cX6_clear 2 = .ok (.putfield 21, 3) := by decide +kernel
theorem dX6_clear_5 : decode cX6_clear 5 = .ok (.aload_n 0, 1) := by decide +kernel
theorem dX6_clear_6 : decode cX6_clear 6 = .ok (.iconst 0, 1) := by decide +kernel
theorem dX6_clear_7 : decode cX6_clear 7 = .ok (.putfield 25, 3) := by decide +kernel
theorem dX6_clear_10 : decode cX6_clear 10 = .ok (.return_, 1) := by decide +kernel
theorem dX6_hasRoomForPoint_0 : decode cX6_hasRoomForPoint 0 = .ok (.aload_n 0, 1) := by decide +kernel
theorem dX6_hasRoomForPoint_1 : decode cX6_hasRoomForPoint 1 = .ok (.getfield 25, 3) := by decide +kernel
theorem dX6_hasRoomForPoint_4 : decode cX6_hasRoomForPoint 4 = .ok (.sipush 2048, 3) := by decide +kernel
theorem dX6_hasRoomForPoint_7 : decode cX6_hasRoomForPoint 7 = .ok (.if_icmp .ge 7, 3) := by decide +kernel
theorem dX6_hasRoomForPoint_10 : decode cX6_hasRoomForPoint 10 = .ok (.iconst 1, 1) := by decide +kernel
theorem dX6_hasRoomForPoint_11 : decode cX6_hasRoomForPoint 11 = .ok (.goto 4, 3) := by decide +kernel
theorem dX6_hasRoomForPoint_14 : decode cX6_hasRoomForPoint 14 = .ok (.iconst 0, 1) := by decide +kernel
theorem dX6_hasRoomForPoint_15 : decode cX6_hasRoomForPoint 15 = .ok (.ireturn, 1) := by decide +kernel
theorem dX6_addShape_0 : decode cX6_addShape 0 = .ok (.aload_n 0, 1) := by decide +kernel
theorem dX6_addShape_1 : decode cX6_addShape 1 = .ok (.getfield 21, 3) := by decide +kernel
theorem dX6_addShape_4 : decode cX6_addShape 4 = .ok (.sipush 2046, 3) := by decide +kernel
theorem dX6_addShape_7 : decode cX6_addShape 7 = .ok (.if_icmp .le 5, 3) := by decide +kernel
theorem dX6_addShape_10 : decode cX6_addShape 10 = .ok (.iconst 0, 1) := by decide +kernel
theorem dX6_addShape_11 : decode cX6_addShape 11 = .ok (.ireturn, 1) := by decide +kernel
theorem dX6_addShape_12 : decode cX6_addShape 12 = .ok (.aload_n 0, 1) := by decide +kernel
theorem dX6_addShape_13 : decode cX6_addShape 13 = .ok (.getfield 11, 3) := by decide +kernel
theorem dX6_addShape_16 : decode cX6_addShape 16 = .ok (.aload_n 0, 1) := by decide +kernel
theorem dX6_addShape_17 : decode cX6_addShape 17 = .ok (.getfield 21, 3) := by decide +kernel
theorem dX6_addShape_20 : decode cX6_addShape 20 = .ok (.iload_n 1, 1) := by decide +kernel
theorem dX6_addShape_21 : decode cX6_addShape 21 = .ok (.iastore, 1) := by decide +kernel
theorem dX6_addShape_22 : decode cX6_addShape 22 = .ok (.aload_n 0, 1) := by decide +kernel
theorem dX6_addShape_23 : decode cX6_addShape 23 = .ok (.getfield 11, 3) := by decide +kernel
theorem dX6_addShape_26 : decode cX6_addShape 26 = .ok (.aload_n 0, 1) := by decide +kernel
theorem dX6_addShape_27 : decode cX6_addShape 27 = .ok (.getfield 21, 3) := by decide +kernel
theorem dX6_addShape_30 : decode cX6_addShape 30 = .ok (.iconst 1, 1) := by decide +kernel
theorem dX6_addShape_31 : decode cX6_addShape 31 = .ok (.iadd, 1) := by decide +kernel
theorem dX6_addShape_32 : decode cX6_addShape 32 = .ok (.iload_n 2, 1) := by decide +kernel
theorem dX6_addShape_33 : decode cX6_addShape 33 = .ok (.iastore, 1) := by decide +kernel
theorem dX6_addShape_34 : decode cX6_addShape 34 = .ok (.aload_n 0, 1) := by decide +kernel
theorem dX6_addShape_35 : decode cX6_addShape 35 = .ok (.dup, 1) := by decide +kernel
theorem dX6_addShape_36 : decode cX6_addShape 36 = .ok (.getfield 21, 3) := by decide +kernel
theorem dX6_addShape_39 : decode cX6_addShape 39 = .ok (.iconst 2, 1) := by decide +kernel
theorem dX6_addShape_40 : decode cX6_addShape 40 = .ok (.iadd, 1) := by decide +kernel
theorem dX6_addShape_41 : decode cX6_addShape 41 = .ok (.putfield 21, 3) := by decide +kernel
theorem dX6_addShape_44 : decode cX6_addShape 44 = .ok (.iconst 1, 1) := by decide +kernel
theorem dX6_addShape_45 : decode cX6_addShape 45 = .ok (.ireturn, 1) := by decide +kernel
theorem dX6_addRing_0 : decode cX6_addRing 0 = .ok (.aload_n 0, 1) := by decide +kernel
theorem dX6_addRing_1 : decode cX6_addRing 1 = .ok (.getfield 21, 3) := by decide +kernel
theorem dX6_addRing_4 : decode cX6_addRing 4 = .ok (.sipush 2048, 3) := by decide +kernel
theorem dX6_addRing_7 : decode cX6_addRing 7 = .ok (.if_icmp .lt 5, 3) := by decide +kernel
theorem dX6_addRing_10 : decode cX6_addRing 10 = .ok (.iconst 0, 1) := by decide +kernel
theorem dX6_addRing_11 : decode cX6_addRing 11 = .ok (.ireturn, 1) := by decide +kernel
theorem dX6_addRing_12 : decode cX6_addRing 12 = .ok (.aload_n 0, 1) := by decide +kernel
theorem dX6_addRing_13 : decode cX6_addRing 13 = .ok (.getfield 11, 3) := by decide +kernel
theorem dX6_addRing_16 : decode cX6_addRing 16 = .ok (.aload_n 0, 1) := by decide +kernel
theorem dX6_addRing_17 : decode cX6_addRing 17 = .ok (.getfield 21, 3) := by decide +kernel
theorem dX6_addRing_20 : decode cX6_addRing 20 = .ok (.iload_n 1, 1) := by decide +kernel
theorem dX6_addRing_21 : decode cX6_addRing 21 = .ok (.iastore, 1) := by decide +kernel
theorem dX6_addRing_22 : decode cX6_addRing 22 = .ok (.aload_n 0, 1) := by decide +kernel
theorem dX6_addRing_23 : decode cX6_addRing 23 = .ok (.dup, 1) := by decide +kernel
theorem dX6_addRing_24 : decode cX6_addRing 24 = .ok (.getfield 21, 3) := by decide +kernel
theorem dX6_addRing_27 : decode cX6_addRing 27 = .ok (.iconst 1, 1) := by decide +kernel
theorem dX6_addRing_28 : decode cX6_addRing 28 = .ok (.iadd, 1) := by decide +kernel
theorem dX6_addRing_29 : decode cX6_addRing 29 = .ok (.putfield 21, 3) := by decide +kernel
theorem dX6_addRing_32 : decode cX6_addRing 32 = .ok (.iconst 1, 1) := by decide +kernel
theorem dX6_addRing_33 : decode cX6_addRing 33 = .ok (.ireturn, 1) := by decide +kernel
theorem dX6_addPoint_0 : decode cX6_addPoint 0 = .ok (.aload_n 0, 1) := by decide +kernel
theorem dX6_addPoint_1 : decode cX6_addPoint 1 = .ok (.getfield 25, 3) := by decide +kernel
theorem dX6_addPoint_4 : decode cX6_addPoint 4 = .ok (.sipush 2048, 3) := by decide +kernel
theorem dX6_addPoint_7 : decode cX6_addPoint 7 = .ok (.if_icmp .lt 5, 3) := by decide +kernel
theorem dX6_addPoint_10 : decode cX6_addPoint 10 = .ok (.iconst 0, 1) := by decide +kernel
theorem dX6_addPoint_11 : decode cX6_addPoint 11 = .ok (.ireturn, 1) := by decide +kernel
theorem dX6_addPoint_12 : decode cX6_addPoint 12 = .ok (.aload_n 0, 1) := by decide +kernel
theorem dX6_addPoint_13 : decode cX6_addPoint 13 = .ok (.getfield 15, 3) := by decide +kernel
theorem dX6_addPoint_16 : decode cX6_addPoint 16 = .ok (.aload_n 0, 1) := by decide +kernel
theorem dX6_addPoint_17 : decode cX6_addPoint 17 = .ok (.getfield 25, 3) := by decide +kernel
theorem dX6_addPoint_20 : decode cX6_addPoint 20 = .ok (.iload_n 1, 1) := by decide +kernel
theorem dX6_addPoint_21 : decode cX6_addPoint 21 = .ok (.iastore, 1) := by decide +kernel
theorem dX6_addPoint_22 : decode cX6_addPoint 22 = .ok (.aload_n 0, 1) := by decide +kernel
theorem dX6_addPoint_23 : decode cX6_addPoint 23 = .ok (.getfield 18, 3) := by decide +kernel
theorem dX6_addPoint_26 : decode cX6_addPoint 26 = .ok (.aload_n 0, 1) := by decide +kernel
theorem dX6_addPoint_27 : decode cX6_addPoint 27 = .ok (.getfield 25, 3) := by decide +kernel
theorem dX6_addPoint_30 : decode cX6_addPoint 30 = .ok (.iload_n 2, 1) := by decide +kernel
theorem dX6_addPoint_31 : decode cX6_addPoint 31 = .ok (.iastore, 1) := by decide +kernel
theorem dX6_addPoint_32 : decode cX6_addPoint 32 = .ok (.aload_n 0, 1) := by decide +kernel
theorem dX6_addPoint_33 : decode cX6_addPoint 33 = .ok (.dup, 1) := by decide +kernel
theorem dX6_addPoint_34 : decode cX6_addPoint 34 = .ok (.getfield 25, 3) := by decide +kernel
theorem dX6_addPoint_37 : decode cX6_addPoint 37 = .ok (.iconst 1, 1) := by decide +kernel
theorem dX6_addPoint_38 : decode cX6_addPoint 38 = .ok (.iadd, 1) := by decide +kernel
theorem dX6_addPoint_39 : decode cX6_addPoint 39 = .ok (.putfield 25, 3) := by decide +kernel
theorem dX6_addPoint_42 : decode cX6_addPoint 42 = .ok (.iconst 1, 1) := by decide +kernel
theorem dX6_addPoint_43 : decode cX6_addPoint 43 = .ok (.ireturn, 1) := by decide +kernel
theorem dX6_behind_0 : decode cX6_behind 0 = .ok (.aload_n 0, 1) := by decide +kernel
theorem dX6_behind_1 : decode cX6_behind 1 = .ok (.getfield 11, 3) := by decide +kernel
theorem dX6_behind_4 : decode cX6_behind 4 = .ok (.iload_n 1, 1) := by decide +kernel
theorem dX6_behind_5 : decode cX6_behind 5 = .ok (.iaload, 1) := by decide +kernel
theorem dX6_behind_6 : decode cX6_behind 6 = .ok (.iconst 3, 1) := by decide +kernel
theorem dX6_behind_7 : decode cX6_behind 7 = .ok (.if_icmp .ne 18, 3) := by decide +kernel
theorem dX6_behind_10 : decode cX6_behind 10 = .ok (.iload_n 1, 1) := by decide +kernel
theorem dX6_behind_11 : decode cX6_behind 11 = .ok (.iconst 2, 1) := by decide +kernel
theorem dX6_behind_12 : decode cX6_behind 12 = .ok (.iadd, 1) := by decide +kernel
theorem dX6_behind_13 : decode cX6_behind 13 = .ok (.aload_n 0, 1) := by decide +kernel
theorem dX6_behind_14 : decode cX6_behind 14 = .ok (.getfield 11, 3) := by decide +kernel
theorem dX6_behind_17 : decode cX6_behind 17 = .ok (.iload_n 1, 1) := by decide +kernel
theorem dX6_behind_18 : decode cX6_behind 18 = .ok (.iconst 1, 1) := by decide +kernel
theorem dX6_behind_19 : decode cX6_behind 19 = .ok (.iadd, 1) := by decide +kernel
theorem dX6_behind_20 : decode cX6_behind 20 = .ok (.iaload, 1) := by decide +kernel
theorem dX6_behind_21 : decode cX6_behind 21 = .ok (.iadd, 1) := by decide +kernel
theorem dX6_behind_22 : decode cX6_behind 22 = .ok (.goto 6, 3) := by decide +kernel
theorem dX6_behind_25 : decode cX6_behind 25 = .ok (.iload_n 1, 1) := by decide +kernel
theorem dX6_behind_26 : decode cX6_behind 26 = .ok (.iconst 2, 1) := by decide +kernel
theorem dX6_behind_27 : decode cX6_behind 27 = .ok (.iadd, 1) := by decide +kernel
theorem dX6_behind_28 : decode cX6_behind 28 = .ok (.ireturn, 1) := by decide +kernel
theorem dX6_rows_0 : decode cX6_rows 0 = .ok (.aload_n 0, 1) := by decide +kernel
theorem dX6_rows_1 : decode cX6_rows 1 = .ok (.getfield 11, 3) := by decide +kernel
theorem dX6_rows_4 : decode cX6_rows 4 = .ok (.iload_n 1, 1) := by decide +kernel
theorem dX6_rows_5 : decode cX6_rows 5 = .ok (.iaload, 1) := by decide +kernel
theorem dX6_rows_6 : decode cX6_rows 6 = .ok (.iconst 3, 1) := by decide +kernel
theorem dX6_rows_7 : decode cX6_rows 7 = .ok (.if_icmp .ne 12, 3) := by decide +kernel
theorem dX6_rows_10 : decode cX6_rows 10 = .ok (.aload_n 0, 1) := by decide +kernel
theorem dX6_rows_11 : decode cX6_rows 11 = .ok (.getfield 11, 3) := by decide +kernel
theorem dX6_rows_14 : decode cX6_rows 14 = .ok (.iload_n 1, 1) := by decide +kernel
theorem dX6_rows_15 : decode cX6_rows 15 = .ok (.iconst 1, 1) := by decide +kernel
theorem dX6_rows_16 : decode cX6_rows 16 = .ok (.iadd, 1) := by decide +kernel
theorem dX6_rows_17 : decode cX6_rows 17 = .ok (.iaload, 1) := by decide +kernel
theorem dX6_rows_18 : decode cX6_rows 18 = .ok (.ireturn, 1) := by decide +kernel
theorem dX6_rows_19 : decode cX6_rows 19 = .ok (.aload_n 0, 1) := by decide +kernel
theorem dX6_rows_20 : decode cX6_rows 20 = .ok (.getfield 11, 3) := by decide +kernel
theorem dX6_rows_23 : decode cX6_rows 23 = .ok (.iload_n 1, 1) := by decide +kernel
theorem dX6_rows_24 : decode cX6_rows 24 = .ok (.iaload, 1) := by decide +kernel
theorem dX6_rows_25 : decode cX6_rows 25 = .ok (.iconst 3, 1) := by decide +kernel
theorem dX6_rows_26 : decode cX6_rows 26 = .ok (.if_icmp .ge 7, 3) := by decide +kernel
theorem dX6_rows_29 : decode cX6_rows 29 = .ok (.iconst 1, 1) := by decide +kernel
theorem dX6_rows_30 : decode cX6_rows 30 = .ok (.goto 4, 3) := by decide +kernel
theorem dX6_rows_33 : decode cX6_rows 33 = .ok (.iconst 0, 1) := by decide +kernel
theorem dX6_rows_34 : decode cX6_rows 34 = .ok (.ireturn, 1) := by decide +kernel
theorem dX6_rowLength_0 : decode cX6_rowLength 0 = .ok (.aload_n 0, 1) := by decide +kernel
theorem dX6_rowLength_1 : decode cX6_rowLength 1 = .ok (.getfield 11, 3) := by decide +kernel
theorem dX6_rowLength_4 : decode cX6_rowLength 4 = .ok (.iload_n 1, 1) := by decide +kernel
theorem dX6_rowLength_5 : decode cX6_rowLength 5 = .ok (.iaload, 1) := by decide +kernel
theorem dX6_rowLength_6 : decode cX6_rowLength 6 = .ok (.iconst 3, 1) := by decide +kernel
theorem dX6_rowLength_7 : decode cX6_rowLength 7 = .ok (.if_icmp .ne 11, 3) := by decide +kernel
theorem dX6_rowLength_10 : decode cX6_rowLength 10 = .ok (.iload_n 1, 1) := by decide +kernel
theorem dX6_rowLength_11 : decode cX6_rowLength 11 = .ok (.iconst 2, 1) := by decide +kernel
theorem dX6_rowLength_12 : decode cX6_rowLength 12 = .ok (.iadd, 1) := by decide +kernel
theorem dX6_rowLength_13 : decode cX6_rowLength 13 = .ok (.iload_n 2, 1) := by decide +kernel
theorem dX6_rowLength_14 : decode cX6_rowLength 14 = .ok (.iadd, 1) := by decide +kernel
theorem dX6_rowLength_15 : decode cX6_rowLength 15 = .ok (.goto 6, 3) := by decide +kernel
theorem dX6_rowLength_18 : decode cX6_rowLength 18 = .ok (.iload_n 1, 1) := by decide +kernel
theorem dX6_rowLength_19 : decode cX6_rowLength 19 = .ok (.iconst 1, 1) := by decide +kernel
theorem dX6_rowLength_20 : decode cX6_rowLength 20 = .ok (.iadd, 1) := by decide +kernel
theorem dX6_rowLength_21 : decode cX6_rowLength 21 = .ok (.istore_n 3, 1) := by decide +kernel
theorem dX6_rowLength_22 : decode cX6_rowLength 22 = .ok (.iload_n 3, 1) := by decide +kernel
theorem dX6_rowLength_23 : decode cX6_rowLength 23 = .ok (.aload_n 0, 1) := by decide +kernel
theorem dX6_rowLength_24 : decode cX6_rowLength 24 = .ok (.getfield 21, 3) := by decide +kernel
theorem dX6_rowLength_27 : decode cX6_rowLength 27 = .ok (.if_icmp .ge 12, 3) := by decide +kernel
theorem dX6_rowLength_30 : decode cX6_rowLength 30 = .ok (.aload_n 0, 1) := by decide +kernel
theorem dX6_rowLength_31 : decode cX6_rowLength 31 = .ok (.getfield 11, 3) := by decide +kernel
theorem dX6_rowLength_34 : decode cX6_rowLength 34 = .ok (.iload_n 3, 1) := by decide +kernel
theorem dX6_rowLength_35 : decode cX6_rowLength 35 = .ok (.iaload, 1) := by decide +kernel
theorem dX6_rowLength_36 : decode cX6_rowLength 36 = .ok (.goto 4, 3) := by decide +kernel
theorem dX6_rowLength_39 : decode cX6_rowLength 39 = .ok (.iconst 0, 1) := by decide +kernel
theorem dX6_rowLength_40 : decode cX6_rowLength 40 = .ok (.ireturn, 1) := by decide +kernel
theorem dX6_areLike_0 : decode cX6_areLike 0 = .ok (.aload_n 0, 1) := by decide +kernel
theorem dX6_areLike_1 : decode cX6_areLike 1 = .ok (.getfield 15, 3) := by decide +kernel
theorem dX6_areLike_4 : decode cX6_areLike 4 = .ok (.iload_n 1, 1) := by decide +kernel
theorem dX6_areLike_5 : decode cX6_areLike 5 = .ok (.iaload, 1) := by decide +kernel
theorem dX6_areLike_6 : decode cX6_areLike 6 = .ok (.aload_n 0, 1) := by decide +kernel
theorem dX6_areLike_7 : decode cX6_areLike 7 = .ok (.getfield 15, 3) := by decide +kernel
theorem dX6_areLike_10 : decode cX6_areLike 10 = .ok (.iload_n 2, 1) := by decide +kernel
theorem dX6_areLike_11 : decode cX6_areLike 11 = .ok (.iaload, 1) := by decide +kernel
theorem dX6_areLike_12 : decode cX6_areLike 12 = .ok (.if_icmp .ne 22, 3) := by decide +kernel
theorem dX6_areLike_15 : decode cX6_areLike 15 = .ok (.aload_n 0, 1) := by decide +kernel
theorem dX6_areLike_16 : decode cX6_areLike 16 = .ok (.getfield 18, 3) := by decide +kernel
theorem dX6_areLike_19 : decode cX6_areLike 19 = .ok (.iload_n 1, 1) := by decide +kernel
theorem dX6_areLike_20 : decode cX6_areLike 20 = .ok (.iaload, 1) := by decide +kernel
theorem dX6_areLike_21 : decode cX6_areLike 21 = .ok (.aload_n 0, 1) := by decide +kernel
theorem dX6_areLike_22 : decode cX6_areLike 22 = .ok (.getfield 18, 3) := by decide +kernel
theorem dX6_areLike_25 : decode cX6_areLike 25 = .ok (.iload_n 2, 1) := by decide +kernel
theorem dX6_areLike_26 : decode cX6_areLike 26 = .ok (.iaload, 1) := by decide +kernel
theorem dX6_areLike_27 : decode cX6_areLike 27 = .ok (.if_icmp .ne 7, 3) := by decide +kernel
theorem dX6_areLike_30 : decode cX6_areLike 30 = .ok (.iconst 1, 1) := by decide +kernel
theorem dX6_areLike_31 : decode cX6_areLike 31 = .ok (.goto 4, 3) := by decide +kernel
theorem dX6_areLike_34 : decode cX6_areLike 34 = .ok (.iconst 0, 1) := by decide +kernel
theorem dX6_areLike_35 : decode cX6_areLike 35 = .ok (.ireturn, 1) := by decide +kernel
theorem dX6_isAt_0 : decode cX6_isAt 0 = .ok (.aload_n 0, 1) := by decide +kernel
theorem dX6_isAt_1 : decode cX6_isAt 1 = .ok (.getfield 15, 3) := by decide +kernel
theorem dX6_isAt_4 : decode cX6_isAt 4 = .ok (.iload_n 1, 1) := by decide +kernel
theorem dX6_isAt_5 : decode cX6_isAt 5 = .ok (.iaload, 1) := by decide +kernel
theorem dX6_isAt_6 : decode cX6_isAt 6 = .ok (.iload_n 2, 1) := by decide +kernel
theorem dX6_isAt_7 : decode cX6_isAt 7 = .ok (.if_icmp .ne 17, 3) := by decide +kernel
theorem dX6_isAt_10 : decode cX6_isAt 10 = .ok (.aload_n 0, 1) := by decide +kernel
theorem dX6_isAt_11 : decode cX6_isAt 11 = .ok (.getfield 18, 3) := by decide +kernel
theorem dX6_isAt_14 : decode cX6_isAt 14 = .ok (.iload_n 1, 1) := by decide +kernel
theorem dX6_isAt_15 : decode cX6_isAt 15 = .ok (.iaload, 1) := by decide +kernel
theorem dX6_isAt_16 : decode cX6_isAt 16 = .ok (.iload_n 3, 1) := by decide +kernel
theorem dX6_isAt_17 : decode cX6_isAt 17 = .ok (.if_icmp .ne 7, 3) := by decide +kernel
theorem dX6_isAt_20 : decode cX6_isAt 20 = .ok (.iconst 1, 1) := by decide +kernel
theorem dX6_isAt_21 : decode cX6_isAt 21 = .ok (.goto 4, 3) := by decide +kernel
theorem dX6_isAt_24 : decode cX6_isAt 24 = .ok (.iconst 0, 1) := by decide +kernel
theorem dX6_isAt_25 : decode cX6_isAt 25 = .ok (.ireturn, 1) := by decide +kernel
theorem dX6_isClosed_0 : decode cX6_isClosed 0 = .ok (.iload_n 2, 1) := by decide +kernel
theorem dX6_isClosed_1 : decode cX6_isClosed 1 = .ok (.ifCond .le 20, 3) := by decide +kernel
theorem dX6_isClosed_4 : decode cX6_isClosed 4 = .ok (.aload_n 0, 1) := by decide +kernel
theorem dX6_isClosed_5 : decode cX6_isClosed 5 = .ok (.iload_n 1, 1) := by decide +kernel
theorem dX6_isClosed_6 : decode cX6_isClosed 6 = .ok (.iload_n 1, 1) := by decide +kernel
theorem dX6_isClosed_7 : decode cX6_isClosed 7 = .ok (.iload_n 2, 1) := by decide +kernel
theorem dX6_isClosed_8 : decode cX6_isClosed 8 = .ok (.iadd, 1) := by decide +kernel
theorem dX6_isClosed_9 : decode cX6_isClosed 9 = .ok (.iconst 1, 1) := by decide +kernel
theorem dX6_isClosed_10 : decode cX6_isClosed 10 = .ok (.isub, 1) := by decide +kernel
theorem dX6_isClosed_11 : decode cX6_isClosed 11 = .ok (.invokevirtual 42, 3) := by decide +kernel
theorem dX6_isClosed_14 : decode cX6_isClosed 14 = .ok (.ifCond .eq 7, 3) := by decide +kernel
theorem dX6_isClosed_17 : decode cX6_isClosed 17 = .ok (.iconst 1, 1) := by decide +kernel
theorem dX6_isClosed_18 : decode cX6_isClosed 18 = .ok (.goto 4, 3) := by decide +kernel
theorem dX6_isClosed_21 : decode cX6_isClosed 21 = .ok (.iconst 0, 1) := by decide +kernel
theorem dX6_isClosed_22 : decode cX6_isClosed 22 = .ok (.ireturn, 1) := by decide +kernel
theorem dX8_meetsPixel_0 : decode cX8_meetsPixel 0 = .ok (.lload_n 0, 1) := by decide +kernel
theorem dX8_meetsPixel_1 : decode cX8_meetsPixel 1 = .ok (.lconst 0, 1) := by decide +kernel
theorem dX8_meetsPixel_2 : decode cX8_meetsPixel 2 = .ok (.lcmp, 1) := by decide +kernel
theorem dX8_meetsPixel_3 : decode cX8_meetsPixel 3 = .ok (.ifCond .eq 9, 3) := by decide +kernel
theorem dX8_meetsPixel_6 : decode cX8_meetsPixel 6 = .ok (.lload_n 2, 1) := by decide +kernel
theorem dX8_meetsPixel_7 : decode cX8_meetsPixel 7 = .ok (.lconst 0, 1) := by decide +kernel
theorem dX8_meetsPixel_8 : decode cX8_meetsPixel 8 = .ok (.lcmp, 1) := by decide +kernel
theorem dX8_meetsPixel_9 : decode cX8_meetsPixel 9 = .ok (.ifCond .ne 5, 3) := by decide +kernel
theorem dX8_meetsPixel_12 : decode cX8_meetsPixel 12 = .ok (.iconst 1, 1) := by decide +kernel
theorem dX8_meetsPixel_13 : decode cX8_meetsPixel 13 = .ok (.ireturn, 1) := by decide +kernel
theorem dX8_meetsPixel_14 : decode cX8_meetsPixel 14 = .ok (.lload_n 2, 1) := by decide +kernel
theorem dX8_meetsPixel_15 : decode cX8_meetsPixel 15 = .ok (.lconst 0, 1) := by decide +kernel
theorem dX8_meetsPixel_16 : decode cX8_meetsPixel 16 = .ok (.lcmp, 1) := by decide +kernel
theorem dX8_meetsPixel_17 : decode cX8_meetsPixel 17 = .ok (.ifCond .le 41, 3) := by decide +kernel
theorem dX8_meetsPixel_20 : decode cX8_meetsPixel 20 = .ok (.lload 4, 2) := by decide +kernel
theorem dX8_meetsPixel_22 : decode cX8_meetsPixel 22 = .ok (.lconst 1, 1) := by decide +kernel
theorem dX8_meetsPixel_23 : decode cX8_meetsPixel 23 = .ok (.lsub, 1) := by decide +kernel
theorem dX8_meetsPixel_24 : decode cX8_meetsPixel 24 = .ok (.lload_n 2, 1) := by decide +kernel
theorem dX8_meetsPixel_25 : decode cX8_meetsPixel 25 = .ok (.lmul, 1) := by decide +kernel
theorem dX8_meetsPixel_26 : decode cX8_meetsPixel 26 = .ok (.lload 6, 2) := by decide +kernel
theorem dX8_meetsPixel_28 : decode cX8_meetsPixel 28 = .ok (.lconst 1, 1) := by decide +kernel
theorem dX8_meetsPixel_29 : decode cX8_meetsPixel 29 = .ok (.ladd, 1) := by decide +kernel
theorem dX8_meetsPixel_30 : decode cX8_meetsPixel 30 = .ok (.lload_n 0, 1) := by decide +kernel
theorem dX8_meetsPixel_31 : decode cX8_meetsPixel 31 = .ok (.lmul, 1) := by decide +kernel
theorem dX8_meetsPixel_32 : decode cX8_meetsPixel 32 = .ok (.lcmp, 1) := by decide +kernel
theorem dX8_meetsPixel_33 : decode cX8_meetsPixel 33 = .ok (.ifCond .ge 23, 3) := by decide +kernel
theorem dX8_meetsPixel_36 : decode cX8_meetsPixel 36 = .ok (.lload 6, 2) := by decide +kernel
theorem dX8_meetsPixel_38 : decode cX8_meetsPixel 38 = .ok (.lconst 1, 1) := by decide +kernel
theorem dX8_meetsPixel_39 : decode cX8_meetsPixel 39 = .ok (.lsub, 1) := by decide +kernel
theorem dX8_meetsPixel_40 : decode cX8_meetsPixel 40 = .ok (.lload_n 0, 1) := by decide +kernel
theorem dX8_meetsPixel_41 : decode cX8_meetsPixel 41 = .ok (.lmul, 1) := by decide +kernel
theorem dX8_meetsPixel_42 : decode cX8_meetsPixel 42 = .ok (.lload 4, 2) := by decide +kernel
theorem dX8_meetsPixel_44 : decode cX8_meetsPixel 44 = .ok (.lconst 1, 1) := by decide +kernel
theorem dX8_meetsPixel_45 : decode cX8_meetsPixel 45 = .ok (.ladd, 1) := by decide +kernel
theorem dX8_meetsPixel_46 : decode cX8_meetsPixel 46 = .ok (.lload_n 2, 1) := by decide +kernel
theorem dX8_meetsPixel_47 : decode cX8_meetsPixel 47 = .ok (.lmul, 1) := by decide +kernel
theorem dX8_meetsPixel_48 : decode cX8_meetsPixel 48 = .ok (.lcmp, 1) := by decide +kernel
theorem dX8_meetsPixel_49 : decode cX8_meetsPixel 49 = .ok (.ifCond .ge 7, 3) := by decide +kernel
theorem dX8_meetsPixel_52 : decode cX8_meetsPixel 52 = .ok (.iconst 1, 1) := by decide +kernel
theorem dX8_meetsPixel_53 : decode cX8_meetsPixel 53 = .ok (.goto 4, 3) := by decide +kernel
theorem dX8_meetsPixel_56 : decode cX8_meetsPixel 56 = .ok (.iconst 0, 1) := by decide +kernel
theorem dX8_meetsPixel_57 : decode cX8_meetsPixel 57 = .ok (.ireturn, 1) := by decide +kernel
theorem dX8_meetsPixel_58 : decode cX8_meetsPixel 58 = .ok (.lload 4, 2) := by decide +kernel
theorem dX8_meetsPixel_60 : decode cX8_meetsPixel 60 = .ok (.lconst 1, 1) := by decide +kernel
theorem dX8_meetsPixel_61 : decode cX8_meetsPixel 61 = .ok (.lsub, 1) := by decide +kernel
theorem dX8_meetsPixel_62 : decode cX8_meetsPixel 62 = .ok (.lload_n 2, 1) := by decide +kernel
theorem dX8_meetsPixel_63 : decode cX8_meetsPixel 63 = .ok (.lmul, 1) := by decide +kernel
theorem dX8_meetsPixel_64 : decode cX8_meetsPixel 64 = .ok (.lload 6, 2) := by decide +kernel
theorem dX8_meetsPixel_66 : decode cX8_meetsPixel 66 = .ok (.lconst 1, 1) := by decide +kernel
theorem dX8_meetsPixel_67 : decode cX8_meetsPixel 67 = .ok (.lsub, 1) := by decide +kernel
theorem dX8_meetsPixel_68 : decode cX8_meetsPixel 68 = .ok (.lload_n 0, 1) := by decide +kernel
theorem dX8_meetsPixel_69 : decode cX8_meetsPixel 69 = .ok (.lmul, 1) := by decide +kernel
theorem dX8_meetsPixel_70 : decode cX8_meetsPixel 70 = .ok (.lcmp, 1) := by decide +kernel
theorem dX8_meetsPixel_71 : decode cX8_meetsPixel 71 = .ok (.ifCond .lt 23, 3) := by decide +kernel
theorem dX8_meetsPixel_74 : decode cX8_meetsPixel 74 = .ok (.lload 6, 2) := by decide +kernel
theorem dX8_meetsPixel_76 : decode cX8_meetsPixel 76 = .ok (.lconst 1, 1) := by decide +kernel
theorem dX8_meetsPixel_77 : decode cX8_meetsPixel 77 = .ok (.ladd, 1) := by decide +kernel
theorem dX8_meetsPixel_78 : decode cX8_meetsPixel 78 = .ok (.lload_n 0, 1) := by decide +kernel
theorem dX8_meetsPixel_79 : decode cX8_meetsPixel 79 = .ok (.lmul, 1) := by decide +kernel
theorem dX8_meetsPixel_80 : decode cX8_meetsPixel 80 = .ok (.lload 4, 2) := by decide +kernel
theorem dX8_meetsPixel_82 : decode cX8_meetsPixel 82 = .ok (.lconst 1, 1) := by decide +kernel
theorem dX8_meetsPixel_83 : decode cX8_meetsPixel 83 = .ok (.ladd, 1) := by decide +kernel
theorem dX8_meetsPixel_84 : decode cX8_meetsPixel 84 = .ok (.lload_n 2, 1) := by decide +kernel
theorem dX8_meetsPixel_85 : decode cX8_meetsPixel 85 = .ok (.lmul, 1) := by decide +kernel
theorem dX8_meetsPixel_86 : decode cX8_meetsPixel 86 = .ok (.lcmp, 1) := by decide +kernel
theorem dX8_meetsPixel_87 : decode cX8_meetsPixel 87 = .ok (.ifCond .le 7, 3) := by decide +kernel
theorem dX8_meetsPixel_90 : decode cX8_meetsPixel 90 = .ok (.iconst 1, 1) := by decide +kernel
theorem dX8_meetsPixel_91 : decode cX8_meetsPixel 91 = .ok (.goto 4, 3) := by decide +kernel
theorem dX8_meetsPixel_94 : decode cX8_meetsPixel 94 = .ok (.iconst 0, 1) := by decide +kernel
theorem dX8_meetsPixel_95 : decode cX8_meetsPixel 95 = .ok (.ireturn, 1) := by decide +kernel
theorem dX9_fail_0 : decode cX9_fail 0 = .ok (.aload_n 0, 1) := by decide +kernel
theorem dX9_fail_1 : decode cX9_fail 1 = .ok (.iload_n 1, 1) := by decide +kernel
theorem dX9_fail_2 : decode cX9_fail 2 = .ok (.putfield 53, 3) := by decide +kernel
theorem dX9_fail_5 : decode cX9_fail 5 = .ok (.aload_n 0, 1) := by decide +kernel
theorem dX9_fail_6 : decode cX9_fail 6 = .ok (.aload_n 0, 1) := by decide +kernel
theorem dX9_fail_7 : decode cX9_fail 7 = .ok (.getfield 44, 3) := by decide +kernel
theorem dX9_fail_10 : decode cX9_fail 10 = .ok (.putfield 56, 3) := by decide +kernel
theorem dX9_fail_13 : decode cX9_fail 13 = .ok (.iconst 0, 1) := by decide +kernel
theorem dX9_fail_14 : decode cX9_fail 14 = .ok (.ireturn, 1) := by decide +kernel
theorem dX9_signAt_0 : decode cX9_signAt 0 = .ok (.iload_n 1, 1) := by decide +kernel
theorem dX9_signAt_1 : decode cX9_signAt 1 = .ok (.ifCond .lt 24, 3) := by decide +kernel
theorem dX9_signAt_4 : decode cX9_signAt 4 = .ok (.iload_n 1, 1) := by decide +kernel
theorem dX9_signAt_5 : decode cX9_signAt 5 = .ok (.aload_n 0, 1) := by decide +kernel
theorem dX9_signAt_6 : decode cX9_signAt 6 = .ok (.getfield 41, 3) := by decide +kernel
theorem dX9_signAt_9 : decode cX9_signAt 9 = .ok (.if_icmp .ge 16, 3) := by decide +kernel
theorem dX9_signAt_12 : decode cX9_signAt 12 = .ok (.aload_n 0, 1) := by decide +kernel
theorem dX9_signAt_13 : decode cX9_signAt 13 = .ok (.getfield 22, 3) := by decide +kernel
theorem dX9_signAt_16 : decode cX9_signAt 16 = .ok (.iload_n 1, 1) := by decide +kernel
theorem dX9_signAt_17 : decode cX9_signAt 17 = .ok (.baload, 1) := by decide +kernel
theorem dX9_signAt_18 : decode cX9_signAt 18 = .ok (.sipush 255, 3) := by decide +kernel
theorem dX9_signAt_21 : decode cX9_signAt 21 = .ok (.iand, 1) := by decide +kernel
theorem dX9_signAt_22 : decode cX9_signAt 22 = .ok (.goto 4, 3) := by decide +kernel
theorem dX9_signAt_25 : decode cX9_signAt 25 = .ok (.iconst (-1), 1) := by decide +kernel
theorem dX9_signAt_26 : decode cX9_signAt 26 = .ok (.ireturn, 1) := by decide +kernel
theorem dX9_isBlank_0 : decode cX9_isBlank 0 = .ok (.iload_n 0, 1) := by decide +kernel
theorem dX9_isBlank_1 : decode cX9_isBlank 1 = .ok (.bipush 32, 2) := by decide +kernel
theorem dX9_isBlank_3 : decode cX9_isBlank 3 = .ok (.if_icmp .eq 21, 3) := by decide +kernel
theorem dX9_isBlank_6 : decode cX9_isBlank 6 = .ok (.iload_n 0, 1) := by decide +kernel
theorem dX9_isBlank_7 : decode cX9_isBlank 7 = .ok (.bipush 9, 2) := by decide +kernel
theorem dX9_isBlank_9 : decode cX9_isBlank 9 = .ok (.if_icmp .eq 15, 3) := by decide +kernel
theorem dX9_isBlank_12 : decode cX9_isBlank 12 = .ok (.iload_n 0, 1) := by decide +kernel
theorem dX9_isBlank_13 : decode cX9_isBlank 13 = .ok (.bipush 10, 2) := by decide +kernel
theorem dX9_isBlank_15 : decode cX9_isBlank 15 = .ok (.if_icmp .eq 9, 3) := by decide +kernel
theorem dX9_isBlank_18 : decode cX9_isBlank 18 = .ok (.iload_n 0, 1) := by decide +kernel
theorem dX9_isBlank_19 : decode cX9_isBlank 19 = .ok (.bipush 13, 2) := by decide +kernel
theorem dX9_isBlank_21 : decode cX9_isBlank 21 = .ok (.if_icmp .ne 7, 3) := by decide +kernel
theorem dX9_isBlank_24 : decode cX9_isBlank 24 = .ok (.iconst 1, 1) := by decide +kernel
theorem dX9_isBlank_25 : decode cX9_isBlank 25 = .ok (.goto 4, 3) := by decide +kernel
theorem dX9_isBlank_28 : decode cX9_isBlank 28 = .ok (.iconst 0, 1) := by decide +kernel
theorem dX9_isBlank_29 : decode cX9_isBlank 29 = .ok (.ireturn, 1) := by decide +kernel
theorem dX9_isLetter_0 : decode cX9_isLetter 0 = .ok (.iload_n 0, 1) := by decide +kernel
theorem dX9_isLetter_1 : decode cX9_isLetter 1 = .ok (.bipush 65, 2) := by decide +kernel
theorem dX9_isLetter_3 : decode cX9_isLetter 3 = .ok (.if_icmp .lt 9, 3) := by decide +kernel
theorem dX9_isLetter_6 : decode cX9_isLetter 6 = .ok (.iload_n 0, 1) := by decide +kernel
theorem dX9_isLetter_7 : decode cX9_isLetter 7 = .ok (.bipush 90, 2) := by decide +kernel
theorem dX9_isLetter_9 : decode cX9_isLetter 9 = .ok (.if_icmp .le 15, 3) := by decide +kernel
theorem dX9_isLetter_12 : decode cX9_isLetter 12 = .ok (.iload_n 0, 1) := by decide +kernel
theorem dX9_isLetter_13 : decode cX9_isLetter 13 = .ok (.bipush 97, 2) := by decide +kernel
theorem dX9_isLetter_15 : decode cX9_isLetter 15 = .ok (.if_icmp .lt 13, 3) := by decide +kernel
theorem dX9_isLetter_18 : decode cX9_isLetter 18 = .ok (.iload_n 0, 1) := by decide +kernel
theorem dX9_isLetter_19 : decode cX9_isLetter 19 = .ok (.bipush 122, 2) := by decide +kernel
theorem dX9_isLetter_21 : decode cX9_isLetter 21 = .ok (.if_icmp .gt 7, 3) := by decide +kernel
theorem dX9_isLetter_24 : decode cX9_isLetter 24 = .ok (.iconst 1, 1) := by decide +kernel
theorem dX9_isLetter_25 : decode cX9_isLetter 25 = .ok (.goto 4, 3) := by decide +kernel
theorem dX9_isLetter_28 : decode cX9_isLetter 28 = .ok (.iconst 0, 1) := by decide +kernel
theorem dX9_isLetter_29 : decode cX9_isLetter 29 = .ok (.ireturn, 1) := by decide +kernel
theorem dX9_isDigit_0 : decode cX9_isDigit 0 = .ok (.iload_n 0, 1) := by decide +kernel
theorem dX9_isDigit_1 : decode cX9_isDigit 1 = .ok (.bipush 48, 2) := by decide +kernel
theorem dX9_isDigit_3 : decode cX9_isDigit 3 = .ok (.if_icmp .lt 13, 3) := by decide +kernel
theorem dX9_isDigit_6 : decode cX9_isDigit 6 = .ok (.iload_n 0, 1) := by decide +kernel
theorem dX9_isDigit_7 : decode cX9_isDigit 7 = .ok (.bipush 57, 2) := by decide +kernel
theorem dX9_isDigit_9 : decode cX9_isDigit 9 = .ok (.if_icmp .gt 7, 3) := by decide +kernel
theorem dX9_isDigit_12 : decode cX9_isDigit 12 = .ok (.iconst 1, 1) := by decide +kernel
theorem dX9_isDigit_13 : decode cX9_isDigit 13 = .ok (.goto 4, 3) := by decide +kernel
theorem dX9_isDigit_16 : decode cX9_isDigit 16 = .ok (.iconst 0, 1) := by decide +kernel
theorem dX9_isDigit_17 : decode cX9_isDigit 17 = .ok (.ireturn, 1) := by decide +kernel
theorem dX9_beginsNumber_0 : decode cX9_beginsNumber 0 = .ok (.iload_n 0, 1) := by decide +kernel
theorem dX9_beginsNumber_1 : decode cX9_beginsNumber 1 = .ok (.bipush 48, 2) := by decide +kernel
theorem dX9_beginsNumber_3 : decode cX9_beginsNumber 3 = .ok (.if_icmp .lt 9, 3) := by decide +kernel
theorem dX9_beginsNumber_6 : decode cX9_beginsNumber 6 = .ok (.iload_n 0, 1) := by decide +kernel
theorem dX9_beginsNumber_7 : decode cX9_beginsNumber 7 = .ok (.bipush 57, 2) := by decide +kernel
theorem dX9_beginsNumber_9 : decode cX9_beginsNumber 9 = .ok (.if_icmp .le 21, 3) := by decide +kernel
theorem dX9_beginsNumber_12 : decode cX9_beginsNumber 12 = .ok (.iload_n 0, 1) := by decide +kernel
theorem dX9_beginsNumber_13 : decode cX9_beginsNumber 13 = .ok (.bipush 43, 2) := by decide +kernel
theorem dX9_beginsNumber_15 : decode cX9_beginsNumber 15 = .ok (.if_icmp .eq 15, 3) := by decide +kernel
theorem dX9_beginsNumber_18 : decode cX9_beginsNumber 18 = .ok (.iload_n 0, 1) := by decide +kernel
theorem dX9_beginsNumber_19 : decode cX9_beginsNumber 19 = .ok (.bipush 45, 2) := by decide +kernel
theorem dX9_beginsNumber_21 : decode cX9_beginsNumber 21 = .ok (.if_icmp .eq 9, 3) := by decide +kernel
theorem dX9_beginsNumber_24 : decode cX9_beginsNumber 24 = .ok (.iload_n 0, 1) := by decide +kernel
theorem dX9_beginsNumber_25 : decode cX9_beginsNumber 25 = .ok (.bipush 46, 2) := by decide +kernel
theorem dX9_beginsNumber_27 : decode cX9_beginsNumber 27 = .ok (.if_icmp .ne 7, 3) := by decide +kernel
theorem dX9_beginsNumber_30 : decode cX9_beginsNumber 30 = .ok (.iconst 1, 1) := by decide +kernel
theorem dX9_beginsNumber_31 : decode cX9_beginsNumber 31 = .ok (.goto 4, 3) := by decide +kernel
theorem dX9_beginsNumber_34 : decode cX9_beginsNumber 34 = .ok (.iconst 0, 1) := by decide +kernel
theorem dX9_beginsNumber_35 : decode cX9_beginsNumber 35 = .ok (.ireturn, 1) := by decide +kernel
theorem dX9_isSign_0 : decode cX9_isSign 0 = .ok (.iload_n 0, 1) := by decide +kernel
theorem dX9_isSign_1 : decode cX9_isSign 1 = .ok (.bipush 43, 2) := by decide +kernel
theorem dX9_isSign_3 : decode cX9_isSign 3 = .ok (.if_icmp .eq 9, 3) := by decide +kernel
theorem dX9_isSign_6 : decode cX9_isSign 6 = .ok (.iload_n 0, 1) := by decide +kernel
theorem dX9_isSign_7 : decode cX9_isSign 7 = .ok (.bipush 45, 2) := by decide +kernel
theorem dX9_isSign_9 : decode cX9_isSign 9 = .ok (.if_icmp .ne 7, 3) := by decide +kernel
theorem dX9_isSign_12 : decode cX9_isSign 12 = .ok (.iconst 1, 1) := by decide +kernel
theorem dX9_isSign_13 : decode cX9_isSign 13 = .ok (.goto 4, 3) := by decide +kernel
theorem dX9_isSign_16 : decode cX9_isSign 16 = .ok (.iconst 0, 1) := by decide +kernel
theorem dX9_isSign_17 : decode cX9_isSign 17 = .ok (.ireturn, 1) := by decide +kernel
theorem dX10_put_0 : decode cX10_put 0 = .ok (.aload_n 0, 1) := by decide +kernel
theorem dX10_put_1 : decode cX10_put 1 = .ok (.getfield 41, 3) := by decide +kernel
theorem dX10_put_4 : decode cX10_put 4 = .ok (.ldc 18, 2) := by decide +kernel
theorem dX10_put_6 : decode cX10_put 6 = .ok (.if_icmp .ge 24, 3) := by decide +kernel
theorem dX10_put_9 : decode cX10_put 9 = .ok (.aload_n 0, 1) := by decide +kernel
theorem dX10_put_10 : decode cX10_put 10 = .ok (.getfield 19, 3) := by decide +kernel
theorem dX10_put_13 : decode cX10_put 13 = .ok (.aload_n 0, 1) := by decide +kernel
theorem dX10_put_14 : decode cX10_put 14 = .ok (.getfield 41, 3) := by decide +kernel
theorem dX10_put_17 : decode cX10_put 17 = .ok (.iload_n 1, 1) := by decide +kernel
theorem dX10_put_18 : decode cX10_put 18 = .ok (.i2b, 1) := by decide +kernel
theorem dX10_put_19 : decode cX10_put 19 = .ok (.bastore, 1) := by decide +kernel
theorem dX10_put_20 : decode cX10_put 20 = .ok (.aload_n 0, 1) := by decide +kernel
theorem dX10_put_21 : decode cX10_put 21 = .ok (.dup, 1) := by decide +kernel
theorem dX10_put_22 : decode cX10_put 22 = .ok (.getfield 41, 3) := by decide +kernel
theorem dX10_put_25 : decode cX10_put 25 = .ok (.iconst 1, 1) := by decide +kernel
theorem dX10_put_26 : decode cX10_put 26 = .ok (.iadd, 1) := by decide +kernel
theorem dX10_put_27 : decode cX10_put 27 = .ok (.putfield 41, 3) := by decide +kernel
theorem dX10_put_30 : decode cX10_put 30 = .ok (.return_, 1) := by decide +kernel
theorem dX11_isBeyond_0 : decode cX11_isBeyond 0 = .ok (.iload_n 0, 1) := by decide +kernel
theorem dX11_isBeyond_1 : decode cX11_isBeyond 1 = .ok (.iload_n 1, 1) := by decide +kernel
theorem dX11_isBeyond_2 : decode cX11_isBeyond 2 = .ok (.ineg, 1) := by decide +kernel
theorem dX11_isBeyond_3 : decode cX11_isBeyond 3 = .ok (.if_icmp .lt 8, 3) := by decide +kernel
theorem dX11_isBeyond_6 : decode cX11_isBeyond 6 = .ok (.iload_n 0, 1) := by decide +kernel
theorem dX11_isBeyond_7 : decode cX11_isBeyond 7 = .ok (.iload_n 1, 1) := by decide +kernel
theorem dX11_isBeyond_8 : decode cX11_isBeyond 8 = .ok (.if_icmp .le 7, 3) := by decide +kernel
theorem dX11_isBeyond_11 : decode cX11_isBeyond 11 = .ok (.iconst 1, 1) := by decide +kernel
theorem dX11_isBeyond_12 : decode cX11_isBeyond 12 = .ok (.goto 4, 3) := by decide +kernel
theorem dX11_isBeyond_15 : decode cX11_isBeyond 15 = .ok (.iconst 0, 1) := by decide +kernel
theorem dX11_isBeyond_16 : decode cX11_isBeyond 16 = .ok (.ireturn, 1) := by decide +kernel
theorem dX11_distanceFromBox_0 : decode cX11_distanceFromBox 0 = .ok (.lconst 0, 1) := by decide +kernel
theorem dX11_distanceFromBox_1 : decode cX11_distanceFromBox 1 = .ok (.aload_n 0, 1) := by decide +kernel
theorem dX11_distanceFromBox_2 : decode cX11_distanceFromBox 2 = .ok (.getfield 94, 3) := by decide +kernel
theorem dX11_distanceFromBox_5 : decode cX11_distanceFromBox 5 = .ok (.iconst 0, 1) := by decide +kernel
theorem dX11_distanceFromBox_6 : decode cX11_distanceFromBox 6 = .ok (.iaload, 1) := by decide +kernel
theorem dX11_distanceFromBox_7 : decode cX11_distanceFromBox 7 = .ok (.i2l, 1) := by decide +kernel
theorem dX11_distanceFromBox_8 : decode cX11_distanceFromBox 8 = .ok (.iload_n 1, 1) := by decide +kernel
theorem dX11_distanceFromBox_9 : decode cX11_distanceFromBox 9 = .ok (.i2l, 1) := by decide +kernel
theorem dX11_distanceFromBox_10 : decode cX11_distanceFromBox 10 = .ok (.lsub, 1) := by decide +kernel
theorem dX11_distanceFromBox_11 : decode cX11_distanceFromBox 11 = .ok (.iload_n 1, 1) := by decide +kernel
theorem dX11_distanceFromBox_12 : decode cX11_distanceFromBox 12 = .ok (.i2l, 1) := by decide +kernel
theorem dX11_distanceFromBox_13 : decode cX11_distanceFromBox 13 = .ok (.aload_n 0, 1) := by decide +kernel
theorem dX11_distanceFromBox_14 : decode cX11_distanceFromBox 14 = .ok (.getfield 94, 3) := by decide +kernel
theorem dX11_distanceFromBox_17 : decode cX11_distanceFromBox 17 = .ok (.iconst 2, 1) := by decide +kernel
theorem dX11_distanceFromBox_18 : decode cX11_distanceFromBox 18 = .ok (.iaload, 1) := by decide +kernel
theorem dX11_distanceFromBox_19 : decode cX11_distanceFromBox 19 = .ok (.i2l, 1) := by decide +kernel
theorem dX11_distanceFromBox_20 : decode cX11_distanceFromBox 20 = .ok (.lsub, 1) := by decide +kernel
theorem dX11_distanceFromBox_21 : decode cX11_distanceFromBox 21 = .ok (.invokestatic 321, 3) := by decide +kernel
theorem dX11_distanceFromBox_24 : decode cX11_distanceFromBox 24 = .ok (.invokestatic 321, 3) := by decide +kernel
theorem dX11_distanceFromBox_27 : decode cX11_distanceFromBox 27 = .ok (.lstore_n 3, 1) := by decide +kernel
theorem dX11_distanceFromBox_28 : decode cX11_distanceFromBox 28 = .ok (.lconst 0, 1) := by decide +kernel
theorem dX11_distanceFromBox_29 : decode cX11_distanceFromBox 29 = .ok (.aload_n 0, 1) := by decide +kernel
theorem dX11_distanceFromBox_30 : decode cX11_distanceFromBox 30 = .ok (.getfield 94, 3) := by decide +kernel
theorem dX11_distanceFromBox_33 : decode cX11_distanceFromBox 33 = .ok (.iconst 1, 1) := by decide +kernel
theorem dX11_distanceFromBox_34 : decode cX11_distanceFromBox 34 = .ok (.iaload, 1) := by decide +kernel
theorem dX11_distanceFromBox_35 : decode cX11_distanceFromBox 35 = .ok (.i2l, 1) := by decide +kernel
theorem dX11_distanceFromBox_36 : decode cX11_distanceFromBox 36 = .ok (.iload_n 2, 1) := by decide +kernel
theorem dX11_distanceFromBox_37 : decode cX11_distanceFromBox 37 = .ok (.i2l, 1) := by decide +kernel
theorem dX11_distanceFromBox_38 : decode cX11_distanceFromBox 38 = .ok (.lsub, 1) := by decide +kernel
theorem dX11_distanceFromBox_39 : decode cX11_distanceFromBox 39 = .ok (.iload_n 2, 1) := by decide +kernel
theorem dX11_distanceFromBox_40 : decode cX11_distanceFromBox 40 = .ok (.i2l, 1) := by decide +kernel
theorem dX11_distanceFromBox_41 : decode cX11_distanceFromBox 41 = .ok (.aload_n 0, 1) := by decide +kernel
theorem dX11_distanceFromBox_42 : decode cX11_distanceFromBox 42 = .ok (.getfield 94, 3) := by decide +kernel
theorem dX11_distanceFromBox_45 : decode cX11_distanceFromBox 45 = .ok (.iconst 3, 1) := by decide +kernel
theorem dX11_distanceFromBox_46 : decode cX11_distanceFromBox 46 = .ok (.iaload, 1) := by decide +kernel
theorem dX11_distanceFromBox_47 : decode cX11_distanceFromBox 47 = .ok (.i2l, 1) := by decide +kernel
theorem dX11_distanceFromBox_48 : decode cX11_distanceFromBox 48 = .ok (.lsub, 1) := by decide +kernel
theorem dX11_distanceFromBox_49 : decode cX11_distanceFromBox 49 = .ok (.invokestatic 321, 3) := by decide +kernel
theorem dX11_distanceFromBox_52 : decode cX11_distanceFromBox 52 = .ok (.invokestatic 321, 3) := by decide +kernel
theorem dX11_distanceFromBox_55 : decode cX11_distanceFromBox 55 = .ok (.lstore 5, 2) := by decide +kernel
theorem dX11_distanceFromBox_57 : decode cX11_distanceFromBox 57 = .ok (.lload_n 3, 1) := by decide +kernel
theorem dX11_distanceFromBox_58 : decode cX11_distanceFromBox 58 = .ok (.lload_n 3, 1) := by decide +kernel
theorem dX11_distanceFromBox_59 : decode cX11_distanceFromBox 59 = .ok (.lmul, 1) := by decide +kernel
theorem dX11_distanceFromBox_60 : decode cX11_distanceFromBox 60 = .ok (.lload 5, 2) := by decide +kernel
theorem dX11_distanceFromBox_62 : decode cX11_distanceFromBox 62 = .ok (.lload 5, 2) := by decide +kernel
theorem dX11_distanceFromBox_64 : decode cX11_distanceFromBox 64 = .ok (.lmul, 1) := by decide +kernel
theorem dX11_distanceFromBox_65 : decode cX11_distanceFromBox 65 = .ok (.ladd, 1) := by decide +kernel
theorem dX11_distanceFromBox_66 : decode cX11_distanceFromBox 66 = .ok (.lreturn, 1) := by decide +kernel
theorem dX11_isNoSignPoint_0 : decode cX11_isNoSignPoint 0 = .ok (.iload_n 0, 1) := by decide +kernel
theorem dX11_isNoSignPoint_1 : decode cX11_isNoSignPoint 1 = .ok (.ifCond .lt 9, 3) := by decide +kernel
theorem dX11_isNoSignPoint_4 : decode cX11_isNoSignPoint 4 = .ok (.iload_n 0, 1) := by decide +kernel
theorem dX11_isNoSignPoint_5 : decode cX11_isNoSignPoint 5 = .ok (.bipush 32, 2) := by decide +kernel
theorem dX11_isNoSignPoint_7 : decode cX11_isNoSignPoint 7 = .ok (.if_icmp .lt 7, 3) := by decide +kernel
theorem dX11_isNoSignPoint_10 : decode cX11_isNoSignPoint 10 = .ok (.iconst 1, 1) := by decide +kernel
theorem dX11_isNoSignPoint_11 : decode cX11_isNoSignPoint 11 = .ok (.goto 4, 3) := by decide +kernel
theorem dX11_isNoSignPoint_14 : decode cX11_isNoSignPoint 14 = .ok (.iconst 0, 1) := by decide +kernel
theorem dX11_isNoSignPoint_15 : decode cX11_isNoSignPoint 15 = .ok (.ireturn, 1) := by decide +kernel
theorem dX11_isNoNumber_0 : decode cX11_isNoNumber 0 = .ok (.lload_n 0, 1) := by decide +kernel
theorem dX11_isNoNumber_1 : decode cX11_isNoNumber 1 = .ok (.bipush 52, 2) := by decide +kernel
theorem dX11_isNoNumber_3 : decode cX11_isNoNumber 3 = .ok (.lushr, 1) := by decide +kernel
theorem dX11_isNoNumber_4 : decode cX11_isNoNumber 4 = .ok (.ldc2_w 336, 3) := by decide +kernel
theorem dX11_isNoNumber_7 : decode cX11_isNoNumber 7 = .ok (.land, 1) := by decide +kernel
theorem dX11_isNoNumber_8 : decode cX11_isNoNumber 8 = .ok (.ldc2_w 336, 3) := by decide +kernel
theorem dX11_isNoNumber_11 : decode cX11_isNoNumber 11 = .ok (.lcmp, 1) := by decide +kernel
theorem dX11_isNoNumber_12 : decode cX11_isNoNumber 12 = .ok (.ifCond .ne 7, 3) := by decide +kernel
theorem dX11_isNoNumber_15 : decode cX11_isNoNumber 15 = .ok (.iconst 1, 1) := by decide +kernel
theorem dX11_isNoNumber_16 : decode cX11_isNoNumber 16 = .ok (.goto 4, 3) := by decide +kernel
theorem dX11_isNoNumber_19 : decode cX11_isNoNumber 19 = .ok (.iconst 0, 1) := by decide +kernel
theorem dX11_isNoNumber_20 : decode cX11_isNoNumber 20 = .ok (.ireturn, 1) := by decide +kernel
theorem dX11_carryOf_0 : decode cX11_carryOf 0 = .ok (.lload_n 0, 1) := by decide +kernel
theorem dX11_carryOf_1 : decode cX11_carryOf 1 = .ok (.ldc2_w 364, 3) := by decide +kernel
theorem dX11_carryOf_4 : decode cX11_carryOf 4 = .ok (.ladd, 1) := by decide +kernel
theorem dX11_carryOf_5 : decode cX11_carryOf 5 = .ok (.lload_n 2, 1) := by decide +kernel
theorem dX11_carryOf_6 : decode cX11_carryOf 6 = .ok (.ldc2_w 364, 3) := by decide +kernel
theorem dX11_carryOf_9 : decode cX11_carryOf 9 = .ok (.ladd, 1) := by decide +kernel
theorem dX11_carryOf_10 : decode cX11_carryOf 10 = .ok (.lcmp, 1) := by decide +kernel
theorem dX11_carryOf_11 : decode cX11_carryOf 11 = .ok (.ifCond .ge 7, 3) := by decide +kernel
theorem dX11_carryOf_14 : decode cX11_carryOf 14 = .ok (.iconst 1, 1) := by decide +kernel
theorem dX11_carryOf_15 : decode cX11_carryOf 15 = .ok (.goto 4, 3) := by decide +kernel
theorem dX11_carryOf_18 : decode cX11_carryOf 18 = .ok (.iconst 0, 1) := by decide +kernel
theorem dX11_carryOf_19 : decode cX11_carryOf 19 = .ok (.ireturn, 1) := by decide +kernel
theorem dX11_highOf_0 : decode cX11_highOf 0 = .ok (.ldc2_w 366, 3) := by decide +kernel
theorem dX11_highOf_3 : decode cX11_highOf 3 = .ok (.lstore 4, 2) := by decide +kernel
theorem dX11_highOf_5 : decode cX11_highOf 5 = .ok (.lload_n 0, 1) := by decide +kernel
theorem dX11_highOf_6 : decode cX11_highOf 6 = .ok (.lload 4, 2) := by decide +kernel
theorem dX11_highOf_8 : decode cX11_highOf 8 = .ok (.land, 1) := by decide +kernel
theorem dX11_highOf_9 : decode cX11_highOf 9 = .ok (.lstore 6, 2) := by decide +kernel
theorem dX11_highOf_11 : decode cX11_highOf 11 = .ok (.lload_n 0, 1) := by decide +kernel
theorem dX11_highOf_12 : decode cX11_highOf 12 = .ok (.bipush 32, 2) := by decide +kernel
theorem dX11_highOf_14 : decode cX11_highOf 14 = .ok (.lshr, 1) := by decide +kernel
theorem dX11_highOf_15 : decode cX11_highOf 15 = .ok (.lstore 8, 2) := by decide +kernel
theorem dX11_highOf_17 : decode cX11_highOf 17 = .ok (.lload_n 2, 1) := by decide +kernel
theorem dX11_highOf_18 : decode cX11_highOf 18 = .ok (.lload 4, 2) := by decide +kernel
theorem dX11_highOf_20 : decode cX11_highOf 20 = .ok (.land, 1) := by decide +kernel
theorem dX11_highOf_21 : decode cX11_highOf 21 = .ok (.lstore 10, 2) := by decide +kernel
theorem dX11_highOf_23 : decode cX11_highOf 23 = .ok (.lload_n 2, 1) := by decide +kernel
theorem dX11_highOf_24 : decode cX11_highOf 24 = .ok (.bipush 32, 2) := by decide +kernel
theorem dX11_highOf_26 : decode cX11_highOf 26 = .ok (.lshr, 1) := by decide +kernel
theorem dX11_highOf_27 : decode cX11_highOf 27 = .ok (.lstore 12, 2) := by decide +kernel
theorem dX11_highOf_29 : decode cX11_highOf 29 = .ok (.lload 8, 2) := by decide +kernel
theorem dX11_highOf_31 : decode cX11_highOf 31 = .ok (.lload 10, 2) := by decide +kernel
theorem dX11_highOf_33 : decode cX11_highOf 33 = .ok (.lmul, 1) := by decide +kernel
theorem dX11_highOf_34 : decode cX11_highOf 34 = .ok (.lload 6, 2) := by decide +kernel
theorem dX11_highOf_36 : decode cX11_highOf 36 = .ok (.lload 10, 2) := by decide +kernel
theorem dX11_highOf_38 : decode cX11_highOf 38 = .ok (.lmul, 1) := by decide +kernel
theorem dX11_highOf_39 : decode cX11_highOf 39 = .ok (.bipush 32, 2) := by decide +kernel
theorem dX11_highOf_41 : decode cX11_highOf 41 = .ok (.lushr, 1) := by decide +kernel
theorem dX11_highOf_42 : decode cX11_highOf 42 = .ok (.ladd, 1) := by decide +kernel
theorem dX11_highOf_43 : decode cX11_highOf 43 = .ok (.lstore 14, 2) := by decide +kernel
theorem dX11_highOf_45 : decode cX11_highOf 45 = .ok (.lload 6, 2) := by decide +kernel
theorem dX11_highOf_47 : decode cX11_highOf 47 = .ok (.lload 12, 2) := by decide +kernel
theorem dX11_highOf_49 : decode cX11_highOf 49 = .ok (.lmul, 1) := by decide +kernel
theorem dX11_highOf_50 : decode cX11_highOf 50 = .ok (.lload 14, 2) := by decide +kernel
theorem dX11_highOf_52 : decode cX11_highOf 52 = .ok (.lload 4, 2) := by decide +kernel
theorem dX11_highOf_54 : decode cX11_highOf 54 = .ok (.land, 1) := by decide +kernel
theorem dX11_highOf_55 : decode cX11_highOf 55 = .ok (.ladd, 1) := by decide +kernel
theorem dX11_highOf_56 : decode cX11_highOf 56 = .ok (.lstore 16, 2) := by decide +kernel
theorem dX11_highOf_58 : decode cX11_highOf 58 = .ok (.lload 8, 2) := by decide +kernel
theorem dX11_highOf_60 : decode cX11_highOf 60 = .ok (.lload 12, 2) := by decide +kernel
theorem dX11_highOf_62 : decode cX11_highOf 62 = .ok (.lmul, 1) := by decide +kernel
theorem dX11_highOf_63 : decode cX11_highOf 63 = .ok (.lload 14, 2) := by decide +kernel
theorem dX11_highOf_65 : decode cX11_highOf 65 = .ok (.bipush 32, 2) := by decide +kernel
theorem dX11_highOf_67 : decode cX11_highOf 67 = .ok (.lshr, 1) := by decide +kernel
theorem dX11_highOf_68 : decode cX11_highOf 68 = .ok (.ladd, 1) := by decide +kernel
theorem dX11_highOf_69 : decode cX11_highOf 69 = .ok (.lload 16, 2) := by decide +kernel
theorem dX11_highOf_71 : decode cX11_highOf 71 = .ok (.bipush 32, 2) := by decide +kernel
theorem dX11_highOf_73 : decode cX11_highOf 73 = .ok (.lshr, 1) := by decide +kernel
theorem dX11_highOf_74 : decode cX11_highOf 74 = .ok (.ladd, 1) := by decide +kernel
theorem dX11_highOf_75 : decode cX11_highOf 75 = .ok (.lreturn, 1) := by decide +kernel
theorem dX11_keyOf_0 : decode cX11_keyOf 0 = .ok (.iload_n 0, 1) := by decide +kernel
theorem dX11_keyOf_1 : decode cX11_keyOf 1 = .ok (.i2l, 1) := by decide +kernel
theorem dX11_keyOf_2 : decode cX11_keyOf 2 = .ok (.bipush 32, 2) := by decide +kernel
theorem dX11_keyOf_4 : decode cX11_keyOf 4 = .ok (.lshl, 1) := by decide +kernel
theorem dX11_keyOf_5 : decode cX11_keyOf 5 = .ok (.iload_n 1, 1) := by decide +kernel
theorem dX11_keyOf_6 : decode cX11_keyOf 6 = .ok (.ldc_w 370, 3) := by decide +kernel
theorem dX11_keyOf_9 : decode cX11_keyOf 9 = .ok (.ixor, 1) := by decide +kernel
theorem dX11_keyOf_10 : decode cX11_keyOf 10 = .ok (.i2l, 1) := by decide +kernel
theorem dX11_keyOf_11 : decode cX11_keyOf 11 = .ok (.ldc2_w 366, 3) := by decide +kernel
theorem dX11_keyOf_14 : decode cX11_keyOf 14 = .ok (.land, 1) := by decide +kernel
theorem dX11_keyOf_15 : decode cX11_keyOf 15 = .ok (.lor, 1) := by decide +kernel
theorem dX11_keyOf_16 : decode cX11_keyOf 16 = .ok (.lreturn, 1) := by decide +kernel
theorem dX11_keyX_0 : decode cX11_keyX 0 = .ok (.lload_n 0, 1) := by decide +kernel
theorem dX11_keyX_1 : decode cX11_keyX 1 = .ok (.bipush 32, 2) := by decide +kernel
theorem dX11_keyX_3 : decode cX11_keyX 3 = .ok (.lshr, 1) := by decide +kernel
theorem dX11_keyX_4 : decode cX11_keyX 4 = .ok (.l2i, 1) := by decide +kernel
theorem dX11_keyX_5 : decode cX11_keyX 5 = .ok (.ireturn, 1) := by decide +kernel
theorem dX11_keyY_0 : decode cX11_keyY 0 = .ok (.lload_n 0, 1) := by decide +kernel
theorem dX11_keyY_1 : decode cX11_keyY 1 = .ok (.l2i, 1) := by decide +kernel
theorem dX11_keyY_2 : decode cX11_keyY 2 = .ok (.ldc_w 370, 3) := by decide +kernel
theorem dX11_keyY_5 : decode cX11_keyY 5 = .ok (.ixor, 1) := by decide +kernel
theorem dX11_keyY_6 : decode cX11_keyY 6 = .ok (.ireturn, 1) := by decide +kernel
theorem dX12_thrown_0 : decode cX12_thrown 0 = .ok (.aload_n 0, 1) := by decide +kernel
theorem dX12_thrown_1 : decode cX12_thrown 1 = .ok (.getfield 271, 3) := by decide +kernel
theorem dX12_thrown_4 : decode cX12_thrown 4 = .ok (.ireturn, 1) := by decide +kernel
theorem dX12_fails_0 : decode cX12_fails 0 = .ok (.aload_n 0, 1) := by decide +kernel
theorem dX12_fails_1 : decode cX12_fails 1 = .ok (.iload_n 1, 1) := by decide +kernel
theorem dX12_fails_2 : decode cX12_fails 2 = .ok (.ifCond .eq 14, 3) := by decide +kernel
theorem dX12_fails_5 : decode cX12_fails 5 = .ok (.aload_n 0, 1) := by decide +kernel
theorem dX12_fails_6 : decode cX12_fails 6 = .ok (.getfield 271, 3) := by decide +kernel
theorem dX12_fails_9 : decode cX12_fails 9 = .ok (.ifCond .ne 7, 3) := by decide +kernel
theorem dX12_fails_12 : decode cX12_fails 12 = .ok (.iload_n 2, 1) := by decide +kernel
theorem dX12_fails_13 : decode cX12_fails 13 = .ok (.goto 7, 3) := by decide +kernel
theorem dX12_fails_16 : decode cX12_fails 16 = .ok (.aload_n 0, 1) := by decide +kernel
theorem dX12_fails_17 : decode cX12_fails 17 = .ok (.getfield 271, 3) := by decide +kernel
theorem dX12_fails_20 : decode cX12_fails 20 = .ok (.putfield 271, 3) := by decide +kernel
theorem dX12_fails_23 : decode cX12_fails 23 = .ok (.aload_n 0, 1) := by decide +kernel
theorem dX12_fails_24 : decode cX12_fails 24 = .ok (.getfield 271, 3) := by decide +kernel
theorem dX12_fails_27 : decode cX12_fails 27 = .ok (.ifCond .eq 7, 3) := by decide +kernel
theorem dX12_fails_30 : decode cX12_fails 30 = .ok (.iconst 1, 1) := by decide +kernel
theorem dX12_fails_31 : decode cX12_fails 31 = .ok (.goto 4, 3) := by decide +kernel
theorem dX12_fails_34 : decode cX12_fails 34 = .ok (.iconst 0, 1) := by decide +kernel
theorem dX12_fails_35 : decode cX12_fails 35 = .ok (.ireturn, 1) := by decide +kernel
theorem dX12_in_0 : decode cX12_in 0 = .ok (.lload_n 0, 1) := by decide +kernel
theorem dX12_in_1 : decode cX12_in 1 = .ok (.lload_n 2, 1) := by decide +kernel
theorem dX12_in_2 : decode cX12_in 2 = .ok (.lcmp, 1) := by decide +kernel
theorem dX12_in_3 : decode cX12_in 3 = .ok (.ifCond .lt 14, 3) := by decide +kernel
theorem dX12_in_6 : decode cX12_in 6 = .ok (.lload_n 0, 1) := by decide +kernel
theorem dX12_in_7 : decode cX12_in 7 = .ok (.lload 4, 2) := by decide +kernel
theorem dX12_in_9 : decode cX12_in 9 = .ok (.lcmp, 1) := by decide +kernel
theorem dX12_in_10 : decode cX12_in 10 = .ok (.ifCond .gt 7, 3) := by decide +kernel
theorem dX12_in_13 : decode cX12_in 13 = .ok (.iconst 1, 1) := by decide +kernel
theorem dX12_in_14 : decode cX12_in 14 = .ok (.goto 4, 3) := by decide +kernel
theorem dX12_in_17 : decode cX12_in 17 = .ok (.iconst 0, 1) := by decide +kernel
theorem dX12_in_18 : decode cX12_in 18 = .ok (.ireturn, 1) := by decide +kernel
theorem dX12_isSlot_0 : decode cX12_isSlot 0 = .ok (.iload_n 0, 1) := by decide +kernel
theorem dX12_isSlot_1 : decode cX12_isSlot 1 = .ok (.ifCond .lt 13, 3) := by decide +kernel
theorem dX12_isSlot_4 : decode cX12_isSlot 4 = .ok (.iload_n 0, 1) := by decide +kernel
theorem dX12_isSlot_5 : decode cX12_isSlot 5 = .ok (.bipush 32, 2) := by decide +kernel
theorem dX12_isSlot_7 : decode cX12_isSlot 7 = .ok (.if_icmp .ge 7, 3) := by decide +kernel
theorem dX12_isSlot_10 : decode cX12_isSlot 10 = .ok (.iconst 1, 1) := by decide +kernel
theorem dX12_isSlot_11 : decode cX12_isSlot 11 = .ok (.goto 4, 3) := by decide +kernel
theorem dX12_isSlot_14 : decode cX12_isSlot 14 = .ok (.iconst 0, 1) := by decide +kernel
theorem dX12_isSlot_15 : decode cX12_isSlot 15 = .ok (.ireturn, 1) := by decide +kernel
theorem dX12_has_0 : decode cX12_has 0 = .ok (.aload_n 0, 1) := by decide +kernel
theorem dX12_has_1 : decode cX12_has 1 = .ok (.getfield 18, 3) := by decide +kernel
theorem dX12_has_4 : decode cX12_has 4 = .ok (.iload_n 1, 1) := by decide +kernel
theorem dX12_has_5 : decode cX12_has 5 = .ok (.iaload, 1) := by decide +kernel
theorem dX12_has_6 : decode cX12_has 6 = .ok (.ifCond .le 7, 3) := by decide +kernel
theorem dX12_has_9 : decode cX12_has 9 = .ok (.iconst 1, 1) := by decide +kernel
theorem dX12_has_10 : decode cX12_has 10 = .ok (.goto 4, 3) := by decide +kernel
theorem dX12_has_13 : decode cX12_has 13 = .ok (.iconst 0, 1) := by decide +kernel
theorem dX12_has_14 : decode cX12_has 14 = .ok (.ireturn, 1) := by decide +kernel
theorem dX12_clear_0 : decode cX12_clear 0 = .ok (.aload_n 0, 1) := by decide +kernel
theorem dX12_clear_1 : decode cX12_clear 1 = .ok (.getfield 18, 3) := by decide +kernel
theorem dX12_clear_4 : decode cX12_clear 4 = .ok (.iload_n 1, 1) := by decide +kernel
theorem dX12_clear_5 : decode cX12_clear 5 = .ok (.iconst 0, 1) := by decide +kernel
theorem dX12_clear_6 : decode cX12_clear 6 = .ok (.iastore, 1) := by decide +kernel
theorem dX12_clear_7 : decode cX12_clear 7 = .ok (.aload_n 0, 1) := by decide +kernel
theorem dX12_clear_8 : decode cX12_clear 8 = .ok (.getfield 26, 3) := by decide +kernel
theorem dX12_clear_11 : decode cX12_clear 11 = .ok (.iload_n 1, 1) := by decide +kernel
theorem dX12_clear_12 : decode cX12_clear 12 = .ok (.iconst 0, 1) := by decide +kernel
theorem dX12_clear_13 : decode cX12_clear 13 = .ok (.iastore, 1) := by decide +kernel
theorem dX12_clear_14 : decode cX12_clear 14 = .ok (.return_, 1) := by decide +kernel
theorem dX12_tell_0 : decode cX12_tell 0 = .ok (.aload_n 0, 1) := by decide +kernel
theorem dX12_tell_1 : decode cX12_tell 1 = .ok (.getfield 23, 3) := by decide +kernel
theorem dX12_tell_4 : decode cX12_tell 4 = .ok (.ldc 7, 2) := by decide +kernel
theorem dX12_tell_6 : decode cX12_tell 6 = .ok (.aload_n 0, 1) := by decide +kernel
theorem dX12_tell_7 : decode cX12_tell 7 = .ok (.getfield 18, 3) := by decide +kernel
theorem dX12_tell_10 : decode cX12_tell 10 = .ok (.bipush 32, 2) := by decide +kernel
theorem dX12_tell_12 : decode cX12_tell 12 = .ok (.iaload, 1) := by decide +kernel
theorem dX12_tell_13 : decode cX12_tell 13 = .ok (.iadd, 1) := by decide +kernel
theorem dX12_tell_14 : decode cX12_tell 14 = .ok (.iload_n 1, 1) := by decide +kernel
theorem dX12_tell_15 : decode cX12_tell 15 = .ok (.iastore, 1) := by decide +kernel
theorem dX12_tell_16 : decode cX12_tell 16 = .ok (.aload_n 0, 1) := by decide +kernel
theorem dX12_tell_17 : decode cX12_tell 17 = .ok (.getfield 18, 3) := by decide +kernel
theorem dX12_tell_20 : decode cX12_tell 20 = .ok (.bipush 32, 2) := by decide +kernel
theorem dX12_tell_22 : decode cX12_tell 22 = .ok (.dup2, 1) := by decide +kernel
theorem dX12_tell_23 : decode cX12_tell 23 = .ok (.iaload, 1) := by decide +kernel
theorem dX12_tell_24 : decode cX12_tell 24 = .ok (.iconst 1, 1) := by decide +kernel
theorem dX12_tell_25 : decode cX12_tell 25 = .ok (.iadd, 1) := by decide +kernel
theorem dX12_tell_26 : decode cX12_tell 26 = .ok (.iastore, 1) := by decide +kernel
theorem dX12_tell_27 : decode cX12_tell 27 = .ok (.return_, 1) := by decide +kernel
theorem dX12_dot_0 : decode cX12_dot 0 = .ok (.aload_n 0, 1) := by decide +kernel
theorem dX12_dot_1 : decode cX12_dot 1 = .ok (.getfield 29, 3) := by decide +kernel
theorem dX12_dot_4 : decode cX12_dot 4 = .ok (.ldc 7, 2) := by decide +kernel
theorem dX12_dot_6 : decode cX12_dot 6 = .ok (.aload_n 0, 1) := by decide +kernel
theorem dX12_dot_7 : decode cX12_dot 7 = .ok (.getfield 26, 3) := by decide +kernel
theorem dX12_dot_10 : decode cX12_dot 10 = .ok (.bipush 32, 2) := by decide +kernel
theorem dX12_dot_12 : decode cX12_dot 12 = .ok (.iaload, 1) := by decide +kernel
theorem dX12_dot_13 : decode cX12_dot 13 = .ok (.iadd, 1) := by decide +kernel
theorem dX12_dot_14 : decode cX12_dot 14 = .ok (.lload_n 1, 1) := by decide +kernel
theorem dX12_dot_15 : decode cX12_dot 15 = .ok (.l2i, 1) := by decide +kernel
theorem dX12_dot_16 : decode cX12_dot 16 = .ok (.iastore, 1) := by decide +kernel
theorem dX12_dot_17 : decode cX12_dot 17 = .ok (.aload_n 0, 1) := by decide +kernel
theorem dX12_dot_18 : decode cX12_dot 18 = .ok (.getfield 32, 3) := by decide +kernel
theorem dX12_dot_21 : decode cX12_dot 21 = .ok (.ldc 7, 2) := by decide +kernel
theorem dX12_dot_23 : decode cX12_dot 23 = .ok (.aload_n 0, 1) := by decide +kernel
theorem dX12_dot_24 : decode cX12_dot 24 = .ok (.getfield 26, 3) := by decide +kernel
theorem dX12_dot_27 : decode cX12_dot 27 = .ok (.bipush 32, 2) := by decide +kernel
theorem dX12_dot_29 : decode cX12_dot 29 = .ok (.iaload, 1) := by decide +kernel
theorem dX12_dot_30 : decode cX12_dot 30 = .ok (.iadd, 1) := by decide +kernel
theorem dX12_dot_31 : decode cX12_dot 31 = .ok (.lload_n 3, 1) := by decide +kernel
theorem dX12_dot_32 : decode cX12_dot 32 = .ok (.l2i, 1) := by decide +kernel
theorem dX12_dot_33 : decode cX12_dot 33 = .ok (.iastore, 1) := by decide +kernel
theorem dX12_dot_34 : decode cX12_dot 34 = .ok (.aload_n 0, 1) := by decide +kernel
theorem dX12_dot_35 : decode cX12_dot 35 = .ok (.getfield 26, 3) := by decide +kernel
theorem dX12_dot_38 : decode cX12_dot 38 = .ok (.bipush 32, 2) := by decide +kernel
theorem dX12_dot_40 : decode cX12_dot 40 = .ok (.dup2, 1) := by decide +kernel
theorem dX12_dot_41 : decode cX12_dot 41 = .ok (.iaload, 1) := by decide +kernel
theorem dX12_dot_42 : decode cX12_dot 42 = .ok (.iconst 1, 1) := by decide +kernel
theorem dX12_dot_43 : decode cX12_dot 43 = .ok (.iadd, 1) := by decide +kernel
theorem dX12_dot_44 : decode cX12_dot 44 = .ok (.iastore, 1) := by decide +kernel
theorem dX12_dot_45 : decode cX12_dot 45 = .ok (.return_, 1) := by decide +kernel
theorem dX12_end_0 : decode cX12_end 0 = .ok (.aload_n 0, 1) := by decide +kernel
theorem dX12_end_1 : decode cX12_end 1 = .ok (.iconst 0, 1) := by decide +kernel
theorem dX12_end_2 : decode cX12_end 2 = .ok (.putfield 271, 3) := by decide +kernel
theorem dX12_end_5 : decode cX12_end 5 = .ok (.aload_n 0, 1) := by decide +kernel
theorem dX12_end_6 : decode cX12_end 6 = .ok (.iload_n 1, 1) := by decide +kernel
theorem dX12_end_7 : decode cX12_end 7 = .ok (.i2l, 1) := by decide +kernel
theorem dX12_end_8 : decode cX12_end 8 = .ok (.lconst 0, 1) := by decide +kernel
theorem dX12_end_9 : decode cX12_end 9 = .ok (.ldc2_w 285, 3) := by decide +kernel
theorem dX12_end_12 : decode cX12_end 12 = .ok (.invokestatic 287, 3) := by decide +kernel
theorem dX12_end_15 : decode cX12_end 15 = .ok (.ifCond .ne 7, 3) := by decide +kernel
theorem dX12_end_18 : decode cX12_end 18 = .ok (.iconst 1, 1) := by decide +kernel
theorem dX12_end_19 : decode cX12_end 19 = .ok (.goto 4, 3) := by decide +kernel
theorem dX12_end_22 : decode cX12_end 22 = .ok (.iconst 0, 1) := by decide +kernel
theorem dX12_end_23 : decode cX12_end 23 = .ok (.iconst 1, 1) := by decide +kernel
theorem dX12_end_24 : decode cX12_end 24 = .ok (.invokevirtual 277, 3) := by decide +kernel
theorem dX12_end_27 : decode cX12_end 27 = .ok (.ifCond .ne 25, 3) := by decide +kernel
theorem dX12_end_30 : decode cX12_end 30 = .ok (.aload_n 0, 1) := by decide +kernel
theorem dX12_end_31 : decode cX12_end 31 = .ok (.aload_n 0, 1) := by decide +kernel
theorem dX12_end_32 : decode cX12_end 32 = .ok (.getfield 274, 3) := by decide +kernel
theorem dX12_end_35 : decode cX12_end 35 = .ok (.bipush 20, 2) := by decide +kernel
theorem dX12_end_37 : decode cX12_end 37 = .ok (.if_icmp .ge 7, 3) := by decide +kernel
theorem dX12_end_40 : decode cX12_end 40 = .ok (.iconst 1, 1) := by decide +kernel
theorem dX12_end_41 : decode cX12_end 41 = .ok (.goto 4, 3) := by decide +kernel
theorem dX12_end_44 : decode cX12_end 44 = .ok (.iconst 0, 1) := by decide +kernel
theorem dX12_end_45 : decode cX12_end 45 = .ok (.iconst 2, 1) := by decide +kernel
theorem dX12_end_46 : decode cX12_end 46 = .ok (.invokevirtual 277, 3) := by decide +kernel
theorem dX12_end_49 : decode cX12_end 49 = .ok (.ifCond .eq 5, 3) := by decide +kernel
theorem dX12_end_52 : decode cX12_end 52 = .ok (.iconst 0, 1) := by decide +kernel
theorem dX12_end_53 : decode cX12_end 53 = .ok (.ireturn, 1) := by decide +kernel
theorem dX12_end_54 : decode cX12_end 54 = .ok (.aload_n 0, 1) := by decide +kernel
theorem dX12_end_55 : decode cX12_end 55 = .ok (.dup, 1) := by decide +kernel
theorem dX12_end_56 : decode cX12_end 56 = .ok (.getfield 274, 3) := by decide +kernel
theorem dX12_end_59 : decode cX12_end 59 = .ok (.bipush 20, 2) := by decide +kernel
theorem dX12_end_61 : decode cX12_end 61 = .ok (.iload_n 1, 1) := by decide +kernel
theorem dX12_end_62 : decode cX12_end 62 = .ok (.isub, 1) := by decide +kernel
theorem dX12_end_63 : decode cX12_end 63 = .ok (.isub, 1) := by decide +kernel
theorem dX12_end_64 : decode cX12_end 64 = .ok (.putfield 274, 3) := by decide +kernel
theorem dX12_end_67 : decode cX12_end 67 = .ok (.aload_n 0, 1) := by decide +kernel
theorem dX12_end_68 : decode cX12_end 68 = .ok (.getfield 274, 3) := by decide +kernel
theorem dX12_end_71 : decode cX12_end 71 = .ok (.ireturn, 1) := by decide +kernel
theorem dX12_fault_0 : decode cX12_fault 0 = .ok (.aload_n 0, 1) := by decide +kernel
theorem dX12_fault_1 : decode cX12_fault 1 = .ok (.iconst 0, 1) := by decide +kernel
theorem dX12_fault_2 : decode cX12_fault 2 = .ok (.putfield 271, 3) := by decide +kernel
theorem dX12_fault_5 : decode cX12_fault 5 = .ok (.aload_n 0, 1) := by decide +kernel
theorem dX12_fault_6 : decode cX12_fault 6 = .ok (.iload_n 1, 1) := by decide +kernel
theorem dX12_fault_7 : decode cX12_fault 7 = .ok (.i2l, 1) := by decide +kernel
theorem dX12_fault_8 : decode cX12_fault 8 = .ok (.lconst 0, 1) := by decide +kernel
theorem dX12_fault_9 : decode cX12_fault 9 = .ok (.lconst 1, 1) := by decide +kernel
theorem dX12_fault_10 : decode cX12_fault 10 = .ok (.invokestatic 287, 3) := by decide +kernel
theorem dX12_fault_13 : decode cX12_fault 13 = .ok (.ifCond .ne 7, 3) := by decide +kernel
theorem dX12_fault_16 : decode cX12_fault 16 = .ok (.iconst 1, 1) := by decide +kernel
theorem dX12_fault_17 : decode cX12_fault 17 = .ok (.goto 4, 3) := by decide +kernel
theorem dX12_fault_20 : decode cX12_fault 20 = .ok (.iconst 0, 1) := by decide +kernel
theorem dX12_fault_21 : decode cX12_fault 21 = .ok (.iconst 1, 1) := by decide +kernel
theorem dX12_fault_22 : decode cX12_fault 22 = .ok (.invokevirtual 277, 3) := by decide +kernel
theorem dX12_fault_25 : decode cX12_fault 25 = .ok (.ifCond .eq 5, 3) := by decide +kernel
theorem dX12_fault_28 : decode cX12_fault 28 = .ok (.iconst 0, 1) := by decide +kernel
theorem dX12_fault_29 : decode cX12_fault 29 = .ok (.ireturn, 1) := by decide +kernel
theorem dX12_fault_30 : decode cX12_fault 30 = .ok (.iload_n 1, 1) := by decide +kernel
theorem dX12_fault_31 : decode cX12_fault 31 = .ok (.ifCond .ne 10, 3) := by decide +kernel
theorem dX12_fault_34 : decode cX12_fault 34 = .ok (.aload_n 0, 1) := by decide +kernel
theorem dX12_fault_35 : decode cX12_fault 35 = .ok (.getfield 294, 3) := by decide +kernel
theorem dX12_fault_38 : decode cX12_fault 38 = .ok (.goto 7, 3) := by decide +kernel
theorem dX12_fault_41 : decode cX12_fault 41 = .ok (.aload_n 0, 1) := by decide +kernel
theorem dX12_fault_42 : decode cX12_fault 42 = .ok (.getfield 297, 3) := by decide +kernel
theorem dX12_fault_45 : decode cX12_fault 45 = .ok (.ireturn, 1) := by decide +kernel
theorem dX12_byteAt_0 : decode cX12_byteAt 0 = .ok (.aload_n 0, 1) := by decide +kernel
theorem dX12_byteAt_1 : decode cX12_byteAt 1 = .ok (.iconst 0, 1) := by decide +kernel
theorem dX12_byteAt_2 : decode cX12_byteAt 2 = .ok (.putfield 271, 3) := by decide +kernel
theorem dX12_byteAt_5 : decode cX12_byteAt 5 = .ok (.aload_n 0, 1) := by decide +kernel
theorem dX12_byteAt_6 : decode cX12_byteAt 6 = .ok (.iload_n 1, 1) := by decide +kernel
theorem dX12_byteAt_7 : decode cX12_byteAt 7 = .ok (.i2l, 1) := by decide +kernel
theorem dX12_byteAt_8 : decode cX12_byteAt 8 = .ok (.lconst 0, 1) := by decide +kernel
theorem dX12_byteAt_9 : decode cX12_byteAt 9 = .ok (.aload_n 0, 1) := by decide +kernel
theorem dX12_byteAt_10 : decode cX12_byteAt 10 = .ok (.getfield 291, 3) := by decide +kernel
theorem dX12_byteAt_13 : decode cX12_byteAt 13 = .ok (.iconst 1, 1) := by decide +kernel
theorem dX12_byteAt_14 : decode cX12_byteAt 14 = .ok (.isub, 1) := by decide +kernel
theorem dX12_byteAt_15 : decode cX12_byteAt 15 = .ok (.i2l, 1) := by decide +kernel
theorem dX12_byteAt_16 : decode cX12_byteAt 16 = .ok (.invokestatic 287, 3) := by decide +kernel
theorem dX12_byteAt_19 : decode cX12_byteAt 19 = .ok (.ifCond .ne 7, 3) := by decide +kernel
theorem dX12_byteAt_22 : decode cX12_byteAt 22 = .ok (.iconst 1, 1) := by decide +kernel
theorem dX12_byteAt_23 : decode cX12_byteAt 23 = .ok (.goto 4, 3) := by decide +kernel
theorem dX12_byteAt_26 : decode cX12_byteAt 26 = .ok (.iconst 0, 1) := by decide +kernel
theorem dX12_byteAt_27 : decode cX12_byteAt 27 = .ok (.iconst 1, 1) := by decide +kernel
theorem dX12_byteAt_28 : decode cX12_byteAt 28 = .ok (.invokevirtual 277, 3) := by decide +kernel
theorem dX12_byteAt_31 : decode cX12_byteAt 31 = .ok (.ifCond .eq 5, 3) := by decide +kernel
theorem dX12_byteAt_34 : decode cX12_byteAt 34 = .ok (.iconst 0, 1) := by decide +kernel
theorem dX12_byteAt_35 : decode cX12_byteAt 35 = .ok (.ireturn, 1) := by decide +kernel
theorem dX12_byteAt_36 : decode cX12_byteAt 36 = .ok (.aload_n 0, 1) := by decide +kernel
theorem dX12_byteAt_37 : decode cX12_byteAt 37 = .ok (.getfield 15, 3) := by decide +kernel
theorem dX12_byteAt_40 : decode cX12_byteAt 40 = .ok (.iload_n 1, 1) := by decide +kernel
theorem dX12_byteAt_41 : decode cX12_byteAt 41 = .ok (.baload, 1) := by decide +kernel
theorem dX12_byteAt_42 : decode cX12_byteAt 42 = .ok (.sipush 255, 3) := by decide +kernel
theorem dX12_byteAt_45 : decode cX12_byteAt 45 = .ok (.iand, 1) := by decide +kernel
theorem dX12_byteAt_46 : decode cX12_byteAt 46 = .ok (.ireturn, 1) := by decide +kernel
theorem dX12_wrong_0 : decode cX12_wrong 0 = .ok (.aload_n 0, 1) := by decide +kernel
theorem dX12_wrong_1 : decode cX12_wrong 1 = .ok (.iload_n 1, 1) := by decide +kernel
theorem dX12_wrong_2 : decode cX12_wrong 2 = .ok (.putfield 294, 3) := by decide +kernel
theorem dX12_wrong_5 : decode cX12_wrong 5 = .ok (.aload_n 0, 1) := by decide +kernel
theorem dX12_wrong_6 : decode cX12_wrong 6 = .ok (.iload_n 2, 1) := by decide +kernel
theorem dX12_wrong_7 : decode cX12_wrong 7 = .ok (.putfield 297, 3) := by decide +kernel
theorem dX12_wrong_10 : decode cX12_wrong 10 = .ok (.iconst 0, 1) := by decide +kernel
theorem dX12_wrong_11 : decode cX12_wrong 11 = .ok (.ireturn, 1) := by decide +kernel
theorem dX12_here_0 : decode cX12_here 0 = .ok (.aload_n 0, 1) := by decide +kernel
theorem dX12_here_1 : decode cX12_here 1 = .ok (.getfield 300, 3) := by decide +kernel
theorem dX12_here_4 : decode cX12_here 4 = .ok (.aload_n 0, 1) := by decide +kernel
theorem dX12_here_5 : decode cX12_here 5 = .ok (.getfield 303, 3) := by decide +kernel
theorem dX12_here_8 : decode cX12_here 8 = .ok (.if_icmp .ge 19, 3) := by decide +kernel
theorem dX12_here_11 : decode cX12_here 11 = .ok (.aload_n 0, 1) := by decide +kernel
theorem dX12_here_12 : decode cX12_here 12 = .ok (.getfield 8, 3) := by decide +kernel
theorem dX12_here_15 : decode cX12_here 15 = .ok (.aload_n 0, 1) := by decide +kernel
theorem dX12_here_16 : decode cX12_here 16 = .ok (.getfield 300, 3) := by decide +kernel
theorem dX12_here_19 : decode cX12_here 19 = .ok (.baload, 1) := by decide +kernel
theorem dX12_here_20 : decode cX12_here 20 = .ok (.sipush 255, 3) := by decide +kernel
theorem dX12_here_23 : decode cX12_here 23 = .ok (.iand, 1) := by decide +kernel
theorem dX12_here_24 : decode cX12_here 24 = .ok (.goto 4, 3) := by decide +kernel
theorem dX12_here_27 : decode cX12_here 27 = .ok (.iconst (-1), 1) := by decide +kernel
theorem dX12_here_28 : decode cX12_here 28 = .ok (.ireturn, 1) := by decide +kernel
theorem dX12_isBlank_0 : decode cX12_isBlank 0 = .ok (.iload_n 0, 1) := by decide +kernel
theorem dX12_isBlank_1 : decode cX12_isBlank 1 = .ok (.bipush 32, 2) := by decide +kernel
theorem dX12_isBlank_3 : decode cX12_isBlank 3 = .ok (.if_icmp .eq 21, 3) := by decide +kernel
theorem dX12_isBlank_6 : decode cX12_isBlank 6 = .ok (.iload_n 0, 1) := by decide +kernel
theorem dX12_isBlank_7 : decode cX12_isBlank 7 = .ok (.bipush 9, 2) := by decide +kernel
theorem dX12_isBlank_9 : decode cX12_isBlank 9 = .ok (.if_icmp .eq 15, 3) := by decide +kernel
theorem dX12_isBlank_12 : decode cX12_isBlank 12 = .ok (.iload_n 0, 1) := by decide +kernel
theorem dX12_isBlank_13 : decode cX12_isBlank 13 = .ok (.bipush 10, 2) := by decide +kernel
theorem dX12_isBlank_15 : decode cX12_isBlank 15 = .ok (.if_icmp .eq 9, 3) := by decide +kernel
theorem dX12_isBlank_18 : decode cX12_isBlank 18 = .ok (.iload_n 0, 1) := by decide +kernel
theorem dX12_isBlank_19 : decode cX12_isBlank 19 = .ok (.bipush 13, 2) := by decide +kernel
theorem dX12_isBlank_21 : decode cX12_isBlank 21 = .ok (.if_icmp .ne 7, 3) := by decide +kernel
theorem dX12_isBlank_24 : decode cX12_isBlank 24 = .ok (.iconst 1, 1) := by decide +kernel
theorem dX12_isBlank_25 : decode cX12_isBlank 25 = .ok (.goto 4, 3) := by decide +kernel
theorem dX12_isBlank_28 : decode cX12_isBlank 28 = .ok (.iconst 0, 1) := by decide +kernel
theorem dX12_isBlank_29 : decode cX12_isBlank 29 = .ok (.ireturn, 1) := by decide +kernel
theorem dX12_isLetter_0 : decode cX12_isLetter 0 = .ok (.iload_n 0, 1) := by decide +kernel
theorem dX12_isLetter_1 : decode cX12_isLetter 1 = .ok (.bipush 97, 2) := by decide +kernel
theorem dX12_isLetter_3 : decode cX12_isLetter 3 = .ok (.if_icmp .lt 9, 3) := by decide +kernel
theorem dX12_isLetter_6 : decode cX12_isLetter 6 = .ok (.iload_n 0, 1) := by decide +kernel
theorem dX12_isLetter_7 : decode cX12_isLetter 7 = .ok (.bipush 122, 2) := by decide +kernel
theorem dX12_isLetter_9 : decode cX12_isLetter 9 = .ok (.if_icmp .le 15, 3) := by decide +kernel
theorem dX12_isLetter_12 : decode cX12_isLetter 12 = .ok (.iload_n 0, 1) := by decide +kernel
theorem dX12_isLetter_13 : decode cX12_isLetter 13 = .ok (.bipush 65, 2) := by decide +kernel
theorem dX12_isLetter_15 : decode cX12_isLetter 15 = .ok (.if_icmp .lt 13, 3) := by decide +kernel
theorem dX12_isLetter_18 : decode cX12_isLetter 18 = .ok (.iload_n 0, 1) := by decide +kernel
theorem dX12_isLetter_19 : decode cX12_isLetter 19 = .ok (.bipush 90, 2) := by decide +kernel
theorem dX12_isLetter_21 : decode cX12_isLetter 21 = .ok (.if_icmp .gt 7, 3) := by decide +kernel
theorem dX12_isLetter_24 : decode cX12_isLetter 24 = .ok (.iconst 1, 1) := by decide +kernel
theorem dX12_isLetter_25 : decode cX12_isLetter 25 = .ok (.goto 4, 3) := by decide +kernel
theorem dX12_isLetter_28 : decode cX12_isLetter 28 = .ok (.iconst 0, 1) := by decide +kernel
theorem dX12_isLetter_29 : decode cX12_isLetter 29 = .ok (.ireturn, 1) := by decide +kernel
theorem dX12_isDigit_0 : decode cX12_isDigit 0 = .ok (.iload_n 0, 1) := by decide +kernel
theorem dX12_isDigit_1 : decode cX12_isDigit 1 = .ok (.bipush 48, 2) := by decide +kernel
theorem dX12_isDigit_3 : decode cX12_isDigit 3 = .ok (.if_icmp .lt 13, 3) := by decide +kernel
theorem dX12_isDigit_6 : decode cX12_isDigit 6 = .ok (.iload_n 0, 1) := by decide +kernel
theorem dX12_isDigit_7 : decode cX12_isDigit 7 = .ok (.bipush 57, 2) := by decide +kernel
theorem dX12_isDigit_9 : decode cX12_isDigit 9 = .ok (.if_icmp .gt 7, 3) := by decide +kernel
theorem dX12_isDigit_12 : decode cX12_isDigit 12 = .ok (.iconst 1, 1) := by decide +kernel
theorem dX12_isDigit_13 : decode cX12_isDigit 13 = .ok (.goto 4, 3) := by decide +kernel
theorem dX12_isDigit_16 : decode cX12_isDigit 16 = .ok (.iconst 0, 1) := by decide +kernel
theorem dX12_isDigit_17 : decode cX12_isDigit 17 = .ok (.ireturn, 1) := by decide +kernel
theorem dX12_isSign_0 : decode cX12_isSign 0 = .ok (.iload_n 0, 1) := by decide +kernel
theorem dX12_isSign_1 : decode cX12_isSign 1 = .ok (.bipush 43, 2) := by decide +kernel
theorem dX12_isSign_3 : decode cX12_isSign 3 = .ok (.if_icmp .eq 9, 3) := by decide +kernel
theorem dX12_isSign_6 : decode cX12_isSign 6 = .ok (.iload_n 0, 1) := by decide +kernel
theorem dX12_isSign_7 : decode cX12_isSign 7 = .ok (.bipush 45, 2) := by decide +kernel
theorem dX12_isSign_9 : decode cX12_isSign 9 = .ok (.if_icmp .ne 7, 3) := by decide +kernel
theorem dX12_isSign_12 : decode cX12_isSign 12 = .ok (.iconst 1, 1) := by decide +kernel
theorem dX12_isSign_13 : decode cX12_isSign 13 = .ok (.goto 4, 3) := by decide +kernel
theorem dX12_isSign_16 : decode cX12_isSign 16 = .ok (.iconst 0, 1) := by decide +kernel
theorem dX12_isSign_17 : decode cX12_isSign 17 = .ok (.ireturn, 1) := by decide +kernel
theorem dX12_large_0 : decode cX12_large 0 = .ok (.iload_n 0, 1) := by decide +kernel
theorem dX12_large_1 : decode cX12_large 1 = .ok (.bipush 97, 2) := by decide +kernel
theorem dX12_large_3 : decode cX12_large 3 = .ok (.if_icmp .lt 16, 3) := by decide +kernel
theorem dX12_large_6 : decode cX12_large 6 = .ok (.iload_n 0, 1) := by decide +kernel
theorem dX12_large_7 : decode cX12_large 7 = .ok (.bipush 122, 2) := by decide +kernel
theorem dX12_large_9 : decode cX12_large 9 = .ok (.if_icmp .gt 10, 3) := by decide +kernel
theorem dX12_large_12 : decode cX12_large 12 = .ok (.iload_n 0, 1) := by decide +kernel
theorem dX12_large_13 : decode cX12_large 13 = .ok (.bipush 32, 2) := by decide +kernel
theorem dX12_large_15 : decode cX12_large 15 = .ok (.isub, 1) := by decide +kernel
theorem dX12_large_16 : decode cX12_large 16 = .ok (.goto 4, 3) := by decide +kernel
theorem dX12_large_19 : decode cX12_large 19 = .ok (.iload_n 0, 1) := by decide +kernel
theorem dX12_large_20 : decode cX12_large 20 = .ok (.ireturn, 1) := by decide +kernel
theorem dX12_more_0 : decode cX12_more 0 = .ok (.aload_n 0, 1) := by decide +kernel
theorem dX12_more_1 : decode cX12_more 1 = .ok (.getfield 23, 3) := by decide +kernel
theorem dX12_more_4 : decode cX12_more 4 = .ok (.ldc 7, 2) := by decide +kernel
theorem dX12_more_6 : decode cX12_more 6 = .ok (.iload_n 1, 1) := by decide +kernel
theorem dX12_more_7 : decode cX12_more 7 = .ok (.iadd, 1) := by decide +kernel
theorem dX12_more_8 : decode cX12_more 8 = .ok (.dup2, 1) := by decide +kernel
theorem dX12_more_9 : decode cX12_more 9 = .ok (.iaload, 1) := by decide +kernel
theorem dX12_more_10 : decode cX12_more 10 = .ok (.iconst 1, 1) := by decide +kernel
theorem dX12_more_11 : decode cX12_more 11 = .ok (.iadd, 1) := by decide +kernel
theorem dX12_more_12 : decode cX12_more 12 = .ok (.iastore, 1) := by decide +kernel
theorem dX12_more_13 : decode cX12_more 13 = .ok (.return_, 1) := by decide +kernel
theorem dX12_there_0 : decode cX12_there 0 = .ok (.aload_n 0, 1) := by decide +kernel
theorem dX12_there_1 : decode cX12_there 1 = .ok (.getfield 300, 3) := by decide +kernel
theorem dX12_there_4 : decode cX12_there 4 = .ok (.iload_n 1, 1) := by decide +kernel
theorem dX12_there_5 : decode cX12_there 5 = .ok (.iadd, 1) := by decide +kernel
theorem dX12_there_6 : decode cX12_there 6 = .ok (.aload_n 0, 1) := by decide +kernel
theorem dX12_there_7 : decode cX12_there 7 = .ok (.getfield 303, 3) := by decide +kernel
theorem dX12_there_10 : decode cX12_there 10 = .ok (.if_icmp .gt 7, 3) := by decide +kernel
theorem dX12_there_13 : decode cX12_there 13 = .ok (.iconst 1, 1) := by decide +kernel
theorem dX12_there_14 : decode cX12_there 14 = .ok (.goto 4, 3) := by decide +kernel
theorem dX12_there_17 : decode cX12_there 17 = .ok (.iconst 0, 1) := by decide +kernel
theorem dX12_there_18 : decode cX12_there 18 = .ok (.ireturn, 1) := by decide +kernel
theorem dX12_partsOfBytes_0 : decode cX12_partsOfBytes 0 = .ok (.aload_n 0, 1) := by decide +kernel
theorem dX12_partsOfBytes_1 : decode cX12_partsOfBytes 1 = .ok (.getfield 44, 3) := by decide +kernel
theorem dX12_partsOfBytes_4 : decode cX12_partsOfBytes 4 = .ok (.aload_n 0, 1) := by decide +kernel
theorem dX12_partsOfBytes_5 : decode cX12_partsOfBytes 5 = .ok (.getfield 462, 3) := by decide +kernel
theorem dX12_partsOfBytes_8 : decode cX12_partsOfBytes 8 = .ok (.lload_n 2, 1) := by decide +kernel
theorem dX12_partsOfBytes_9 : decode cX12_partsOfBytes 9 = .ok (.lastore, 1) := by decide +kernel
theorem dX12_partsOfBytes_10 : decode cX12_partsOfBytes 10 = .ok (.aload_n 0, 1) := by decide +kernel
theorem dX12_partsOfBytes_11 : decode cX12_partsOfBytes 11 = .ok (.getfield 48, 3) := by decide +kernel
theorem dX12_partsOfBytes_14 : decode cX12_partsOfBytes 14 = .ok (.aload_n 0, 1) := by decide +kernel
theorem dX12_partsOfBytes_15 : decode cX12_partsOfBytes 15 = .ok (.getfield 462, 3) := by decide +kernel
theorem dX12_partsOfBytes_18 : decode cX12_partsOfBytes 18 = .ok (.iload_n 1, 1) := by decide +kernel
theorem dX12_partsOfBytes_19 : decode cX12_partsOfBytes 19 = .ok (.bipush 7, 2) := by decide +kernel
theorem dX12_partsOfBytes_21 : decode cX12_partsOfBytes 21 = .ok (.if_icmp .ne 7, 3) := by decide +kernel
theorem dX12_partsOfBytes_24 : decode cX12_partsOfBytes 24 = .ok (.iconst 0, 1) := by decide +kernel
theorem dX12_partsOfBytes_25 : decode cX12_partsOfBytes 25 = .ok (.goto 6, 3) := by decide +kernel
theorem dX12_partsOfBytes_28 : decode cX12_partsOfBytes 28 = .ok (.iload_n 1, 1) := by decide +kernel
theorem dX12_partsOfBytes_29 : decode cX12_partsOfBytes 29 = .ok (.iconst 3, 1) := by decide +kernel
theorem dX12_partsOfBytes_30 : decode cX12_partsOfBytes 30 = .ok (.isub, 1) := by decide +kernel
theorem dX12_partsOfBytes_31 : decode cX12_partsOfBytes 31 = .ok (.iastore, 1) := by decide +kernel
theorem dX12_partsOfBytes_32 : decode cX12_partsOfBytes 32 = .ok (.aload_n 0, 1) := by decide +kernel
theorem dX12_partsOfBytes_33 : decode cX12_partsOfBytes 33 = .ok (.dup, 1) := by decide +kernel
theorem dX12_partsOfBytes_34 : decode cX12_partsOfBytes 34 = .ok (.getfield 462, 3) := by decide +kernel
theorem dX12_partsOfBytes_37 : decode cX12_partsOfBytes 37 = .ok (.iconst 1, 1) := by decide +kernel
theorem dX12_partsOfBytes_38 : decode cX12_partsOfBytes 38 = .ok (.iadd, 1) := by decide +kernel
theorem dX12_partsOfBytes_39 : decode cX12_partsOfBytes 39 = .ok (.putfield 462, 3) := by decide +kernel
theorem dX12_partsOfBytes_42 : decode cX12_partsOfBytes 42 = .ok (.aload_n 0, 1) := by decide +kernel
theorem dX12_partsOfBytes_43 : decode cX12_partsOfBytes 43 = .ok (.iload_n 1, 1) := by decide +kernel
theorem dX12_partsOfBytes_44 : decode cX12_partsOfBytes 44 = .ok (.bipush 7, 2) := by decide +kernel
theorem dX12_partsOfBytes_46 : decode cX12_partsOfBytes 46 = .ok (.if_icmp .ne 12, 3) := by decide +kernel
theorem dX12_partsOfBytes_49 : decode cX12_partsOfBytes 49 = .ok (.aload_n 0, 1) := by decide +kernel
theorem dX12_partsOfBytes_50 : decode cX12_partsOfBytes 50 = .ok (.getfield 355, 3) := by decide +kernel
theorem dX12_partsOfBytes_53 : decode cX12_partsOfBytes 53 = .ok (.iconst 1, 1) := by decide +kernel
theorem dX12_partsOfBytes_54 : decode cX12_partsOfBytes 54 = .ok (.iadd, 1) := by decide +kernel
theorem dX12_partsOfBytes_55 : decode cX12_partsOfBytes 55 = .ok (.goto 7, 3) := by decide +kernel
theorem dX12_partsOfBytes_58 : decode cX12_partsOfBytes 58 = .ok (.aload_n 0, 1) := by decide +kernel
theorem dX12_partsOfBytes_59 : decode cX12_partsOfBytes 59 = .ok (.getfield 355, 3) := by decide +kernel
theorem dX12_partsOfBytes_62 : decode cX12_partsOfBytes 62 = .ok (.putfield 355, 3) := by decide +kernel
theorem dX12_partsOfBytes_65 : decode cX12_partsOfBytes 65 = .ok (.iconst 1, 1) := by decide +kernel
theorem dX12_partsOfBytes_66 : decode cX12_partsOfBytes 66 = .ok (.ireturn, 1) := by decide +kernel
theorem dX12_isNoNumber_0 : decode cX12_isNoNumber 0 = .ok (.lload_n 0, 1) := by decide +kernel
theorem dX12_isNoNumber_1 : decode cX12_isNoNumber 1 = .ok (.bipush 52, 2) := by decide +kernel
theorem dX12_isNoNumber_3 : decode cX12_isNoNumber 3 = .ok (.lushr, 1) := by decide +kernel
theorem dX12_isNoNumber_4 : decode cX12_isNoNumber 4 = .ok (.ldc2_w 497, 3) := by decide +kernel
theorem dX12_isNoNumber_7 : decode cX12_isNoNumber 7 = .ok (.land, 1) := by decide +kernel
theorem dX12_isNoNumber_8 : decode cX12_isNoNumber 8 = .ok (.ldc2_w 497, 3) := by decide +kernel
theorem dX12_isNoNumber_11 : decode cX12_isNoNumber 11 = .ok (.lcmp, 1) := by decide +kernel
theorem dX12_isNoNumber_12 : decode cX12_isNoNumber 12 = .ok (.ifCond .ne 17, 3) := by decide +kernel
theorem dX12_isNoNumber_15 : decode cX12_isNoNumber 15 = .ok (.lload_n 0, 1) := by decide +kernel
theorem dX12_isNoNumber_16 : decode cX12_isNoNumber 16 = .ok (.ldc2_w 499, 3) := by decide +kernel
theorem dX12_isNoNumber_19 : decode cX12_isNoNumber 19 = .ok (.land, 1) := by decide +kernel
theorem dX12_isNoNumber_20 : decode cX12_isNoNumber 20 = .ok (.lconst 0, 1) := by decide +kernel
theorem dX12_isNoNumber_21 : decode cX12_isNoNumber 21 = .ok (.lcmp, 1) := by decide +kernel
theorem dX12_isNoNumber_22 : decode cX12_isNoNumber 22 = .ok (.ifCond .eq 7, 3) := by decide +kernel
theorem dX12_isNoNumber_25 : decode cX12_isNoNumber 25 = .ok (.iconst 1, 1) := by decide +kernel
theorem dX12_isNoNumber_26 : decode cX12_isNoNumber 26 = .ok (.goto 4, 3) := by decide +kernel
theorem dX12_isNoNumber_29 : decode cX12_isNoNumber 29 = .ok (.iconst 0, 1) := by decide +kernel
theorem dX12_isNoNumber_30 : decode cX12_isNoNumber 30 = .ok (.ireturn, 1) := by decide +kernel
theorem dX12_put_0 : decode cX12_put 0 = .ok (.aload_n 0, 1) := by decide +kernel
theorem dX12_put_1 : decode cX12_put 1 = .ok (.getfield 15, 3) := by decide +kernel
theorem dX12_put_4 : decode cX12_put 4 = .ok (.aload_n 0, 1) := by decide +kernel
theorem dX12_put_5 : decode cX12_put 5 = .ok (.getfield 291, 3) := by decide +kernel
theorem dX12_put_8 : decode cX12_put 8 = .ok (.iload_n 1, 1) := by decide +kernel
theorem dX12_put_9 : decode cX12_put 9 = .ok (.i2b, 1) := by decide +kernel
theorem dX12_put_10 : decode cX12_put 10 = .ok (.bastore, 1) := by decide +kernel
theorem dX12_put_11 : decode cX12_put 11 = .ok (.aload_n 0, 1) := by decide +kernel
theorem dX12_put_12 : decode cX12_put 12 = .ok (.dup, 1) := by decide +kernel
theorem dX12_put_13 : decode cX12_put 13 = .ok (.getfield 291, 3) := by decide +kernel
theorem dX12_put_16 : decode cX12_put 16 = .ok (.iconst 1, 1) := by decide +kernel
theorem dX12_put_17 : decode cX12_put 17 = .ok (.iadd, 1) := by decide +kernel
theorem dX12_put_18 : decode cX12_put 18 = .ok (.putfield 291, 3) := by decide +kernel
theorem dX12_put_21 : decode cX12_put 21 = .ok (.return_, 1) := by decide +kernel
theorem dX12_next_0 : decode cX12_next 0 = .ok (.aload_n 0, 1) := by decide +kernel
theorem dX12_next_1 : decode cX12_next 1 = .ok (.dup, 1) := by decide +kernel
theorem dX12_next_2 : decode cX12_next 2 = .ok (.getfield 516, 3) := by decide +kernel
theorem dX12_next_5 : decode cX12_next 5 = .ok (.iconst 1, 1) := by decide +kernel
theorem dX12_next_6 : decode cX12_next 6 = .ok (.iadd, 1) := by decide +kernel
theorem dX12_next_7 : decode cX12_next 7 = .ok (.putfield 516, 3) := by decide +kernel
theorem dX12_next_10 : decode cX12_next 10 = .ok (.aload_n 0, 1) := by decide +kernel
theorem dX12_next_11 : decode cX12_next 11 = .ok (.getfield 23, 3) := by decide +kernel
theorem dX12_next_14 : decode cX12_next 14 = .ok (.aload_n 0, 1) := by decide +kernel
theorem dX12_next_15 : decode cX12_next 15 = .ok (.getfield 516, 3) := by decide +kernel
theorem dX12_next_18 : decode cX12_next 18 = .ok (.iconst 1, 1) := by decide +kernel
theorem dX12_next_19 : decode cX12_next 19 = .ok (.isub, 1) := by decide +kernel
theorem dX12_next_20 : decode cX12_next 20 = .ok (.iaload, 1) := by decide +kernel
theorem dX12_next_21 : decode cX12_next 21 = .ok (.ireturn, 1) := by decide +kernel
theorem dX12_drop_0 : decode cX12_drop 0 = .ok (.aload_n 0, 1) := by decide +kernel
theorem dX12_drop_1 : decode cX12_drop 1 = .ok (.iconst 0, 1) := by decide +kernel
theorem dX12_drop_2 : decode cX12_drop 2 = .ok (.putfield 271, 3) := by decide +kernel
theorem dX12_drop_5 : decode cX12_drop 5 = .ok (.aload_n 0, 1) := by decide +kernel
theorem dX12_drop_6 : decode cX12_drop 6 = .ok (.iload_n 1, 1) := by decide +kernel
theorem dX12_drop_7 : decode cX12_drop 7 = .ok (.invokestatic 440, 3) := by decide +kernel
theorem dX12_drop_10 : decode cX12_drop 10 = .ok (.ifCond .ne 7, 3) := by decide +kernel
theorem dX12_drop_13 : decode cX12_drop 13 = .ok (.iconst 1, 1) := by decide +kernel
theorem dX12_drop_14 : decode cX12_drop 14 = .ok (.goto 4, 3) := by decide +kernel
theorem dX12_drop_17 : decode cX12_drop 17 = .ok (.iconst 0, 1) := by decide +kernel
theorem dX12_drop_18 : decode cX12_drop 18 = .ok (.iconst 1, 1) := by decide +kernel
theorem dX12_drop_19 : decode cX12_drop 19 = .ok (.invokevirtual 277, 3) := by decide +kernel
theorem dX12_drop_22 : decode cX12_drop 22 = .ok (.ifCond .eq 5, 3) := by decide +kernel
theorem dX12_drop_25 : decode cX12_drop 25 = .ok (.iconst 0, 1) := by decide +kernel
theorem dX12_drop_26 : decode cX12_drop 26 = .ok (.ireturn, 1) := by decide +kernel
theorem dX12_drop_27 : decode cX12_drop 27 = .ok (.aload_n 0, 1) := by decide +kernel
theorem dX12_drop_28 : decode cX12_drop 28 = .ok (.iload_n 1, 1) := by decide +kernel
theorem dX12_drop_29 : decode cX12_drop 29 = .ok (.invokevirtual 545, 3) := by decide +kernel
theorem dX12_drop_32 : decode cX12_drop 32 = .ok (.istore_n 2, 1) := by decide +kernel
theorem dX12_drop_33 : decode cX12_drop 33 = .ok (.aload_n 0, 1) := by decide +kernel
theorem dX12_drop_34 : decode cX12_drop 34 = .ok (.iload_n 1, 1) := by decide +kernel
theorem dX12_drop_35 : decode cX12_drop 35 = .ok (.invokevirtual 358, 3) := by decide +kernel
theorem dX12_drop_38 : decode cX12_drop 38 = .ok (.iload_n 2, 1) := by decide +kernel
theorem dX12_drop_39 : decode cX12_drop 39 = .ok (.ireturn, 1) := by decide +kernel
theorem dX12_plan_0 : decode cX12_plan 0 = .ok (.aload_n 0, 1) := by decide +kernel
theorem dX12_plan_1 : decode cX12_plan 1 = .ok (.iconst 0, 1) := by decide +kernel
theorem dX12_plan_2 : decode cX12_plan 2 = .ok (.putfield 271, 3) := by decide +kernel
theorem dX12_plan_5 : decode cX12_plan 5 = .ok (.aload_n 0, 1) := by decide +kernel
theorem dX12_plan_6 : decode cX12_plan 6 = .ok (.iload_n 1, 1) := by decide +kernel
theorem dX12_plan_7 : decode cX12_plan 7 = .ok (.invokestatic 440, 3) := by decide +kernel
theorem dX12_plan_10 : decode cX12_plan 10 = .ok (.ifCond .ne 7, 3) := by decide +kernel
theorem dX12_plan_13 : decode cX12_plan 13 = .ok (.iconst 1, 1) := by decide +kernel
theorem dX12_plan_14 : decode cX12_plan 14 = .ok (.goto 4, 3) := by decide +kernel
theorem dX12_plan_17 : decode cX12_plan 17 = .ok (.iconst 0, 1) := by decide +kernel
theorem dX12_plan_18 : decode cX12_plan 18 = .ok (.iconst 1, 1) := by decide +kernel
theorem dX12_plan_19 : decode cX12_plan 19 = .ok (.invokevirtual 277, 3) := by decide +kernel
theorem dX12_plan_22 : decode cX12_plan 22 = .ok (.ifCond .ne 34, 3) := by decide +kernel
theorem dX12_plan_25 : decode cX12_plan 25 = .ok (.aload_n 0, 1) := by decide +kernel
theorem dX12_plan_26 : decode cX12_plan 26 = .ok (.iload_n 2, 1) := by decide +kernel
theorem dX12_plan_27 : decode cX12_plan 27 = .ok (.i2l, 1) := by decide +kernel
theorem dX12_plan_28 : decode cX12_plan 28 = .ok (.lconst 0, 1) := by decide +kernel
theorem dX12_plan_29 : decode cX12_plan 29 = .ok (.aload_n 0, 1) := by decide +kernel
theorem dX12_plan_30 : decode cX12_plan 30 = .ok (.getfield 18, 3) := by decide +kernel
theorem dX12_plan_33 : decode cX12_plan 33 = .ok (.iload_n 1, 1) := by decide +kernel
theorem dX12_plan_34 : decode cX12_plan 34 = .ok (.iaload, 1) := by decide +kernel
theorem dX12_plan_35 : decode cX12_plan 35 = .ok (.iconst 1, 1) := by decide +kernel
theorem dX12_plan_36 : decode cX12_plan 36 = .ok (.isub, 1) := by decide +kernel
theorem dX12_plan_37 : decode cX12_plan 37 = .ok (.i2l, 1) := by decide +kernel
theorem dX12_plan_38 : decode cX12_plan 38 = .ok (.invokestatic 287, 3) := by decide +kernel
theorem dX12_plan_41 : decode cX12_plan 41 = .ok (.ifCond .ne 7, 3) := by decide +kernel
theorem dX12_plan_44 : decode cX12_plan 44 = .ok (.iconst 1, 1) := by decide +kernel
theorem dX12_plan_45 : decode cX12_plan 45 = .ok (.goto 4, 3) := by decide +kernel
theorem dX12_plan_48 : decode cX12_plan 48 = .ok (.iconst 0, 1) := by decide +kernel
theorem dX12_plan_49 : decode cX12_plan 49 = .ok (.iconst 1, 1) := by decide +kernel
theorem dX12_plan_50 : decode cX12_plan 50 = .ok (.invokevirtual 277, 3) := by decide +kernel
theorem dX12_plan_53 : decode cX12_plan 53 = .ok (.ifCond .eq 5, 3) := by decide +kernel
theorem dX12_plan_56 : decode cX12_plan 56 = .ok (.iconst 0, 1) := by decide +kernel
theorem dX12_plan_57 : decode cX12_plan 57 = .ok (.ireturn, 1) := by decide +kernel
theorem dX12_plan_58 : decode cX12_plan 58 = .ok (.aload_n 0, 1) := by decide +kernel
theorem dX12_plan_59 : decode cX12_plan 59 = .ok (.getfield 23, 3) := by decide +kernel
theorem dX12_plan_62 : decode cX12_plan 62 = .ok (.sipush 2048, 3) := by decide +kernel
theorem dX12_plan_65 : decode cX12_plan 65 = .ok (.iload_n 1, 1) := by decide +kernel
theorem dX12_plan_66 : decode cX12_plan 66 = .ok (.imul, 1) := by decide +kernel
theorem dX12_plan_67 : decode cX12_plan 67 = .ok (.iload_n 2, 1) := by decide +kernel
theorem dX12_plan_68 : decode cX12_plan 68 = .ok (.iadd, 1) := by decide +kernel
theorem dX12_plan_69 : decode cX12_plan 69 = .ok (.iaload, 1) := by decide +kernel
theorem dX12_plan_70 : decode cX12_plan 70 = .ok (.ireturn, 1) := by decide +kernel
theorem dX12_ordinate_0 : decode cX12_ordinate 0 = .ok (.aload_n 0, 1) := by decide +kernel
theorem dX12_ordinate_1 : decode cX12_ordinate 1 = .ok (.iconst 0, 1) := by decide +kernel
theorem dX12_ordinate_2 : decode cX12_ordinate 2 = .ok (.putfield 271, 3) := by decide +kernel
theorem dX12_ordinate_5 : decode cX12_ordinate 5 = .ok (.aload_n 0, 1) := by decide +kernel
theorem dX12_ordinate_6 : decode cX12_ordinate 6 = .ok (.iload_n 1, 1) := by decide +kernel
theorem dX12_ordinate_7 : decode cX12_ordinate 7 = .ok (.invokestatic 440, 3) := by decide +kernel
theorem dX12_ordinate_10 : decode cX12_ordinate 10 = .ok (.ifCond .ne 7, 3) := by decide +kernel
theorem dX12_ordinate_13 : decode cX12_ordinate 13 = .ok (.iconst 1, 1) := by decide +kernel
theorem dX12_ordinate_14 : decode cX12_ordinate 14 = .ok (.goto 4, 3) := by decide +kernel
theorem dX12_ordinate_17 : decode cX12_ordinate 17 = .ok (.iconst 0, 1) := by decide +kernel
theorem dX12_ordinate_18 : decode cX12_ordinate 18 = .ok (.iconst 1, 1) := by decide +kernel
theorem dX12_ordinate_19 : decode cX12_ordinate 19 = .ok (.invokevirtual 277, 3) := by decide +kernel
theorem dX12_ordinate_22 : decode cX12_ordinate 22 = .ok (.ifCond .ne 44, 3) := by decide +kernel
theorem dX12_ordinate_25 : decode cX12_ordinate 25 = .ok (.aload_n 0, 1) := by decide +kernel
theorem dX12_ordinate_26 : decode cX12_ordinate 26 = .ok (.iload_n 2, 1) := by decide +kernel
theorem dX12_ordinate_27 : decode cX12_ordinate 27 = .ok (.i2l, 1) := by decide +kernel
theorem dX12_ordinate_28 : decode cX12_ordinate 28 = .ok (.lconst 0, 1) := by decide +kernel
theorem dX12_ordinate_29 : decode cX12_ordinate 29 = .ok (.aload_n 0, 1) := by decide +kernel
theorem dX12_ordinate_30 : decode cX12_ordinate 30 = .ok (.getfield 26, 3) := by decide +kernel
theorem dX12_ordinate_33 : decode cX12_ordinate 33 = .ok (.iload_n 1, 1) := by decide +kernel
theorem dX12_ordinate_34 : decode cX12_ordinate 34 = .ok (.iaload, 1) := by decide +kernel
theorem dX12_ordinate_35 : decode cX12_ordinate 35 = .ok (.iconst 1, 1) := by decide +kernel
theorem dX12_ordinate_36 : decode cX12_ordinate 36 = .ok (.isub, 1) := by decide +kernel
theorem dX12_ordinate_37 : decode cX12_ordinate 37 = .ok (.i2l, 1) := by decide +kernel
theorem dX12_ordinate_38 : decode cX12_ordinate 38 = .ok (.invokestatic 287, 3) := by decide +kernel
theorem dX12_ordinate_41 : decode cX12_ordinate 41 = .ok (.ifCond .eq 13, 3) := by decide +kernel
theorem dX12_ordinate_44 : decode cX12_ordinate 44 = .ok (.iload_n 3, 1) := by decide +kernel
theorem dX12_ordinate_45 : decode cX12_ordinate 45 = .ok (.i2l, 1) := by decide +kernel
theorem dX12_ordinate_46 : decode cX12_ordinate 46 = .ok (.lconst 0, 1) := by decide +kernel
theorem dX12_ordinate_47 : decode cX12_ordinate 47 = .ok (.lconst 1, 1) := by decide +kernel
theorem dX12_ordinate_48 : decode cX12_ordinate 48 = .ok (.invokestatic 287, 3) := by decide +kernel
theorem dX12_ordinate_51 : decode cX12_ordinate 51 = .ok (.ifCond .ne 7, 3) := by decide +kernel
theorem dX12_ordinate_54 : decode cX12_ordinate 54 = .ok (.iconst 1, 1) := by decide +kernel
theorem dX12_ordinate_55 : decode cX12_ordinate 55 = .ok (.goto 4, 3) := by decide +kernel
theorem dX12_ordinate_58 : decode cX12_ordinate 58 = .ok (.iconst 0, 1) := by decide +kernel
theorem dX12_ordinate_59 : decode cX12_ordinate 59 = .ok (.iconst 1, 1) := by decide +kernel
theorem dX12_ordinate_60 : decode cX12_ordinate 60 = .ok (.invokevirtual 277, 3) := by decide +kernel
theorem dX12_ordinate_63 : decode cX12_ordinate 63 = .ok (.ifCond .eq 5, 3) := by decide +kernel
theorem dX12_ordinate_66 : decode cX12_ordinate 66 = .ok (.iconst 0, 1) := by decide +kernel
theorem dX12_ordinate_67 : decode cX12_ordinate 67 = .ok (.ireturn, 1) := by decide +kernel
theorem dX12_ordinate_68 : decode cX12_ordinate 68 = .ok (.iload_n 3, 1) := by decide +kernel
theorem dX12_ordinate_69 : decode cX12_ordinate 69 = .ok (.ifCond .ne 18, 3) := by decide +kernel
theorem dX12_ordinate_72 : decode cX12_ordinate 72 = .ok (.aload_n 0, 1) := by decide +kernel
theorem dX12_ordinate_73 : decode cX12_ordinate 73 = .ok (.getfield 29, 3) := by decide +kernel
theorem dX12_ordinate_76 : decode cX12_ordinate 76 = .ok (.sipush 2048, 3) := by decide +kernel
theorem dX12_ordinate_79 : decode cX12_ordinate 79 = .ok (.iload_n 1, 1) := by decide +kernel
theorem dX12_ordinate_80 : decode cX12_ordinate 80 = .ok (.imul, 1) := by decide +kernel
theorem dX12_ordinate_81 : decode cX12_ordinate 81 = .ok (.iload_n 2, 1) := by decide +kernel
theorem dX12_ordinate_82 : decode cX12_ordinate 82 = .ok (.iadd, 1) := by decide +kernel
theorem dX12_ordinate_83 : decode cX12_ordinate 83 = .ok (.iaload, 1) := by decide +kernel
theorem dX12_ordinate_84 : decode cX12_ordinate 84 = .ok (.goto 15, 3) := by decide +kernel
theorem dX12_ordinate_87 : decode cX12_ordinate 87 = .ok (.aload_n 0, 1) := by decide +kernel
theorem dX12_ordinate_88 : decode cX12_ordinate 88 = .ok (.getfield 32, 3) := by decide +kernel
theorem dX12_ordinate_91 : decode cX12_ordinate 91 = .ok (.sipush 2048, 3) := by decide +kernel
theorem dX12_ordinate_94 : decode cX12_ordinate 94 = .ok (.iload_n 1, 1) := by decide +kernel
theorem dX12_ordinate_95 : decode cX12_ordinate 95 = .ok (.imul, 1) := by decide +kernel
theorem dX12_ordinate_96 : decode cX12_ordinate 96 = .ok (.iload_n 2, 1) := by decide +kernel
theorem dX12_ordinate_97 : decode cX12_ordinate 97 = .ok (.iadd, 1) := by decide +kernel
theorem dX12_ordinate_98 : decode cX12_ordinate 98 = .ok (.iaload, 1) := by decide +kernel
theorem dX12_ordinate_99 : decode cX12_ordinate 99 = .ok (.ireturn, 1) := by decide +kernel
theorem dX12_isFar_0 : decode cX12_isFar 0 = .ok (.lload_n 0, 1) := by decide +kernel
theorem dX12_isFar_1 : decode cX12_isFar 1 = .ok (.ldc2_w 585, 3) := by decide +kernel
theorem dX12_isFar_4 : decode cX12_isFar 4 = .ok (.ldc2_w 436, 3) := by decide +kernel
theorem dX12_isFar_7 : decode cX12_isFar 7 = .ok (.invokestatic 287, 3) := by decide +kernel
theorem dX12_isFar_10 : decode cX12_isFar 10 = .ok (.ireturn, 1) := by decide +kernel
theorem dX12_gap_0 : decode cX12_gap 0 = .ok (.lload_n 0, 1) := by decide +kernel
theorem dX12_gap_1 : decode cX12_gap 1 = .ok (.lload_n 2, 1) := by decide +kernel
theorem dX12_gap_2 : decode cX12_gap 2 = .ok (.lcmp, 1) := by decide +kernel
theorem dX12_gap_3 : decode cX12_gap 3 = .ok (.ifCond .ge 9, 3) := by decide +kernel
theorem dX12_gap_6 : decode cX12_gap 6 = .ok (.lload_n 2, 1) := by decide +kernel
theorem dX12_gap_7 : decode cX12_gap 7 = .ok (.lload_n 0, 1) := by decide +kernel
theorem dX12_gap_8 : decode cX12_gap 8 = .ok (.lsub, 1) := by decide +kernel
theorem dX12_gap_9 : decode cX12_gap 9 = .ok (.goto 18, 3) := by decide +kernel
theorem dX12_gap_12 : decode cX12_gap 12 = .ok (.lload_n 0, 1) := by decide +kernel
theorem dX12_gap_13 : decode cX12_gap 13 = .ok (.lload 4, 2) := by decide +kernel
theorem dX12_gap_15 : decode cX12_gap 15 = .ok (.lcmp, 1) := by decide +kernel
theorem dX12_gap_16 : decode cX12_gap 16 = .ok (.ifCond .le 10, 3) := by decide +kernel
theorem dX12_gap_19 : decode cX12_gap 19 = .ok (.lload_n 0, 1) := by decide +kernel
theorem dX12_gap_20 : decode cX12_gap 20 = .ok (.lload 4, 2) := by decide +kernel
theorem dX12_gap_22 : decode cX12_gap 22 = .ok (.lsub, 1) := by decide +kernel
theorem dX12_gap_23 : decode cX12_gap 23 = .ok (.goto 4, 3) := by decide +kernel
theorem dX12_gap_26 : decode cX12_gap 26 = .ok (.lconst 0, 1) := by decide +kernel
theorem dX12_gap_27 : decode cX12_gap 27 = .ok (.lreturn, 1) := by decide +kernel
theorem dX12_found_0 : decode cX12_found 0 = .ok (.aload_n 0, 1) := by decide +kernel
theorem dX12_found_1 : decode cX12_found 1 = .ok (.iconst 0, 1) := by decide +kernel
theorem dX12_found_2 : decode cX12_found 2 = .ok (.putfield 271, 3) := by decide +kernel
theorem dX12_found_5 : decode cX12_found 5 = .ok (.aload_n 0, 1) := by decide +kernel
theorem dX12_found_6 : decode cX12_found 6 = .ok (.iload_n 1, 1) := by decide +kernel
theorem dX12_found_7 : decode cX12_found 7 = .ok (.i2l, 1) := by decide +kernel
theorem dX12_found_8 : decode cX12_found 8 = .ok (.lconst 0, 1) := by decide +kernel
theorem dX12_found_9 : decode cX12_found 9 = .ok (.aload_n 0, 1) := by decide +kernel
theorem dX12_found_10 : decode cX12_found 10 = .ok (.getfield 575, 3) := by decide +kernel
theorem dX12_found_13 : decode cX12_found 13 = .ok (.iconst 1, 1) := by decide +kernel
theorem dX12_found_14 : decode cX12_found 14 = .ok (.isub, 1) := by decide +kernel
theorem dX12_found_15 : decode cX12_found 15 = .ok (.i2l, 1) := by decide +kernel
theorem dX12_found_16 : decode cX12_found 16 = .ok (.invokestatic 287, 3) := by decide +kernel
theorem dX12_found_19 : decode cX12_found 19 = .ok (.ifCond .ne 7, 3) := by decide +kernel
theorem dX12_found_22 : decode cX12_found 22 = .ok (.iconst 1, 1) := by decide +kernel
theorem dX12_found_23 : decode cX12_found 23 = .ok (.goto 4, 3) := by decide +kernel
theorem dX12_found_26 : decode cX12_found 26 = .ok (.iconst 0, 1) := by decide +kernel
theorem dX12_found_27 : decode cX12_found 27 = .ok (.iconst 1, 1) := by decide +kernel
theorem dX12_found_28 : decode cX12_found 28 = .ok (.invokevirtual 277, 3) := by decide +kernel
theorem dX12_found_31 : decode cX12_found 31 = .ok (.ifCond .eq 5, 3) := by decide +kernel
theorem dX12_found_34 : decode cX12_found 34 = .ok (.iconst 0, 1) := by decide +kernel
theorem dX12_found_35 : decode cX12_found 35 = .ok (.ireturn, 1) := by decide +kernel
theorem dX12_found_36 : decode cX12_found 36 = .ok (.aload_n 0, 1) := by decide +kernel
theorem dX12_found_37 : decode cX12_found 37 = .ok (.getfield 38, 3) := by decide +kernel
theorem dX12_found_40 : decode cX12_found 40 = .ok (.iload_n 1, 1) := by decide +kernel
theorem dX12_found_41 : decode cX12_found 41 = .ok (.iaload, 1) := by decide +kernel
theorem dX12_found_42 : decode cX12_found 42 = .ok (.ireturn, 1) := by decide +kernel
theorem dX12_limb_0 : decode cX12_limb 0 = .ok (.iload_n 2, 1) := by decide +kernel
theorem dX12_limb_1 : decode cX12_limb 1 = .ok (.aload_n 0, 1) := by decide +kernel
theorem dX12_limb_2 : decode cX12_limb 2 = .ok (.getfield 66, 3) := by decide +kernel
theorem dX12_limb_5 : decode cX12_limb 5 = .ok (.iload_n 1, 1) := by decide +kernel
theorem dX12_limb_6 : decode cX12_limb 6 = .ok (.iaload, 1) := by decide +kernel
theorem dX12_limb_7 : decode cX12_limb 7 = .ok (.if_icmp .ge 18, 3) := by decide +kernel
theorem dX12_limb_10 : decode cX12_limb 10 = .ok (.aload_n 0, 1) := by decide +kernel
theorem dX12_limb_11 : decode cX12_limb 11 = .ok (.getfield 63, 3) := by decide +kernel
theorem dX12_limb_14 : decode cX12_limb 14 = .ok (.sipush 300, 3) := by decide +kernel
theorem dX12_limb_17 : decode cX12_limb 17 = .ok (.iload_n 1, 1) := by decide +kernel
theorem dX12_limb_18 : decode cX12_limb 18 = .ok (.imul, 1) := by decide +kernel
theorem dX12_limb_19 : decode cX12_limb 19 = .ok (.iload_n 2, 1) := by decide +kernel
theorem dX12_limb_20 : decode cX12_limb 20 = .ok (.iadd, 1) := by decide +kernel
theorem dX12_limb_21 : decode cX12_limb 21 = .ok (.laload, 1) := by decide +kernel
theorem dX12_limb_22 : decode cX12_limb 22 = .ok (.goto 4, 3) := by decide +kernel
theorem dX12_limb_25 : decode cX12_limb 25 = .ok (.lconst 0, 1) := by decide +kernel
theorem dX12_limb_26 : decode cX12_limb 26 = .ok (.lreturn, 1) := by decide +kernel
theorem dX12_isPoint_0 : decode cX12_isPoint 0 = .ok (.iload_n 0, 1) := by decide +kernel
theorem dX12_isPoint_1 : decode cX12_isPoint 1 = .ok (.ifCond .lt 13, 3) := by decide +kernel
theorem dX12_isPoint_4 : decode cX12_isPoint 4 = .ok (.iload_n 0, 1) := by decide +kernel
theorem dX12_isPoint_5 : decode cX12_isPoint 5 = .ok (.bipush 32, 2) := by decide +kernel
theorem dX12_isPoint_7 : decode cX12_isPoint 7 = .ok (.if_icmp .ge 7, 3) := by decide +kernel
theorem dX12_isPoint_10 : decode cX12_isPoint 10 = .ok (.iconst 1, 1) := by decide +kernel
theorem dX12_isPoint_11 : decode cX12_isPoint 11 = .ok (.goto 4, 3) := by decide +kernel
theorem dX12_isPoint_14 : decode cX12_isPoint 14 = .ok (.iconst 0, 1) := by decide +kernel
theorem dX12_isPoint_15 : decode cX12_isPoint 15 = .ok (.ireturn, 1) := by decide +kernel
theorem dX12_point_0 : decode cX12_point 0 = .ok (.aload_n 0, 1) := by decide +kernel
theorem dX12_point_1 : decode cX12_point 1 = .ok (.iconst 0, 1) := by decide +kernel
theorem dX12_point_2 : decode cX12_point 2 = .ok (.putfield 271, 3) := by decide +kernel
theorem dX12_point_5 : decode cX12_point 5 = .ok (.lload_n 2, 1) := by decide +kernel
theorem dX12_point_6 : decode cX12_point 6 = .ok (.bipush 52, 2) := by decide +kernel
theorem dX12_point_8 : decode cX12_point 8 = .ok (.lushr, 1) := by decide +kernel
theorem dX12_point_9 : decode cX12_point 9 = .ok (.ldc2_w 497, 3) := by decide +kernel
theorem dX12_point_12 : decode cX12_point 12 = .ok (.land, 1) := by decide +kernel
theorem dX12_point_13 : decode cX12_point 13 = .ok (.ldc2_w 497, 3) := by decide +kernel
theorem dX12_point_16 : decode cX12_point 16 = .ok (.lcmp, 1) := by decide +kernel
theorem dX12_point_17 : decode cX12_point 17 = .ok (.ifCond .eq 19, 3) := by decide +kernel
theorem dX12_point_20 : decode cX12_point 20 = .ok (.lload 4, 2) := by decide +kernel
theorem dX12_point_22 : decode cX12_point 22 = .ok (.bipush 52, 2) := by decide +kernel
theorem dX12_point_24 : decode cX12_point 24 = .ok (.lushr, 1) := by decide +kernel
theorem dX12_point_25 : decode cX12_point 25 = .ok (.ldc2_w 497, 3) := by decide +kernel
theorem dX12_point_28 : decode cX12_point 28 = .ok (.land, 1) := by decide +kernel
theorem dX12_point_29 : decode cX12_point 29 = .ok (.ldc2_w 497, 3) := by decide +kernel
theorem dX12_point_32 : decode cX12_point 32 = .ok (.lcmp, 1) := by decide +kernel
theorem dX12_point_33 : decode cX12_point 33 = .ok (.ifCond .ne 7, 3) := by decide +kernel
theorem dX12_point_36 : decode cX12_point 36 = .ok (.iconst 1, 1) := by decide +kernel
theorem dX12_point_37 : decode cX12_point 37 = .ok (.goto 4, 3) := by decide +kernel
theorem dX12_point_40 : decode cX12_point 40 = .ok (.iconst 0, 1) := by decide +kernel
theorem dX12_point_41 : decode cX12_point 41 = .ok (.istore 6, 2) := by decide +kernel
theorem dX12_point_43 : decode cX12_point 43 = .ok (.aload_n 0, 1) := by decide +kernel
theorem dX12_point_44 : decode cX12_point 44 = .ok (.iload_n 1, 1) := by decide +kernel
theorem dX12_point_45 : decode cX12_point 45 = .ok (.invokestatic 625, 3) := by decide +kernel
theorem dX12_point_48 : decode cX12_point 48 = .ok (.ifCond .ne 7, 3) := by decide +kernel
theorem dX12_point_51 : decode cX12_point 51 = .ok (.iconst 1, 1) := by decide +kernel
theorem dX12_point_52 : decode cX12_point 52 = .ok (.goto 4, 3) := by decide +kernel
theorem dX12_point_55 : decode cX12_point 55 = .ok (.iconst 0, 1) := by decide +kernel
theorem dX12_point_56 : decode cX12_point 56 = .ok (.iconst 1, 1) := by decide +kernel
theorem dX12_point_57 : decode cX12_point 57 = .ok (.invokevirtual 277, 3) := by decide +kernel
theorem dX12_point_60 : decode cX12_point 60 = .ok (.ifCond .ne 13, 3) := by decide +kernel
theorem dX12_point_63 : decode cX12_point 63 = .ok (.aload_n 0, 1) := by decide +kernel
theorem dX12_point_64 : decode cX12_point 64 = .ok (.iload 6, 2) := by decide +kernel
theorem dX12_point_66 : decode cX12_point 66 = .ok (.iconst 2, 1) := by decide +kernel
theorem dX12_point_67 : decode cX12_point 67 = .ok (.invokevirtual 277, 3) := by decide +kernel
theorem dX12_point_70 : decode cX12_point 70 = .ok (.ifCond .eq 4, 3) := by decide +kernel
theorem dX12_point_73 : decode cX12_point 73 = .ok (.return_, 1) := by decide +kernel
theorem dX12_point_74 : decode cX12_point 74 = .ok (.aload_n 0, 1) := by decide +kernel
theorem dX12_point_75 : decode cX12_point 75 = .ok (.getfield 72, 3) := by decide +kernel
theorem dX12_point_78 : decode cX12_point 78 = .ok (.iload_n 1, 1) := by decide +kernel
theorem dX12_point_79 : decode cX12_point 79 = .ok (.lload_n 2, 1) := by decide +kernel
theorem dX12_point_80 : decode cX12_point 80 = .ok (.lastore, 1) := by decide +kernel
theorem dX12_point_81 : decode cX12_point 81 = .ok (.aload_n 0, 1) := by decide +kernel
theorem dX12_point_82 : decode cX12_point 82 = .ok (.getfield 75, 3) := by decide +kernel
theorem dX12_point_85 : decode cX12_point 85 = .ok (.iload_n 1, 1) := by decide +kernel
theorem dX12_point_86 : decode cX12_point 86 = .ok (.lload 4, 2) := by decide +kernel
theorem dX12_point_88 : decode cX12_point 88 = .ok (.lastore, 1) := by decide +kernel
theorem dX12_point_89 : decode cX12_point 89 = .ok (.return_, 1) := by decide +kernel
theorem dX12_cross_0 : decode cX12_cross 0 = .ok (.lload_n 0, 1) := by decide +kernel
theorem dX12_cross_1 : decode cX12_cross 1 = .ok (.lload 6, 2) := by decide +kernel
theorem dX12_cross_3 : decode cX12_cross 3 = .ok (.lmul, 1) := by decide +kernel
theorem dX12_cross_4 : decode cX12_cross 4 = .ok (.lload_n 2, 1) := by decide +kernel
theorem dX12_cross_5 : decode cX12_cross 5 = .ok (.lload 4, 2) := by decide +kernel
theorem dX12_cross_7 : decode cX12_cross 7 = .ok (.lmul, 1) := by decide +kernel
theorem dX12_cross_8 : decode cX12_cross 8 = .ok (.lsub, 1) := by decide +kernel
theorem dX12_cross_9 : decode cX12_cross 9 = .ok (.lreturn, 1) := by decide +kernel
theorem dX12_signOf_0 : decode cX12_signOf 0 = .ok (.lload_n 0, 1) := by decide +kernel
theorem dX12_signOf_1 : decode cX12_signOf 1 = .ok (.lconst 0, 1) := by decide +kernel
theorem dX12_signOf_2 : decode cX12_signOf 2 = .ok (.lcmp, 1) := by decide +kernel
theorem dX12_signOf_3 : decode cX12_signOf 3 = .ok (.ifCond .ge 7, 3) := by decide +kernel
theorem dX12_signOf_6 : decode cX12_signOf 6 = .ok (.iconst (-1), 1) := by decide +kernel
theorem dX12_signOf_7 : decode cX12_signOf 7 = .ok (.goto 14, 3) := by decide +kernel
theorem dX12_signOf_10 : decode cX12_signOf 10 = .ok (.lload_n 0, 1) := by decide +kernel
theorem dX12_signOf_11 : decode cX12_signOf 11 = .ok (.lconst 0, 1) := by decide +kernel
theorem dX12_signOf_12 : decode cX12_signOf 12 = .ok (.lcmp, 1) := by decide +kernel
theorem dX12_signOf_13 : decode cX12_signOf 13 = .ok (.ifCond .le 7, 3) := by decide +kernel
theorem dX12_signOf_16 : decode cX12_signOf 16 = .ok (.iconst 1, 1) := by decide +kernel
theorem dX12_signOf_17 : decode cX12_signOf 17 = .ok (.goto 4, 3) := by decide +kernel
theorem dX12_signOf_20 : decode cX12_signOf 20 = .ok (.iconst 0, 1) := by decide +kernel
theorem dX12_signOf_21 : decode cX12_signOf 21 = .ok (.ireturn, 1) := by decide +kernel
theorem dX12_turn_0 : decode cX12_turn 0 = .ok (.lload 4, 2) := by decide +kernel
theorem dX12_turn_2 : decode cX12_turn 2 = .ok (.lload_n 0, 1) := by decide +kernel
theorem dX12_turn_3 : decode cX12_turn 3 = .ok (.lsub, 1) := by decide +kernel
theorem dX12_turn_4 : decode cX12_turn 4 = .ok (.lload 6, 2) := by decide +kernel
theorem dX12_turn_6 : decode cX12_turn 6 = .ok (.lload_n 2, 1) := by decide +kernel
theorem dX12_turn_7 : decode cX12_turn 7 = .ok (.lsub, 1) := by decide +kernel
theorem dX12_turn_8 : decode cX12_turn 8 = .ok (.lload 8, 2) := by decide +kernel
theorem dX12_turn_10 : decode cX12_turn 10 = .ok (.lload_n 0, 1) := by decide +kernel
theorem dX12_turn_11 : decode cX12_turn 11 = .ok (.lsub, 1) := by decide +kernel
theorem dX12_turn_12 : decode cX12_turn 12 = .ok (.lload 10, 2) := by decide +kernel
theorem dX12_turn_14 : decode cX12_turn 14 = .ok (.lload_n 2, 1) := by decide +kernel
theorem dX12_turn_15 : decode cX12_turn 15 = .ok (.lsub, 1) := by decide +kernel
theorem dX12_turn_16 : decode cX12_turn 16 = .ok (.invokestatic 644, 3) := by decide +kernel
theorem dX12_turn_19 : decode cX12_turn 19 = .ok (.invokestatic 648, 3) := by decide +kernel
theorem dX12_turn_22 : decode cX12_turn 22 = .ok (.ireturn, 1) := by decide +kernel
theorem dX12_segment_0 : decode cX12_segment 0 = .ok (.aload_n 0, 1) := by decide +kernel
theorem dX12_segment_1 : decode cX12_segment 1 = .ok (.getfield 78, 3) := by decide +kernel
theorem dX12_segment_4 : decode cX12_segment 4 = .ok (.aload_n 0, 1) := by decide +kernel
theorem dX12_segment_5 : decode cX12_segment 5 = .ok (.getfield 652, 3) := by decide +kernel
theorem dX12_segment_8 : decode cX12_segment 8 = .ok (.aload_n 0, 1) := by decide +kernel
theorem dX12_segment_9 : decode cX12_segment 9 = .ok (.getfield 29, 3) := by decide +kernel
theorem dX12_segment_12 : decode cX12_segment 12 = .ok (.iload_n 1, 1) := by decide +kernel
theorem dX12_segment_13 : decode cX12_segment 13 = .ok (.iaload, 1) := by decide +kernel
theorem dX12_segment_14 : decode cX12_segment 14 = .ok (.i2l, 1) := by decide +kernel
theorem dX12_segment_15 : decode cX12_segment 15 = .ok (.lastore, 1) := by decide +kernel
theorem dX12_segment_16 : decode cX12_segment 16 = .ok (.aload_n 0, 1) := by decide +kernel
theorem dX12_segment_17 : decode cX12_segment 17 = .ok (.getfield 81, 3) := by decide +kernel
theorem dX12_segment_20 : decode cX12_segment 20 = .ok (.aload_n 0, 1) := by decide +kernel
theorem dX12_segment_21 : decode cX12_segment 21 = .ok (.getfield 652, 3) := by decide +kernel
theorem dX12_segment_24 : decode cX12_segment 24 = .ok (.aload_n 0, 1) := by decide +kernel
theorem dX12_segment_25 : decode cX12_segment 25 = .ok (.getfield 32, 3) := by decide +kernel
theorem dX12_segment_28 : decode cX12_segment 28 = .ok (.iload_n 1, 1) := by decide +kernel
theorem dX12_segment_29 : decode cX12_segment 29 = .ok (.iaload, 1) := by decide +kernel
theorem dX12_segment_30 : decode cX12_segment 30 = .ok (.i2l, 1) := by decide +kernel
theorem dX12_segment_31 : decode cX12_segment 31 = .ok (.lastore, 1) := by decide +kernel
theorem dX12_segment_32 : decode cX12_segment 32 = .ok (.aload_n 0, 1) := by decide +kernel
theorem dX12_segment_33 : decode cX12_segment 33 = .ok (.getfield 84, 3) := by decide +kernel
theorem dX12_segment_36 : decode cX12_segment 36 = .ok (.aload_n 0, 1) := by decide +kernel
theorem dX12_segment_37 : decode cX12_segment 37 = .ok (.getfield 652, 3) := by decide +kernel
theorem dX12_segment_40 : decode cX12_segment 40 = .ok (.aload_n 0, 1) := by decide +kernel
theorem dX12_segment_41 : decode cX12_segment 41 = .ok (.getfield 29, 3) := by decide +kernel
theorem dX12_segment_44 : decode cX12_segment 44 = .ok (.iload_n 2, 1) := by decide +kernel
theorem dX12_segment_45 : decode cX12_segment 45 = .ok (.iaload, 1) := by decide +kernel
theorem dX12_segment_46 : decode cX12_segment 46 = .ok (.i2l, 1) := by decide +kernel
theorem dX12_segment_47 : decode cX12_segment 47 = .ok (.lastore, 1) := by decide +kernel
theorem dX12_segment_48 : decode cX12_segment 48 = .ok (.aload_n 0, 1) := by decide +kernel
theorem dX12_segment_49 : decode cX12_segment 49 = .ok (.getfield 87, 3) := by decide +kernel
theorem dX12_segment_52 : decode cX12_segment 52 = .ok (.aload_n 0, 1) := by decide +kernel
theorem dX12_segment_53 : decode cX12_segment 53 = .ok (.getfield 652, 3) := by decide +kernel
theorem dX12_segment_56 : decode cX12_segment 56 = .ok (.aload_n 0, 1) := by decide +kernel
theorem dX12_segment_57 : decode cX12_segment 57 = .ok (.getfield 32, 3) := by decide +kernel
theorem dX12_segment_60 : decode cX12_segment 60 = .ok (.iload_n 2, 1) := by decide +kernel
theorem dX12_segment_61 : decode cX12_segment 61 = .ok (.iaload, 1) := by decide +kernel
theorem dX12_segment_62 : decode cX12_segment 62 = .ok (.i2l, 1) := by decide +kernel
theorem dX12_segment_63 : decode cX12_segment 63 = .ok (.lastore, 1) := by decide +kernel
theorem dX12_segment_64 : decode cX12_segment 64 = .ok (.aload_n 0, 1) := by decide +kernel
theorem dX12_segment_65 : decode cX12_segment 65 = .ok (.getfield 90, 3) := by decide +kernel
theorem dX12_segment_68 : decode cX12_segment 68 = .ok (.aload_n 0, 1) := by decide +kernel
theorem dX12_segment_69 : decode cX12_segment 69 = .ok (.getfield 652, 3) := by decide +kernel
theorem dX12_segment_72 : decode cX12_segment 72 = .ok (.iload_n 3, 1) := by decide +kernel
theorem dX12_segment_73 : decode cX12_segment 73 = .ok (.iastore, 1) := by decide +kernel
theorem dX12_segment_74 : decode cX12_segment 74 = .ok (.aload_n 0, 1) := by decide +kernel
theorem dX12_segment_75 : decode cX12_segment 75 = .ok (.getfield 93, 3) := by decide +kernel
theorem dX12_segment_78 : decode cX12_segment 78 = .ok (.aload_n 0, 1) := by decide +kernel
theorem dX12_segment_79 : decode cX12_segment 79 = .ok (.getfield 652, 3) := by decide +kernel
theorem dX12_segment_82 : decode cX12_segment 82 = .ok (.iload 4, 2) := by decide +kernel
theorem dX12_segment_84 : decode cX12_segment 84 = .ok (.iastore, 1) := by decide +kernel
theorem dX12_segment_85 : decode cX12_segment 85 = .ok (.aload_n 0, 1) := by decide +kernel
theorem dX12_segment_86 : decode cX12_segment 86 = .ok (.getfield 96, 3) := by decide +kernel
theorem dX12_segment_89 : decode cX12_segment 89 = .ok (.aload_n 0, 1) := by decide +kernel
theorem dX12_segment_90 : decode cX12_segment 90 = .ok (.getfield 652, 3) := by decide +kernel
theorem dX12_segment_93 : decode cX12_segment 93 = .ok (.iload 5, 2) := by decide +kernel
theorem dX12_segment_95 : decode cX12_segment 95 = .ok (.iastore, 1) := by decide +kernel
theorem dX12_segment_96 : decode cX12_segment 96 = .ok (.aload_n 0, 1) := by decide +kernel
theorem dX12_segment_97 : decode cX12_segment 97 = .ok (.dup, 1) := by decide +kernel
theorem dX12_segment_98 : decode cX12_segment 98 = .ok (.getfield 652, 3) := by decide +kernel
theorem dX12_segment_101 : decode cX12_segment 101 = .ok (.iconst 1, 1) := by decide +kernel
theorem dX12_segment_102 : decode cX12_segment 102 = .ok (.iadd, 1) := by decide +kernel
theorem dX12_segment_103 : decode cX12_segment 103 = .ok (.putfield 652, 3) := by decide +kernel
theorem dX12_segment_106 : decode cX12_segment 106 = .ok (.return_, 1) := by decide +kernel
theorem dX12_isAlike_0 : decode cX12_isAlike 0 = .ok (.aload_n 0, 1) := by decide +kernel
theorem dX12_isAlike_1 : decode cX12_isAlike 1 = .ok (.getfield 78, 3) := by decide +kernel
theorem dX12_isAlike_4 : decode cX12_isAlike 4 = .ok (.iload_n 1, 1) := by decide +kernel
theorem dX12_isAlike_5 : decode cX12_isAlike 5 = .ok (.laload, 1) := by decide +kernel
theorem dX12_isAlike_6 : decode cX12_isAlike 6 = .ok (.aload_n 0, 1) := by decide +kernel
theorem dX12_isAlike_7 : decode cX12_isAlike 7 = .ok (.getfield 84, 3) := by decide +kernel
theorem dX12_isAlike_10 : decode cX12_isAlike 10 = .ok (.iload_n 1, 1) := by decide +kernel
theorem dX12_isAlike_11 : decode cX12_isAlike 11 = .ok (.laload, 1) := by decide +kernel
theorem dX12_isAlike_12 : decode cX12_isAlike 12 = .ok (.lcmp, 1) := by decide +kernel
theorem dX12_isAlike_13 : decode cX12_isAlike 13 = .ok (.ifCond .ne 23, 3) := by decide +kernel
theorem dX12_isAlike_16 : decode cX12_isAlike 16 = .ok (.aload_n 0, 1) := by decide +kernel
theorem dX12_isAlike_17 : decode cX12_isAlike 17 = .ok (.getfield 81, 3) := by decide +kernel
theorem dX12_isAlike_20 : decode cX12_isAlike 20 = .ok (.iload_n 1, 1) := by decide +kernel
theorem dX12_isAlike_21 : decode cX12_isAlike 21 = .ok (.laload, 1) := by decide +kernel
theorem dX12_isAlike_22 : decode cX12_isAlike 22 = .ok (.aload_n 0, 1) := by decide +kernel
theorem dX12_isAlike_23 : decode cX12_isAlike 23 = .ok (.getfield 87, 3) := by decide +kernel
theorem dX12_isAlike_26 : decode cX12_isAlike 26 = .ok (.iload_n 1, 1) := by decide +kernel
theorem dX12_isAlike_27 : decode cX12_isAlike 27 = .ok (.laload, 1) := by decide +kernel
theorem dX12_isAlike_28 : decode cX12_isAlike 28 = .ok (.lcmp, 1) := by decide +kernel
theorem dX12_isAlike_29 : decode cX12_isAlike 29 = .ok (.ifCond .ne 7, 3) := by decide +kernel
theorem dX12_isAlike_32 : decode cX12_isAlike 32 = .ok (.iconst 1, 1) := by decide +kernel
theorem dX12_isAlike_33 : decode cX12_isAlike 33 = .ok (.goto 4, 3) := by decide +kernel
theorem dX12_isAlike_36 : decode cX12_isAlike 36 = .ok (.iconst 0, 1) := by decide +kernel
theorem dX12_isAlike_37 : decode cX12_isAlike 37 = .ok (.ireturn, 1) := by decide +kernel
theorem dX12_meetsAt_0 : decode cX12_meetsAt 0 = .ok (.aload_n 0, 1) := by decide +kernel
theorem dX12_meetsAt_1 : decode cX12_meetsAt 1 = .ok (.iconst 0, 1) := by decide +kernel
theorem dX12_meetsAt_2 : decode cX12_meetsAt 2 = .ok (.putfield 655, 3) := by decide +kernel
theorem dX12_meetsAt_5 : decode cX12_meetsAt 5 = .ok (.aload_n 0, 1) := by decide +kernel
theorem dX12_meetsAt_6 : decode cX12_meetsAt 6 = .ok (.lload_n 1, 1) := by decide +kernel
theorem dX12_meetsAt_7 : decode cX12_meetsAt 7 = .ok (.putfield 658, 3) := by decide +kernel
theorem dX12_meetsAt_10 : decode cX12_meetsAt 10 = .ok (.aload_n 0, 1) := by decide +kernel
theorem dX12_meetsAt_11 : decode cX12_meetsAt 11 = .ok (.lload_n 3, 1) := by decide +kernel
theorem dX12_meetsAt_12 : decode cX12_meetsAt 12 = .ok (.putfield 661, 3) := by decide +kernel
theorem dX12_meetsAt_15 : decode cX12_meetsAt 15 = .ok (.return_, 1) := by decide +kernel
theorem dX12_isBefore_0 : decode cX12_isBefore 0 = .ok (.lload_n 0, 1) := by decide +kernel
theorem dX12_isBefore_1 : decode cX12_isBefore 1 = .ok (.lload 4, 2) := by decide +kernel
theorem dX12_isBefore_3 : decode cX12_isBefore 3 = .ok (.lcmp, 1) := by decide +kernel
theorem dX12_isBefore_4 : decode cX12_isBefore 4 = .ok (.ifCond .lt 17, 3) := by decide +kernel
theorem dX12_isBefore_7 : decode cX12_isBefore 7 = .ok (.lload_n 0, 1) := by decide +kernel
theorem dX12_isBefore_8 : decode cX12_isBefore 8 = .ok (.lload 4, 2) := by decide +kernel
theorem dX12_isBefore_10 : decode cX12_isBefore 10 = .ok (.lcmp, 1) := by decide +kernel
theorem dX12_isBefore_11 : decode cX12_isBefore 11 = .ok (.ifCond .ne 14, 3) := by decide +kernel
theorem dX12_isBefore_14 : decode cX12_isBefore 14 = .ok (.lload_n 2, 1) := by decide +kernel
theorem dX12_isBefore_15 : decode cX12_isBefore 15 = .ok (.lload 6, 2) := by decide +kernel
theorem dX12_isBefore_17 : decode cX12_isBefore 17 = .ok (.lcmp, 1) := by decide +kernel
theorem dX12_isBefore_18 : decode cX12_isBefore 18 = .ok (.ifCond .ge 7, 3) := by decide +kernel
theorem dX12_isBefore_21 : decode cX12_isBefore 21 = .ok (.iconst 1, 1) := by decide +kernel
theorem dX12_isBefore_22 : decode cX12_isBefore 22 = .ok (.goto 4, 3) := by decide +kernel
theorem dX12_isBefore_25 : decode cX12_isBefore 25 = .ok (.iconst 0, 1) := by decide +kernel
theorem dX12_isBefore_26 : decode cX12_isBefore 26 = .ok (.ireturn, 1) := by decide +kernel
theorem dX12_isOn_0 : decode cX12_isOn 0 = .ok (.aload_n 0, 1) := by decide +kernel
theorem dX12_isOn_1 : decode cX12_isOn 1 = .ok (.getfield 78, 3) := by decide +kernel
theorem dX12_isOn_4 : decode cX12_isOn 4 = .ok (.iload_n 1, 1) := by decide +kernel
theorem dX12_isOn_5 : decode cX12_isOn 5 = .ok (.laload, 1) := by decide +kernel
theorem dX12_isOn_6 : decode cX12_isOn 6 = .ok (.aload_n 0, 1) := by decide +kernel
theorem dX12_isOn_7 : decode cX12_isOn 7 = .ok (.getfield 81, 3) := by decide +kernel
theorem dX12_isOn_10 : decode cX12_isOn 10 = .ok (.iload_n 1, 1) := by decide +kernel
theorem dX12_isOn_11 : decode cX12_isOn 11 = .ok (.laload, 1) := by decide +kernel
theorem dX12_isOn_12 : decode cX12_isOn 12 = .ok (.aload_n 0, 1) := by decide +kernel
theorem dX12_isOn_13 : decode cX12_isOn 13 = .ok (.getfield 84, 3) := by decide +kernel
theorem dX12_isOn_16 : decode cX12_isOn 16 = .ok (.iload_n 1, 1) := by decide +kernel
theorem dX12_isOn_17 : decode cX12_isOn 17 = .ok (.laload, 1) := by decide +kernel
theorem dX12_isOn_18 : decode cX12_isOn 18 = .ok (.aload_n 0, 1) := by decide +kernel
theorem dX12_isOn_19 : decode cX12_isOn 19 = .ok (.getfield 87, 3) := by decide +kernel
theorem dX12_isOn_22 : decode cX12_isOn 22 = .ok (.iload_n 1, 1) := by decide +kernel
theorem dX12_isOn_23 : decode cX12_isOn 23 = .ok (.laload, 1) := by decide +kernel
theorem dX12_isOn_24 : decode cX12_isOn 24 = .ok (.lload_n 2, 1) := by decide +kernel
theorem dX12_isOn_25 : decode cX12_isOn 25 = .ok (.lload 4, 2) := by decide +kernel
theorem dX12_isOn_27 : decode cX12_isOn 27 = .ok (.invokestatic 664, 3) := by decide +kernel
theorem dX12_isOn_30 : decode cX12_isOn 30 = .ok (.ifCond .eq 5, 3) := by decide +kernel
theorem dX12_isOn_33 : decode cX12_isOn 33 = .ok (.iconst 0, 1) := by decide +kernel
theorem dX12_isOn_34 : decode cX12_isOn 34 = .ok (.ireturn, 1) := by decide +kernel
theorem dX12_isOn_35 : decode cX12_isOn 35 = .ok (.aload_n 0, 1) := by decide +kernel
theorem dX12_isOn_36 : decode cX12_isOn 36 = .ok (.getfield 78, 3) := by decide +kernel
theorem dX12_isOn_39 : decode cX12_isOn 39 = .ok (.iload_n 1, 1) := by decide +kernel
theorem dX12_isOn_40 : decode cX12_isOn 40 = .ok (.laload, 1) := by decide +kernel
theorem dX12_isOn_41 : decode cX12_isOn 41 = .ok (.aload_n 0, 1) := by decide +kernel
theorem dX12_isOn_42 : decode cX12_isOn 42 = .ok (.getfield 84, 3) := by decide +kernel
theorem dX12_isOn_45 : decode cX12_isOn 45 = .ok (.iload_n 1, 1) := by decide +kernel
theorem dX12_isOn_46 : decode cX12_isOn 46 = .ok (.laload, 1) := by decide +kernel
theorem dX12_isOn_47 : decode cX12_isOn 47 = .ok (.lcmp, 1) := by decide +kernel
theorem dX12_isOn_48 : decode cX12_isOn 48 = .ok (.ifCond .ge 22, 3) := by decide +kernel
theorem dX12_isOn_51 : decode cX12_isOn 51 = .ok (.lload_n 2, 1) := by decide +kernel
theorem dX12_isOn_52 : decode cX12_isOn 52 = .ok (.aload_n 0, 1) := by decide +kernel
theorem dX12_isOn_53 : decode cX12_isOn 53 = .ok (.getfield 78, 3) := by decide +kernel
theorem dX12_isOn_56 : decode cX12_isOn 56 = .ok (.iload_n 1, 1) := by decide +kernel
theorem dX12_isOn_57 : decode cX12_isOn 57 = .ok (.laload, 1) := by decide +kernel
theorem dX12_isOn_58 : decode cX12_isOn 58 = .ok (.aload_n 0, 1) := by decide +kernel
theorem dX12_isOn_59 : decode cX12_isOn 59 = .ok (.getfield 84, 3) := by decide +kernel
theorem dX12_isOn_62 : decode cX12_isOn 62 = .ok (.iload_n 1, 1) := by decide +kernel
theorem dX12_isOn_63 : decode cX12_isOn 63 = .ok (.laload, 1) := by decide +kernel
theorem dX12_isOn_64 : decode cX12_isOn 64 = .ok (.invokestatic 287, 3) := by decide +kernel
theorem dX12_isOn_67 : decode cX12_isOn 67 = .ok (.goto 19, 3) := by decide +kernel
theorem dX12_isOn_70 : decode cX12_isOn 70 = .ok (.lload_n 2, 1) := by decide +kernel
theorem dX12_isOn_71 : decode cX12_isOn 71 = .ok (.aload_n 0, 1) := by decide +kernel
theorem dX12_isOn_72 : decode cX12_isOn 72 = .ok (.getfield 84, 3) := by decide +kernel
theorem dX12_isOn_75 : decode cX12_isOn 75 = .ok (.iload_n 1, 1) := by decide +kernel
theorem dX12_isOn_76 : decode cX12_isOn 76 = .ok (.laload, 1) := by decide +kernel
theorem dX12_isOn_77 : decode cX12_isOn 77 = .ok (.aload_n 0, 1) := by decide +kernel
theorem dX12_isOn_78 : decode cX12_isOn 78 = .ok (.getfield 78, 3) := by decide +kernel
theorem dX12_isOn_81 : decode cX12_isOn 81 = .ok (.iload_n 1, 1) := by decide +kernel
theorem dX12_isOn_82 : decode cX12_isOn 82 = .ok (.laload, 1) := by decide +kernel
theorem dX12_isOn_83 : decode cX12_isOn 83 = .ok (.invokestatic 287, 3) := by decide +kernel
theorem dX12_isOn_86 : decode cX12_isOn 86 = .ok (.istore 6, 2) := by decide +kernel
theorem dX12_isOn_88 : decode cX12_isOn 88 = .ok (.aload_n 0, 1) := by decide +kernel
theorem dX12_isOn_89 : decode cX12_isOn 89 = .ok (.getfield 81, 3) := by decide +kernel
theorem dX12_isOn_92 : decode cX12_isOn 92 = .ok (.iload_n 1, 1) := by decide +kernel
theorem dX12_isOn_93 : decode cX12_isOn 93 = .ok (.laload, 1) := by decide +kernel
theorem dX12_isOn_94 : decode cX12_isOn 94 = .ok (.aload_n 0, 1) := by decide +kernel
theorem dX12_isOn_95 : decode cX12_isOn 95 = .ok (.getfield 87, 3) := by decide +kernel
theorem dX12_isOn_98 : decode cX12_isOn 98 = .ok (.iload_n 1, 1) := by decide +kernel
theorem dX12_isOn_99 : decode cX12_isOn 99 = .ok (.laload, 1) := by decide +kernel
theorem dX12_isOn_100 : decode cX12_isOn 100 = .ok (.lcmp, 1) := by decide +kernel
theorem dX12_isOn_101 : decode cX12_isOn 101 = .ok (.ifCond .ge 23, 3) := by decide +kernel
theorem dX12_isOn_104 : decode cX12_isOn 104 = .ok (.lload 4, 2) := by decide +kernel
theorem dX12_isOn_106 : decode cX12_isOn 106 = .ok (.aload_n 0, 1) := by decide +kernel
theorem dX12_isOn_107 : decode cX12_isOn 107 = .ok (.getfield 81, 3) := by decide +kernel
theorem dX12_isOn_110 : decode cX12_isOn 110 = .ok (.iload_n 1, 1) := by decide +kernel
theorem dX12_isOn_111 : decode cX12_isOn 111 = .ok (.laload, 1) := by decide +kernel
theorem dX12_isOn_112 : decode cX12_isOn 112 = .ok (.aload_n 0, 1) := by decide +kernel
theorem dX12_isOn_113 : decode cX12_isOn 113 = .ok (.getfield 87, 3) := by decide +kernel
theorem dX12_isOn_116 : decode cX12_isOn 116 = .ok (.iload_n 1, 1) := by decide +kernel
theorem dX12_isOn_117 : decode cX12_isOn 117 = .ok (.laload, 1) := by decide +kernel
theorem dX12_isOn_118 : decode cX12_isOn 118 = .ok (.invokestatic 287, 3) := by decide +kernel
theorem dX12_isOn_121 : decode cX12_isOn 121 = .ok (.goto 20, 3) := by decide +kernel
theorem dX12_isOn_124 : decode cX12_isOn 124 = .ok (.lload 4, 2) := by decide +kernel
theorem dX12_isOn_126 : decode cX12_isOn 126 = .ok (.aload_n 0, 1) := by decide +kernel
theorem dX12_isOn_127 : decode cX12_isOn 127 = .ok (.getfield 87, 3) := by decide +kernel
theorem dX12_isOn_130 : decode cX12_isOn 130 = .ok (.iload_n 1, 1) := by decide +kernel
theorem dX12_isOn_131 : decode cX12_isOn 131 = .ok (.laload, 1) := by decide +kernel
theorem dX12_isOn_132 : decode cX12_isOn 132 = .ok (.aload_n 0, 1) := by decide +kernel
theorem dX12_isOn_133 : decode cX12_isOn 133 = .ok (.getfield 81, 3) := by decide +kernel
theorem dX12_isOn_136 : decode cX12_isOn 136 = .ok (.iload_n 1, 1) := by decide +kernel
theorem dX12_isOn_137 : decode cX12_isOn 137 = .ok (.laload, 1) := by decide +kernel
theorem dX12_isOn_138 : decode cX12_isOn 138 = .ok (.invokestatic 287, 3) := by decide +kernel
theorem dX12_isOn_141 : decode cX12_isOn 141 = .ok (.istore 7, 2) := by decide +kernel
theorem dX12_isOn_143 : decode cX12_isOn 143 = .ok (.iload 6, 2) := by decide +kernel
theorem dX12_isOn_145 : decode cX12_isOn 145 = .ok (.ifCond .eq 12, 3) := by decide +kernel
theorem dX12_isOn_148 : decode cX12_isOn 148 = .ok (.iload 7, 2) := by decide +kernel
theorem dX12_isOn_150 : decode cX12_isOn 150 = .ok (.ifCond .eq 7, 3) := by decide +kernel
theorem dX12_isOn_153 : decode cX12_isOn 153 = .ok (.iconst 1, 1) := by decide +kernel
theorem dX12_isOn_154 : decode cX12_isOn 154 = .ok (.goto 4, 3) := by decide +kernel
theorem dX12_isOn_157 : decode cX12_isOn 157 = .ok (.iconst 0, 1) := by decide +kernel
theorem dX12_isOn_158 : decode cX12_isOn 158 = .ok (.ireturn, 1) := by decide +kernel
theorem dX12_isSame_0 : decode cX12_isSame 0 = .ok (.aload_n 0, 1) := by decide +kernel
theorem dX12_isSame_1 : decode cX12_isSame 1 = .ok (.getfield 29, 3) := by decide +kernel
theorem dX12_isSame_4 : decode cX12_isSame 4 = .ok (.iload_n 1, 1) := by decide +kernel
theorem dX12_isSame_5 : decode cX12_isSame 5 = .ok (.iaload, 1) := by decide +kernel
theorem dX12_isSame_6 : decode cX12_isSame 6 = .ok (.aload_n 0, 1) := by decide +kernel
theorem dX12_isSame_7 : decode cX12_isSame 7 = .ok (.getfield 29, 3) := by decide +kernel
theorem dX12_isSame_10 : decode cX12_isSame 10 = .ok (.iload_n 2, 1) := by decide +kernel
theorem dX12_isSame_11 : decode cX12_isSame 11 = .ok (.iaload, 1) := by decide +kernel
theorem dX12_isSame_12 : decode cX12_isSame 12 = .ok (.if_icmp .ne 22, 3) := by decide +kernel
theorem dX12_isSame_15 : decode cX12_isSame 15 = .ok (.aload_n 0, 1) := by decide +kernel
theorem dX12_isSame_16 : decode cX12_isSame 16 = .ok (.getfield 32, 3) := by decide +kernel
theorem dX12_isSame_19 : decode cX12_isSame 19 = .ok (.iload_n 1, 1) := by decide +kernel
theorem dX12_isSame_20 : decode cX12_isSame 20 = .ok (.iaload, 1) := by decide +kernel
theorem dX12_isSame_21 : decode cX12_isSame 21 = .ok (.aload_n 0, 1) := by decide +kernel
theorem dX12_isSame_22 : decode cX12_isSame 22 = .ok (.getfield 32, 3) := by decide +kernel
theorem dX12_isSame_25 : decode cX12_isSame 25 = .ok (.iload_n 2, 1) := by decide +kernel
theorem dX12_isSame_26 : decode cX12_isSame 26 = .ok (.iaload, 1) := by decide +kernel
theorem dX12_isSame_27 : decode cX12_isSame 27 = .ok (.if_icmp .ne 7, 3) := by decide +kernel
theorem dX12_isSame_30 : decode cX12_isSame 30 = .ok (.iconst 1, 1) := by decide +kernel
theorem dX12_isSame_31 : decode cX12_isSame 31 = .ok (.goto 4, 3) := by decide +kernel
theorem dX12_isSame_34 : decode cX12_isSame 34 = .ok (.iconst 0, 1) := by decide +kernel
theorem dX12_isSame_35 : decode cX12_isSame 35 = .ok (.ireturn, 1) := by decide +kernel
theorem dX12_following_0 : decode cX12_following 0 = .ok (.aload_n 0, 1) := by decide +kernel
theorem dX12_following_1 : decode cX12_following 1 = .ok (.getfield 90, 3) := by decide +kernel
theorem dX12_following_4 : decode cX12_following 4 = .ok (.iload_n 1, 1) := by decide +kernel
theorem dX12_following_5 : decode cX12_following 5 = .ok (.iaload, 1) := by decide +kernel
theorem dX12_following_6 : decode cX12_following 6 = .ok (.istore_n 2, 1) := by decide +kernel
theorem dX12_following_7 : decode cX12_following 7 = .ok (.iload_n 1, 1) := by decide +kernel
theorem dX12_following_8 : decode cX12_following 8 = .ok (.iconst 1, 1) := by decide +kernel
theorem dX12_following_9 : decode cX12_following 9 = .ok (.iadd, 1) := by decide +kernel
theorem dX12_following_10 : decode cX12_following 10 = .ok (.aload_n 0, 1) := by decide +kernel
theorem dX12_following_11 : decode cX12_following 11 = .ok (.getfield 111, 3) := by decide +kernel
theorem dX12_following_14 : decode cX12_following 14 = .ok (.iload_n 2, 1) := by decide +kernel
theorem dX12_following_15 : decode cX12_following 15 = .ok (.iconst 1, 1) := by decide +kernel
theorem dX12_following_16 : decode cX12_following 16 = .ok (.iadd, 1) := by decide +kernel
theorem dX12_following_17 : decode cX12_following 17 = .ok (.iaload, 1) := by decide +kernel
theorem dX12_following_18 : decode cX12_following 18 = .ok (.if_icmp .ne 12, 3) := by decide +kernel
theorem dX12_following_21 : decode cX12_following 21 = .ok (.aload_n 0, 1) := by decide +kernel
theorem dX12_following_22 : decode cX12_following 22 = .ok (.getfield 111, 3) := by decide +kernel
theorem dX12_following_25 : decode cX12_following 25 = .ok (.iload_n 2, 1) := by decide +kernel
theorem dX12_following_26 : decode cX12_following 26 = .ok (.iaload, 1) := by decide +kernel
theorem dX12_following_27 : decode cX12_following 27 = .ok (.goto 6, 3) := by decide +kernel
theorem dX12_following_30 : decode cX12_following 30 = .ok (.iload_n 1, 1) := by decide +kernel
theorem dX12_following_31 : decode cX12_following 31 = .ok (.iconst 1, 1) := by decide +kernel
theorem dX12_following_32 : decode cX12_following 32 = .ok (.iadd, 1) := by decide +kernel
theorem dX12_following_33 : decode cX12_following 33 = .ok (.ireturn, 1) := by decide +kernel
theorem dX12_isBetween_0 : decode cX12_isBetween 0 = .ok (.lload_n 0, 1) := by decide +kernel
theorem dX12_isBetween_1 : decode cX12_isBetween 1 = .ok (.lload_n 2, 1) := by decide +kernel
theorem dX12_isBetween_2 : decode cX12_isBetween 2 = .ok (.lload 4, 2) := by decide +kernel
theorem dX12_isBetween_4 : decode cX12_isBetween 4 = .ok (.lload 6, 2) := by decide +kernel
theorem dX12_isBetween_6 : decode cX12_isBetween 6 = .ok (.invokestatic 644, 3) := by decide +kernel
theorem dX12_isBetween_9 : decode cX12_isBetween 9 = .ok (.lstore 12, 2) := by decide +kernel
theorem dX12_isBetween_11 : decode cX12_isBetween 11 = .ok (.lload_n 0, 1) := by decide +kernel
theorem dX12_isBetween_12 : decode cX12_isBetween 12 = .ok (.lload_n 2, 1) := by decide +kernel
theorem dX12_isBetween_13 : decode cX12_isBetween 13 = .ok (.lload 8, 2) := by decide +kernel
theorem dX12_isBetween_15 : decode cX12_isBetween 15 = .ok (.lload 10, 2) := by decide +kernel
theorem dX12_isBetween_17 : decode cX12_isBetween 17 = .ok (.invokestatic 644, 3) := by decide +kernel
theorem dX12_isBetween_20 : decode cX12_isBetween 20 = .ok (.lstore 14, 2) := by decide +kernel
theorem dX12_isBetween_22 : decode cX12_isBetween 22 = .ok (.lload 8, 2) := by decide +kernel
theorem dX12_isBetween_24 : decode cX12_isBetween 24 = .ok (.lload 10, 2) := by decide +kernel
theorem dX12_isBetween_26 : decode cX12_isBetween 26 = .ok (.lload 4, 2) := by decide +kernel
theorem dX12_isBetween_28 : decode cX12_isBetween 28 = .ok (.lload 6, 2) := by decide +kernel
theorem dX12_isBetween_30 : decode cX12_isBetween 30 = .ok (.invokestatic 644, 3) := by decide +kernel
theorem dX12_isBetween_33 : decode cX12_isBetween 33 = .ok (.lstore 16, 2) := by decide +kernel
theorem dX12_isBetween_35 : decode cX12_isBetween 35 = .ok (.lload 12, 2) := by decide +kernel
theorem dX12_isBetween_37 : decode cX12_isBetween 37 = .ok (.lconst 0, 1) := by decide +kernel
theorem dX12_isBetween_38 : decode cX12_isBetween 38 = .ok (.lcmp, 1) := by decide +kernel
theorem dX12_isBetween_39 : decode cX12_isBetween 39 = .ok (.ifCond .le 23, 3) := by decide +kernel
theorem dX12_isBetween_42 : decode cX12_isBetween 42 = .ok (.lload 14, 2) := by decide +kernel
theorem dX12_isBetween_44 : decode cX12_isBetween 44 = .ok (.lconst 0, 1) := by decide +kernel
theorem dX12_isBetween_45 : decode cX12_isBetween 45 = .ok (.lcmp, 1) := by decide +kernel
theorem dX12_isBetween_46 : decode cX12_isBetween 46 = .ok (.ifCond .le 14, 3) := by decide +kernel
theorem dX12_isBetween_49 : decode cX12_isBetween 49 = .ok (.lload 16, 2) := by decide +kernel
theorem dX12_isBetween_51 : decode cX12_isBetween 51 = .ok (.lconst 0, 1) := by decide +kernel
theorem dX12_isBetween_52 : decode cX12_isBetween 52 = .ok (.lcmp, 1) := by decide +kernel
theorem dX12_isBetween_53 : decode cX12_isBetween 53 = .ok (.ifCond .le 7, 3) := by decide +kernel
theorem dX12_isBetween_56 : decode cX12_isBetween 56 = .ok (.iconst 1, 1) := by decide +kernel
theorem dX12_isBetween_57 : decode cX12_isBetween 57 = .ok (.goto 4, 3) := by decide +kernel
theorem dX12_isBetween_60 : decode cX12_isBetween 60 = .ok (.iconst 0, 1) := by decide +kernel
theorem dX12_isBetween_61 : decode cX12_isBetween 61 = .ok (.ireturn, 1) := by decide +kernel
theorem dX12_isBetween_62 : decode cX12_isBetween 62 = .ok (.lload 12, 2) := by decide +kernel
theorem dX12_isBetween_64 : decode cX12_isBetween 64 = .ok (.lconst 0, 1) := by decide +kernel
theorem dX12_isBetween_65 : decode cX12_isBetween 65 = .ok (.lcmp, 1) := by decide +kernel
theorem dX12_isBetween_66 : decode cX12_isBetween 66 = .ok (.ifCond .ne 30, 3) := by decide +kernel
theorem dX12_isBetween_69 : decode cX12_isBetween 69 = .ok (.lload_n 0, 1) := by decide +kernel
theorem dX12_isBetween_70 : decode cX12_isBetween 70 = .ok (.lload 4, 2) := by decide +kernel
theorem dX12_isBetween_72 : decode cX12_isBetween 72 = .ok (.lmul, 1) := by decide +kernel
theorem dX12_isBetween_73 : decode cX12_isBetween 73 = .ok (.lload_n 2, 1) := by decide +kernel
theorem dX12_isBetween_74 : decode cX12_isBetween 74 = .ok (.lload 6, 2) := by decide +kernel
theorem dX12_isBetween_76 : decode cX12_isBetween 76 = .ok (.lmul, 1) := by decide +kernel
theorem dX12_isBetween_77 : decode cX12_isBetween 77 = .ok (.ladd, 1) := by decide +kernel
theorem dX12_isBetween_78 : decode cX12_isBetween 78 = .ok (.lconst 0, 1) := by decide +kernel
theorem dX12_isBetween_79 : decode cX12_isBetween 79 = .ok (.lcmp, 1) := by decide +kernel
theorem dX12_isBetween_80 : decode cX12_isBetween 80 = .ok (.ifCond .ge 14, 3) := by decide +kernel
theorem dX12_isBetween_83 : decode cX12_isBetween 83 = .ok (.lload 14, 2) := by decide +kernel
theorem dX12_isBetween_85 : decode cX12_isBetween 85 = .ok (.lconst 0, 1) := by decide +kernel
theorem dX12_isBetween_86 : decode cX12_isBetween 86 = .ok (.lcmp, 1) := by decide +kernel
theorem dX12_isBetween_87 : decode cX12_isBetween 87 = .ok (.ifCond .le 7, 3) := by decide +kernel
theorem dX12_isBetween_90 : decode cX12_isBetween 90 = .ok (.iconst 1, 1) := by decide +kernel
theorem dX12_isBetween_91 : decode cX12_isBetween 91 = .ok (.goto 4, 3) := by decide +kernel
theorem dX12_isBetween_94 : decode cX12_isBetween 94 = .ok (.iconst 0, 1) := by decide +kernel
theorem dX12_isBetween_95 : decode cX12_isBetween 95 = .ok (.ireturn, 1) := by decide +kernel
theorem dX12_isBetween_96 : decode cX12_isBetween 96 = .ok (.lload 14, 2) := by decide +kernel
theorem dX12_isBetween_98 : decode cX12_isBetween 98 = .ok (.lconst 0, 1) := by decide +kernel
theorem dX12_isBetween_99 : decode cX12_isBetween 99 = .ok (.lcmp, 1) := by decide +kernel
theorem dX12_isBetween_100 : decode cX12_isBetween 100 = .ok (.ifCond .gt 10, 3) := by decide +kernel
theorem dX12_isBetween_103 : decode cX12_isBetween 103 = .ok (.lload 16, 2) := by decide +kernel
theorem dX12_isBetween_105 : decode cX12_isBetween 105 = .ok (.lconst 0, 1) := by decide +kernel
theorem dX12_isBetween_106 : decode cX12_isBetween 106 = .ok (.lcmp, 1) := by decide +kernel
theorem dX12_isBetween_107 : decode cX12_isBetween 107 = .ok (.ifCond .le 7, 3) := by decide +kernel
theorem dX12_isBetween_110 : decode cX12_isBetween 110 = .ok (.iconst 1, 1) := by decide +kernel
theorem dX12_isBetween_111 : decode cX12_isBetween 111 = .ok (.goto 4, 3) := by decide +kernel
theorem dX12_isBetween_114 : decode cX12_isBetween 114 = .ok (.iconst 0, 1) := by decide +kernel
theorem dX12_isBetween_115 : decode cX12_isBetween 115 = .ok (.ireturn, 1) := by decide +kernel
theorem dX12_begins_0 : decode cX12_begins 0 = .ok (.aload_n 0, 1) := by decide +kernel
theorem dX12_begins_1 : decode cX12_begins 1 = .ok (.getfield 78, 3) := by decide +kernel
theorem dX12_begins_4 : decode cX12_begins 4 = .ok (.iload_n 1, 1) := by decide +kernel
theorem dX12_begins_5 : decode cX12_begins 5 = .ok (.laload, 1) := by decide +kernel
theorem dX12_begins_6 : decode cX12_begins 6 = .ok (.aload_n 0, 1) := by decide +kernel
theorem dX12_begins_7 : decode cX12_begins 7 = .ok (.getfield 658, 3) := by decide +kernel
theorem dX12_begins_10 : decode cX12_begins 10 = .ok (.lcmp, 1) := by decide +kernel
theorem dX12_begins_11 : decode cX12_begins 11 = .ok (.ifCond .ne 21, 3) := by decide +kernel
theorem dX12_begins_14 : decode cX12_begins 14 = .ok (.aload_n 0, 1) := by decide +kernel
theorem dX12_begins_15 : decode cX12_begins 15 = .ok (.getfield 81, 3) := by decide +kernel
theorem dX12_begins_18 : decode cX12_begins 18 = .ok (.iload_n 1, 1) := by decide +kernel
theorem dX12_begins_19 : decode cX12_begins 19 = .ok (.laload, 1) := by decide +kernel
theorem dX12_begins_20 : decode cX12_begins 20 = .ok (.aload_n 0, 1) := by decide +kernel
theorem dX12_begins_21 : decode cX12_begins 21 = .ok (.getfield 661, 3) := by decide +kernel
theorem dX12_begins_24 : decode cX12_begins 24 = .ok (.lcmp, 1) := by decide +kernel
theorem dX12_begins_25 : decode cX12_begins 25 = .ok (.ifCond .ne 7, 3) := by decide +kernel
theorem dX12_begins_28 : decode cX12_begins 28 = .ok (.iconst 1, 1) := by decide +kernel
theorem dX12_begins_29 : decode cX12_begins 29 = .ok (.goto 4, 3) := by decide +kernel
theorem dX12_begins_32 : decode cX12_begins 32 = .ok (.iconst 0, 1) := by decide +kernel
theorem dX12_begins_33 : decode cX12_begins 33 = .ok (.ireturn, 1) := by decide +kernel
theorem dX12_tellPair_0 : decode cX12_tellPair 0 = .ok (.aload_n 0, 1) := by decide +kernel
theorem dX12_tellPair_1 : decode cX12_tellPair 1 = .ok (.getfield 35, 3) := by decide +kernel
theorem dX12_tellPair_4 : decode cX12_tellPair 4 = .ok (.iconst 1, 1) := by decide +kernel
theorem dX12_tellPair_5 : decode cX12_tellPair 5 = .ok (.aload_n 0, 1) := by decide +kernel
theorem dX12_tellPair_6 : decode cX12_tellPair 6 = .ok (.getfield 105, 3) := by decide +kernel
theorem dX12_tellPair_9 : decode cX12_tellPair 9 = .ok (.aload_n 0, 1) := by decide +kernel
theorem dX12_tellPair_10 : decode cX12_tellPair 10 = .ok (.getfield 90, 3) := by decide +kernel
theorem dX12_tellPair_13 : decode cX12_tellPair 13 = .ok (.iload_n 2, 1) := by decide +kernel
theorem dX12_tellPair_14 : decode cX12_tellPair 14 = .ok (.iaload, 1) := by decide +kernel
theorem dX12_tellPair_15 : decode cX12_tellPair 15 = .ok (.iaload, 1) := by decide +kernel
theorem dX12_tellPair_16 : decode cX12_tellPair 16 = .ok (.iastore, 1) := by decide +kernel
theorem dX12_tellPair_17 : decode cX12_tellPair 17 = .ok (.aload_n 0, 1) := by decide +kernel
theorem dX12_tellPair_18 : decode cX12_tellPair 18 = .ok (.getfield 35, 3) := by decide +kernel
theorem dX12_tellPair_21 : decode cX12_tellPair 21 = .ok (.iconst 2, 1) := by decide +kernel
theorem dX12_tellPair_22 : decode cX12_tellPair 22 = .ok (.aload_n 0, 1) := by decide +kernel
theorem dX12_tellPair_23 : decode cX12_tellPair 23 = .ok (.getfield 108, 3) := by decide +kernel
theorem dX12_tellPair_26 : decode cX12_tellPair 26 = .ok (.aload_n 0, 1) := by decide +kernel
theorem dX12_tellPair_27 : decode cX12_tellPair 27 = .ok (.getfield 90, 3) := by decide +kernel
theorem dX12_tellPair_30 : decode cX12_tellPair 30 = .ok (.iload_n 2, 1) := by decide +kernel
theorem dX12_tellPair_31 : decode cX12_tellPair 31 = .ok (.iaload, 1) := by decide +kernel
theorem dX12_tellPair_32 : decode cX12_tellPair 32 = .ok (.iaload, 1) := by decide +kernel
theorem dX12_tellPair_33 : decode cX12_tellPair 33 = .ok (.iastore, 1) := by decide +kernel
theorem dX12_tellPair_34 : decode cX12_tellPair 34 = .ok (.aload_n 0, 1) := by decide +kernel
theorem dX12_tellPair_35 : decode cX12_tellPair 35 = .ok (.getfield 35, 3) := by decide +kernel
theorem dX12_tellPair_38 : decode cX12_tellPair 38 = .ok (.iconst 3, 1) := by decide +kernel
theorem dX12_tellPair_39 : decode cX12_tellPair 39 = .ok (.aload_n 0, 1) := by decide +kernel
theorem dX12_tellPair_40 : decode cX12_tellPair 40 = .ok (.getfield 93, 3) := by decide +kernel
theorem dX12_tellPair_43 : decode cX12_tellPair 43 = .ok (.iload_n 2, 1) := by decide +kernel
theorem dX12_tellPair_44 : decode cX12_tellPair 44 = .ok (.iaload, 1) := by decide +kernel
theorem dX12_tellPair_45 : decode cX12_tellPair 45 = .ok (.iastore, 1) := by decide +kernel
theorem dX12_tellPair_46 : decode cX12_tellPair 46 = .ok (.aload_n 0, 1) := by decide +kernel
theorem dX12_tellPair_47 : decode cX12_tellPair 47 = .ok (.getfield 35, 3) := by decide +kernel
theorem dX12_tellPair_50 : decode cX12_tellPair 50 = .ok (.iconst 4, 1) := by decide +kernel
theorem dX12_tellPair_51 : decode cX12_tellPair 51 = .ok (.aload_n 0, 1) := by decide +kernel
theorem dX12_tellPair_52 : decode cX12_tellPair 52 = .ok (.getfield 105, 3) := by decide +kernel
theorem dX12_tellPair_55 : decode cX12_tellPair 55 = .ok (.aload_n 0, 1) := by decide +kernel
theorem dX12_tellPair_56 : decode cX12_tellPair 56 = .ok (.getfield 90, 3) := by decide +kernel
theorem dX12_tellPair_59 : decode cX12_tellPair 59 = .ok (.iload_n 3, 1) := by decide +kernel
theorem dX12_tellPair_60 : decode cX12_tellPair 60 = .ok (.iaload, 1) := by decide +kernel
theorem dX12_tellPair_61 : decode cX12_tellPair 61 = .ok (.iaload, 1) := by decide +kernel
theorem dX12_tellPair_62 : decode cX12_tellPair 62 = .ok (.iastore, 1) := by decide +kernel
theorem dX12_tellPair_63 : decode cX12_tellPair 63 = .ok (.aload_n 0, 1) := by decide +kernel
theorem dX12_tellPair_64 : decode cX12_tellPair 64 = .ok (.getfield 35, 3) := by decide +kernel
theorem dX12_tellPair_67 : decode cX12_tellPair 67 = .ok (.iconst 5, 1) := by decide +kernel
theorem dX12_tellPair_68 : decode cX12_tellPair 68 = .ok (.aload_n 0, 1) := by decide +kernel
theorem dX12_tellPair_69 : decode cX12_tellPair 69 = .ok (.getfield 108, 3) := by decide +kernel
theorem dX12_tellPair_72 : decode cX12_tellPair 72 = .ok (.aload_n 0, 1) := by decide +kernel
theorem dX12_tellPair_73 : decode cX12_tellPair 73 = .ok (.getfield 90, 3) := by decide +kernel
theorem dX12_tellPair_76 : decode cX12_tellPair 76 = .ok (.iload_n 3, 1) := by decide +kernel
theorem dX12_tellPair_77 : decode cX12_tellPair 77 = .ok (.iaload, 1) := by decide +kernel
theorem dX12_tellPair_78 : decode cX12_tellPair 78 = .ok (.iaload, 1) := by decide +kernel
theorem dX12_tellPair_79 : decode cX12_tellPair 79 = .ok (.iastore, 1) := by decide +kernel
theorem dX12_tellPair_80 : decode cX12_tellPair 80 = .ok (.aload_n 0, 1) := by decide +kernel
theorem dX12_tellPair_81 : decode cX12_tellPair 81 = .ok (.getfield 35, 3) := by decide +kernel
theorem dX12_tellPair_84 : decode cX12_tellPair 84 = .ok (.bipush 6, 2) := by decide +kernel
theorem dX12_tellPair_86 : decode cX12_tellPair 86 = .ok (.aload_n 0, 1) := by decide +kernel
theorem dX12_tellPair_87 : decode cX12_tellPair 87 = .ok (.getfield 93, 3) := by decide +kernel
theorem dX12_tellPair_90 : decode cX12_tellPair 90 = .ok (.iload_n 3, 1) := by decide +kernel
theorem dX12_tellPair_91 : decode cX12_tellPair 91 = .ok (.iaload, 1) := by decide +kernel
theorem dX12_tellPair_92 : decode cX12_tellPair 92 = .ok (.iastore, 1) := by decide +kernel
theorem dX12_tellPair_93 : decode cX12_tellPair 93 = .ok (.iload_n 1, 1) := by decide +kernel
theorem dX12_tellPair_94 : decode cX12_tellPair 94 = .ok (.ireturn, 1) := by decide +kernel
theorem dX12_tellRing_0 : decode cX12_tellRing 0 = .ok (.aload_n 0, 1) := by decide +kernel
theorem dX12_tellRing_1 : decode cX12_tellRing 1 = .ok (.getfield 35, 3) := by decide +kernel
theorem dX12_tellRing_4 : decode cX12_tellRing 4 = .ok (.iconst 1, 1) := by decide +kernel
theorem dX12_tellRing_5 : decode cX12_tellRing 5 = .ok (.aload_n 0, 1) := by decide +kernel
theorem dX12_tellRing_6 : decode cX12_tellRing 6 = .ok (.getfield 105, 3) := by decide +kernel
theorem dX12_tellRing_9 : decode cX12_tellRing 9 = .ok (.iload_n 2, 1) := by decide +kernel
theorem dX12_tellRing_10 : decode cX12_tellRing 10 = .ok (.iaload, 1) := by decide +kernel
theorem dX12_tellRing_11 : decode cX12_tellRing 11 = .ok (.iastore, 1) := by decide +kernel
theorem dX12_tellRing_12 : decode cX12_tellRing 12 = .ok (.aload_n 0, 1) := by decide +kernel
theorem dX12_tellRing_13 : decode cX12_tellRing 13 = .ok (.getfield 35, 3) := by decide +kernel
theorem dX12_tellRing_16 : decode cX12_tellRing 16 = .ok (.iconst 2, 1) := by decide +kernel
theorem dX12_tellRing_17 : decode cX12_tellRing 17 = .ok (.aload_n 0, 1) := by decide +kernel
theorem dX12_tellRing_18 : decode cX12_tellRing 18 = .ok (.getfield 108, 3) := by decide +kernel
theorem dX12_tellRing_21 : decode cX12_tellRing 21 = .ok (.iload_n 2, 1) := by decide +kernel
theorem dX12_tellRing_22 : decode cX12_tellRing 22 = .ok (.iaload, 1) := by decide +kernel
theorem dX12_tellRing_23 : decode cX12_tellRing 23 = .ok (.iastore, 1) := by decide +kernel
theorem dX12_tellRing_24 : decode cX12_tellRing 24 = .ok (.iload_n 1, 1) := by decide +kernel
theorem dX12_tellRing_25 : decode cX12_tellRing 25 = .ok (.ireturn, 1) := by decide +kernel
theorem dX12_place_0 : decode cX12_place 0 = .ok (.aload_n 0, 1) := by decide +kernel
theorem dX12_place_1 : decode cX12_place 1 = .ok (.iconst 0, 1) := by decide +kernel
theorem dX12_place_2 : decode cX12_place 2 = .ok (.putfield 271, 3) := by decide +kernel
theorem dX12_place_5 : decode cX12_place 5 = .ok (.aload_n 0, 1) := by decide +kernel
theorem dX12_place_6 : decode cX12_place 6 = .ok (.iload_n 1, 1) := by decide +kernel
theorem dX12_place_7 : decode cX12_place 7 = .ok (.i2l, 1) := by decide +kernel
theorem dX12_place_8 : decode cX12_place 8 = .ok (.lconst 0, 1) := by decide +kernel
theorem dX12_place_9 : decode cX12_place 9 = .ok (.ldc2_w 772, 3) := by decide +kernel
theorem dX12_place_12 : decode cX12_place 12 = .ok (.invokestatic 287, 3) := by decide +kernel
theorem dX12_place_15 : decode cX12_place 15 = .ok (.ifCond .ne 7, 3) := by decide +kernel
theorem dX12_place_18 : decode cX12_place 18 = .ok (.iconst 1, 1) := by decide +kernel
theorem dX12_place_19 : decode cX12_place 19 = .ok (.goto 4, 3) := by decide +kernel
theorem dX12_place_22 : decode cX12_place 22 = .ok (.iconst 0, 1) := by decide +kernel
theorem dX12_place_23 : decode cX12_place 23 = .ok (.iconst 1, 1) := by decide +kernel
theorem dX12_place_24 : decode cX12_place 24 = .ok (.invokevirtual 277, 3) := by decide +kernel
theorem dX12_place_27 : decode cX12_place 27 = .ok (.ifCond .eq 5, 3) := by decide +kernel
theorem dX12_place_30 : decode cX12_place 30 = .ok (.iconst 0, 1) := by decide +kernel
theorem dX12_place_31 : decode cX12_place 31 = .ok (.ireturn, 1) := by decide +kernel
theorem dX12_place_32 : decode cX12_place 32 = .ok (.aload_n 0, 1) := by decide +kernel
theorem dX12_place_33 : decode cX12_place 33 = .ok (.getfield 35, 3) := by decide +kernel
theorem dX12_place_36 : decode cX12_place 36 = .ok (.iload_n 1, 1) := by decide +kernel
theorem dX12_place_37 : decode cX12_place 37 = .ok (.iaload, 1) := by decide +kernel
theorem dX12_place_38 : decode cX12_place 38 = .ok (.ireturn, 1) := by decide +kernel
theorem dX12_isSooner_0 : decode cX12_isSooner 0 = .ok (.aload_n 0, 1) := by decide +kernel
theorem dX12_isSooner_1 : decode cX12_isSooner 1 = .ok (.getfield 807, 3) := by decide +kernel
theorem dX12_isSooner_4 : decode cX12_isSooner 4 = .ok (.aload_n 0, 1) := by decide +kernel
theorem dX12_isSooner_5 : decode cX12_isSooner 5 = .ok (.getfield 144, 3) := by decide +kernel
theorem dX12_isSooner_8 : decode cX12_isSooner 8 = .ok (.iload_n 1, 1) := by decide +kernel
theorem dX12_isSooner_9 : decode cX12_isSooner 9 = .ok (.laload, 1) := by decide +kernel
theorem dX12_isSooner_10 : decode cX12_isSooner 10 = .ok (.lmul, 1) := by decide +kernel
theorem dX12_isSooner_11 : decode cX12_isSooner 11 = .ok (.aload_n 0, 1) := by decide +kernel
theorem dX12_isSooner_12 : decode cX12_isSooner 12 = .ok (.getfield 141, 3) := by decide +kernel
theorem dX12_isSooner_15 : decode cX12_isSooner 15 = .ok (.iload_n 1, 1) := by decide +kernel
theorem dX12_isSooner_16 : decode cX12_isSooner 16 = .ok (.laload, 1) := by decide +kernel
theorem dX12_isSooner_17 : decode cX12_isSooner 17 = .ok (.aload_n 0, 1) := by decide +kernel
theorem dX12_isSooner_18 : decode cX12_isSooner 18 = .ok (.getfield 804, 3) := by decide +kernel
theorem dX12_isSooner_21 : decode cX12_isSooner 21 = .ok (.lmul, 1) := by decide +kernel
theorem dX12_isSooner_22 : decode cX12_isSooner 22 = .ok (.lsub, 1) := by decide +kernel
theorem dX12_isSooner_23 : decode cX12_isSooner 23 = .ok (.lstore_n 2, 1) := by decide +kernel
theorem dX12_isSooner_24 : decode cX12_isSooner 24 = .ok (.lload_n 2, 1) := by decide +kernel
theorem dX12_isSooner_25 : decode cX12_isSooner 25 = .ok (.lconst 0, 1) := by decide +kernel
theorem dX12_isSooner_26 : decode cX12_isSooner 26 = .ok (.lcmp, 1) := by decide +kernel
theorem dX12_isSooner_27 : decode cX12_isSooner 27 = .ok (.ifCond .lt 25, 3) := by decide +kernel
theorem dX12_isSooner_30 : decode cX12_isSooner 30 = .ok (.lload_n 2, 1) := by decide +kernel
theorem dX12_isSooner_31 : decode cX12_isSooner 31 = .ok (.lconst 0, 1) := by decide +kernel
theorem dX12_isSooner_32 : decode cX12_isSooner 32 = .ok (.lcmp, 1) := by decide +kernel
theorem dX12_isSooner_33 : decode cX12_isSooner 33 = .ok (.ifCond .ne 23, 3) := by decide +kernel
theorem dX12_isSooner_36 : decode cX12_isSooner 36 = .ok (.aload_n 0, 1) := by decide +kernel
theorem dX12_isSooner_37 : decode cX12_isSooner 37 = .ok (.getfield 810, 3) := by decide +kernel
theorem dX12_isSooner_40 : decode cX12_isSooner 40 = .ok (.ifCond .ne 16, 3) := by decide +kernel
theorem dX12_isSooner_43 : decode cX12_isSooner 43 = .ok (.aload_n 0, 1) := by decide +kernel
theorem dX12_isSooner_44 : decode cX12_isSooner 44 = .ok (.getfield 147, 3) := by decide +kernel
theorem dX12_isSooner_47 : decode cX12_isSooner 47 = .ok (.iload_n 1, 1) := by decide +kernel
theorem dX12_isSooner_48 : decode cX12_isSooner 48 = .ok (.baload, 1) := by decide +kernel
theorem dX12_isSooner_49 : decode cX12_isSooner 49 = .ok (.ifCond .eq 7, 3) := by decide +kernel
theorem dX12_isSooner_52 : decode cX12_isSooner 52 = .ok (.iconst 1, 1) := by decide +kernel
theorem dX12_isSooner_53 : decode cX12_isSooner 53 = .ok (.goto 4, 3) := by decide +kernel
theorem dX12_isSooner_56 : decode cX12_isSooner 56 = .ok (.iconst 0, 1) := by decide +kernel
theorem dX12_isSooner_57 : decode cX12_isSooner 57 = .ok (.ireturn, 1) := by decide +kernel
theorem dX12_isAhead_0 : decode cX12_isAhead 0 = .ok (.lload_n 0, 1) := by decide +kernel
theorem dX12_isAhead_1 : decode cX12_isAhead 1 = .ok (.lload_n 2, 1) := by decide +kernel
theorem dX12_isAhead_2 : decode cX12_isAhead 2 = .ok (.lload 4, 2) := by decide +kernel
theorem dX12_isAhead_4 : decode cX12_isAhead 4 = .ok (.lload 6, 2) := by decide +kernel
theorem dX12_isAhead_6 : decode cX12_isAhead 6 = .ok (.invokestatic 644, 3) := by decide +kernel
theorem dX12_isAhead_9 : decode cX12_isAhead 9 = .ok (.lstore 12, 2) := by decide +kernel
theorem dX12_isAhead_11 : decode cX12_isAhead 11 = .ok (.lload_n 0, 1) := by decide +kernel
theorem dX12_isAhead_12 : decode cX12_isAhead 12 = .ok (.lload_n 2, 1) := by decide +kernel
theorem dX12_isAhead_13 : decode cX12_isAhead 13 = .ok (.lload 8, 2) := by decide +kernel
theorem dX12_isAhead_15 : decode cX12_isAhead 15 = .ok (.lload 10, 2) := by decide +kernel
theorem dX12_isAhead_17 : decode cX12_isAhead 17 = .ok (.invokestatic 644, 3) := by decide +kernel
theorem dX12_isAhead_20 : decode cX12_isAhead 20 = .ok (.lstore 14, 2) := by decide +kernel
theorem dX12_isAhead_22 : decode cX12_isAhead 22 = .ok (.lload 12, 2) := by decide +kernel
theorem dX12_isAhead_24 : decode cX12_isAhead 24 = .ok (.lconst 0, 1) := by decide +kernel
theorem dX12_isAhead_25 : decode cX12_isAhead 25 = .ok (.lcmp, 1) := by decide +kernel
theorem dX12_isAhead_26 : decode cX12_isAhead 26 = .ok (.ifCond .ge 7, 3) := by decide +kernel
theorem dX12_isAhead_29 : decode cX12_isAhead 29 = .ok (.iconst 0, 1) := by decide +kernel
theorem dX12_isAhead_30 : decode cX12_isAhead 30 = .ok (.goto 15, 3) := by decide +kernel
theorem dX12_isAhead_33 : decode cX12_isAhead 33 = .ok (.lload 12, 2) := by decide +kernel
theorem dX12_isAhead_35 : decode cX12_isAhead 35 = .ok (.lconst 0, 1) := by decide +kernel
theorem dX12_isAhead_36 : decode cX12_isAhead 36 = .ok (.lcmp, 1) := by decide +kernel
theorem dX12_isAhead_37 : decode cX12_isAhead 37 = .ok (.ifCond .ne 7, 3) := by decide +kernel
theorem dX12_isAhead_40 : decode cX12_isAhead 40 = .ok (.iconst 1, 1) := by decide +kernel
theorem dX12_isAhead_41 : decode cX12_isAhead 41 = .ok (.goto 4, 3) := by decide +kernel
theorem dX12_isAhead_44 : decode cX12_isAhead 44 = .ok (.iconst 2, 1) := by decide +kernel
theorem dX12_isAhead_45 : decode cX12_isAhead 45 = .ok (.istore 16, 2) := by decide +kernel
theorem dX12_isAhead_47 : decode cX12_isAhead 47 = .ok (.lload 14, 2) := by decide +kernel
theorem dX12_isAhead_49 : decode cX12_isAhead 49 = .ok (.lconst 0, 1) := by decide +kernel
theorem dX12_isAhead_50 : decode cX12_isAhead 50 = .ok (.lcmp, 1) := by decide +kernel
theorem dX12_isAhead_51 : decode cX12_isAhead 51 = .ok (.ifCond .ge 7, 3) := by decide +kernel
theorem dX12_isAhead_54 : decode cX12_isAhead 54 = .ok (.iconst 0, 1) := by decide +kernel
theorem dX12_isAhead_55 : decode cX12_isAhead 55 = .ok (.goto 15, 3) := by decide +kernel
theorem dX12_isAhead_58 : decode cX12_isAhead 58 = .ok (.lload 14, 2) := by decide +kernel
theorem dX12_isAhead_60 : decode cX12_isAhead 60 = .ok (.lconst 0, 1) := by decide +kernel
theorem dX12_isAhead_61 : decode cX12_isAhead 61 = .ok (.lcmp, 1) := by decide +kernel
theorem dX12_isAhead_62 : decode cX12_isAhead 62 = .ok (.ifCond .ne 7, 3) := by decide +kernel
theorem dX12_isAhead_65 : decode cX12_isAhead 65 = .ok (.iconst 1, 1) := by decide +kernel
theorem dX12_isAhead_66 : decode cX12_isAhead 66 = .ok (.goto 4, 3) := by decide +kernel
theorem dX12_isAhead_69 : decode cX12_isAhead 69 = .ok (.iconst 2, 1) := by decide +kernel
theorem dX12_isAhead_70 : decode cX12_isAhead 70 = .ok (.istore 17, 2) := by decide +kernel
theorem dX12_isAhead_72 : decode cX12_isAhead 72 = .ok (.iload 16, 2) := by decide +kernel
theorem dX12_isAhead_74 : decode cX12_isAhead 74 = .ok (.iload 17, 2) := by decide +kernel
theorem dX12_isAhead_76 : decode cX12_isAhead 76 = .ok (.if_icmp .lt 26, 3) := by decide +kernel
theorem dX12_isAhead_79 : decode cX12_isAhead 79 = .ok (.iload 16, 2) := by decide +kernel
theorem dX12_isAhead_81 : decode cX12_isAhead 81 = .ok (.iload 17, 2) := by decide +kernel
theorem dX12_isAhead_83 : decode cX12_isAhead 83 = .ok (.if_icmp .ne 23, 3) := by decide +kernel
theorem dX12_isAhead_86 : decode cX12_isAhead 86 = .ok (.lload 4, 2) := by decide +kernel
theorem dX12_isAhead_88 : decode cX12_isAhead 88 = .ok (.lload 6, 2) := by decide +kernel
theorem dX12_isAhead_90 : decode cX12_isAhead 90 = .ok (.lload 8, 2) := by decide +kernel
theorem dX12_isAhead_92 : decode cX12_isAhead 92 = .ok (.lload 10, 2) := by decide +kernel
theorem dX12_isAhead_94 : decode cX12_isAhead 94 = .ok (.invokestatic 644, 3) := by decide +kernel
theorem dX12_isAhead_97 : decode cX12_isAhead 97 = .ok (.lconst 0, 1) := by decide +kernel
theorem dX12_isAhead_98 : decode cX12_isAhead 98 = .ok (.lcmp, 1) := by decide +kernel
theorem dX12_isAhead_99 : decode cX12_isAhead 99 = .ok (.ifCond .ge 7, 3) := by decide +kernel
theorem dX12_isAhead_102 : decode cX12_isAhead 102 = .ok (.iconst 1, 1) := by decide +kernel
theorem dX12_isAhead_103 : decode cX12_isAhead 103 = .ok (.goto 4, 3) := by decide +kernel
theorem dX12_isAhead_106 : decode cX12_isAhead 106 = .ok (.iconst 0, 1) := by decide +kernel
theorem dX12_isAhead_107 : decode cX12_isAhead 107 = .ok (.ireturn, 1) := by decide +kernel
theorem dX12_isStraight_0 : decode cX12_isStraight 0 = .ok (.aload_n 0, 1) := by decide +kernel
theorem dX12_isStraight_1 : decode cX12_isStraight 1 = .ok (.getfield 132, 3) := by decide +kernel
theorem dX12_isStraight_4 : decode cX12_isStraight 4 = .ok (.iload_n 1, 1) := by decide +kernel
theorem dX12_isStraight_5 : decode cX12_isStraight 5 = .ok (.laload, 1) := by decide +kernel
theorem dX12_isStraight_6 : decode cX12_isStraight 6 = .ok (.aload_n 0, 1) := by decide +kernel
theorem dX12_isStraight_7 : decode cX12_isStraight 7 = .ok (.getfield 135, 3) := by decide +kernel
theorem dX12_isStraight_10 : decode cX12_isStraight 10 = .ok (.iload_n 1, 1) := by decide +kernel
theorem dX12_isStraight_11 : decode cX12_isStraight 11 = .ok (.laload, 1) := by decide +kernel
theorem dX12_isStraight_12 : decode cX12_isStraight 12 = .ok (.aload_n 0, 1) := by decide +kernel
theorem dX12_isStraight_13 : decode cX12_isStraight 13 = .ok (.getfield 132, 3) := by decide +kernel
theorem dX12_isStraight_16 : decode cX12_isStraight 16 = .ok (.iload_n 2, 1) := by decide +kernel
theorem dX12_isStraight_17 : decode cX12_isStraight 17 = .ok (.laload, 1) := by decide +kernel
theorem dX12_isStraight_18 : decode cX12_isStraight 18 = .ok (.aload_n 0, 1) := by decide +kernel
theorem dX12_isStraight_19 : decode cX12_isStraight 19 = .ok (.getfield 135, 3) := by decide +kernel
theorem dX12_isStraight_22 : decode cX12_isStraight 22 = .ok (.iload_n 2, 1) := by decide +kernel
theorem dX12_isStraight_23 : decode cX12_isStraight 23 = .ok (.laload, 1) := by decide +kernel
theorem dX12_isStraight_24 : decode cX12_isStraight 24 = .ok (.aload_n 0, 1) := by decide +kernel
theorem dX12_isStraight_25 : decode cX12_isStraight 25 = .ok (.getfield 132, 3) := by decide +kernel
theorem dX12_isStraight_28 : decode cX12_isStraight 28 = .ok (.iload_n 3, 1) := by decide +kernel
theorem dX12_isStraight_29 : decode cX12_isStraight 29 = .ok (.laload, 1) := by decide +kernel
theorem dX12_isStraight_30 : decode cX12_isStraight 30 = .ok (.aload_n 0, 1) := by decide +kernel
theorem dX12_isStraight_31 : decode cX12_isStraight 31 = .ok (.getfield 135, 3) := by decide +kernel
theorem dX12_isStraight_34 : decode cX12_isStraight 34 = .ok (.iload_n 3, 1) := by decide +kernel
theorem dX12_isStraight_35 : decode cX12_isStraight 35 = .ok (.laload, 1) := by decide +kernel
theorem dX12_isStraight_36 : decode cX12_isStraight 36 = .ok (.invokestatic 664, 3) := by decide +kernel
theorem dX12_isStraight_39 : decode cX12_isStraight 39 = .ok (.ifCond .ne 7, 3) := by decide +kernel
theorem dX12_isStraight_42 : decode cX12_isStraight 42 = .ok (.iconst 1, 1) := by decide +kernel
theorem dX12_isStraight_43 : decode cX12_isStraight 43 = .ok (.goto 4, 3) := by decide +kernel
theorem dX12_isStraight_46 : decode cX12_isStraight 46 = .ok (.iconst 0, 1) := by decide +kernel
theorem dX12_isStraight_47 : decode cX12_isStraight 47 = .ok (.ireturn, 1) := by decide +kernel
theorem dX12_isEarlier_0 : decode cX12_isEarlier 0 = .ok (.aload_n 0, 1) := by decide +kernel
theorem dX12_isEarlier_1 : decode cX12_isEarlier 1 = .ok (.getfield 179, 3) := by decide +kernel
theorem dX12_isEarlier_4 : decode cX12_isEarlier 4 = .ok (.iload_n 1, 1) := by decide +kernel
theorem dX12_isEarlier_5 : decode cX12_isEarlier 5 = .ok (.iaload, 1) := by decide +kernel
theorem dX12_isEarlier_6 : decode cX12_isEarlier 6 = .ok (.istore_n 3, 1) := by decide +kernel
theorem dX12_isEarlier_7 : decode cX12_isEarlier 7 = .ok (.aload_n 0, 1) := by decide +kernel
theorem dX12_isEarlier_8 : decode cX12_isEarlier 8 = .ok (.getfield 179, 3) := by decide +kernel
theorem dX12_isEarlier_11 : decode cX12_isEarlier 11 = .ok (.iload_n 2, 1) := by decide +kernel
theorem dX12_isEarlier_12 : decode cX12_isEarlier 12 = .ok (.iaload, 1) := by decide +kernel
theorem dX12_isEarlier_13 : decode cX12_isEarlier 13 = .ok (.istore 4, 2) := by decide +kernel
theorem dX12_isEarlier_15 : decode cX12_isEarlier 15 = .ok (.aload_n 0, 1) := by decide +kernel
theorem dX12_isEarlier_16 : decode cX12_isEarlier 16 = .ok (.getfield 176, 3) := by decide +kernel
theorem dX12_isEarlier_19 : decode cX12_isEarlier 19 = .ok (.iload_n 3, 1) := by decide +kernel
theorem dX12_isEarlier_20 : decode cX12_isEarlier 20 = .ok (.iaload, 1) := by decide +kernel
theorem dX12_isEarlier_21 : decode cX12_isEarlier 21 = .ok (.aload_n 0, 1) := by decide +kernel
theorem dX12_isEarlier_22 : decode cX12_isEarlier 22 = .ok (.getfield 176, 3) := by decide +kernel
theorem dX12_isEarlier_25 : decode cX12_isEarlier 25 = .ok (.iload 4, 2) := by decide +kernel
theorem dX12_isEarlier_27 : decode cX12_isEarlier 27 = .ok (.iaload, 1) := by decide +kernel
theorem dX12_isEarlier_28 : decode cX12_isEarlier 28 = .ok (.if_icmp .lt 39, 3) := by decide +kernel
theorem dX12_isEarlier_31 : decode cX12_isEarlier 31 = .ok (.aload_n 0, 1) := by decide +kernel
theorem dX12_isEarlier_32 : decode cX12_isEarlier 32 = .ok (.getfield 176, 3) := by decide +kernel
theorem dX12_isEarlier_35 : decode cX12_isEarlier 35 = .ok (.iload_n 3, 1) := by decide +kernel
theorem dX12_isEarlier_36 : decode cX12_isEarlier 36 = .ok (.iaload, 1) := by decide +kernel
theorem dX12_isEarlier_37 : decode cX12_isEarlier 37 = .ok (.aload_n 0, 1) := by decide +kernel
theorem dX12_isEarlier_38 : decode cX12_isEarlier 38 = .ok (.getfield 176, 3) := by decide +kernel
theorem dX12_isEarlier_41 : decode cX12_isEarlier 41 = .ok (.iload 4, 2) := by decide +kernel
theorem dX12_isEarlier_43 : decode cX12_isEarlier 43 = .ok (.iaload, 1) := by decide +kernel
theorem dX12_isEarlier_44 : decode cX12_isEarlier 44 = .ok (.if_icmp .ne 27, 3) := by decide +kernel
theorem dX12_isEarlier_47 : decode cX12_isEarlier 47 = .ok (.aload_n 0, 1) := by decide +kernel
theorem dX12_isEarlier_48 : decode cX12_isEarlier 48 = .ok (.getfield 176, 3) := by decide +kernel
theorem dX12_isEarlier_51 : decode cX12_isEarlier 51 = .ok (.iload_n 3, 1) := by decide +kernel
theorem dX12_isEarlier_52 : decode cX12_isEarlier 52 = .ok (.iconst 1, 1) := by decide +kernel
theorem dX12_isEarlier_53 : decode cX12_isEarlier 53 = .ok (.iadd, 1) := by decide +kernel
theorem dX12_isEarlier_54 : decode cX12_isEarlier 54 = .ok (.iaload, 1) := by decide +kernel
theorem dX12_isEarlier_55 : decode cX12_isEarlier 55 = .ok (.aload_n 0, 1) := by decide +kernel
theorem dX12_isEarlier_56 : decode cX12_isEarlier 56 = .ok (.getfield 176, 3) := by decide +kernel
theorem dX12_isEarlier_59 : decode cX12_isEarlier 59 = .ok (.iload 4, 2) := by decide +kernel
theorem dX12_isEarlier_61 : decode cX12_isEarlier 61 = .ok (.iconst 1, 1) := by decide +kernel
theorem dX12_isEarlier_62 : decode cX12_isEarlier 62 = .ok (.iadd, 1) := by decide +kernel
theorem dX12_isEarlier_63 : decode cX12_isEarlier 63 = .ok (.iaload, 1) := by decide +kernel
theorem dX12_isEarlier_64 : decode cX12_isEarlier 64 = .ok (.if_icmp .ge 7, 3) := by decide +kernel
theorem dX12_isEarlier_67 : decode cX12_isEarlier 67 = .ok (.iconst 1, 1) := by decide +kernel
theorem dX12_isEarlier_68 : decode cX12_isEarlier 68 = .ok (.goto 4, 3) := by decide +kernel
theorem dX12_isEarlier_71 : decode cX12_isEarlier 71 = .ok (.iconst 0, 1) := by decide +kernel
theorem dX12_isEarlier_72 : decode cX12_isEarlier 72 = .ok (.ireturn, 1) := by decide +kernel
theorem dX12_typeOfKind_0 : decode cX12_typeOfKind 0 = .ok (.iload_n 0, 1) := by decide +kernel
theorem dX12_typeOfKind_1 : decode cX12_typeOfKind 1 = .ok (.bipush 7, 2) := by decide +kernel
theorem dX12_typeOfKind_3 : decode cX12_typeOfKind 3 = .ok (.if_icmp .ne 7, 3) := by decide +kernel
theorem dX12_typeOfKind_6 : decode cX12_typeOfKind 6 = .ok (.iconst (-1), 1) := by decide +kernel
theorem dX12_typeOfKind_7 : decode cX12_typeOfKind 7 = .ok (.goto 8, 3) := by decide +kernel
theorem dX12_typeOfKind_10 : decode cX12_typeOfKind 10 = .ok (.iload_n 0, 1) := by decide +kernel
theorem dX12_typeOfKind_11 : decode cX12_typeOfKind 11 = .ok (.iconst 1, 1) := by decide +kernel
theorem dX12_typeOfKind_12 : decode cX12_typeOfKind 12 = .ok (.isub, 1) := by decide +kernel
theorem dX12_typeOfKind_13 : decode cX12_typeOfKind 13 = .ok (.iconst 3, 1) := by decide +kernel
theorem dX12_typeOfKind_14 : decode cX12_typeOfKind 14 = .ok (.irem, 1) := by decide +kernel
theorem dX12_typeOfKind_15 : decode cX12_typeOfKind 15 = .ok (.ireturn, 1) := by decide +kernel
theorem dX12_lineEnds_0 : decode cX12_lineEnds 0 = .ok (.aload_n 0, 1) := by decide +kernel
theorem dX12_lineEnds_1 : decode cX12_lineEnds 1 = .ok (.getfield 209, 3) := by decide +kernel
theorem dX12_lineEnds_4 : decode cX12_lineEnds 4 = .ok (.iload_n 1, 1) := by decide +kernel
theorem dX12_lineEnds_5 : decode cX12_lineEnds 5 = .ok (.iaload, 1) := by decide +kernel
theorem dX12_lineEnds_6 : decode cX12_lineEnds 6 = .ok (.iconst 2, 1) := by decide +kernel
theorem dX12_lineEnds_7 : decode cX12_lineEnds 7 = .ok (.iadd, 1) := by decide +kernel
theorem dX12_lineEnds_8 : decode cX12_lineEnds 8 = .ok (.sipush 2100, 3) := by decide +kernel
theorem dX12_lineEnds_11 : decode cX12_lineEnds 11 = .ok (.if_icmp .gt 7, 3) := by decide +kernel
theorem dX12_lineEnds_14 : decode cX12_lineEnds 14 = .ok (.iload_n 3, 1) := by decide +kernel
theorem dX12_lineEnds_15 : decode cX12_lineEnds 15 = .ok (.ifCond .ne 4, 3) := by decide +kernel
theorem dX12_lineEnds_18 : decode cX12_lineEnds 18 = .ok (.return_, 1) := by decide +kernel
theorem dX12_lineEnds_19 : decode cX12_lineEnds 19 = .ok (.aload_n 0, 1) := by decide +kernel
theorem dX12_lineEnds_20 : decode cX12_lineEnds 20 = .ok (.getfield 206, 3) := by decide +kernel
theorem dX12_lineEnds_23 : decode cX12_lineEnds 23 = .ok (.sipush 2100, 3) := by decide +kernel
theorem dX12_lineEnds_26 : decode cX12_lineEnds 26 = .ok (.iload_n 1, 1) := by decide +kernel
theorem dX12_lineEnds_27 : decode cX12_lineEnds 27 = .ok (.imul, 1) := by decide +kernel
theorem dX12_lineEnds_28 : decode cX12_lineEnds 28 = .ok (.aload_n 0, 1) := by decide +kernel
theorem dX12_lineEnds_29 : decode cX12_lineEnds 29 = .ok (.getfield 209, 3) := by decide +kernel
theorem dX12_lineEnds_32 : decode cX12_lineEnds 32 = .ok (.iload_n 1, 1) := by decide +kernel
theorem dX12_lineEnds_33 : decode cX12_lineEnds 33 = .ok (.iaload, 1) := by decide +kernel
theorem dX12_lineEnds_34 : decode cX12_lineEnds 34 = .ok (.iadd, 1) := by decide +kernel
theorem dX12_lineEnds_35 : decode cX12_lineEnds 35 = .ok (.iload_n 2, 1) := by decide +kernel
theorem dX12_lineEnds_36 : decode cX12_lineEnds 36 = .ok (.iastore, 1) := by decide +kernel
theorem dX12_lineEnds_37 : decode cX12_lineEnds 37 = .ok (.aload_n 0, 1) := by decide +kernel
theorem dX12_lineEnds_38 : decode cX12_lineEnds 38 = .ok (.getfield 206, 3) := by decide +kernel
theorem dX12_lineEnds_41 : decode cX12_lineEnds 41 = .ok (.sipush 2100, 3) := by decide +kernel
theorem dX12_lineEnds_44 : decode cX12_lineEnds 44 = .ok (.iload_n 1, 1) := by decide +kernel
theorem dX12_lineEnds_45 : decode cX12_lineEnds 45 = .ok (.imul, 1) := by decide +kernel
theorem dX12_lineEnds_46 : decode cX12_lineEnds 46 = .ok (.aload_n 0, 1) := by decide +kernel
theorem dX12_lineEnds_47 : decode cX12_lineEnds 47 = .ok (.getfield 209, 3) := by decide +kernel
theorem dX12_lineEnds_50 : decode cX12_lineEnds 50 = .ok (.iload_n 1, 1) := by decide +kernel
theorem dX12_lineEnds_51 : decode cX12_lineEnds 51 = .ok (.iaload, 1) := by decide +kernel
theorem dX12_lineEnds_52 : decode cX12_lineEnds 52 = .ok (.iadd, 1) := by decide +kernel
theorem dX12_lineEnds_53 : decode cX12_lineEnds 53 = .ok (.iconst 1, 1) := by decide +kernel
theorem dX12_lineEnds_54 : decode cX12_lineEnds 54 = .ok (.iadd, 1) := by decide +kernel
theorem dX12_lineEnds_55 : decode cX12_lineEnds 55 = .ok (.iload_n 2, 1) := by decide +kernel
theorem dX12_lineEnds_56 : decode cX12_lineEnds 56 = .ok (.iload_n 3, 1) := by decide +kernel
theorem dX12_lineEnds_57 : decode cX12_lineEnds 57 = .ok (.iadd, 1) := by decide +kernel
theorem dX12_lineEnds_58 : decode cX12_lineEnds 58 = .ok (.iconst 1, 1) := by decide +kernel
theorem dX12_lineEnds_59 : decode cX12_lineEnds 59 = .ok (.isub, 1) := by decide +kernel
theorem dX12_lineEnds_60 : decode cX12_lineEnds 60 = .ok (.iastore, 1) := by decide +kernel
theorem dX12_lineEnds_61 : decode cX12_lineEnds 61 = .ok (.aload_n 0, 1) := by decide +kernel
theorem dX12_lineEnds_62 : decode cX12_lineEnds 62 = .ok (.getfield 209, 3) := by decide +kernel
theorem dX12_lineEnds_65 : decode cX12_lineEnds 65 = .ok (.iload_n 1, 1) := by decide +kernel
theorem dX12_lineEnds_66 : decode cX12_lineEnds 66 = .ok (.dup2, 1) := by decide +kernel
theorem dX12_lineEnds_67 : decode cX12_lineEnds 67 = .ok (.iaload, 1) := by decide +kernel
theorem dX12_lineEnds_68 : decode cX12_lineEnds 68 = .ok (.iconst 2, 1) := by decide +kernel
theorem dX12_lineEnds_69 : decode cX12_lineEnds 69 = .ok (.iadd, 1) := by decide +kernel
theorem dX12_lineEnds_70 : decode cX12_lineEnds 70 = .ok (.iastore, 1) := by decide +kernel
theorem dX12_lineEnds_71 : decode cX12_lineEnds 71 = .ok (.return_, 1) := by decide +kernel
theorem dX12_mark_0 : decode cX12_mark 0 = .ok (.iconst 3, 1) := by decide +kernel
theorem dX12_mark_1 : decode cX12_mark 1 = .ok (.iload_n 1, 1) := by decide +kernel
theorem dX12_mark_2 : decode cX12_mark 2 = .ok (.imul, 1) := by decide +kernel
theorem dX12_mark_3 : decode cX12_mark 3 = .ok (.iload_n 2, 1) := by decide +kernel
theorem dX12_mark_4 : decode cX12_mark 4 = .ok (.iadd, 1) := by decide +kernel
theorem dX12_mark_5 : decode cX12_mark 5 = .ok (.istore 4, 2) := by decide +kernel
theorem dX12_mark_7 : decode cX12_mark 7 = .ok (.aload_n 0, 1) := by decide +kernel
theorem dX12_mark_8 : decode cX12_mark 8 = .ok (.getfield 212, 3) := by decide +kernel
theorem dX12_mark_11 : decode cX12_mark 11 = .ok (.iload 4, 2) := by decide +kernel
theorem dX12_mark_13 : decode cX12_mark 13 = .ok (.aload_n 0, 1) := by decide +kernel
theorem dX12_mark_14 : decode cX12_mark 14 = .ok (.getfield 212, 3) := by decide +kernel
theorem dX12_mark_17 : decode cX12_mark 17 = .ok (.iload 4, 2) := by decide +kernel
theorem dX12_mark_19 : decode cX12_mark 19 = .ok (.iaload, 1) := by decide +kernel
theorem dX12_mark_20 : decode cX12_mark 20 = .ok (.iload_n 3, 1) := by decide +kernel
theorem dX12_mark_21 : decode cX12_mark 21 = .ok (.if_icmp .ge 7, 3) := by decide +kernel
theorem dX12_mark_24 : decode cX12_mark 24 = .ok (.iload_n 3, 1) := by decide +kernel
theorem dX12_mark_25 : decode cX12_mark 25 = .ok (.goto 10, 3) := by decide +kernel
theorem dX12_mark_28 : decode cX12_mark 28 = .ok (.aload_n 0, 1) := by decide +kernel
theorem dX12_mark_29 : decode cX12_mark 29 = .ok (.getfield 212, 3) := by decide +kernel
theorem dX12_mark_32 : decode cX12_mark 32 = .ok (.iload 4, 2) := by decide +kernel
theorem dX12_mark_34 : decode cX12_mark 34 = .ok (.iaload, 1) := by decide +kernel
theorem dX12_mark_35 : decode cX12_mark 35 = .ok (.iastore, 1) := by decide +kernel
theorem dX12_mark_36 : decode cX12_mark 36 = .ok (.return_, 1) := by decide +kernel
theorem dX12_dimension_0 : decode cX12_dimension 0 = .ok (.aload_n 0, 1) := by decide +kernel
theorem dX12_dimension_1 : decode cX12_dimension 1 = .ok (.getfield 194, 3) := by decide +kernel
theorem dX12_dimension_4 : decode cX12_dimension 4 = .ok (.iload_n 1, 1) := by decide +kernel
theorem dX12_dimension_5 : decode cX12_dimension 5 = .ok (.iaload, 1) := by decide +kernel
theorem dX12_dimension_6 : decode cX12_dimension 6 = .ok (.ifCond .ne 23, 3) := by decide +kernel
theorem dX12_dimension_9 : decode cX12_dimension 9 = .ok (.aload_n 0, 1) := by decide +kernel
theorem dX12_dimension_10 : decode cX12_dimension 10 = .ok (.getfield 26, 3) := by decide +kernel
theorem dX12_dimension_13 : decode cX12_dimension 13 = .ok (.aload_n 0, 1) := by decide +kernel
theorem dX12_dimension_14 : decode cX12_dimension 14 = .ok (.getfield 191, 3) := by decide +kernel
theorem dX12_dimension_17 : decode cX12_dimension 17 = .ok (.iload_n 1, 1) := by decide +kernel
theorem dX12_dimension_18 : decode cX12_dimension 18 = .ok (.iaload, 1) := by decide +kernel
theorem dX12_dimension_19 : decode cX12_dimension 19 = .ok (.iaload, 1) := by decide +kernel
theorem dX12_dimension_20 : decode cX12_dimension 20 = .ok (.ifCond .le 7, 3) := by decide +kernel
theorem dX12_dimension_23 : decode cX12_dimension 23 = .ok (.iconst 0, 1) := by decide +kernel
theorem dX12_dimension_24 : decode cX12_dimension 24 = .ok (.goto 4, 3) := by decide +kernel
theorem dX12_dimension_27 : decode cX12_dimension 27 = .ok (.iconst (-1), 1) := by decide +kernel
theorem dX12_dimension_28 : decode cX12_dimension 28 = .ok (.ireturn, 1) := by decide +kernel
theorem dX12_dimension_29 : decode cX12_dimension 29 = .ok (.aload_n 0, 1) := by decide +kernel
theorem dX12_dimension_30 : decode cX12_dimension 30 = .ok (.getfield 194, 3) := by decide +kernel
theorem dX12_dimension_33 : decode cX12_dimension 33 = .ok (.iload_n 1, 1) := by decide +kernel
theorem dX12_dimension_34 : decode cX12_dimension 34 = .ok (.iaload, 1) := by decide +kernel
theorem dX12_dimension_35 : decode cX12_dimension 35 = .ok (.iconst 1, 1) := by decide +kernel
theorem dX12_dimension_36 : decode cX12_dimension 36 = .ok (.if_icmp .ne 18, 3) := by decide +kernel
theorem dX12_dimension_39 : decode cX12_dimension 39 = .ok (.aload_n 0, 1) := by decide +kernel
theorem dX12_dimension_40 : decode cX12_dimension 40 = .ok (.getfield 200, 3) := by decide +kernel
theorem dX12_dimension_43 : decode cX12_dimension 43 = .ok (.iload_n 1, 1) := by decide +kernel
theorem dX12_dimension_44 : decode cX12_dimension 44 = .ok (.iaload, 1) := by decide +kernel
theorem dX12_dimension_45 : decode cX12_dimension 45 = .ok (.ifCond .le 7, 3) := by decide +kernel
theorem dX12_dimension_48 : decode cX12_dimension 48 = .ok (.iconst 1, 1) := by decide +kernel
theorem dX12_dimension_49 : decode cX12_dimension 49 = .ok (.goto 4, 3) := by decide +kernel
theorem dX12_dimension_52 : decode cX12_dimension 52 = .ok (.iconst (-1), 1) := by decide +kernel
theorem dX12_dimension_53 : decode cX12_dimension 53 = .ok (.ireturn, 1) := by decide +kernel
theorem dX12_dimension_54 : decode cX12_dimension 54 = .ok (.aload_n 0, 1) := by decide +kernel
theorem dX12_dimension_55 : decode cX12_dimension 55 = .ok (.getfield 203, 3) := by decide +kernel
theorem dX12_dimension_58 : decode cX12_dimension 58 = .ok (.iload_n 1, 1) := by decide +kernel
theorem dX12_dimension_59 : decode cX12_dimension 59 = .ok (.baload, 1) := by decide +kernel
theorem dX12_dimension_60 : decode cX12_dimension 60 = .ok (.ifCond .eq 7, 3) := by decide +kernel
theorem dX12_dimension_63 : decode cX12_dimension 63 = .ok (.iconst 2, 1) := by decide +kernel
theorem dX12_dimension_64 : decode cX12_dimension 64 = .ok (.goto 4, 3) := by decide +kernel
theorem dX12_dimension_67 : decode cX12_dimension 67 = .ok (.iconst (-1), 1) := by decide +kernel
theorem dX12_dimension_68 : decode cX12_dimension 68 = .ok (.ireturn, 1) := by decide +kernel
theorem dX12_m_0 : decode cX12_m 0 = .ok (.aload_n 0, 1) := by decide +kernel
theorem dX12_m_1 : decode cX12_m 1 = .ok (.getfield 212, 3) := by decide +kernel
theorem dX12_m_4 : decode cX12_m 4 = .ok (.iload_n 1, 1) := by decide +kernel
theorem dX12_m_5 : decode cX12_m 5 = .ok (.iaload, 1) := by decide +kernel
theorem dX12_m_6 : decode cX12_m 6 = .ok (.ifCond .lt 7, 3) := by decide +kernel
theorem dX12_m_9 : decode cX12_m 9 = .ok (.iconst 1, 1) := by decide +kernel
theorem dX12_m_10 : decode cX12_m 10 = .ok (.goto 4, 3) := by decide +kernel
theorem dX12_m_13 : decode cX12_m 13 = .ok (.iconst 0, 1) := by decide +kernel
theorem dX12_m_14 : decode cX12_m 14 = .ok (.ireturn, 1) := by decide +kernel
theorem dX12_turnOf_0 : decode cX12_turnOf 0 = .ok (.aload_n 0, 1) := by decide +kernel
theorem dX12_turnOf_1 : decode cX12_turnOf 1 = .ok (.getfield 221, 3) := by decide +kernel
theorem dX12_turnOf_4 : decode cX12_turnOf 4 = .ok (.iload_n 1, 1) := by decide +kernel
theorem dX12_turnOf_5 : decode cX12_turnOf 5 = .ok (.laload, 1) := by decide +kernel
theorem dX12_turnOf_6 : decode cX12_turnOf 6 = .ok (.aload_n 0, 1) := by decide +kernel
theorem dX12_turnOf_7 : decode cX12_turnOf 7 = .ok (.getfield 224, 3) := by decide +kernel
theorem dX12_turnOf_10 : decode cX12_turnOf 10 = .ok (.iload_n 1, 1) := by decide +kernel
theorem dX12_turnOf_11 : decode cX12_turnOf 11 = .ok (.laload, 1) := by decide +kernel
theorem dX12_turnOf_12 : decode cX12_turnOf 12 = .ok (.aload_n 0, 1) := by decide +kernel
theorem dX12_turnOf_13 : decode cX12_turnOf 13 = .ok (.getfield 221, 3) := by decide +kernel
theorem dX12_turnOf_16 : decode cX12_turnOf 16 = .ok (.iload_n 2, 1) := by decide +kernel
theorem dX12_turnOf_17 : decode cX12_turnOf 17 = .ok (.laload, 1) := by decide +kernel
theorem dX12_turnOf_18 : decode cX12_turnOf 18 = .ok (.aload_n 0, 1) := by decide +kernel
theorem dX12_turnOf_19 : decode cX12_turnOf 19 = .ok (.getfield 224, 3) := by decide +kernel
theorem dX12_turnOf_22 : decode cX12_turnOf 22 = .ok (.iload_n 2, 1) := by decide +kernel
theorem dX12_turnOf_23 : decode cX12_turnOf 23 = .ok (.laload, 1) := by decide +kernel
theorem dX12_turnOf_24 : decode cX12_turnOf 24 = .ok (.aload_n 0, 1) := by decide +kernel
theorem dX12_turnOf_25 : decode cX12_turnOf 25 = .ok (.getfield 221, 3) := by decide +kernel
theorem dX12_turnOf_28 : decode cX12_turnOf 28 = .ok (.iload_n 3, 1) := by decide +kernel
theorem dX12_turnOf_29 : decode cX12_turnOf 29 = .ok (.laload, 1) := by decide +kernel
theorem dX12_turnOf_30 : decode cX12_turnOf 30 = .ok (.aload_n 0, 1) := by decide +kernel
theorem dX12_turnOf_31 : decode cX12_turnOf 31 = .ok (.getfield 224, 3) := by decide +kernel
theorem dX12_turnOf_34 : decode cX12_turnOf 34 = .ok (.iload_n 3, 1) := by decide +kernel
theorem dX12_turnOf_35 : decode cX12_turnOf 35 = .ok (.laload, 1) := by decide +kernel
theorem dX12_turnOf_36 : decode cX12_turnOf 36 = .ok (.invokestatic 664, 3) := by decide +kernel
theorem dX12_turnOf_39 : decode cX12_turnOf 39 = .ok (.ireturn, 1) := by decide +kernel
theorem dX12_isLess_0 : decode cX12_isLess 0 = .ok (.aload_n 0, 1) := by decide +kernel
theorem dX12_isLess_1 : decode cX12_isLess 1 = .ok (.getfield 221, 3) := by decide +kernel
theorem dX12_isLess_4 : decode cX12_isLess 4 = .ok (.iload_n 1, 1) := by decide +kernel
theorem dX12_isLess_5 : decode cX12_isLess 5 = .ok (.laload, 1) := by decide +kernel
theorem dX12_isLess_6 : decode cX12_isLess 6 = .ok (.aload_n 0, 1) := by decide +kernel
theorem dX12_isLess_7 : decode cX12_isLess 7 = .ok (.getfield 224, 3) := by decide +kernel
theorem dX12_isLess_10 : decode cX12_isLess 10 = .ok (.iload_n 1, 1) := by decide +kernel
theorem dX12_isLess_11 : decode cX12_isLess 11 = .ok (.laload, 1) := by decide +kernel
theorem dX12_isLess_12 : decode cX12_isLess 12 = .ok (.aload_n 0, 1) := by decide +kernel
theorem dX12_isLess_13 : decode cX12_isLess 13 = .ok (.getfield 221, 3) := by decide +kernel
theorem dX12_isLess_16 : decode cX12_isLess 16 = .ok (.iload_n 2, 1) := by decide +kernel
theorem dX12_isLess_17 : decode cX12_isLess 17 = .ok (.laload, 1) := by decide +kernel
theorem dX12_isLess_18 : decode cX12_isLess 18 = .ok (.aload_n 0, 1) := by decide +kernel
theorem dX12_isLess_19 : decode cX12_isLess 19 = .ok (.getfield 224, 3) := by decide +kernel
theorem dX12_isLess_22 : decode cX12_isLess 22 = .ok (.iload_n 2, 1) := by decide +kernel
theorem dX12_isLess_23 : decode cX12_isLess 23 = .ok (.laload, 1) := by decide +kernel
theorem dX12_isLess_24 : decode cX12_isLess 24 = .ok (.invokestatic 674, 3) := by decide +kernel
theorem dX12_isLess_27 : decode cX12_isLess 27 = .ok (.ireturn, 1) := by decide +kernel
theorem dX12_wayTo_0 : decode cX12_wayTo 0 = .ok (.aload_n 0, 1) := by decide +kernel
theorem dX12_wayTo_1 : decode cX12_wayTo 1 = .ok (.getfield 221, 3) := by decide +kernel
theorem dX12_wayTo_4 : decode cX12_wayTo 4 = .ok (.iload_n 2, 1) := by decide +kernel
theorem dX12_wayTo_5 : decode cX12_wayTo 5 = .ok (.laload, 1) := by decide +kernel
theorem dX12_wayTo_6 : decode cX12_wayTo 6 = .ok (.aload_n 0, 1) := by decide +kernel
theorem dX12_wayTo_7 : decode cX12_wayTo 7 = .ok (.getfield 221, 3) := by decide +kernel
theorem dX12_wayTo_10 : decode cX12_wayTo 10 = .ok (.iload_n 1, 1) := by decide +kernel
theorem dX12_wayTo_11 : decode cX12_wayTo 11 = .ok (.laload, 1) := by decide +kernel
theorem dX12_wayTo_12 : decode cX12_wayTo 12 = .ok (.lsub, 1) := by decide +kernel
theorem dX12_wayTo_13 : decode cX12_wayTo 13 = .ok (.lstore_n 3, 1) := by decide +kernel
theorem dX12_wayTo_14 : decode cX12_wayTo 14 = .ok (.aload_n 0, 1) := by decide +kernel
theorem dX12_wayTo_15 : decode cX12_wayTo 15 = .ok (.getfield 224, 3) := by decide +kernel
theorem dX12_wayTo_18 : decode cX12_wayTo 18 = .ok (.iload_n 2, 1) := by decide +kernel
theorem dX12_wayTo_19 : decode cX12_wayTo 19 = .ok (.laload, 1) := by decide +kernel
theorem dX12_wayTo_20 : decode cX12_wayTo 20 = .ok (.aload_n 0, 1) := by decide +kernel
theorem dX12_wayTo_21 : decode cX12_wayTo 21 = .ok (.getfield 224, 3) := by decide +kernel
theorem dX12_wayTo_24 : decode cX12_wayTo 24 = .ok (.iload_n 1, 1) := by decide +kernel
theorem dX12_wayTo_25 : decode cX12_wayTo 25 = .ok (.laload, 1) := by decide +kernel
theorem dX12_wayTo_26 : decode cX12_wayTo 26 = .ok (.lsub, 1) := by decide +kernel
theorem dX12_wayTo_27 : decode cX12_wayTo 27 = .ok (.lstore 5, 2) := by decide +kernel
theorem dX12_wayTo_29 : decode cX12_wayTo 29 = .ok (.lload_n 3, 1) := by decide +kernel
theorem dX12_wayTo_30 : decode cX12_wayTo 30 = .ok (.lconst 0, 1) := by decide +kernel
theorem dX12_wayTo_31 : decode cX12_wayTo 31 = .ok (.lcmp, 1) := by decide +kernel
theorem dX12_wayTo_32 : decode cX12_wayTo 32 = .ok (.ifCond .ge 8, 3) := by decide +kernel
theorem dX12_wayTo_35 : decode cX12_wayTo 35 = .ok (.lload_n 3, 1) := by decide +kernel
theorem dX12_wayTo_36 : decode cX12_wayTo 36 = .ok (.lneg, 1) := by decide +kernel
theorem dX12_wayTo_37 : decode cX12_wayTo 37 = .ok (.goto 4, 3) := by decide +kernel
theorem dX12_wayTo_40 : decode cX12_wayTo 40 = .ok (.lload_n 3, 1) := by decide +kernel
theorem dX12_wayTo_41 : decode cX12_wayTo 41 = .ok (.lload 5, 2) := by decide +kernel
theorem dX12_wayTo_43 : decode cX12_wayTo 43 = .ok (.lconst 0, 1) := by decide +kernel
theorem dX12_wayTo_44 : decode cX12_wayTo 44 = .ok (.lcmp, 1) := by decide +kernel
theorem dX12_wayTo_45 : decode cX12_wayTo 45 = .ok (.ifCond .ge 9, 3) := by decide +kernel
theorem dX12_wayTo_48 : decode cX12_wayTo 48 = .ok (.lload 5, 2) := by decide +kernel
theorem dX12_wayTo_50 : decode cX12_wayTo 50 = .ok (.lneg, 1) := by decide +kernel
theorem dX12_wayTo_51 : decode cX12_wayTo 51 = .ok (.goto 5, 3) := by decide +kernel
theorem dX12_wayTo_54 : decode cX12_wayTo 54 = .ok (.lload 5, 2) := by decide +kernel
theorem dX12_wayTo_56 : decode cX12_wayTo 56 = .ok (.ladd, 1) := by decide +kernel
theorem dX12_wayTo_57 : decode cX12_wayTo 57 = .ok (.lreturn, 1) := by decide +kernel
theorem dX12_isLater_0 : decode cX12_isLater 0 = .ok (.aload_n 0, 1) := by decide +kernel
theorem dX12_isLater_1 : decode cX12_isLater 1 = .ok (.getfield 243, 3) := by decide +kernel
theorem dX12_isLater_4 : decode cX12_isLater 4 = .ok (.iload_n 1, 1) := by decide +kernel
theorem dX12_isLater_5 : decode cX12_isLater 5 = .ok (.iaload, 1) := by decide +kernel
theorem dX12_isLater_6 : decode cX12_isLater 6 = .ok (.iload_n 2, 1) := by decide +kernel
theorem dX12_isLater_7 : decode cX12_isLater 7 = .ok (.if_icmp .eq 19, 3) := by decide +kernel
theorem dX12_isLater_10 : decode cX12_isLater 10 = .ok (.aload_n 0, 1) := by decide +kernel
theorem dX12_isLater_11 : decode cX12_isLater 11 = .ok (.getfield 243, 3) := by decide +kernel
theorem dX12_isLater_14 : decode cX12_isLater 14 = .ok (.iload_n 1, 1) := by decide +kernel
theorem dX12_isLater_15 : decode cX12_isLater 15 = .ok (.iaload, 1) := by decide +kernel
theorem dX12_isLater_16 : decode cX12_isLater 16 = .ok (.iload_n 2, 1) := by decide +kernel
theorem dX12_isLater_17 : decode cX12_isLater 17 = .ok (.if_icmp .le 7, 3) := by decide +kernel
theorem dX12_isLater_20 : decode cX12_isLater 20 = .ok (.iconst 1, 1) := by decide +kernel
theorem dX12_isLater_21 : decode cX12_isLater 21 = .ok (.goto 4, 3) := by decide +kernel
theorem dX12_isLater_24 : decode cX12_isLater 24 = .ok (.iconst 0, 1) := by decide +kernel
theorem dX12_isLater_25 : decode cX12_isLater 25 = .ok (.ireturn, 1) := by decide +kernel
theorem dX12_isLater_26 : decode cX12_isLater 26 = .ok (.aload_n 0, 1) := by decide +kernel
theorem dX12_isLater_27 : decode cX12_isLater 27 = .ok (.getfield 246, 3) := by decide +kernel
theorem dX12_isLater_30 : decode cX12_isLater 30 = .ok (.iload_n 1, 1) := by decide +kernel
theorem dX12_isLater_31 : decode cX12_isLater 31 = .ok (.iaload, 1) := by decide +kernel
theorem dX12_isLater_32 : decode cX12_isLater 32 = .ok (.iload_n 3, 1) := by decide +kernel
theorem dX12_isLater_33 : decode cX12_isLater 33 = .ok (.if_icmp .eq 21, 3) := by decide +kernel
theorem dX12_isLater_36 : decode cX12_isLater 36 = .ok (.aload_n 0, 1) := by decide +kernel
theorem dX12_isLater_37 : decode cX12_isLater 37 = .ok (.getfield 246, 3) := by decide +kernel
theorem dX12_isLater_40 : decode cX12_isLater 40 = .ok (.iload_n 1, 1) := by decide +kernel
theorem dX12_isLater_41 : decode cX12_isLater 41 = .ok (.iaload, 1) := by decide +kernel
theorem dX12_isLater_42 : decode cX12_isLater 42 = .ok (.iload_n 3, 1) := by decide +kernel
theorem dX12_isLater_43 : decode cX12_isLater 43 = .ok (.if_icmp .le 7, 3) := by decide +kernel
theorem dX12_isLater_46 : decode cX12_isLater 46 = .ok (.iconst 1, 1) := by decide +kernel
theorem dX12_isLater_47 : decode cX12_isLater 47 = .ok (.goto 23, 3) := by decide +kernel
theorem dX12_isLater_50 : decode cX12_isLater 50 = .ok (.iconst 0, 1) := by decide +kernel
theorem dX12_isLater_51 : decode cX12_isLater 51 = .ok (.goto 19, 3) := by decide +kernel
theorem dX12_isLater_54 : decode cX12_isLater 54 = .ok (.aload_n 0, 1) := by decide +kernel
theorem dX12_isLater_55 : decode cX12_isLater 55 = .ok (.getfield 249, 3) := by decide +kernel
theorem dX12_isLater_58 : decode cX12_isLater 58 = .ok (.iload_n 1, 1) := by decide +kernel
theorem dX12_isLater_59 : decode cX12_isLater 59 = .ok (.iaload, 1) := by decide +kernel
theorem dX12_isLater_60 : decode cX12_isLater 60 = .ok (.iload 4, 2) := by decide +kernel
theorem dX12_isLater_62 : decode cX12_isLater 62 = .ok (.if_icmp .le 7, 3) := by decide +kernel
theorem dX12_isLater_65 : decode cX12_isLater 65 = .ok (.iconst 1, 1) := by decide +kernel
theorem dX12_isLater_66 : decode cX12_isLater 66 = .ok (.goto 4, 3) := by decide +kernel
theorem dX12_isLater_69 : decode cX12_isLater 69 = .ok (.iconst 0, 1) := by decide +kernel
theorem dX12_isLater_70 : decode cX12_isLater 70 = .ok (.ireturn, 1) := by decide +kernel
theorem dX12_waitFor_0 : decode cX12_waitFor 0 = .ok (.aload_n 0, 1) := by decide +kernel
theorem dX12_waitFor_1 : decode cX12_waitFor 1 = .ok (.getfield 234, 3) := by decide +kernel
theorem dX12_waitFor_4 : decode cX12_waitFor 4 = .ok (.aload_n 0, 1) := by decide +kernel
theorem dX12_waitFor_5 : decode cX12_waitFor 5 = .ok (.getfield 1080, 3) := by decide +kernel
theorem dX12_waitFor_8 : decode cX12_waitFor 8 = .ok (.iload_n 1, 1) := by decide +kernel
theorem dX12_waitFor_9 : decode cX12_waitFor 9 = .ok (.iastore, 1) := by decide +kernel
theorem dX12_waitFor_10 : decode cX12_waitFor 10 = .ok (.aload_n 0, 1) := by decide +kernel
theorem dX12_waitFor_11 : decode cX12_waitFor 11 = .ok (.getfield 237, 3) := by decide +kernel
theorem dX12_waitFor_14 : decode cX12_waitFor 14 = .ok (.aload_n 0, 1) := by decide +kernel
theorem dX12_waitFor_15 : decode cX12_waitFor 15 = .ok (.getfield 1080, 3) := by decide +kernel
theorem dX12_waitFor_18 : decode cX12_waitFor 18 = .ok (.iload_n 2, 1) := by decide +kernel
theorem dX12_waitFor_19 : decode cX12_waitFor 19 = .ok (.iastore, 1) := by decide +kernel
theorem dX12_waitFor_20 : decode cX12_waitFor 20 = .ok (.aload_n 0, 1) := by decide +kernel
theorem dX12_waitFor_21 : decode cX12_waitFor 21 = .ok (.dup, 1) := by decide +kernel
theorem dX12_waitFor_22 : decode cX12_waitFor 22 = .ok (.getfield 1080, 3) := by decide +kernel
theorem dX12_waitFor_25 : decode cX12_waitFor 25 = .ok (.iconst 1, 1) := by decide +kernel
theorem dX12_waitFor_26 : decode cX12_waitFor 26 = .ok (.iadd, 1) := by decide +kernel
theorem dX12_waitFor_27 : decode cX12_waitFor 27 = .ok (.putfield 1080, 3) := by decide +kernel
theorem dX12_waitFor_30 : decode cX12_waitFor 30 = .ok (.return_, 1) := by decide +kernel
theorem dX12_dotSpot_0 : decode cX12_dotSpot 0 = .ok (.aload_n 0, 1) := by decide +kernel
theorem dX12_dotSpot_1 : decode cX12_dotSpot 1 = .ok (.aload_n 0, 1) := by decide +kernel
theorem dX12_dotSpot_2 : decode cX12_dotSpot 2 = .ok (.getfield 221, 3) := by decide +kernel
theorem dX12_dotSpot_5 : decode cX12_dotSpot 5 = .ok (.iload_n 1, 1) := by decide +kernel
theorem dX12_dotSpot_6 : decode cX12_dotSpot 6 = .ok (.laload, 1) := by decide +kernel
theorem dX12_dotSpot_7 : decode cX12_dotSpot 7 = .ok (.aload_n 0, 1) := by decide +kernel
theorem dX12_dotSpot_8 : decode cX12_dotSpot 8 = .ok (.getfield 224, 3) := by decide +kernel
theorem dX12_dotSpot_11 : decode cX12_dotSpot 11 = .ok (.iload_n 1, 1) := by decide +kernel
theorem dX12_dotSpot_12 : decode cX12_dotSpot 12 = .ok (.laload, 1) := by decide +kernel
theorem dX12_dotSpot_13 : decode cX12_dotSpot 13 = .ok (.invokevirtual 412, 3) := by decide +kernel
theorem dX12_dotSpot_16 : decode cX12_dotSpot 16 = .ok (.return_, 1) := by decide +kernel
theorem dJ13_compare_74951_0 : decode cJ13_compare_74951 0 = .ok (.lload_n 0, 1) := by decide +kernel
theorem dJ13_compare_74951_1 : decode cJ13_compare_74951 1 = .ok (.lload_n 2, 1) := by decide +kernel
theorem dJ13_compare_74951_2 : decode cJ13_compare_74951 2 = .ok (.lcmp, 1) := by decide +kernel
theorem dJ13_compare_74951_3 : decode cJ13_compare_74951 3 = .ok (.ifCond .ge 7, 3) := by decide +kernel
theorem dJ13_compare_74951_6 : decode cJ13_compare_74951 6 = .ok (.iconst (-1), 1) := by decide +kernel
theorem dJ13_compare_74951_7 : decode cJ13_compare_74951 7 = .ok (.goto 14, 3) := by decide +kernel
theorem dJ13_compare_74951_10 : decode cJ13_compare_74951 10 = .ok (.lload_n 0, 1) := by decide +kernel
theorem dJ13_compare_74951_11 : decode cJ13_compare_74951 11 = .ok (.lload_n 2, 1) := by decide +kernel
theorem dJ13_compare_74951_12 : decode cJ13_compare_74951 12 = .ok (.lcmp, 1) := by decide +kernel
theorem dJ13_compare_74951_13 : decode cJ13_compare_74951 13 = .ok (.ifCond .ne 7, 3) := by decide +kernel
theorem dJ13_compare_74951_16 : decode cJ13_compare_74951 16 = .ok (.iconst 0, 1) := by decide +kernel
theorem dJ13_compare_74951_17 : decode cJ13_compare_74951 17 = .ok (.goto 4, 3) := by decide +kernel
theorem dJ13_compare_74951_20 : decode cJ13_compare_74951 20 = .ok (.iconst 1, 1) := by decide +kernel
theorem dJ13_compare_74951_21 : decode cJ13_compare_74951 21 = .ok (.ireturn, 1) := by decide +kernel
theorem dX2_triangleKey_0 : decode cX2_triangleKey 0 = .ok (.lload_n 2, 1) := by decide +kernel
theorem dX2_triangleKey_1 : decode cX2_triangleKey 1 = .ok (.lload_n 0, 1) := by decide +kernel
theorem dX2_triangleKey_2 : decode cX2_triangleKey 2 = .ok (.lcmp, 1) := by decide +kernel
theorem dX2_triangleKey_3 : decode cX2_triangleKey 3 = .ok (.ifCond .ge 18, 3) := by decide +kernel
theorem dX2_triangleKey_6 : decode cX2_triangleKey 6 = .ok (.lload_n 2, 1) := by decide +kernel
theorem dX2_triangleKey_7 : decode cX2_triangleKey 7 = .ok (.lload 4, 2) := by decide +kernel
theorem dX2_triangleKey_9 : decode cX2_triangleKey 9 = .ok (.lcmp, 1) := by decide +kernel
theorem dX2_triangleKey_10 : decode cX2_triangleKey 10 = .ok (.ifCond .ge 11, 3) := by decide +kernel
theorem dX2_triangleKey_13 : decode cX2_triangleKey 13 = .ok (.lload_n 2, 1) := by decide +kernel
theorem dX2_triangleKey_14 : decode cX2_triangleKey 14 = .ok (.lload 4, 2) := by decide +kernel
theorem dX2_triangleKey_16 : decode cX2_triangleKey 16 = .ok (.lload_n 0, 1) := by decide +kernel
theorem dX2_triangleKey_17 : decode cX2_triangleKey 17 = .ok (.invokestatic 180, 3) := by decide +kernel
theorem dX2_triangleKey_20 : decode cX2_triangleKey 20 = .ok (.lreturn, 1) := by decide +kernel
theorem dX2_triangleKey_21 : decode cX2_triangleKey 21 = .ok (.lload 4, 2) := by decide +kernel
theorem dX2_triangleKey_23 : decode cX2_triangleKey 23 = .ok (.lload_n 0, 1) := by decide +kernel
theorem dX2_triangleKey_24 : decode cX2_triangleKey 24 = .ok (.lcmp, 1) := by decide +kernel
theorem dX2_triangleKey_25 : decode cX2_triangleKey 25 = .ok (.ifCond .ge 20, 3) := by decide +kernel
theorem dX2_triangleKey_28 : decode cX2_triangleKey 28 = .ok (.lload 4, 2) := by decide +kernel
theorem dX2_triangleKey_30 : decode cX2_triangleKey 30 = .ok (.lload_n 2, 1) := by decide +kernel
theorem dX2_triangleKey_31 : decode cX2_triangleKey 31 = .ok (.lcmp, 1) := by decide +kernel
theorem dX2_triangleKey_32 : decode cX2_triangleKey 32 = .ok (.ifCond .ge 13, 3) := by decide +kernel
theorem dX2_triangleKey_35 : decode cX2_triangleKey 35 = .ok (.lload 4, 2) := by decide +kernel
theorem dX2_triangleKey_37 : decode cX2_triangleKey 37 = .ok (.lload_n 0, 1) := by decide +kernel
theorem dX2_triangleKey_38 : decode cX2_triangleKey 38 = .ok (.lload_n 2, 1) := by decide +kernel
theorem dX2_triangleKey_39 : decode cX2_triangleKey 39 = .ok (.invokestatic 180, 3) := by decide +kernel
theorem dX2_triangleKey_42 : decode cX2_triangleKey 42 = .ok (.goto 10, 3) := by decide +kernel
theorem dX2_triangleKey_45 : decode cX2_triangleKey 45 = .ok (.lload_n 0, 1) := by decide +kernel
theorem dX2_triangleKey_46 : decode cX2_triangleKey 46 = .ok (.lload_n 2, 1) := by decide +kernel
theorem dX2_triangleKey_47 : decode cX2_triangleKey 47 = .ok (.lload 4, 2) := by decide +kernel
theorem dX2_triangleKey_49 : decode cX2_triangleKey 49 = .ok (.invokestatic 180, 3) := by decide +kernel
theorem dX2_triangleKey_52 : decode cX2_triangleKey 52 = .ok (.lreturn, 1) := by decide +kernel
theorem dX9_unexpected_0 : decode cX9_unexpected 0 = .ok (.aload_n 0, 1) := by decide +kernel
theorem dX9_unexpected_1 : decode cX9_unexpected 1 = .ok (.aload_n 0, 1) := by decide +kernel
theorem dX9_unexpected_2 : decode cX9_unexpected 2 = .ok (.getfield 44, 3) := by decide +kernel
theorem dX9_unexpected_5 : decode cX9_unexpected 5 = .ok (.invokevirtual 76, 3) := by decide +kernel
theorem dX9_unexpected_8 : decode cX9_unexpected 8 = .ok (.istore_n 1, 1) := by decide +kernel
theorem dX9_unexpected_9 : decode cX9_unexpected 9 = .ok (.iload_n 1, 1) := by decide +kernel
theorem dX9_unexpected_10 : decode cX9_unexpected 10 = .ok (.ifCond .lt 35, 3) := by decide +kernel
theorem dX9_unexpected_13 : decode cX9_unexpected 13 = .ok (.iload_n 1, 1) := by decide +kernel
theorem dX9_unexpected_14 : decode cX9_unexpected 14 = .ok (.invokestatic 80, 3) := by decide +kernel
theorem dX9_unexpected_17 : decode cX9_unexpected 17 = .ok (.ifCond .ne 28, 3) := by decide +kernel
theorem dX9_unexpected_20 : decode cX9_unexpected 20 = .ok (.iload_n 1, 1) := by decide +kernel
theorem dX9_unexpected_21 : decode cX9_unexpected 21 = .ok (.invokestatic 83, 3) := by decide +kernel
theorem dX9_unexpected_24 : decode cX9_unexpected 24 = .ok (.ifCond .ne 21, 3) := by decide +kernel
theorem dX9_unexpected_27 : decode cX9_unexpected 27 = .ok (.iload_n 1, 1) := by decide +kernel
theorem dX9_unexpected_28 : decode cX9_unexpected 28 = .ok (.bipush 40, 2) := by decide +kernel
theorem dX9_unexpected_30 : decode cX9_unexpected 30 = .ok (.if_icmp .eq 15, 3) := by decide +kernel
theorem dX9_unexpected_33 : decode cX9_unexpected 33 = .ok (.iload_n 1, 1) := by decide +kernel
theorem dX9_unexpected_34 : decode cX9_unexpected 34 = .ok (.bipush 41, 2) := by decide +kernel
theorem dX9_unexpected_36 : decode cX9_unexpected 36 = .ok (.if_icmp .eq 9, 3) := by decide +kernel
theorem dX9_unexpected_39 : decode cX9_unexpected 39 = .ok (.iload_n 1, 1) := by decide +kernel
theorem dX9_unexpected_40 : decode cX9_unexpected 40 = .ok (.bipush 44, 2) := by decide +kernel
theorem dX9_unexpected_42 : decode cX9_unexpected 42 = .ok (.if_icmp .ne 7, 3) := by decide +kernel
theorem dX9_unexpected_45 : decode cX9_unexpected 45 = .ok (.iconst 1, 1) := by decide +kernel
theorem dX9_unexpected_46 : decode cX9_unexpected 46 = .ok (.goto 4, 3) := by decide +kernel
theorem dX9_unexpected_49 : decode cX9_unexpected 49 = .ok (.iconst 0, 1) := by decide +kernel
theorem dX9_unexpected_50 : decode cX9_unexpected 50 = .ok (.istore_n 2, 1) := by decide +kernel
theorem dX9_unexpected_51 : decode cX9_unexpected 51 = .ok (.aload_n 0, 1) := by decide +kernel
theorem dX9_unexpected_52 : decode cX9_unexpected 52 = .ok (.iload_n 2, 1) := by decide +kernel
theorem dX9_unexpected_53 : decode cX9_unexpected 53 = .ok (.ifCond .eq 7, 3) := by decide +kernel
theorem dX9_unexpected_56 : decode cX9_unexpected 56 = .ok (.iconst 3, 1) := by decide +kernel
theorem dX9_unexpected_57 : decode cX9_unexpected 57 = .ok (.goto 4, 3) := by decide +kernel
theorem dX9_unexpected_60 : decode cX9_unexpected 60 = .ok (.iconst 1, 1) := by decide +kernel
theorem dX9_unexpected_61 : decode cX9_unexpected 61 = .ok (.invokevirtual 72, 3) := by decide +kernel
theorem dX9_unexpected_64 : decode cX9_unexpected 64 = .ok (.ireturn, 1) := by decide +kernel
theorem dX11_turnOf_0 : decode cX11_turnOf 0 = .ok (.lload 4, 2) := by decide +kernel
theorem dX11_turnOf_2 : decode cX11_turnOf 2 = .ok (.lload_n 0, 1) := by decide +kernel
theorem dX11_turnOf_3 : decode cX11_turnOf 3 = .ok (.lsub, 1) := by decide +kernel
theorem dX11_turnOf_4 : decode cX11_turnOf 4 = .ok (.lload 10, 2) := by decide +kernel
theorem dX11_turnOf_6 : decode cX11_turnOf 6 = .ok (.lload_n 2, 1) := by decide +kernel
theorem dX11_turnOf_7 : decode cX11_turnOf 7 = .ok (.lsub, 1) := by decide +kernel
theorem dX11_turnOf_8 : decode cX11_turnOf 8 = .ok (.lmul, 1) := by decide +kernel
theorem dX11_turnOf_9 : decode cX11_turnOf 9 = .ok (.lload 6, 2) := by decide +kernel
theorem dX11_turnOf_11 : decode cX11_turnOf 11 = .ok (.lload_n 2, 1) := by decide +kernel
theorem dX11_turnOf_12 : decode cX11_turnOf 12 = .ok (.lsub, 1) := by decide +kernel
theorem dX11_turnOf_13 : decode cX11_turnOf 13 = .ok (.lload 8, 2) := by decide +kernel
theorem dX11_turnOf_15 : decode cX11_turnOf 15 = .ok (.lload_n 0, 1) := by decide +kernel
theorem dX11_turnOf_16 : decode cX11_turnOf 16 = .ok (.lsub, 1) := by decide +kernel
theorem dX11_turnOf_17 : decode cX11_turnOf 17 = .ok (.lmul, 1) := by decide +kernel
theorem dX11_turnOf_18 : decode cX11_turnOf 18 = .ok (.invokestatic 346, 3) := by decide +kernel
theorem dX11_turnOf_21 : decode cX11_turnOf 21 = .ok (.ireturn, 1) := by decide +kernel
theorem dX11_isOnSegment_0 : decode cX11_isOnSegment 0 = .ok (.iload 4, 2) := by decide +kernel
theorem dX11_isOnSegment_2 : decode cX11_isOnSegment 2 = .ok (.iload_n 0, 1) := by decide +kernel
theorem dX11_isOnSegment_3 : decode cX11_isOnSegment 3 = .ok (.iload_n 2, 1) := by decide +kernel
theorem dX11_isOnSegment_4 : decode cX11_isOnSegment 4 = .ok (.invokestatic 122, 3) := by decide +kernel
theorem dX11_isOnSegment_7 : decode cX11_isOnSegment 7 = .ok (.if_icmp .lt 57, 3) := by decide +kernel
theorem dX11_isOnSegment_10 : decode cX11_isOnSegment 10 = .ok (.iload 4, 2) := by decide +kernel
theorem dX11_isOnSegment_12 : decode cX11_isOnSegment 12 = .ok (.iload_n 0, 1) := by decide +kernel
theorem dX11_isOnSegment_13 : decode cX11_isOnSegment 13 = .ok (.iload_n 2, 1) := by decide +kernel
theorem dX11_isOnSegment_14 : decode cX11_isOnSegment 14 = .ok (.invokestatic 352, 3) := by decide +kernel
theorem dX11_isOnSegment_17 : decode cX11_isOnSegment 17 = .ok (.if_icmp .gt 47, 3) := by decide +kernel
theorem dX11_isOnSegment_20 : decode cX11_isOnSegment 20 = .ok (.iload 5, 2) := by decide +kernel
theorem dX11_isOnSegment_22 : decode cX11_isOnSegment 22 = .ok (.iload_n 1, 1) := by decide +kernel
theorem dX11_isOnSegment_23 : decode cX11_isOnSegment 23 = .ok (.iload_n 3, 1) := by decide +kernel
theorem dX11_isOnSegment_24 : decode cX11_isOnSegment 24 = .ok (.invokestatic 122, 3) := by decide +kernel
theorem dX11_isOnSegment_27 : decode cX11_isOnSegment 27 = .ok (.if_icmp .lt 37, 3) := by decide +kernel
theorem dX11_isOnSegment_30 : decode cX11_isOnSegment 30 = .ok (.iload 5, 2) := by decide +kernel
theorem dX11_isOnSegment_32 : decode cX11_isOnSegment 32 = .ok (.iload_n 1, 1) := by decide +kernel
theorem dX11_isOnSegment_33 : decode cX11_isOnSegment 33 = .ok (.iload_n 3, 1) := by decide +kernel
theorem dX11_isOnSegment_34 : decode cX11_isOnSegment 34 = .ok (.invokestatic 352, 3) := by decide +kernel
theorem dX11_isOnSegment_37 : decode cX11_isOnSegment 37 = .ok (.if_icmp .gt 27, 3) := by decide +kernel
theorem dX11_isOnSegment_40 : decode cX11_isOnSegment 40 = .ok (.iload_n 0, 1) := by decide +kernel
theorem dX11_isOnSegment_41 : decode cX11_isOnSegment 41 = .ok (.i2l, 1) := by decide +kernel
theorem dX11_isOnSegment_42 : decode cX11_isOnSegment 42 = .ok (.iload_n 1, 1) := by decide +kernel
theorem dX11_isOnSegment_43 : decode cX11_isOnSegment 43 = .ok (.i2l, 1) := by decide +kernel
theorem dX11_isOnSegment_44 : decode cX11_isOnSegment 44 = .ok (.iload_n 2, 1) := by decide +kernel
theorem dX11_isOnSegment_45 : decode cX11_isOnSegment 45 = .ok (.i2l, 1) := by decide +kernel
theorem dX11_isOnSegment_46 : decode cX11_isOnSegment 46 = .ok (.iload_n 3, 1) := by decide +kernel
theorem dX11_isOnSegment_47 : decode cX11_isOnSegment 47 = .ok (.i2l, 1) := by decide +kernel
theorem dX11_isOnSegment_48 : decode cX11_isOnSegment 48 = .ok (.iload 4, 2) := by decide +kernel
theorem dX11_isOnSegment_50 : decode cX11_isOnSegment 50 = .ok (.i2l, 1) := by decide +kernel
theorem dX11_isOnSegment_51 : decode cX11_isOnSegment 51 = .ok (.iload 5, 2) := by decide +kernel
theorem dX11_isOnSegment_53 : decode cX11_isOnSegment 53 = .ok (.i2l, 1) := by decide +kernel
theorem dX11_isOnSegment_54 : decode cX11_isOnSegment 54 = .ok (.invokestatic 354, 3) := by decide +kernel
theorem dX11_isOnSegment_57 : decode cX11_isOnSegment 57 = .ok (.ifCond .ne 7, 3) := by decide +kernel
theorem dX11_isOnSegment_60 : decode cX11_isOnSegment 60 = .ok (.iconst 1, 1) := by decide +kernel
theorem dX11_isOnSegment_61 : decode cX11_isOnSegment 61 = .ok (.goto 4, 3) := by decide +kernel
theorem dX11_isOnSegment_64 : decode cX11_isOnSegment 64 = .ok (.iconst 0, 1) := by decide +kernel
theorem dX11_isOnSegment_65 : decode cX11_isOnSegment 65 = .ok (.ireturn, 1) := by decide +kernel
theorem dX11_isCrossedFrom_0 : decode cX11_isCrossedFrom 0 = .ok (.iload_n 3, 1) := by decide +kernel
theorem dX11_isCrossedFrom_1 : decode cX11_isCrossedFrom 1 = .ok (.iload 5, 2) := by decide +kernel
theorem dX11_isCrossedFrom_3 : decode cX11_isCrossedFrom 3 = .ok (.if_icmp .le 7, 3) := by decide +kernel
theorem dX11_isCrossedFrom_6 : decode cX11_isCrossedFrom 6 = .ok (.iconst 1, 1) := by decide +kernel
theorem dX11_isCrossedFrom_7 : decode cX11_isCrossedFrom 7 = .ok (.goto 4, 3) := by decide +kernel
theorem dX11_isCrossedFrom_10 : decode cX11_isCrossedFrom 10 = .ok (.iconst 0, 1) := by decide +kernel
theorem dX11_isCrossedFrom_11 : decode cX11_isCrossedFrom 11 = .ok (.istore 6, 2) := by decide +kernel
theorem dX11_isCrossedFrom_13 : decode cX11_isCrossedFrom 13 = .ok (.iload_n 1, 1) := by decide +kernel
theorem dX11_isCrossedFrom_14 : decode cX11_isCrossedFrom 14 = .ok (.iload 5, 2) := by decide +kernel
theorem dX11_isCrossedFrom_16 : decode cX11_isCrossedFrom 16 = .ok (.if_icmp .le 7, 3) := by decide +kernel
theorem dX11_isCrossedFrom_19 : decode cX11_isCrossedFrom 19 = .ok (.iconst 1, 1) := by decide +kernel
theorem dX11_isCrossedFrom_20 : decode cX11_isCrossedFrom 20 = .ok (.goto 4, 3) := by decide +kernel
theorem dX11_isCrossedFrom_23 : decode cX11_isCrossedFrom 23 = .ok (.iconst 0, 1) := by decide +kernel
theorem dX11_isCrossedFrom_24 : decode cX11_isCrossedFrom 24 = .ok (.iload 6, 2) := by decide +kernel
theorem dX11_isCrossedFrom_26 : decode cX11_isCrossedFrom 26 = .ok (.if_icmp .ne 5, 3) := by decide +kernel
theorem dX11_isCrossedFrom_29 : decode cX11_isCrossedFrom 29 = .ok (.iconst 0, 1) := by decide +kernel
theorem dX11_isCrossedFrom_30 : decode cX11_isCrossedFrom 30 = .ok (.ireturn, 1) := by decide +kernel
theorem dX11_isCrossedFrom_31 : decode cX11_isCrossedFrom 31 = .ok (.iload_n 0, 1) := by decide +kernel
theorem dX11_isCrossedFrom_32 : decode cX11_isCrossedFrom 32 = .ok (.i2l, 1) := by decide +kernel
theorem dX11_isCrossedFrom_33 : decode cX11_isCrossedFrom 33 = .ok (.iload_n 1, 1) := by decide +kernel
theorem dX11_isCrossedFrom_34 : decode cX11_isCrossedFrom 34 = .ok (.i2l, 1) := by decide +kernel
theorem dX11_isCrossedFrom_35 : decode cX11_isCrossedFrom 35 = .ok (.iload_n 2, 1) := by decide +kernel
theorem dX11_isCrossedFrom_36 : decode cX11_isCrossedFrom 36 = .ok (.i2l, 1) := by decide +kernel
theorem dX11_isCrossedFrom_37 : decode cX11_isCrossedFrom 37 = .ok (.iload_n 3, 1) := by decide +kernel
theorem dX11_isCrossedFrom_38 : decode cX11_isCrossedFrom 38 = .ok (.i2l, 1) := by decide +kernel
theorem dX11_isCrossedFrom_39 : decode cX11_isCrossedFrom 39 = .ok (.iload 4, 2) := by decide +kernel
theorem dX11_isCrossedFrom_41 : decode cX11_isCrossedFrom 41 = .ok (.i2l, 1) := by decide +kernel
theorem dX11_isCrossedFrom_42 : decode cX11_isCrossedFrom 42 = .ok (.iload 5, 2) := by decide +kernel
theorem dX11_isCrossedFrom_44 : decode cX11_isCrossedFrom 44 = .ok (.i2l, 1) := by decide +kernel
theorem dX11_isCrossedFrom_45 : decode cX11_isCrossedFrom 45 = .ok (.invokestatic 354, 3) := by decide +kernel
theorem dX11_isCrossedFrom_48 : decode cX11_isCrossedFrom 48 = .ok (.istore 7, 2) := by decide +kernel
theorem dX11_isCrossedFrom_50 : decode cX11_isCrossedFrom 50 = .ok (.iload 6, 2) := by decide +kernel
theorem dX11_isCrossedFrom_52 : decode cX11_isCrossedFrom 52 = .ok (.ifCond .eq 16, 3) := by decide +kernel
theorem dX11_isCrossedFrom_55 : decode cX11_isCrossedFrom 55 = .ok (.iload 7, 2) := by decide +kernel
theorem dX11_isCrossedFrom_57 : decode cX11_isCrossedFrom 57 = .ok (.ifCond .le 7, 3) := by decide +kernel
theorem dX11_isCrossedFrom_60 : decode cX11_isCrossedFrom 60 = .ok (.iconst 1, 1) := by decide +kernel
theorem dX11_isCrossedFrom_61 : decode cX11_isCrossedFrom 61 = .ok (.goto 17, 3) := by decide +kernel
theorem dX11_isCrossedFrom_64 : decode cX11_isCrossedFrom 64 = .ok (.iconst 0, 1) := by decide +kernel
theorem dX11_isCrossedFrom_65 : decode cX11_isCrossedFrom 65 = .ok (.goto 13, 3) := by decide +kernel
theorem dX11_isCrossedFrom_68 : decode cX11_isCrossedFrom 68 = .ok (.iload 7, 2) := by decide +kernel
theorem dX11_isCrossedFrom_70 : decode cX11_isCrossedFrom 70 = .ok (.ifCond .ge 7, 3) := by decide +kernel
theorem dX11_isCrossedFrom_73 : decode cX11_isCrossedFrom 73 = .ok (.iconst 1, 1) := by decide +kernel
theorem dX11_isCrossedFrom_74 : decode cX11_isCrossedFrom 74 = .ok (.goto 4, 3) := by decide +kernel
theorem dX11_isCrossedFrom_77 : decode cX11_isCrossedFrom 77 = .ok (.iconst 0, 1) := by decide +kernel
theorem dX11_isCrossedFrom_78 : decode cX11_isCrossedFrom 78 = .ok (.ireturn, 1) := by decide +kernel
theorem dX11_signOfSum_0 : decode cX11_signOfSum 0 = .ok (.lload_n 0, 1) := by decide +kernel
theorem dX11_signOfSum_1 : decode cX11_signOfSum 1 = .ok (.lload_n 2, 1) := by decide +kernel
theorem dX11_signOfSum_2 : decode cX11_signOfSum 2 = .ok (.lmul, 1) := by decide +kernel
theorem dX11_signOfSum_3 : decode cX11_signOfSum 3 = .ok (.lstore 12, 2) := by decide +kernel
theorem dX11_signOfSum_5 : decode cX11_signOfSum 5 = .ok (.lload_n 0, 1) := by decide +kernel
theorem dX11_signOfSum_6 : decode cX11_signOfSum 6 = .ok (.lload_n 2, 1) := by decide +kernel
theorem dX11_signOfSum_7 : decode cX11_signOfSum 7 = .ok (.invokestatic 358, 3) := by decide +kernel
theorem dX11_signOfSum_10 : decode cX11_signOfSum 10 = .ok (.lstore 14, 2) := by decide +kernel
theorem dX11_signOfSum_12 : decode cX11_signOfSum 12 = .ok (.lload 4, 2) := by decide +kernel
theorem dX11_signOfSum_14 : decode cX11_signOfSum 14 = .ok (.lload 6, 2) := by decide +kernel
theorem dX11_signOfSum_16 : decode cX11_signOfSum 16 = .ok (.lmul, 1) := by decide +kernel
theorem dX11_signOfSum_17 : decode cX11_signOfSum 17 = .ok (.lstore 16, 2) := by decide +kernel
theorem dX11_signOfSum_19 : decode cX11_signOfSum 19 = .ok (.lload 12, 2) := by decide +kernel
theorem dX11_signOfSum_21 : decode cX11_signOfSum 21 = .ok (.lload 16, 2) := by decide +kernel
theorem dX11_signOfSum_23 : decode cX11_signOfSum 23 = .ok (.ladd, 1) := by decide +kernel
theorem dX11_signOfSum_24 : decode cX11_signOfSum 24 = .ok (.lstore 12, 2) := by decide +kernel
theorem dX11_signOfSum_26 : decode cX11_signOfSum 26 = .ok (.lload 14, 2) := by decide +kernel
theorem dX11_signOfSum_28 : decode cX11_signOfSum 28 = .ok (.lload 4, 2) := by decide +kernel
theorem dX11_signOfSum_30 : decode cX11_signOfSum 30 = .ok (.lload 6, 2) := by decide +kernel
theorem dX11_signOfSum_32 : decode cX11_signOfSum 32 = .ok (.invokestatic 358, 3) := by decide +kernel
theorem dX11_signOfSum_35 : decode cX11_signOfSum 35 = .ok (.lload 12, 2) := by decide +kernel
theorem dX11_signOfSum_37 : decode cX11_signOfSum 37 = .ok (.lload 16, 2) := by decide +kernel
theorem dX11_signOfSum_39 : decode cX11_signOfSum 39 = .ok (.invokestatic 361, 3) := by decide +kernel
theorem dX11_signOfSum_42 : decode cX11_signOfSum 42 = .ok (.i2l, 1) := by decide +kernel
theorem dX11_signOfSum_43 : decode cX11_signOfSum 43 = .ok (.ladd, 1) := by decide +kernel
theorem dX11_signOfSum_44 : decode cX11_signOfSum 44 = .ok (.ladd, 1) := by decide +kernel
theorem dX11_signOfSum_45 : decode cX11_signOfSum 45 = .ok (.lstore 14, 2) := by decide +kernel
theorem dX11_signOfSum_47 : decode cX11_signOfSum 47 = .ok (.lload 8, 2) := by decide +kernel
theorem dX11_signOfSum_49 : decode cX11_signOfSum 49 = .ok (.lload 10, 2) := by decide +kernel
theorem dX11_signOfSum_51 : decode cX11_signOfSum 51 = .ok (.lmul, 1) := by decide +kernel
theorem dX11_signOfSum_52 : decode cX11_signOfSum 52 = .ok (.lstore 16, 2) := by decide +kernel
theorem dX11_signOfSum_54 : decode cX11_signOfSum 54 = .ok (.lload 12, 2) := by decide +kernel
theorem dX11_signOfSum_56 : decode cX11_signOfSum 56 = .ok (.lload 16, 2) := by decide +kernel
theorem dX11_signOfSum_58 : decode cX11_signOfSum 58 = .ok (.ladd, 1) := by decide +kernel
theorem dX11_signOfSum_59 : decode cX11_signOfSum 59 = .ok (.lstore 12, 2) := by decide +kernel
theorem dX11_signOfSum_61 : decode cX11_signOfSum 61 = .ok (.lload 14, 2) := by decide +kernel
theorem dX11_signOfSum_63 : decode cX11_signOfSum 63 = .ok (.lload 8, 2) := by decide +kernel
theorem dX11_signOfSum_65 : decode cX11_signOfSum 65 = .ok (.lload 10, 2) := by decide +kernel
theorem dX11_signOfSum_67 : decode cX11_signOfSum 67 = .ok (.invokestatic 358, 3) := by decide +kernel
theorem dX11_signOfSum_70 : decode cX11_signOfSum 70 = .ok (.lload 12, 2) := by decide +kernel
theorem dX11_signOfSum_72 : decode cX11_signOfSum 72 = .ok (.lload 16, 2) := by decide +kernel
theorem dX11_signOfSum_74 : decode cX11_signOfSum 74 = .ok (.invokestatic 361, 3) := by decide +kernel
theorem dX11_signOfSum_77 : decode cX11_signOfSum 77 = .ok (.i2l, 1) := by decide +kernel
theorem dX11_signOfSum_78 : decode cX11_signOfSum 78 = .ok (.ladd, 1) := by decide +kernel
theorem dX11_signOfSum_79 : decode cX11_signOfSum 79 = .ok (.ladd, 1) := by decide +kernel
theorem dX11_signOfSum_80 : decode cX11_signOfSum 80 = .ok (.lstore 14, 2) := by decide +kernel
theorem dX11_signOfSum_82 : decode cX11_signOfSum 82 = .ok (.lload 14, 2) := by decide +kernel
theorem dX11_signOfSum_84 : decode cX11_signOfSum 84 = .ok (.lconst 0, 1) := by decide +kernel
theorem dX11_signOfSum_85 : decode cX11_signOfSum 85 = .ok (.lcmp, 1) := by decide +kernel
theorem dX11_signOfSum_86 : decode cX11_signOfSum 86 = .ok (.ifCond .eq 12, 3) := by decide +kernel
theorem dX11_signOfSum_89 : decode cX11_signOfSum 89 = .ok (.lload 14, 2) := by decide +kernel
theorem dX11_signOfSum_91 : decode cX11_signOfSum 91 = .ok (.lconst 0, 1) := by decide +kernel
theorem dX11_signOfSum_92 : decode cX11_signOfSum 92 = .ok (.invokestatic 346, 3) := by decide +kernel
theorem dX11_signOfSum_95 : decode cX11_signOfSum 95 = .ok (.goto 15, 3) := by decide +kernel
theorem dX11_signOfSum_98 : decode cX11_signOfSum 98 = .ok (.lload 12, 2) := by decide +kernel
theorem dX11_signOfSum_100 : decode cX11_signOfSum 100 = .ok (.lconst 0, 1) := by decide +kernel
theorem dX11_signOfSum_101 : decode cX11_signOfSum 101 = .ok (.lcmp, 1) := by decide +kernel
theorem dX11_signOfSum_102 : decode cX11_signOfSum 102 = .ok (.ifCond .eq 7, 3) := by decide +kernel
theorem dX11_signOfSum_105 : decode cX11_signOfSum 105 = .ok (.iconst 1, 1) := by decide +kernel
theorem dX11_signOfSum_106 : decode cX11_signOfSum 106 = .ok (.goto 4, 3) := by decide +kernel
theorem dX11_signOfSum_109 : decode cX11_signOfSum 109 = .ok (.iconst 0, 1) := by decide +kernel
theorem dX11_signOfSum_110 : decode cX11_signOfSum 110 = .ok (.ireturn, 1) := by decide +kernel
theorem dX2_turnAt_0 : decode cX2_turnAt 0 = .ok (.aload_n 0, 1) := by decide +kernel
theorem dX2_turnAt_1 : decode cX2_turnAt 1 = .ok (.getfield 17, 3) := by decide +kernel
theorem dX2_turnAt_4 : decode cX2_turnAt 4 = .ok (.iload_n 1, 1) := by decide +kernel
theorem dX2_turnAt_5 : decode cX2_turnAt 5 = .ok (.iaload, 1) := by decide +kernel
theorem dX2_turnAt_6 : decode cX2_turnAt 6 = .ok (.i2l, 1) := by decide +kernel
theorem dX2_turnAt_7 : decode cX2_turnAt 7 = .ok (.aload_n 0, 1) := by decide +kernel
theorem dX2_turnAt_8 : decode cX2_turnAt 8 = .ok (.getfield 21, 3) := by decide +kernel
theorem dX2_turnAt_11 : decode cX2_turnAt 11 = .ok (.iload_n 1, 1) := by decide +kernel
theorem dX2_turnAt_12 : decode cX2_turnAt 12 = .ok (.iaload, 1) := by decide +kernel
theorem dX2_turnAt_13 : decode cX2_turnAt 13 = .ok (.i2l, 1) := by decide +kernel
theorem dX2_turnAt_14 : decode cX2_turnAt 14 = .ok (.aload_n 0, 1) := by decide +kernel
theorem dX2_turnAt_15 : decode cX2_turnAt 15 = .ok (.getfield 17, 3) := by decide +kernel
theorem dX2_turnAt_18 : decode cX2_turnAt 18 = .ok (.iload_n 2, 1) := by decide +kernel
theorem dX2_turnAt_19 : decode cX2_turnAt 19 = .ok (.iaload, 1) := by decide +kernel
theorem dX2_turnAt_20 : decode cX2_turnAt 20 = .ok (.i2l, 1) := by decide +kernel
theorem dX2_turnAt_21 : decode cX2_turnAt 21 = .ok (.aload_n 0, 1) := by decide +kernel
theorem dX2_turnAt_22 : decode cX2_turnAt 22 = .ok (.getfield 21, 3) := by decide +kernel
theorem dX2_turnAt_25 : decode cX2_turnAt 25 = .ok (.iload_n 2, 1) := by decide +kernel
theorem dX2_turnAt_26 : decode cX2_turnAt 26 = .ok (.iaload, 1) := by decide +kernel
theorem dX2_turnAt_27 : decode cX2_turnAt 27 = .ok (.i2l, 1) := by decide +kernel
theorem dX2_turnAt_28 : decode cX2_turnAt 28 = .ok (.aload_n 0, 1) := by decide +kernel
theorem dX2_turnAt_29 : decode cX2_turnAt 29 = .ok (.getfield 17, 3) := by decide +kernel
theorem dX2_turnAt_32 : decode cX2_turnAt 32 = .ok (.iload_n 3, 1) := by decide +kernel
theorem dX2_turnAt_33 : decode cX2_turnAt 33 = .ok (.iaload, 1) := by decide +kernel
theorem dX2_turnAt_34 : decode cX2_turnAt 34 = .ok (.i2l, 1) := by decide +kernel
theorem dX2_turnAt_35 : decode cX2_turnAt 35 = .ok (.aload_n 0, 1) := by decide +kernel
theorem dX2_turnAt_36 : decode cX2_turnAt 36 = .ok (.getfield 21, 3) := by decide +kernel
theorem dX2_turnAt_39 : decode cX2_turnAt 39 = .ok (.iload_n 3, 1) := by decide +kernel
theorem dX2_turnAt_40 : decode cX2_turnAt 40 = .ok (.iaload, 1) := by decide +kernel
theorem dX2_turnAt_41 : decode cX2_turnAt 41 = .ok (.i2l, 1) := by decide +kernel
theorem dX2_turnAt_42 : decode cX2_turnAt 42 = .ok (.invokestatic 100, 3) := by decide +kernel
theorem dX2_turnAt_45 : decode cX2_turnAt 45 = .ok (.ireturn, 1) := by decide +kernel
theorem dX2_circleSign_0 : decode cX2_circleSign 0 = .ok (.aload_n 0, 1) := by decide +kernel
theorem dX2_circleSign_1 : decode cX2_circleSign 1 = .ok (.getfield 17, 3) := by decide +kernel
theorem dX2_circleSign_4 : decode cX2_circleSign 4 = .ok (.iload_n 1, 1) := by decide +kernel
theorem dX2_circleSign_5 : decode cX2_circleSign 5 = .ok (.iaload, 1) := by decide +kernel
theorem dX2_circleSign_6 : decode cX2_circleSign 6 = .ok (.i2l, 1) := by decide +kernel
theorem dX2_circleSign_7 : decode cX2_circleSign 7 = .ok (.aload_n 0, 1) := by decide +kernel
theorem dX2_circleSign_8 : decode cX2_circleSign 8 = .ok (.getfield 17, 3) := by decide +kernel
theorem dX2_circleSign_11 : decode cX2_circleSign 11 = .ok (.iload 4, 2) := by decide +kernel
theorem dX2_circleSign_13 : decode cX2_circleSign 13 = .ok (.iaload, 1) := by decide +kernel
theorem dX2_circleSign_14 : decode cX2_circleSign 14 = .ok (.i2l, 1) := by decide +kernel
theorem dX2_circleSign_15 : decode cX2_circleSign 15 = .ok (.lsub, 1) := by decide +kernel
theorem dX2_circleSign_16 : decode cX2_circleSign 16 = .ok (.lstore 5, 2) := by decide +kernel
theorem dX2_circleSign_18 : decode cX2_circleSign 18 = .ok (.aload_n 0, 1) := by decide +kernel
theorem dX2_circleSign_19 : decode cX2_circleSign 19 = .ok (.getfield 21, 3) := by decide +kernel
theorem dX2_circleSign_22 : decode cX2_circleSign 22 = .ok (.iload_n 1, 1) := by decide +kernel
theorem dX2_circleSign_23 : decode cX2_circleSign 23 = .ok (.iaload, 1) := by decide +kernel
theorem dX2_circleSign_24 : decode cX2_circleSign 24 = .ok (.i2l, 1) := by decide +kernel
theorem dX2_circleSign_25 : decode cX2_circleSign 25 = .ok (.aload_n 0, 1) := by decide +kernel
theorem dX2_circleSign_26 : decode cX2_circleSign 26 = .ok (.getfield 21, 3) := by decide +kernel
theorem dX2_circleSign_29 : decode cX2_circleSign 29 = .ok (.iload 4, 2) := by decide +kernel
theorem dX2_circleSign_31 : decode cX2_circleSign 31 = .ok (.iaload, 1) := by decide +kernel
theorem dX2_circleSign_32 : decode cX2_circleSign 32 = .ok (.i2l, 1) := by decide +kernel
theorem dX2_circleSign_33 : decode cX2_circleSign 33 = .ok (.lsub, 1) := by decide +kernel
theorem dX2_circleSign_34 : decode cX2_circleSign 34 = .ok (.lstore 7, 2) := by decide +kernel
theorem dX2_circleSign_36 : decode cX2_circleSign 36 = .ok (.aload_n 0, 1) := by decide +kernel
theorem dX2_circleSign_37 : decode cX2_circleSign 37 = .ok (.getfield 17, 3) := by decide +kernel
theorem dX2_circleSign_40 : decode cX2_circleSign 40 = .ok (.iload_n 2, 1) := by decide +kernel
theorem dX2_circleSign_41 : decode cX2_circleSign 41 = .ok (.iaload, 1) := by decide +kernel
theorem dX2_circleSign_42 : decode cX2_circleSign 42 = .ok (.i2l, 1) := by decide +kernel
theorem dX2_circleSign_43 : decode cX2_circleSign 43 = .ok (.aload_n 0, 1) := by decide +kernel
theorem dX2_circleSign_44 : decode cX2_circleSign 44 = .ok (.getfield 17, 3) := by decide +kernel
theorem dX2_circleSign_47 : decode cX2_circleSign 47 = .ok (.iload 4, 2) := by decide +kernel
theorem dX2_circleSign_49 : decode cX2_circleSign 49 = .ok (.iaload, 1) := by decide +kernel
theorem dX2_circleSign_50 : decode cX2_circleSign 50 = .ok (.i2l, 1) := by decide +kernel
theorem dX2_circleSign_51 : decode cX2_circleSign 51 = .ok (.lsub, 1) := by decide +kernel
theorem dX2_circleSign_52 : decode cX2_circleSign 52 = .ok (.lstore 9, 2) := by decide +kernel
theorem dX2_circleSign_54 : decode cX2_circleSign 54 = .ok (.aload_n 0, 1) := by decide +kernel
theorem dX2_circleSign_55 : decode cX2_circleSign 55 = .ok (.getfield 21, 3) := by decide +kernel
theorem dX2_circleSign_58 : decode cX2_circleSign 58 = .ok (.iload_n 2, 1) := by decide +kernel
theorem dX2_circleSign_59 : decode cX2_circleSign 59 = .ok (.iaload, 1) := by decide +kernel
theorem dX2_circleSign_60 : decode cX2_circleSign 60 = .ok (.i2l, 1) := by decide +kernel
theorem dX2_circleSign_61 : decode cX2_circleSign 61 = .ok (.aload_n 0, 1) := by decide +kernel
theorem dX2_circleSign_62 : decode cX2_circleSign 62 = .ok (.getfield 21, 3) := by decide +kernel
theorem dX2_circleSign_65 : decode cX2_circleSign 65 = .ok (.iload 4, 2) := by decide +kernel
theorem dX2_circleSign_67 : decode cX2_circleSign 67 = .ok (.iaload, 1) := by decide +kernel
theorem dX2_circleSign_68 : decode cX2_circleSign 68 = .ok (.i2l, 1) := by decide +kernel
theorem dX2_circleSign_69 : decode cX2_circleSign 69 = .ok (.lsub, 1) := by decide +kernel
theorem dX2_circleSign_70 : decode cX2_circleSign 70 = .ok (.lstore 11, 2) := by decide +kernel
theorem dX2_circleSign_72 : decode cX2_circleSign 72 = .ok (.aload_n 0, 1) := by decide +kernel
theorem dX2_circleSign_73 : decode cX2_circleSign 73 = .ok (.getfield 17, 3) := by decide +kernel
theorem dX2_circleSign_76 : decode cX2_circleSign 76 = .ok (.iload_n 3, 1) := by decide +kernel
theorem dX2_circleSign_77 : decode cX2_circleSign 77 = .ok (.iaload, 1) := by decide +kernel
theorem dX2_circleSign_78 : decode cX2_circleSign 78 = .ok (.i2l, 1) := by decide +kernel
theorem dX2_circleSign_79 : decode cX2_circleSign 79 = .ok (.aload_n 0, 1) := by decide +kernel
theorem dX2_circleSign_80 : decode cX2_circleSign 80 = .ok (.getfield 17, 3) := by decide +kernel
theorem dX2_circleSign_83 : decode cX2_circleSign 83 = .ok (.iload 4, 2) := by decide +kernel
theorem dX2_circleSign_85 : decode cX2_circleSign 85 = .ok (.iaload, 1) := by decide +kernel
theorem dX2_circleSign_86 : decode cX2_circleSign 86 = .ok (.i2l, 1) := by decide +kernel
theorem dX2_circleSign_87 : decode cX2_circleSign 87 = .ok (.lsub, 1) := by decide +kernel
theorem dX2_circleSign_88 : decode cX2_circleSign 88 = .ok (.lstore 13, 2) := by decide +kernel
theorem dX2_circleSign_90 : decode cX2_circleSign 90 = .ok (.aload_n 0, 1) := by decide +kernel
theorem dX2_circleSign_91 : decode cX2_circleSign 91 = .ok (.getfield 21, 3) := by decide +kernel
theorem dX2_circleSign_94 : decode cX2_circleSign 94 = .ok (.iload_n 3, 1) := by decide +kernel
theorem dX2_circleSign_95 : decode cX2_circleSign 95 = .ok (.iaload, 1) := by decide +kernel
theorem dX2_circleSign_96 : decode cX2_circleSign 96 = .ok (.i2l, 1) := by decide +kernel
theorem dX2_circleSign_97 : decode cX2_circleSign 97 = .ok (.aload_n 0, 1) := by decide +kernel
theorem dX2_circleSign_98 : decode cX2_circleSign 98 = .ok (.getfield 21, 3) := by decide +kernel
theorem dX2_circleSign_101 : decode cX2_circleSign 101 = .ok (.iload 4, 2) := by decide +kernel
theorem dX2_circleSign_103 : decode cX2_circleSign 103 = .ok (.iaload, 1) := by decide +kernel
theorem dX2_circleSign_104 : decode cX2_circleSign 104 = .ok (.i2l, 1) := by decide +kernel
theorem dX2_circleSign_105 : decode cX2_circleSign 105 = .ok (.lsub, 1) := by decide +kernel
theorem dX2_circleSign_106 : decode cX2_circleSign 106 = .ok (.lstore 15, 2) := by decide +kernel
theorem dX2_circleSign_108 : decode cX2_circleSign 108 = .ok (.lload 5, 2) := by decide +kernel
theorem dX2_circleSign_110 : decode cX2_circleSign 110 = .ok (.lload 5, 2) := by decide +kernel
theorem dX2_circleSign_112 : decode cX2_circleSign 112 = .ok (.lmul, 1) := by decide +kernel
theorem dX2_circleSign_113 : decode cX2_circleSign 113 = .ok (.lload 7, 2) := by decide +kernel
theorem dX2_circleSign_115 : decode cX2_circleSign 115 = .ok (.lload 7, 2) := by decide +kernel
theorem dX2_circleSign_117 : decode cX2_circleSign 117 = .ok (.lmul, 1) := by decide +kernel
theorem dX2_circleSign_118 : decode cX2_circleSign 118 = .ok (.ladd, 1) := by decide +kernel
theorem dX2_circleSign_119 : decode cX2_circleSign 119 = .ok (.lload 9, 2) := by decide +kernel
theorem dX2_circleSign_121 : decode cX2_circleSign 121 = .ok (.lload 15, 2) := by decide +kernel
theorem dX2_circleSign_123 : decode cX2_circleSign 123 = .ok (.lmul, 1) := by decide +kernel
theorem dX2_circleSign_124 : decode cX2_circleSign 124 = .ok (.lload 11, 2) := by decide +kernel
theorem dX2_circleSign_126 : decode cX2_circleSign 126 = .ok (.lload 13, 2) := by decide +kernel
theorem dX2_circleSign_128 : decode cX2_circleSign 128 = .ok (.lmul, 1) := by decide +kernel
theorem dX2_circleSign_129 : decode cX2_circleSign 129 = .ok (.lsub, 1) := by decide +kernel
theorem dX2_circleSign_130 : decode cX2_circleSign 130 = .ok (.lload 9, 2) := by decide +kernel
theorem dX2_circleSign_132 : decode cX2_circleSign 132 = .ok (.lload 9, 2) := by decide +kernel
theorem dX2_circleSign_134 : decode cX2_circleSign 134 = .ok (.lmul, 1) := by decide +kernel
theorem dX2_circleSign_135 : decode cX2_circleSign 135 = .ok (.lload 11, 2) := by decide +kernel
theorem dX2_circleSign_137 : decode cX2_circleSign 137 = .ok (.lload 11, 2) := by decide +kernel
theorem dX2_circleSign_139 : decode cX2_circleSign 139 = .ok (.lmul, 1) := by decide +kernel
theorem dX2_circleSign_140 : decode cX2_circleSign 140 = .ok (.ladd, 1) := by decide +kernel
theorem dX2_circleSign_141 : decode cX2_circleSign 141 = .ok (.lload 13, 2) := by decide +kernel
theorem dX2_circleSign_143 : decode cX2_circleSign 143 = .ok (.lload 7, 2) := by decide +kernel
theorem dX2_circleSign_145 : decode cX2_circleSign 145 = .ok (.lmul, 1) := by decide +kernel
theorem dX2_circleSign_146 : decode cX2_circleSign 146 = .ok (.lload 15, 2) := by decide +kernel
theorem dX2_circleSign_148 : decode cX2_circleSign 148 = .ok (.lload 5, 2) := by decide +kernel
theorem dX2_circleSign_150 : decode cX2_circleSign 150 = .ok (.lmul, 1) := by decide +kernel
theorem dX2_circleSign_151 : decode cX2_circleSign 151 = .ok (.lsub, 1) := by decide +kernel
theorem dX2_circleSign_152 : decode cX2_circleSign 152 = .ok (.lload 13, 2) := by decide +kernel
theorem dX2_circleSign_154 : decode cX2_circleSign 154 = .ok (.lload 13, 2) := by decide +kernel
theorem dX2_circleSign_156 : decode cX2_circleSign 156 = .ok (.lmul, 1) := by decide +kernel
theorem dX2_circleSign_157 : decode cX2_circleSign 157 = .ok (.lload 15, 2) := by decide +kernel
theorem dX2_circleSign_159 : decode cX2_circleSign 159 = .ok (.lload 15, 2) := by decide +kernel
theorem dX2_circleSign_161 : decode cX2_circleSign 161 = .ok (.lmul, 1) := by decide +kernel
theorem dX2_circleSign_162 : decode cX2_circleSign 162 = .ok (.ladd, 1) := by decide +kernel
theorem dX2_circleSign_163 : decode cX2_circleSign 163 = .ok (.lload 5, 2) := by decide +kernel
theorem dX2_circleSign_165 : decode cX2_circleSign 165 = .ok (.lload 11, 2) := by decide +kernel
theorem dX2_circleSign_167 : decode cX2_circleSign 167 = .ok (.lmul, 1) := by decide +kernel
theorem dX2_circleSign_168 : decode cX2_circleSign 168 = .ok (.lload 7, 2) := by decide +kernel
theorem dX2_circleSign_170 : decode cX2_circleSign 170 = .ok (.lload 9, 2) := by decide +kernel
theorem dX2_circleSign_172 : decode cX2_circleSign 172 = .ok (.lmul, 1) := by decide +kernel
theorem dX2_circleSign_173 : decode cX2_circleSign 173 = .ok (.lsub, 1) := by decide +kernel
theorem dX2_circleSign_174 : decode cX2_circleSign 174 = .ok (.invokestatic 170, 3) := by decide +kernel
theorem dX2_circleSign_177 : decode cX2_circleSign 177 = .ok (.ireturn, 1) := by decide +kernel
theorem dX2_isFarther_0 : decode cX2_isFarther 0 = .ok (.iload_n 0, 1) := by decide +kernel
theorem dX2_isFarther_1 : decode cX2_isFarther 1 = .ok (.iload_n 3, 1) := by decide +kernel
theorem dX2_isFarther_2 : decode cX2_isFarther 2 = .ok (.if_icmp .ne 16, 3) := by decide +kernel
theorem dX2_isFarther_5 : decode cX2_isFarther 5 = .ok (.lload_n 1, 1) := by decide +kernel
theorem dX2_isFarther_6 : decode cX2_isFarther 6 = .ok (.lload 4, 2) := by decide +kernel
theorem dX2_isFarther_8 : decode cX2_isFarther 8 = .ok (.lcmp, 1) := by decide +kernel
theorem dX2_isFarther_9 : decode cX2_isFarther 9 = .ok (.ifCond .le 7, 3) := by decide +kernel
theorem dX2_isFarther_12 : decode cX2_isFarther 12 = .ok (.iconst 1, 1) := by decide +kernel
theorem dX2_isFarther_13 : decode cX2_isFarther 13 = .ok (.goto 4, 3) := by decide +kernel
theorem dX2_isFarther_16 : decode cX2_isFarther 16 = .ok (.iconst 0, 1) := by decide +kernel
theorem dX2_isFarther_17 : decode cX2_isFarther 17 = .ok (.ireturn, 1) := by decide +kernel
theorem dX2_isFarther_18 : decode cX2_isFarther 18 = .ok (.iload_n 0, 1) := by decide +kernel
theorem dX2_isFarther_19 : decode cX2_isFarther 19 = .ok (.ifCond .eq 26, 3) := by decide +kernel
theorem dX2_isFarther_22 : decode cX2_isFarther 22 = .ok (.lload_n 1, 1) := by decide +kernel
theorem dX2_isFarther_23 : decode cX2_isFarther 23 = .ok (.lload_n 1, 1) := by decide +kernel
theorem dX2_isFarther_24 : decode cX2_isFarther 24 = .ok (.lload 4, 2) := by decide +kernel
theorem dX2_isFarther_26 : decode cX2_isFarther 26 = .ok (.lneg, 1) := by decide +kernel
theorem dX2_isFarther_27 : decode cX2_isFarther 27 = .ok (.lload 6, 2) := by decide +kernel
theorem dX2_isFarther_29 : decode cX2_isFarther 29 = .ok (.lconst 0, 1) := by decide +kernel
theorem dX2_isFarther_30 : decode cX2_isFarther 30 = .ok (.lconst 0, 1) := by decide +kernel
theorem dX2_isFarther_31 : decode cX2_isFarther 31 = .ok (.invokestatic 170, 3) := by decide +kernel
theorem dX2_isFarther_34 : decode cX2_isFarther 34 = .ok (.ifCond .le 7, 3) := by decide +kernel
theorem dX2_isFarther_37 : decode cX2_isFarther 37 = .ok (.iconst 1, 1) := by decide +kernel
theorem dX2_isFarther_38 : decode cX2_isFarther 38 = .ok (.goto 28, 3) := by decide +kernel
theorem dX2_isFarther_41 : decode cX2_isFarther 41 = .ok (.iconst 0, 1) := by decide +kernel
theorem dX2_isFarther_42 : decode cX2_isFarther 42 = .ok (.goto 24, 3) := by decide +kernel
theorem dX2_isFarther_45 : decode cX2_isFarther 45 = .ok (.lload_n 1, 1) := by decide +kernel
theorem dX2_isFarther_46 : decode cX2_isFarther 46 = .ok (.lload 6, 2) := by decide +kernel
theorem dX2_isFarther_48 : decode cX2_isFarther 48 = .ok (.lload 4, 2) := by decide +kernel
theorem dX2_isFarther_50 : decode cX2_isFarther 50 = .ok (.lneg, 1) := by decide +kernel
theorem dX2_isFarther_51 : decode cX2_isFarther 51 = .ok (.lload 4, 2) := by decide +kernel
theorem dX2_isFarther_53 : decode cX2_isFarther 53 = .ok (.lconst 0, 1) := by decide +kernel
theorem dX2_isFarther_54 : decode cX2_isFarther 54 = .ok (.lconst 0, 1) := by decide +kernel
theorem dX2_isFarther_55 : decode cX2_isFarther 55 = .ok (.invokestatic 170, 3) := by decide +kernel
theorem dX2_isFarther_58 : decode cX2_isFarther 58 = .ok (.ifCond .le 7, 3) := by decide +kernel
theorem dX2_isFarther_61 : decode cX2_isFarther 61 = .ok (.iconst 1, 1) := by decide +kernel
theorem dX2_isFarther_62 : decode cX2_isFarther 62 = .ok (.goto 4, 3) := by decide +kernel
theorem dX2_isFarther_65 : decode cX2_isFarther 65 = .ok (.iconst 0, 1) := by decide +kernel
theorem dX2_isFarther_66 : decode cX2_isFarther 66 = .ok (.ireturn, 1) := by decide +kernel
theorem dX5_turn_0 : decode cX5_turn 0 = .ok (.aload_n 0, 1) := by decide +kernel
theorem dX5_turn_1 : decode cX5_turn 1 = .ok (.getfield 7, 3) := by decide +kernel
theorem dX5_turn_4 : decode cX5_turn 4 = .ok (.iload_n 1, 1) := by decide +kernel
theorem dX5_turn_5 : decode cX5_turn 5 = .ok (.iaload, 1) := by decide +kernel
theorem dX5_turn_6 : decode cX5_turn 6 = .ok (.i2l, 1) := by decide +kernel
theorem dX5_turn_7 : decode cX5_turn 7 = .ok (.aload_n 0, 1) := by decide +kernel
theorem dX5_turn_8 : decode cX5_turn 8 = .ok (.getfield 13, 3) := by decide +kernel
theorem dX5_turn_11 : decode cX5_turn 11 = .ok (.iload_n 1, 1) := by decide +kernel
theorem dX5_turn_12 : decode cX5_turn 12 = .ok (.iaload, 1) := by decide +kernel
theorem dX5_turn_13 : decode cX5_turn 13 = .ok (.i2l, 1) := by decide +kernel
theorem dX5_turn_14 : decode cX5_turn 14 = .ok (.aload_n 0, 1) := by decide +kernel
theorem dX5_turn_15 : decode cX5_turn 15 = .ok (.getfield 16, 3) := by decide +kernel
theorem dX5_turn_18 : decode cX5_turn 18 = .ok (.iload_n 1, 1) := by decide +kernel
theorem dX5_turn_19 : decode cX5_turn 19 = .ok (.iaload, 1) := by decide +kernel
theorem dX5_turn_20 : decode cX5_turn 20 = .ok (.i2l, 1) := by decide +kernel
theorem dX5_turn_21 : decode cX5_turn 21 = .ok (.aload_n 0, 1) := by decide +kernel
theorem dX5_turn_22 : decode cX5_turn 22 = .ok (.getfield 19, 3) := by decide +kernel
theorem dX5_turn_25 : decode cX5_turn 25 = .ok (.iload_n 1, 1) := by decide +kernel
theorem dX5_turn_26 : decode cX5_turn 26 = .ok (.iaload, 1) := by decide +kernel
theorem dX5_turn_27 : decode cX5_turn 27 = .ok (.i2l, 1) := by decide +kernel
theorem dX5_turn_28 : decode cX5_turn 28 = .ok (.iload_n 2, 1) := by decide +kernel
theorem dX5_turn_29 : decode cX5_turn 29 = .ok (.i2l, 1) := by decide +kernel
theorem dX5_turn_30 : decode cX5_turn 30 = .ok (.iload_n 3, 1) := by decide +kernel
theorem dX5_turn_31 : decode cX5_turn 31 = .ok (.i2l, 1) := by decide +kernel
theorem dX5_turn_32 : decode cX5_turn 32 = .ok (.invokestatic 59, 3) := by decide +kernel
theorem dX5_turn_35 : decode cX5_turn 35 = .ok (.ireturn, 1) := by decide +kernel
theorem dX5_holds_0 : decode cX5_holds 0 = .ok (.aload_n 0, 1) := by decide +kernel
theorem dX5_holds_1 : decode cX5_holds 1 = .ok (.getfield 7, 3) := by decide +kernel
theorem dX5_holds_4 : decode cX5_holds 4 = .ok (.iload_n 1, 1) := by decide +kernel
theorem dX5_holds_5 : decode cX5_holds 5 = .ok (.iaload, 1) := by decide +kernel
theorem dX5_holds_6 : decode cX5_holds 6 = .ok (.aload_n 0, 1) := by decide +kernel
theorem dX5_holds_7 : decode cX5_holds 7 = .ok (.getfield 13, 3) := by decide +kernel
theorem dX5_holds_10 : decode cX5_holds 10 = .ok (.iload_n 1, 1) := by decide +kernel
theorem dX5_holds_11 : decode cX5_holds 11 = .ok (.iaload, 1) := by decide +kernel
theorem dX5_holds_12 : decode cX5_holds 12 = .ok (.aload_n 0, 1) := by decide +kernel
theorem dX5_holds_13 : decode cX5_holds 13 = .ok (.getfield 16, 3) := by decide +kernel
theorem dX5_holds_16 : decode cX5_holds 16 = .ok (.iload_n 1, 1) := by decide +kernel
theorem dX5_holds_17 : decode cX5_holds 17 = .ok (.iaload, 1) := by decide +kernel
theorem dX5_holds_18 : decode cX5_holds 18 = .ok (.aload_n 0, 1) := by decide +kernel
theorem dX5_holds_19 : decode cX5_holds 19 = .ok (.getfield 19, 3) := by decide +kernel
theorem dX5_holds_22 : decode cX5_holds 22 = .ok (.iload_n 1, 1) := by decide +kernel
theorem dX5_holds_23 : decode cX5_holds 23 = .ok (.iaload, 1) := by decide +kernel
theorem dX5_holds_24 : decode cX5_holds 24 = .ok (.iload_n 2, 1) := by decide +kernel
theorem dX5_holds_25 : decode cX5_holds 25 = .ok (.iload_n 3, 1) := by decide +kernel
theorem dX5_holds_26 : decode cX5_holds 26 = .ok (.invokestatic 65, 3) := by decide +kernel
theorem dX5_holds_29 : decode cX5_holds 29 = .ok (.ireturn, 1) := by decide +kernel
abbrev M_X0_fail : MRec := (yX0_fail, cX0_fail, 2, (some Jvm.ClassFile.FieldType.boolean), [])
theorem m_X0_fail : en_M M_X0_fail 1 := ⟨t_978, t_4, ⟨by decide +kernel, by decide +kernel⟩, by decide +kernel, by decide +kernel, by decide +kernel⟩
abbrev M_X0_has : MRec := (yX0_has, cX0_has, 2, (some Jvm.ClassFile.FieldType.boolean), [])
theorem m_X0_has : en_M M_X0_has 1 := ⟨t_974, t_4, ⟨by decide +kernel, by decide +kernel⟩, by decide +kernel, by decide +kernel, by decide +kernel⟩
abbrev M_X0_openLevel : MRec := (yX0_openLevel, cX0_openLevel, 4, (some Jvm.ClassFile.FieldType.boolean), [])
theorem m_X0_openLevel : en_M M_X0_openLevel 2 := ⟨t_1028, t_4, ⟨by decide +kernel, by decide +kernel⟩, by decide +kernel, by decide +kernel, by decide +kernel⟩
abbrev M_X0_isNoNumber : MRec := (yX0_isNoNumber, cX0_isNoNumber, 2, (some Jvm.ClassFile.FieldType.boolean), [])
theorem m_X0_isNoNumber : en_M M_X0_isNoNumber 1 := ⟨t_996, t_4, ⟨by decide +kernel, by decide +kernel⟩, by decide +kernel, by decide +kernel, by decide +kernel⟩
abbrev M_X1_tell : MRec := (yX1_tell, cX1_tell, 4, (some Jvm.ClassFile.FieldType.int), [])
theorem m_X1_tell : en_M M_X1_tell 3 := ⟨t_1209, t_6, ⟨by decide +kernel, by decide +kernel⟩, by decide +kernel, by decide +kernel, by decide +kernel⟩
abbrev M_X1_isEmpty : MRec := (yX1_isEmpty, cX1_isEmpty, 2, (some Jvm.ClassFile.FieldType.boolean), [])
theorem m_X1_isEmpty : en_M M_X1_isEmpty 1 := ⟨t_1228, t_6, ⟨by decide +kernel, by decide +kernel⟩, by decide +kernel, by decide +kernel, by decide +kernel⟩
abbrev M_X2_isTold : MRec := (yX2_isTold, cX2_isTold, 4, (some Jvm.ClassFile.FieldType.boolean), [])
theorem m_X2_isTold : en_M M_X2_isTold 2 := ⟨t_2151, t_12, ⟨by decide +kernel, by decide +kernel⟩, by decide +kernel, by decide +kernel, by decide +kernel⟩
abbrev M_X2_setTold : MRec := (yX2_setTold, cX2_setTold, 4, none, [])
theorem m_X2_setTold : en_M M_X2_setTold 2 := ⟨t_2173, t_12, ⟨by decide +kernel, by decide +kernel⟩, by decide +kernel, by decide +kernel, by decide +kernel⟩
abbrev M_X2_triangleKeyFrom : MRec := (yX2_triangleKeyFrom, cX2_triangleKeyFrom, 6, (some Jvm.ClassFile.FieldType.long), [])
theorem m_X2_triangleKeyFrom : en_M M_X2_triangleKeyFrom 3 := ⟨t_2179, t_12, ⟨by decide +kernel, by decide +kernel⟩, by decide +kernel, by decide +kernel, by decide +kernel⟩
abbrev M_X3_raise : MRec := (yX3_raise, cX3_raise, 5, none, [])
theorem m_X3_raise : en_M M_X3_raise 3 := ⟨t_2001, t_11, ⟨by decide +kernel, by decide +kernel⟩, by decide +kernel, by decide +kernel, by decide +kernel⟩
abbrev M_X3_has : MRec := (yX3_has, cX3_has, 3, (some Jvm.ClassFile.FieldType.boolean), [])
theorem m_X3_has : en_M M_X3_has 2 := ⟨t_2049, t_11, ⟨by decide +kernel, by decide +kernel⟩, by decide +kernel, by decide +kernel, by decide +kernel⟩
abbrev M_X3_haveCommonPlace : MRec := (yX3_haveCommonPlace, cX3_haveCommonPlace, 1, (some Jvm.ClassFile.FieldType.boolean), [])
theorem m_X3_haveCommonPlace : en_M M_X3_haveCommonPlace 0 := ⟨t_2061, t_11, ⟨by decide +kernel, by decide +kernel⟩, by decide +kernel, by decide +kernel, by decide +kernel⟩
abbrev M_X3_isFirstOutside : MRec := (yX3_isFirstOutside, cX3_isFirstOutside, 1, (some Jvm.ClassFile.FieldType.boolean), [])
theorem m_X3_isFirstOutside : en_M M_X3_isFirstOutside 0 := ⟨t_2053, t_11, ⟨by decide +kernel, by decide +kernel⟩, by decide +kernel, by decide +kernel, by decide +kernel⟩
abbrev M_X3_isSecondOutside : MRec := (yX3_isSecondOutside, cX3_isSecondOutside, 1, (some Jvm.ClassFile.FieldType.boolean), [])
theorem m_X3_isSecondOutside : en_M M_X3_isSecondOutside 0 := ⟨t_2057, t_11, ⟨by decide +kernel, by decide +kernel⟩, by decide +kernel, by decide +kernel, by decide +kernel⟩
abbrev M_X3_lieAcross : MRec := (yX3_lieAcross, cX3_lieAcross, 3, (some Jvm.ClassFile.FieldType.boolean), [])
theorem m_X3_lieAcross : en_M M_X3_lieAcross 2 := ⟨t_2065, t_11, ⟨by decide +kernel, by decide +kernel⟩, by decide +kernel, by decide +kernel, by decide +kernel⟩
abbrev M_X4_addIncident : MRec := (yX4_addIncident, cX4_addIncident, 3, none, [])
theorem m_X4_addIncident : en_M M_X4_addIncident 2 := ⟨t_1780, t_10, ⟨by decide +kernel, by decide +kernel⟩, by decide +kernel, by decide +kernel, by decide +kernel⟩
abbrev M_X4_isShell : MRec := (yX4_isShell, cX4_isShell, 2, (some Jvm.ClassFile.FieldType.boolean), [])
theorem m_X4_isShell : en_M M_X4_isShell 1 := ⟨t_1824, t_10, ⟨by decide +kernel, by decide +kernel⟩, by decide +kernel, by decide +kernel, by decide +kernel⟩
abbrev M_X4_ringInOrder : MRec := (yX4_ringInOrder, cX4_ringInOrder, 2, (some Jvm.ClassFile.FieldType.int), [])
theorem m_X4_ringInOrder : en_M M_X4_ringInOrder 1 := ⟨t_1849, t_10, ⟨by decide +kernel, by decide +kernel⟩, by decide +kernel, by decide +kernel, by decide +kernel⟩
abbrev M_X5_lowX : MRec := (yX5_lowX, cX5_lowX, 2, (some Jvm.ClassFile.FieldType.int), [])
theorem m_X5_lowX : en_M M_X5_lowX 1 := ⟨t_1236, t_7, ⟨by decide +kernel, by decide +kernel⟩, by decide +kernel, by decide +kernel, by decide +kernel⟩
abbrev M_X5_highX : MRec := (yX5_highX, cX5_highX, 2, (some Jvm.ClassFile.FieldType.int), [])
theorem m_X5_highX : en_M M_X5_highX 1 := ⟨t_1241, t_7, ⟨by decide +kernel, by decide +kernel⟩, by decide +kernel, by decide +kernel, by decide +kernel⟩
abbrev M_X5_lowY : MRec := (yX5_lowY, cX5_lowY, 2, (some Jvm.ClassFile.FieldType.int), [])
theorem m_X5_lowY : en_M M_X5_lowY 1 := ⟨t_1246, t_7, ⟨by decide +kernel, by decide +kernel⟩, by decide +kernel, by decide +kernel, by decide +kernel⟩
abbrev M_X5_highY : MRec := (yX5_highY, cX5_highY, 2, (some Jvm.ClassFile.FieldType.int), [])
theorem m_X5_highY : en_M M_X5_highY 1 := ⟨t_1250, t_7, ⟨by decide +kernel, by decide +kernel⟩, by decide +kernel, by decide +kernel, by decide +kernel⟩
abbrev M_X5_begins : MRec := (yX5_begins, cX5_begins, 4, (some Jvm.ClassFile.FieldType.boolean), [])
theorem m_X5_begins : en_M M_X5_begins 3 := ⟨t_1285, t_7, ⟨by decide +kernel, by decide +kernel⟩, by decide +kernel, by decide +kernel, by decide +kernel⟩
abbrev M_X5_ends : MRec := (yX5_ends, cX5_ends, 4, (some Jvm.ClassFile.FieldType.boolean), [])
theorem m_X5_ends : en_M M_X5_ends 3 := ⟨t_1289, t_7, ⟨by decide +kernel, by decide +kernel⟩, by decide +kernel, by decide +kernel, by decide +kernel⟩
abbrev M_X5_areApart : MRec := (yX5_areApart, cX5_areApart, 3, (some Jvm.ClassFile.FieldType.boolean), [])
theorem m_X5_areApart : en_M M_X5_areApart 2 := ⟨t_1232, t_7, ⟨by decide +kernel, by decide +kernel⟩, by decide +kernel, by decide +kernel, by decide +kernel⟩
abbrev M_X5_touchAtEnd : MRec := (yX5_touchAtEnd, cX5_touchAtEnd, 3, (some Jvm.ClassFile.FieldType.int), [])
theorem m_X5_touchAtEnd : en_M M_X5_touchAtEnd 2 := ⟨t_1277, t_7, ⟨by decide +kernel, by decide +kernel⟩, by decide +kernel, by decide +kernel, by decide +kernel⟩
abbrev M_X6_isThere : MRec := (yX6_isThere, cX6_isThere, 1, (some Jvm.ClassFile.FieldType.boolean), [])
theorem m_X6_isThere : en_M M_X6_isThere 0 := ⟨t_1053, t_2, ⟨by decide +kernel, by decide +kernel⟩, by decide +kernel, by decide +kernel, by decide +kernel⟩
abbrev M_X6_kind : MRec := (yX6_kind, cX6_kind, 1, (some Jvm.ClassFile.FieldType.int), [])
theorem m_X6_kind : en_M M_X6_kind 0 := ⟨t_953, t_2, ⟨by decide +kernel, by decide +kernel⟩, by decide +kernel, by decide +kernel, by decide +kernel⟩
abbrev M_X6_clear : MRec := (yX6_clear, cX6_clear, 1, none, [])
theorem m_X6_clear : en_M M_X6_clear 0 := ⟨t_770, t_2, ⟨by decide +kernel, by decide +kernel⟩, by decide +kernel, by decide +kernel, by decide +kernel⟩
abbrev M_X6_hasRoomForPoint : MRec := (yX6_hasRoomForPoint, cX6_hasRoomForPoint, 1, (some Jvm.ClassFile.FieldType.boolean), [])
theorem m_X6_hasRoomForPoint : en_M M_X6_hasRoomForPoint 0 := ⟨t_907, t_2, ⟨by decide +kernel, by decide +kernel⟩, by decide +kernel, by decide +kernel, by decide +kernel⟩
abbrev M_X6_addShape : MRec := (yX6_addShape, cX6_addShape, 3, (some Jvm.ClassFile.FieldType.boolean), [])
theorem m_X6_addShape : en_M M_X6_addShape 2 := ⟨t_874, t_2, ⟨by decide +kernel, by decide +kernel⟩, by decide +kernel, by decide +kernel, by decide +kernel⟩
abbrev M_X6_addRing : MRec := (yX6_addRing, cX6_addRing, 2, (some Jvm.ClassFile.FieldType.boolean), [])
theorem m_X6_addRing : en_M M_X6_addRing 1 := ⟨t_895, t_2, ⟨by decide +kernel, by decide +kernel⟩, by decide +kernel, by decide +kernel, by decide +kernel⟩
abbrev M_X6_addPoint : MRec := (yX6_addPoint, cX6_addPoint, 3, (some Jvm.ClassFile.FieldType.boolean), [])
theorem m_X6_addPoint : en_M M_X6_addPoint 2 := ⟨t_940, t_2, ⟨by decide +kernel, by decide +kernel⟩, by decide +kernel, by decide +kernel, by decide +kernel⟩
abbrev M_X6_behind : MRec := (yX6_behind, cX6_behind, 2, (some Jvm.ClassFile.FieldType.int), [])
theorem m_X6_behind : en_M M_X6_behind 1 := ⟨t_1109, t_2, ⟨by decide +kernel, by decide +kernel⟩, by decide +kernel, by decide +kernel, by decide +kernel⟩
abbrev M_X6_rows : MRec := (yX6_rows, cX6_rows, 2, (some Jvm.ClassFile.FieldType.int), [])
theorem m_X6_rows : en_M M_X6_rows 1 := ⟨t_1077, t_2, ⟨by decide +kernel, by decide +kernel⟩, by decide +kernel, by decide +kernel, by decide +kernel⟩
abbrev M_X6_rowLength : MRec := (yX6_rowLength, cX6_rowLength, 4, (some Jvm.ClassFile.FieldType.int), [])
theorem m_X6_rowLength : en_M M_X6_rowLength 2 := ⟨t_1082, t_2, ⟨by decide +kernel, by decide +kernel⟩, by decide +kernel, by decide +kernel, by decide +kernel⟩
abbrev M_X6_areLike : MRec := (yX6_areLike, cX6_areLike, 3, (some Jvm.ClassFile.FieldType.boolean), [])
theorem m_X6_areLike : en_M M_X6_areLike 2 := ⟨t_1190, t_2, ⟨by decide +kernel, by decide +kernel⟩, by decide +kernel, by decide +kernel, by decide +kernel⟩
abbrev M_X6_isAt : MRec := (yX6_isAt, cX6_isAt, 4, (some Jvm.ClassFile.FieldType.boolean), [])
theorem m_X6_isAt : en_M M_X6_isAt 3 := ⟨t_2024, t_2, ⟨by decide +kernel, by decide +kernel⟩, by decide +kernel, by decide +kernel, by decide +kernel⟩
abbrev M_X6_isClosed : MRec := (yX6_isClosed, cX6_isClosed, 3, (some Jvm.ClassFile.FieldType.boolean), [])
theorem m_X6_isClosed : en_M M_X6_isClosed 2 := ⟨t_1204, t_2, ⟨by decide +kernel, by decide +kernel⟩, by decide +kernel, by decide +kernel, by decide +kernel⟩
abbrev M_X8_meetsPixel : MRec := (yX8_meetsPixel, cX8_meetsPixel, 8, (some Jvm.ClassFile.FieldType.boolean), [])
theorem m_X8_meetsPixel : en_M M_X8_meetsPixel 4 := ⟨t_1475, t_9, ⟨by decide +kernel, by decide +kernel⟩, by decide +kernel, by decide +kernel, by decide +kernel⟩
abbrev M_X9_fail : MRec := (yX9_fail, cX9_fail, 2, (some Jvm.ClassFile.FieldType.boolean), [])
theorem m_X9_fail : en_M M_X9_fail 1 := ⟨t_800, t_3, ⟨by decide +kernel, by decide +kernel⟩, by decide +kernel, by decide +kernel, by decide +kernel⟩
abbrev M_X9_signAt : MRec := (yX9_signAt, cX9_signAt, 2, (some Jvm.ClassFile.FieldType.int), [])
theorem m_X9_signAt : en_M M_X9_signAt 1 := ⟨t_786, t_3, ⟨by decide +kernel, by decide +kernel⟩, by decide +kernel, by decide +kernel, by decide +kernel⟩
abbrev M_X9_isBlank : MRec := (yX9_isBlank, cX9_isBlank, 1, (some Jvm.ClassFile.FieldType.boolean), [])
theorem m_X9_isBlank : en_M M_X9_isBlank 1 := ⟨t_782, t_3, ⟨by decide +kernel, by decide +kernel⟩, by decide +kernel, by decide +kernel, by decide +kernel⟩
abbrev M_X9_isLetter : MRec := (yX9_isLetter, cX9_isLetter, 1, (some Jvm.ClassFile.FieldType.boolean), [])
theorem m_X9_isLetter : en_M M_X9_isLetter 1 := ⟨t_789, t_3, ⟨by decide +kernel, by decide +kernel⟩, by decide +kernel, by decide +kernel, by decide +kernel⟩
abbrev M_X9_isDigit : MRec := (yX9_isDigit, cX9_isDigit, 1, (some Jvm.ClassFile.FieldType.boolean), [])
theorem m_X9_isDigit : en_M M_X9_isDigit 1 := ⟨t_921, t_3, ⟨by decide +kernel, by decide +kernel⟩, by decide +kernel, by decide +kernel, by decide +kernel⟩
abbrev M_X9_beginsNumber : MRec := (yX9_beginsNumber, cX9_beginsNumber, 1, (some Jvm.ClassFile.FieldType.boolean), [])
theorem m_X9_beginsNumber : en_M M_X9_beginsNumber 1 := ⟨t_796, t_3, ⟨by decide +kernel, by decide +kernel⟩, by decide +kernel, by decide +kernel, by decide +kernel⟩
abbrev M_X9_isSign : MRec := (yX9_isSign, cX9_isSign, 1, (some Jvm.ClassFile.FieldType.boolean), [])
theorem m_X9_isSign : en_M M_X9_isSign 1 := ⟨t_914, t_3, ⟨by decide +kernel, by decide +kernel⟩, by decide +kernel, by decide +kernel, by decide +kernel⟩
abbrev M_X10_put : MRec := (yX10_put, cX10_put, 2, none, [])
theorem m_X10_put : en_M M_X10_put 1 := ⟨t_1068, t_5, ⟨by decide +kernel, by decide +kernel⟩, by decide +kernel, by decide +kernel, by decide +kernel⟩
abbrev M_X11_isBeyond : MRec := (yX11_isBeyond, cX11_isBeyond, 2, (some Jvm.ClassFile.FieldType.boolean), [])
theorem m_X11_isBeyond : en_M M_X11_isBeyond 2 := ⟨t_1387, t_1, ⟨by decide +kernel, by decide +kernel⟩, by decide +kernel, by decide +kernel, by decide +kernel⟩
abbrev M_X11_distanceFromBox : MRec := (yX11_distanceFromBox, cX11_distanceFromBox, 7, (some Jvm.ClassFile.FieldType.long), [])
theorem m_X11_distanceFromBox : en_M M_X11_distanceFromBox 2 := ⟨t_2264, t_1, ⟨by decide +kernel, by decide +kernel⟩, by decide +kernel, by decide +kernel, by decide +kernel⟩
abbrev M_X11_isNoSignPoint : MRec := (yX11_isNoSignPoint, cX11_isNoSignPoint, 1, (some Jvm.ClassFile.FieldType.boolean), [])
theorem m_X11_isNoSignPoint : en_M M_X11_isNoSignPoint 1 := ⟨t_2311, t_1, ⟨by decide +kernel, by decide +kernel⟩, by decide +kernel, by decide +kernel, by decide +kernel⟩
abbrev M_X11_isNoNumber : MRec := (yX11_isNoNumber, cX11_isNoNumber, 2, (some Jvm.ClassFile.FieldType.boolean), [])
theorem m_X11_isNoNumber : en_M M_X11_isNoNumber 1 := ⟨t_2314, t_1, ⟨by decide +kernel, by decide +kernel⟩, by decide +kernel, by decide +kernel, by decide +kernel⟩
abbrev M_X11_carryOf : MRec := (yX11_carryOf, cX11_carryOf, 4, (some Jvm.ClassFile.FieldType.int), [])
theorem m_X11_carryOf : en_M M_X11_carryOf 2 := ⟨t_1945, t_1, ⟨by decide +kernel, by decide +kernel⟩, by decide +kernel, by decide +kernel, by decide +kernel⟩
abbrev M_X11_highOf : MRec := (yX11_highOf, cX11_highOf, 18, (some Jvm.ClassFile.FieldType.long), [])
theorem m_X11_highOf : en_M M_X11_highOf 2 := ⟨t_1942, t_1, ⟨by decide +kernel, by decide +kernel⟩, by decide +kernel, by decide +kernel, by decide +kernel⟩
abbrev M_X11_keyOf : MRec := (yX11_keyOf, cX11_keyOf, 2, (some Jvm.ClassFile.FieldType.long), [])
theorem m_X11_keyOf : en_M M_X11_keyOf 2 := ⟨t_1427, t_1, ⟨by decide +kernel, by decide +kernel⟩, by decide +kernel, by decide +kernel, by decide +kernel⟩
abbrev M_X11_keyX : MRec := (yX11_keyX, cX11_keyX, 2, (some Jvm.ClassFile.FieldType.int), [])
theorem m_X11_keyX : en_M M_X11_keyX 1 := ⟨t_1455, t_1, ⟨by decide +kernel, by decide +kernel⟩, by decide +kernel, by decide +kernel, by decide +kernel⟩
abbrev M_X11_keyY : MRec := (yX11_keyY, cX11_keyY, 2, (some Jvm.ClassFile.FieldType.int), [])
theorem m_X11_keyY : en_M M_X11_keyY 1 := ⟨t_1458, t_1, ⟨by decide +kernel, by decide +kernel⟩, by decide +kernel, by decide +kernel, by decide +kernel⟩
abbrev M_X12_thrown : MRec := (yX12_thrown, cX12_thrown, 1, (some Jvm.ClassFile.FieldType.int), [])
theorem m_X12_thrown : en_M M_X12_thrown 0 := ⟨t_2800, t_14, ⟨by decide +kernel, by decide +kernel⟩, by decide +kernel, by decide +kernel, by decide +kernel⟩
abbrev M_X12_fails : MRec := (yX12_fails, cX12_fails, 3, (some Jvm.ClassFile.FieldType.boolean), [])
theorem m_X12_fails : en_M M_X12_fails 2 := ⟨t_2808, t_14, ⟨by decide +kernel, by decide +kernel⟩, by decide +kernel, by decide +kernel, by decide +kernel⟩
abbrev M_X12_in : MRec := (yX12_in, cX12_in, 6, (some Jvm.ClassFile.FieldType.boolean), [])
theorem m_X12_in : en_M M_X12_in 3 := ⟨t_2820, t_14, ⟨by decide +kernel, by decide +kernel⟩, by decide +kernel, by decide +kernel, by decide +kernel⟩
abbrev M_X12_isSlot : MRec := (yX12_isSlot, cX12_isSlot, 1, (some Jvm.ClassFile.FieldType.boolean), [])
theorem m_X12_isSlot : en_M M_X12_isSlot 1 := ⟨t_2843, t_14, ⟨by decide +kernel, by decide +kernel⟩, by decide +kernel, by decide +kernel, by decide +kernel⟩
abbrev M_X12_has : MRec := (yX12_has, cX12_has, 2, (some Jvm.ClassFile.FieldType.boolean), [])
theorem m_X12_has : en_M M_X12_has 1 := ⟨t_3036, t_14, ⟨by decide +kernel, by decide +kernel⟩, by decide +kernel, by decide +kernel, by decide +kernel⟩
abbrev M_X12_clear : MRec := (yX12_clear, cX12_clear, 2, none, [])
theorem m_X12_clear : en_M M_X12_clear 1 := ⟨t_2851, t_14, ⟨by decide +kernel, by decide +kernel⟩, by decide +kernel, by decide +kernel, by decide +kernel⟩
abbrev M_X12_tell : MRec := (yX12_tell, cX12_tell, 2, none, [])
theorem m_X12_tell : en_M M_X12_tell 1 := ⟨t_2905, t_14, ⟨by decide +kernel, by decide +kernel⟩, by decide +kernel, by decide +kernel, by decide +kernel⟩
abbrev M_X12_dot : MRec := (yX12_dot, cX12_dot, 5, none, [])
theorem m_X12_dot : en_M M_X12_dot 2 := ⟨t_2941, t_14, ⟨by decide +kernel, by decide +kernel⟩, by decide +kernel, by decide +kernel, by decide +kernel⟩
abbrev M_X12_end : MRec := (yX12_end, cX12_end, 2, (some Jvm.ClassFile.FieldType.int), [])
theorem m_X12_end : en_M M_X12_end 1 := ⟨t_2816, t_14, ⟨by decide +kernel, by decide +kernel⟩, by decide +kernel, by decide +kernel, by decide +kernel⟩
abbrev M_X12_fault : MRec := (yX12_fault, cX12_fault, 2, (some Jvm.ClassFile.FieldType.int), [])
theorem m_X12_fault : en_M M_X12_fault 1 := ⟨t_2828, t_14, ⟨by decide +kernel, by decide +kernel⟩, by decide +kernel, by decide +kernel, by decide +kernel⟩
abbrev M_X12_byteAt : MRec := (yX12_byteAt, cX12_byteAt, 2, (some Jvm.ClassFile.FieldType.int), [])
theorem m_X12_byteAt : en_M M_X12_byteAt 1 := ⟨t_2832, t_14, ⟨by decide +kernel, by decide +kernel⟩, by decide +kernel, by decide +kernel, by decide +kernel⟩
abbrev M_X12_wrong : MRec := (yX12_wrong, cX12_wrong, 3, (some Jvm.ClassFile.FieldType.boolean), [])
theorem m_X12_wrong : en_M M_X12_wrong 2 := ⟨t_2877, t_14, ⟨by decide +kernel, by decide +kernel⟩, by decide +kernel, by decide +kernel, by decide +kernel⟩
abbrev M_X12_here : MRec := (yX12_here, cX12_here, 1, (some Jvm.ClassFile.FieldType.int), [])
theorem m_X12_here : en_M M_X12_here 0 := ⟨t_2863, t_14, ⟨by decide +kernel, by decide +kernel⟩, by decide +kernel, by decide +kernel, by decide +kernel⟩
abbrev M_X12_isBlank : MRec := (yX12_isBlank, cX12_isBlank, 1, (some Jvm.ClassFile.FieldType.boolean), [])
theorem m_X12_isBlank : en_M M_X12_isBlank 1 := ⟨t_2866, t_14, ⟨by decide +kernel, by decide +kernel⟩, by decide +kernel, by decide +kernel, by decide +kernel⟩
abbrev M_X12_isLetter : MRec := (yX12_isLetter, cX12_isLetter, 1, (some Jvm.ClassFile.FieldType.boolean), [])
theorem m_X12_isLetter : en_M M_X12_isLetter 1 := ⟨t_2869, t_14, ⟨by decide +kernel, by decide +kernel⟩, by decide +kernel, by decide +kernel, by decide +kernel⟩
abbrev M_X12_isDigit : MRec := (yX12_isDigit, cX12_isDigit, 1, (some Jvm.ClassFile.FieldType.boolean), [])
theorem m_X12_isDigit : en_M M_X12_isDigit 1 := ⟨t_2880, t_14, ⟨by decide +kernel, by decide +kernel⟩, by decide +kernel, by decide +kernel, by decide +kernel⟩
abbrev M_X12_isSign : MRec := (yX12_isSign, cX12_isSign, 1, (some Jvm.ClassFile.FieldType.boolean), [])
theorem m_X12_isSign : en_M M_X12_isSign 1 := ⟨t_2883, t_14, ⟨by decide +kernel, by decide +kernel⟩, by decide +kernel, by decide +kernel, by decide +kernel⟩
abbrev M_X12_large : MRec := (yX12_large, cX12_large, 1, (some Jvm.ClassFile.FieldType.int), [])
theorem m_X12_large : en_M M_X12_large 1 := ⟨t_2897, t_14, ⟨by decide +kernel, by decide +kernel⟩, by decide +kernel, by decide +kernel, by decide +kernel⟩
abbrev M_X12_more : MRec := (yX12_more, cX12_more, 2, none, [])
theorem m_X12_more : en_M M_X12_more 1 := ⟨t_2909, t_14, ⟨by decide +kernel, by decide +kernel⟩, by decide +kernel, by decide +kernel, by decide +kernel⟩
abbrev M_X12_there : MRec := (yX12_there, cX12_there, 2, (some Jvm.ClassFile.FieldType.boolean), [])
theorem m_X12_there : en_M M_X12_there 1 := ⟨t_2977, t_14, ⟨by decide +kernel, by decide +kernel⟩, by decide +kernel, by decide +kernel, by decide +kernel⟩
abbrev M_X12_partsOfBytes : MRec := (yX12_partsOfBytes, cX12_partsOfBytes, 4, (some Jvm.ClassFile.FieldType.boolean), [])
theorem m_X12_partsOfBytes : en_M M_X12_partsOfBytes 2 := ⟨t_3020, t_14, ⟨by decide +kernel, by decide +kernel⟩, by decide +kernel, by decide +kernel, by decide +kernel⟩
abbrev M_X12_isNoNumber : MRec := (yX12_isNoNumber, cX12_isNoNumber, 2, (some Jvm.ClassFile.FieldType.boolean), [])
theorem m_X12_isNoNumber : en_M M_X12_isNoNumber 1 := ⟨t_2993, t_14, ⟨by decide +kernel, by decide +kernel⟩, by decide +kernel, by decide +kernel, by decide +kernel⟩
abbrev M_X12_put : MRec := (yX12_put, cX12_put, 2, none, [])
theorem m_X12_put : en_M M_X12_put 1 := ⟨t_3048, t_14, ⟨by decide +kernel, by decide +kernel⟩, by decide +kernel, by decide +kernel, by decide +kernel⟩
abbrev M_X12_next : MRec := (yX12_next, cX12_next, 1, (some Jvm.ClassFile.FieldType.int), [])
theorem m_X12_next : en_M M_X12_next 0 := ⟨t_3040, t_14, ⟨by decide +kernel, by decide +kernel⟩, by decide +kernel, by decide +kernel, by decide +kernel⟩
abbrev M_X12_drop : MRec := (yX12_drop, cX12_drop, 3, (some Jvm.ClassFile.FieldType.boolean), [])
theorem m_X12_drop : en_M M_X12_drop 1 := ⟨t_3101, t_14, ⟨by decide +kernel, by decide +kernel⟩, by decide +kernel, by decide +kernel, by decide +kernel⟩
abbrev M_X12_plan : MRec := (yX12_plan, cX12_plan, 3, (some Jvm.ClassFile.FieldType.int), [])
theorem m_X12_plan : en_M M_X12_plan 2 := ⟨t_3109, t_14, ⟨by decide +kernel, by decide +kernel⟩, by decide +kernel, by decide +kernel, by decide +kernel⟩
abbrev M_X12_ordinate : MRec := (yX12_ordinate, cX12_ordinate, 4, (some Jvm.ClassFile.FieldType.int), [])
theorem m_X12_ordinate : en_M M_X12_ordinate 3 := ⟨t_3113, t_14, ⟨by decide +kernel, by decide +kernel⟩, by decide +kernel, by decide +kernel, by decide +kernel⟩
abbrev M_X12_isFar : MRec := (yX12_isFar, cX12_isFar, 2, (some Jvm.ClassFile.FieldType.boolean), [])
theorem m_X12_isFar : en_M M_X12_isFar 1 := ⟨t_3135, t_14, ⟨by decide +kernel, by decide +kernel⟩, by decide +kernel, by decide +kernel, by decide +kernel⟩
abbrev M_X12_gap : MRec := (yX12_gap, cX12_gap, 6, (some Jvm.ClassFile.FieldType.long), [])
theorem m_X12_gap : en_M M_X12_gap 3 := ⟨t_3145, t_14, ⟨by decide +kernel, by decide +kernel⟩, by decide +kernel, by decide +kernel, by decide +kernel⟩
abbrev M_X12_found : MRec := (yX12_found, cX12_found, 2, (some Jvm.ClassFile.FieldType.int), [])
theorem m_X12_found : en_M M_X12_found 1 := ⟨t_3149, t_14, ⟨by decide +kernel, by decide +kernel⟩, by decide +kernel, by decide +kernel, by decide +kernel⟩
abbrev M_X12_limb : MRec := (yX12_limb, cX12_limb, 3, (some Jvm.ClassFile.FieldType.long), [])
theorem m_X12_limb : en_M M_X12_limb 2 := ⟨t_3185, t_14, ⟨by decide +kernel, by decide +kernel⟩, by decide +kernel, by decide +kernel, by decide +kernel⟩
abbrev M_X12_isPoint : MRec := (yX12_isPoint, cX12_isPoint, 1, (some Jvm.ClassFile.FieldType.boolean), [])
theorem m_X12_isPoint : en_M M_X12_isPoint 1 := ⟨t_3156, t_14, ⟨by decide +kernel, by decide +kernel⟩, by decide +kernel, by decide +kernel, by decide +kernel⟩
abbrev M_X12_point : MRec := (yX12_point, cX12_point, 7, none, [])
theorem m_X12_point : en_M M_X12_point 3 := ⟨t_3153, t_14, ⟨by decide +kernel, by decide +kernel⟩, by decide +kernel, by decide +kernel, by decide +kernel⟩
abbrev M_X12_cross : MRec := (yX12_cross, cX12_cross, 8, (some Jvm.ClassFile.FieldType.long), [])
theorem m_X12_cross : en_M M_X12_cross 4 := ⟨t_3267, t_14, ⟨by decide +kernel, by decide +kernel⟩, by decide +kernel, by decide +kernel, by decide +kernel⟩
abbrev M_X12_signOf : MRec := (yX12_signOf, cX12_signOf, 2, (some Jvm.ClassFile.FieldType.int), [])
theorem m_X12_signOf : en_M M_X12_signOf 1 := ⟨t_3270, t_14, ⟨by decide +kernel, by decide +kernel⟩, by decide +kernel, by decide +kernel, by decide +kernel⟩
abbrev M_X12_turn : MRec := (yX12_turn, cX12_turn, 12, (some Jvm.ClassFile.FieldType.int), [])
theorem m_X12_turn : en_M M_X12_turn 6 := ⟨t_3264, t_14, ⟨by decide +kernel, by decide +kernel⟩, by decide +kernel, by decide +kernel, by decide +kernel⟩
abbrev M_X12_segment : MRec := (yX12_segment, cX12_segment, 6, none, [])
theorem m_X12_segment : en_M M_X12_segment 5 := ⟨t_3241, t_14, ⟨by decide +kernel, by decide +kernel⟩, by decide +kernel, by decide +kernel, by decide +kernel⟩
abbrev M_X12_isAlike : MRec := (yX12_isAlike, cX12_isAlike, 2, (some Jvm.ClassFile.FieldType.boolean), [])
theorem m_X12_isAlike : en_M M_X12_isAlike 1 := ⟨t_3388, t_14, ⟨by decide +kernel, by decide +kernel⟩, by decide +kernel, by decide +kernel, by decide +kernel⟩
abbrev M_X12_meetsAt : MRec := (yX12_meetsAt, cX12_meetsAt, 5, none, [])
theorem m_X12_meetsAt : en_M M_X12_meetsAt 2 := ⟨t_3281, t_14, ⟨by decide +kernel, by decide +kernel⟩, by decide +kernel, by decide +kernel, by decide +kernel⟩
abbrev M_X12_isBefore : MRec := (yX12_isBefore, cX12_isBefore, 8, (some Jvm.ClassFile.FieldType.boolean), [])
theorem m_X12_isBefore : en_M M_X12_isBefore 4 := ⟨t_3277, t_14, ⟨by decide +kernel, by decide +kernel⟩, by decide +kernel, by decide +kernel, by decide +kernel⟩
abbrev M_X12_isOn : MRec := (yX12_isOn, cX12_isOn, 8, (some Jvm.ClassFile.FieldType.boolean), [])
theorem m_X12_isOn : en_M M_X12_isOn 3 := ⟨t_3312, t_14, ⟨by decide +kernel, by decide +kernel⟩, by decide +kernel, by decide +kernel, by decide +kernel⟩
abbrev M_X12_isSame : MRec := (yX12_isSame, cX12_isSame, 3, (some Jvm.ClassFile.FieldType.boolean), [])
theorem m_X12_isSame : en_M M_X12_isSame 2 := ⟨t_3233, t_14, ⟨by decide +kernel, by decide +kernel⟩, by decide +kernel, by decide +kernel, by decide +kernel⟩
abbrev M_X12_following : MRec := (yX12_following, cX12_following, 3, (some Jvm.ClassFile.FieldType.int), [])
theorem m_X12_following : en_M M_X12_following 1 := ⟨t_3293, t_14, ⟨by decide +kernel, by decide +kernel⟩, by decide +kernel, by decide +kernel, by decide +kernel⟩
abbrev M_X12_isBetween : MRec := (yX12_isBetween, cX12_isBetween, 18, (some Jvm.ClassFile.FieldType.boolean), [])
theorem m_X12_isBetween : en_M M_X12_isBetween 6 := ⟨t_3296, t_14, ⟨by decide +kernel, by decide +kernel⟩, by decide +kernel, by decide +kernel, by decide +kernel⟩
abbrev M_X12_begins : MRec := (yX12_begins, cX12_begins, 2, (some Jvm.ClassFile.FieldType.boolean), [])
theorem m_X12_begins : en_M M_X12_begins 1 := ⟨t_3285, t_14, ⟨by decide +kernel, by decide +kernel⟩, by decide +kernel, by decide +kernel, by decide +kernel⟩
abbrev M_X12_tellPair : MRec := (yX12_tellPair, cX12_tellPair, 4, (some Jvm.ClassFile.FieldType.int), [])
theorem m_X12_tellPair : en_M M_X12_tellPair 3 := ⟨t_3300, t_14, ⟨by decide +kernel, by decide +kernel⟩, by decide +kernel, by decide +kernel, by decide +kernel⟩
abbrev M_X12_tellRing : MRec := (yX12_tellRing, cX12_tellRing, 3, (some Jvm.ClassFile.FieldType.int), [])
theorem m_X12_tellRing : en_M M_X12_tellRing 2 := ⟨t_3253, t_14, ⟨by decide +kernel, by decide +kernel⟩, by decide +kernel, by decide +kernel, by decide +kernel⟩
abbrev M_X12_place : MRec := (yX12_place, cX12_place, 2, (some Jvm.ClassFile.FieldType.int), [])
theorem m_X12_place : en_M M_X12_place 1 := ⟨t_3340, t_14, ⟨by decide +kernel, by decide +kernel⟩, by decide +kernel, by decide +kernel, by decide +kernel⟩
abbrev M_X12_isSooner : MRec := (yX12_isSooner, cX12_isSooner, 4, (some Jvm.ClassFile.FieldType.boolean), [])
theorem m_X12_isSooner : en_M M_X12_isSooner 1 := ⟨t_3415, t_14, ⟨by decide +kernel, by decide +kernel⟩, by decide +kernel, by decide +kernel, by decide +kernel⟩
abbrev M_X12_isAhead : MRec := (yX12_isAhead, cX12_isAhead, 18, (some Jvm.ClassFile.FieldType.boolean), [])
theorem m_X12_isAhead : en_M M_X12_isAhead 6 := ⟨t_3453, t_14, ⟨by decide +kernel, by decide +kernel⟩, by decide +kernel, by decide +kernel, by decide +kernel⟩
abbrev M_X12_isStraight : MRec := (yX12_isStraight, cX12_isStraight, 4, (some Jvm.ClassFile.FieldType.boolean), [])
theorem m_X12_isStraight : en_M M_X12_isStraight 3 := ⟨t_3446, t_14, ⟨by decide +kernel, by decide +kernel⟩, by decide +kernel, by decide +kernel, by decide +kernel⟩
abbrev M_X12_isEarlier : MRec := (yX12_isEarlier, cX12_isEarlier, 5, (some Jvm.ClassFile.FieldType.boolean), [])
theorem m_X12_isEarlier : en_M M_X12_isEarlier 2 := ⟨t_3477, t_14, ⟨by decide +kernel, by decide +kernel⟩, by decide +kernel, by decide +kernel, by decide +kernel⟩
abbrev M_X12_typeOfKind : MRec := (yX12_typeOfKind, cX12_typeOfKind, 1, (some Jvm.ClassFile.FieldType.int), [])
theorem m_X12_typeOfKind : en_M M_X12_typeOfKind 1 := ⟨t_3504, t_14, ⟨by decide +kernel, by decide +kernel⟩, by decide +kernel, by decide +kernel, by decide +kernel⟩
abbrev M_X12_lineEnds : MRec := (yX12_lineEnds, cX12_lineEnds, 4, none, [])
theorem m_X12_lineEnds : en_M M_X12_lineEnds 3 := ⟨t_3508, t_14, ⟨by decide +kernel, by decide +kernel⟩, by decide +kernel, by decide +kernel, by decide +kernel⟩
abbrev M_X12_mark : MRec := (yX12_mark, cX12_mark, 5, none, [])
theorem m_X12_mark : en_M M_X12_mark 3 := ⟨t_3583, t_14, ⟨by decide +kernel, by decide +kernel⟩, by decide +kernel, by decide +kernel, by decide +kernel⟩
abbrev M_X12_dimension : MRec := (yX12_dimension, cX12_dimension, 2, (some Jvm.ClassFile.FieldType.int), [])
theorem m_X12_dimension : en_M M_X12_dimension 1 := ⟨t_3608, t_14, ⟨by decide +kernel, by decide +kernel⟩, by decide +kernel, by decide +kernel, by decide +kernel⟩
abbrev M_X12_m : MRec := (yX12_m, cX12_m, 2, (some Jvm.ClassFile.FieldType.boolean), [])
theorem m_X12_m : en_M M_X12_m 1 := ⟨t_3612, t_14, ⟨by decide +kernel, by decide +kernel⟩, by decide +kernel, by decide +kernel, by decide +kernel⟩
abbrev M_X12_turnOf : MRec := (yX12_turnOf, cX12_turnOf, 4, (some Jvm.ClassFile.FieldType.int), [])
theorem m_X12_turnOf : en_M M_X12_turnOf 3 := ⟨t_3644, t_14, ⟨by decide +kernel, by decide +kernel⟩, by decide +kernel, by decide +kernel, by decide +kernel⟩
abbrev M_X12_isLess : MRec := (yX12_isLess, cX12_isLess, 3, (some Jvm.ClassFile.FieldType.boolean), [])
theorem m_X12_isLess : en_M M_X12_isLess 2 := ⟨t_3636, t_14, ⟨by decide +kernel, by decide +kernel⟩, by decide +kernel, by decide +kernel, by decide +kernel⟩
abbrev M_X12_wayTo : MRec := (yX12_wayTo, cX12_wayTo, 7, (some Jvm.ClassFile.FieldType.long), [])
theorem m_X12_wayTo : en_M M_X12_wayTo 2 := ⟨t_3648, t_14, ⟨by decide +kernel, by decide +kernel⟩, by decide +kernel, by decide +kernel, by decide +kernel⟩
abbrev M_X12_isLater : MRec := (yX12_isLater, cX12_isLater, 5, (some Jvm.ClassFile.FieldType.boolean), [])
theorem m_X12_isLater : en_M M_X12_isLater 4 := ⟨t_3680, t_14, ⟨by decide +kernel, by decide +kernel⟩, by decide +kernel, by decide +kernel, by decide +kernel⟩
abbrev M_X12_waitFor : MRec := (yX12_waitFor, cX12_waitFor, 3, none, [])
theorem m_X12_waitFor : en_M M_X12_waitFor 2 := ⟨t_3660, t_14, ⟨by decide +kernel, by decide +kernel⟩, by decide +kernel, by decide +kernel, by decide +kernel⟩
abbrev M_X12_dotSpot : MRec := (yX12_dotSpot, cX12_dotSpot, 2, none, [])
theorem m_X12_dotSpot : en_M M_X12_dotSpot 1 := ⟨t_3684, t_14, ⟨by decide +kernel, by decide +kernel⟩, by decide +kernel, by decide +kernel, by decide +kernel⟩
abbrev M_J13_compare_74951 : MRec := (yJ13_compare_74951, cJ13_compare_74951, 4, (some Jvm.ClassFile.FieldType.int), [])
theorem m_J13_compare_74951 : en_M M_J13_compare_74951 2 := ⟨t_1269, t_28, ⟨by decide +kernel, by decide +kernel⟩, by decide +kernel, by decide +kernel, by decide +kernel⟩
abbrev M_X2_triangleKey : MRec := (yX2_triangleKey, cX2_triangleKey, 6, (some Jvm.ClassFile.FieldType.long), [])
theorem m_X2_triangleKey : en_M M_X2_triangleKey 3 := ⟨t_2176, t_12, ⟨by decide +kernel, by decide +kernel⟩, by decide +kernel, by decide +kernel, by decide +kernel⟩
abbrev M_X9_unexpected : MRec := (yX9_unexpected, cX9_unexpected, 3, (some Jvm.ClassFile.FieldType.boolean), [])
theorem m_X9_unexpected : en_M M_X9_unexpected 0 := ⟨t_793, t_3, ⟨by decide +kernel, by decide +kernel⟩, by decide +kernel, by decide +kernel, by decide +kernel⟩
abbrev M_X11_turnOf : MRec := (yX11_turnOf, cX11_turnOf, 12, (some Jvm.ClassFile.FieldType.int), [])
theorem m_X11_turnOf : en_M M_X11_turnOf 6 := ⟨t_1266, t_1, ⟨by decide +kernel, by decide +kernel⟩, by decide +kernel, by decide +kernel, by decide +kernel⟩
abbrev M_X11_isOnSegment : MRec := (yX11_isOnSegment, cX11_isOnSegment, 6, (some Jvm.ClassFile.FieldType.boolean), [])
theorem m_X11_isOnSegment : en_M M_X11_isOnSegment 6 := ⟨t_1321, t_1, ⟨by decide +kernel, by decide +kernel⟩, by decide +kernel, by decide +kernel, by decide +kernel⟩
abbrev M_X11_isCrossedFrom : MRec := (yX11_isCrossedFrom, cX11_isCrossedFrom, 8, (some Jvm.ClassFile.FieldType.boolean), [])
theorem m_X11_isCrossedFrom : en_M M_X11_isCrossedFrom 6 := ⟨t_1326, t_1, ⟨by decide +kernel, by decide +kernel⟩, by decide +kernel, by decide +kernel, by decide +kernel⟩
abbrev M_X11_signOfSum : MRec := (yX11_signOfSum, cX11_signOfSum, 18, (some Jvm.ClassFile.FieldType.int), [])
theorem m_X11_signOfSum : en_M M_X11_signOfSum 6 := ⟨t_1939, t_1, ⟨by decide +kernel, by decide +kernel⟩, by decide +kernel, by decide +kernel, by decide +kernel⟩
abbrev M_X2_turnAt : MRec := (yX2_turnAt, cX2_turnAt, 4, (some Jvm.ClassFile.FieldType.int), [])
theorem m_X2_turnAt : en_M M_X2_turnAt 3 := ⟨t_2116, t_12, ⟨by decide +kernel, by decide +kernel⟩, by decide +kernel, by decide +kernel, by decide +kernel⟩
abbrev M_X2_circleSign : MRec := (yX2_circleSign, cX2_circleSign, 17, (some Jvm.ClassFile.FieldType.int), [])
theorem m_X2_circleSign : en_M M_X2_circleSign 4 := ⟨t_2160, t_12, ⟨by decide +kernel, by decide +kernel⟩, by decide +kernel, by decide +kernel, by decide +kernel⟩
abbrev M_X2_isFarther : MRec := (yX2_isFarther, cX2_isFarther, 8, (some Jvm.ClassFile.FieldType.boolean), [])
theorem m_X2_isFarther : en_M M_X2_isFarther 5 := ⟨t_2215, t_12, ⟨by decide +kernel, by decide +kernel⟩, by decide +kernel, by decide +kernel, by decide +kernel⟩
abbrev M_X5_turn : MRec := (yX5_turn, cX5_turn, 4, (some Jvm.ClassFile.FieldType.int), [])
theorem m_X5_turn : en_M M_X5_turn 3 := ⟨t_1263, t_7, ⟨by decide +kernel, by decide +kernel⟩, by decide +kernel, by decide +kernel, by decide +kernel⟩
abbrev M_X5_holds : MRec := (yX5_holds, cX5_holds, 4, (some Jvm.ClassFile.FieldType.boolean), [])
theorem m_X5_holds : en_M M_X5_holds 3 := ⟨t_1958, t_7, ⟨by decide +kernel, by decide +kernel⟩, by decide +kernel, by decide +kernel, by decide +kernel⟩
end PRR
