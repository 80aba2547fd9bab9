theorem dX8_meetsPixel_0 : decode cX8_meetsPixel 0 = .ok (.lload_n 0, 1) := by decide +kernel
theorem dX8_meetsPixel_1 : decode cX8_meetsPixel 1 = .ok (.lconst 0, 1) := by decide +kernel
theorem dX8_meetsPixel_2 : decode cX8_meetsPixel 2 = .ok (.lcmp, 1) := by decide +kernel
theorem dX8_meetsPixel_3 : decode cX8_meetsPixel 3 = .ok (.ifCond .eq 9, 3) := by decide +kernel
theorem dX8_meetsPixel_6 : decode cX8_meetsPixel 6 = .ok (.lload_n 2, 1) := by decide +kernel
theorem dX8_meetsPixel_7 : decode cX8_meetsPixel 7 = .ok (.lconst 0, 1) := by decide +kernel
theorem dX8_meetsPixel_8 : decode cX8_meetsPixel 8 = .ok (.lcmp, 1) := by decide +kernel
theorem dX8_meetsPixel_9 : decode cX8_meetsPixel 9 = .ok (.ifCond .ne 5, 3) := by decide +kernel
theorem dX8_meetsPixel_12 : decode cX8_meetsPixel 12 = .ok (.iconst 1, 1) := by decide +kernel
theorem dX8_meetsPixel_13 : decode cX8_meetsPixel 13 = .ok (.ireturn, 1) := by decide +kernel
theorem dX8_meetsPixel_14 : decode cX8_meetsPixel 14 = .ok (.lload_n 2, 1) := by decide +kernel
theorem dX8_meetsPixel_15 : decode cX8_meetsPixel 15 = .ok (.lconst 0, 1) := by decide +kernel
theorem dX8_meetsPixel_16 : decode cX8_meetsPixel 16 = .ok (.lcmp, 1) := by decide +kernel
theorem dX8_meetsPixel_17 : decode cX8_meetsPixel 17 = .ok (.ifCond .le 41, 3) := by decide +kernel
theorem dX8_meetsPixel_20 : decode cX8_meetsPixel 20 = .ok (.lload 4, 2) := by decide +kernel
theorem dX8_meetsPixel_22 : decode cX8_meetsPixel 22 = .ok (.lconst 1, 1) := by decide +kernel
theorem dX8_meetsPixel_23 : decode cX8_meetsPixel 23 = .ok (.lsub, 1) := by decide +kernel
theorem dX8_meetsPixel_24 : decode cX8_meetsPixel 24 = .ok (.lload_n 2, 1) := by decide +kernel
theorem dX8_meetsPixel_25 : decode cX8_meetsPixel 25 = .ok (.lmul, 1) := by decide +kernel
theorem dX8_meetsPixel_26 : decode cX8_meetsPixel 26 = .ok (.lload 6, 2) := by decide +kernel
theorem dX8_meetsPixel_28 : decode cX8_meetsPixel 28 = .ok (.lconst 1, 1) := by decide +kernel
theorem dX8_meetsPixel_29 : decode cX8_meetsPixel 29 = .ok (.ladd, 1) := by decide +kernel
theorem dX8_meetsPixel_30 : decode cX8_meetsPixel 30 = .ok (.lload_n 0, 1) := by decide +kernel
theorem dX8_meetsPixel_31 : decode cX8_meetsPixel 31 = .ok (.lmul, 1) := by decide +kernel
theorem dX8_meetsPixel_32 : decode cX8_meetsPixel 32 = .ok (.lcmp, 1) := by decide +kernel
theorem dX8_meetsPixel_33 : decode cX8_meetsPixel 33 = .ok (.ifCond .ge 23, 3) := by decide +kernel
theorem dX8_meetsPixel_36 : decode cX8_meetsPixel 36 = .ok (.lload 6, 2) := by decide +kernel
theorem dX8_meetsPixel_38 : decode cX8_meetsPixel 38 = .ok (.lconst 1, 1) := by decide +kernel
theorem dX8_meetsPixel_39 : decode cX8_meetsPixel 39 = .ok (.lsub, 1) := by decide +kernel
theorem dX8_meetsPixel_40 : decode cX8_meetsPixel 40 = .ok (.lload_n 0, 1) := by decide +kernel
theorem dX8_meetsPixel_41 : decode cX8_meetsPixel 41 = .ok (.lmul, 1) := by decide +kernel
theorem dX8_meetsPixel_42 : decode cX8_meetsPixel 42 = .ok (.lload 4, 2) := by decide +kernel
theorem dX8_meetsPixel_44 : decode cX8_meetsPixel 44 = .ok (.lconst 1, 1) := by decide +kernel
theorem dX8_meetsPixel_45 : decode cX8_meetsPixel 45 = .ok (.ladd, 1) := by decide +kernel
theorem dX8_meetsPixel_46 : decode cX8_meetsPixel 46 = .ok (.lload_n 2, 1) := by decide +kernel
theorem dX8_meetsPixel_47 : decode cX8_meetsPixel 47 = .ok (.lmul, 1) := by decide +kernel
theorem dX8_meetsPixel_48 : decode cX8_meetsPixel 48 = .ok (.lcmp, 1) := by decide +kernel
theorem dX8_meetsPixel_49 : decode cX8_meetsPixel 49 = .ok (.ifCond .ge 7, 3) := by decide +kernel
theorem dX8_meetsPixel_52 : decode cX8_meetsPixel 52 = .ok (.iconst 1, 1) := by decide +kernel
theorem dX8_meetsPixel_53 : decode cX8_meetsPixel 53 = .ok (.goto 4, 3) := by decide +kernel
theorem dX8_meetsPixel_56 : decode cX8_meetsPixel 56 = .ok (.iconst 0, 1) := by decide +kernel
theorem dX8_meetsPixel_57 : decode cX8_meetsPixel 57 = .ok (.ireturn, 1) := by decide +kernel
theorem dX8_meetsPixel_58 : decode cX8_meetsPixel 58 = .ok (.lload 4, 2) := by decide +kernel
theorem dX8_meetsPixel_60 : decode cX8_meetsPixel 60 = .ok (.lconst 1, 1) := by decide +kernel
theorem dX8_meetsPixel_61 : decode cX8_meetsPixel 61 = .ok (.lsub, 1) := by decide +kernel
theorem dX8_meetsPixel_62 : decode cX8_meetsPixel 62 = .ok (.lload_n 2, 1) := by decide +kernel
theorem dX8_meetsPixel_63 : decode cX8_meetsPixel 63 = .ok (.lmul, 1) := by decide +kernel
theorem dX8_meetsPixel_64 : decode cX8_meetsPixel 64 = .ok (.lload 6, 2) := by decide +kernel
theorem dX8_meetsPixel_66 : decode cX8_meetsPixel 66 = .ok (.lconst 1, 1) := by decide +kernel
theorem dX8_meetsPixel_67 : decode cX8_meetsPixel 67 = .ok (.lsub, 1) := by decide +kernel
theorem dX8_meetsPixel_68 : decode cX8_meetsPixel 68 = .ok (.lload_n 0, 1) := by decide +kernel
theorem dX8_meetsPixel_69 : decode cX8_meetsPixel 69 = .ok (.lmul, 1) := by decide +kernel
theorem dX8_meetsPixel_70 : decode cX8_meetsPixel 70 = .ok (.lcmp, 1) := by decide +kernel
theorem dX8_meetsPixel_71 : decode cX8_meetsPixel 71 = .ok (.ifCond .lt 23, 3) := by decide +kernel
theorem dX8_meetsPixel_74 : decode cX8_meetsPixel 74 = .ok (.lload 6, 2) := by decide +kernel
theorem dX8_meetsPixel_76 : decode cX8_meetsPixel 76 = .ok (.lconst 1, 1) := by decide +kernel
theorem dX8_meetsPixel_77 : decode cX8_meetsPixel 77 = .ok (.ladd, 1) := by decide +kernel
theorem dX8_meetsPixel_78 : decode cX8_meetsPixel 78 = .ok (.lload_n 0, 1) := by decide +kernel
theorem dX8_meetsPixel_79 : decode cX8_meetsPixel 79 = .ok (.lmul, 1) := by decide +kernel
theorem dX8_meetsPixel_80 : decode cX8_meetsPixel 80 = .ok (.lload 4, 2) := by decide +kernel
theorem dX8_meetsPixel_82 : decode cX8_meetsPixel 82 = .ok (.lconst 1, 1) := by decide +kernel
theorem dX8_meetsPixel_83 : decode cX8_meetsPixel 83 = .ok (.ladd, 1) := by decide +kernel
theorem dX8_meetsPixel_84 : decode cX8_meetsPixel 84 = .ok (.lload_n 2, 1) := by decide +kernel
theorem dX8_meetsPixel_85 : decode cX8_meetsPixel 85 = .ok (.lmul, 1) := by decide +kernel
theorem dX8_meetsPixel_86 : decode cX8_meetsPixel 86 = .ok (.lcmp, 1) := by decide +kernel
theorem dX8_meetsPixel_87 : decode cX8_meetsPixel 87 = .ok (.ifCond .le 7, 3) := by decide +kernel
theorem dX8_meetsPixel_90 : decode cX8_meetsPixel 90 = .ok (.iconst 1, 1) := by decide +kernel
theorem dX8_meetsPixel_91 : decode cX8_meetsPixel 91 = .ok (.goto 4, 3) := by decide +kernel
theorem dX8_meetsPixel_94 : decode cX8_meetsPixel 94 = .ok (.iconst 0, 1) := by decide +kernel
theorem dX8_meetsPixel_95 : decode cX8_meetsPixel 95 = .ok (.ireturn, 1) := by decide +kernel
theorem dX8_leavePieces_0 : decode cX8_leavePieces 0 = .ok (.aload_n 0, 1) := by decide +kernel
theorem dX8_leavePieces_1 : decode cX8_leavePieces 1 = .ok (.iconst 0, 1) := by decide +kernel
theorem dX8_leavePieces_2 : decode cX8_leavePieces 2 = .ok (.putfield 206, 3) := by decide +kernel
theorem dX8_leavePieces_5 : decode cX8_leavePieces 5 = .ok (.iconst 0, 1) := by decide +kernel
theorem dX8_leavePieces_6 : decode cX8_leavePieces 6 = .ok (.istore_n 2, 1) := by decide +kernel
theorem dX8_leavePieces_7 : decode cX8_leavePieces 7 = .ok (.iconst 0, 1) := by decide +kernel
theorem dX8_leavePieces_8 : decode cX8_leavePieces 8 = .ok (.istore_n 3, 1) := by decide +kernel
theorem dX8_leavePieces_9 : decode cX8_leavePieces 9 = .ok (.iload_n 3, 1) := by decide +kernel
theorem dX8_leavePieces_10 : decode cX8_leavePieces 10 = .ok (.iload_n 1, 1) := by decide +kernel
theorem dX8_leavePieces_11 : decode cX8_leavePieces 11 = .ok (.if_icmp .ge 116, 3) := by decide +kernel
theorem dX8_leavePieces_14 : decode cX8_leavePieces 14 = .ok (.aload_n 0, 1) := by decide +kernel
theorem dX8_leavePieces_15 : decode cX8_leavePieces 15 = .ok (.getfield 22, 3) := by decide +kernel
theorem dX8_leavePieces_18 : decode cX8_leavePieces 18 = .ok (.iload_n 3, 1) := by decide +kernel
theorem dX8_leavePieces_19 : decode cX8_leavePieces 19 = .ok (.laload, 1) := by decide +kernel
theorem dX8_leavePieces_20 : decode cX8_leavePieces 20 = .ok (.iconst 2, 1) := by decide +kernel
theorem dX8_leavePieces_21 : decode cX8_leavePieces 21 = .ok (.lshr, 1) := by decide +kernel
theorem dX8_leavePieces_22 : decode cX8_leavePieces 22 = .ok (.lstore 4, 2) := by decide +kernel
theorem dX8_leavePieces_24 : decode cX8_leavePieces 24 = .ok (.iload_n 2, 1) := by decide +kernel
theorem dX8_leavePieces_25 : decode cX8_leavePieces 25 = .ok (.aload_n 0, 1) := by decide +kernel
theorem dX8_leavePieces_26 : decode cX8_leavePieces 26 = .ok (.getfield 22, 3) := by decide +kernel
theorem dX8_leavePieces_29 : decode cX8_leavePieces 29 = .ok (.iload_n 3, 1) := by decide +kernel
theorem dX8_leavePieces_30 : decode cX8_leavePieces 30 = .ok (.laload, 1) := by decide +kernel
theorem dX8_leavePieces_31 : decode cX8_leavePieces 31 = .ok (.ldc2_w 209, 3) := by decide +kernel
theorem dX8_leavePieces_34 : decode cX8_leavePieces 34 = .ok (.land, 1) := by decide +kernel
theorem dX8_leavePieces_35 : decode cX8_leavePieces 35 = .ok (.l2i, 1) := by decide +kernel
theorem dX8_leavePieces_36 : decode cX8_leavePieces 36 = .ok (.ixor, 1) := by decide +kernel
theorem dX8_leavePieces_37 : decode cX8_leavePieces 37 = .ok (.istore_n 2, 1) := by decide +kernel
theorem dX8_leavePieces_38 : decode cX8_leavePieces 38 = .ok (.iload_n 3, 1) := by decide +kernel
theorem dX8_leavePieces_39 : decode cX8_leavePieces 39 = .ok (.iconst 1, 1) := by decide +kernel
theorem dX8_leavePieces_40 : decode cX8_leavePieces 40 = .ok (.iadd, 1) := by decide +kernel
theorem dX8_leavePieces_41 : decode cX8_leavePieces 41 = .ok (.iload_n 1, 1) := by decide +kernel
theorem dX8_leavePieces_42 : decode cX8_leavePieces 42 = .ok (.if_icmp .ge 22, 3) := by decide +kernel
theorem dX8_leavePieces_45 : decode cX8_leavePieces 45 = .ok (.aload_n 0, 1) := by decide +kernel
theorem dX8_leavePieces_46 : decode cX8_leavePieces 46 = .ok (.getfield 22, 3) := by decide +kernel
theorem dX8_leavePieces_49 : decode cX8_leavePieces 49 = .ok (.iload_n 3, 1) := by decide +kernel
theorem dX8_leavePieces_50 : decode cX8_leavePieces 50 = .ok (.iconst 1, 1) := by decide +kernel
theorem dX8_leavePieces_51 : decode cX8_leavePieces 51 = .ok (.iadd, 1) := by decide +kernel
theorem dX8_leavePieces_52 : decode cX8_leavePieces 52 = .ok (.laload, 1) := by decide +kernel
theorem dX8_leavePieces_53 : decode cX8_leavePieces 53 = .ok (.iconst 2, 1) := by decide +kernel
theorem dX8_leavePieces_54 : decode cX8_leavePieces 54 = .ok (.lshr, 1) := by decide +kernel
theorem dX8_leavePieces_55 : decode cX8_leavePieces 55 = .ok (.lload 4, 2) := by decide +kernel
theorem dX8_leavePieces_57 : decode cX8_leavePieces 57 = .ok (.lcmp, 1) := by decide +kernel
theorem dX8_leavePieces_58 : decode cX8_leavePieces 58 = .ok (.ifCond .ne 6, 3) := by decide +kernel
theorem dX8_leavePieces_61 : decode cX8_leavePieces 61 = .ok (.goto 60, 3) := by decide +kernel
theorem dX8_leavePieces_64 : decode cX8_leavePieces 64 = .ok (.iload_n 2, 1) := by decide +kernel
theorem dX8_leavePieces_65 : decode cX8_leavePieces 65 = .ok (.ifCond .eq 54, 3) := by decide +kernel
theorem dX8_leavePieces_68 : decode cX8_leavePieces 68 = .ok (.aload_n 0, 1) := by decide +kernel
theorem dX8_leavePieces_69 : decode cX8_leavePieces 69 = .ok (.getfield 35, 3) := by decide +kernel
theorem dX8_leavePieces_72 : decode cX8_leavePieces 72 = .ok (.aload_n 0, 1) := by decide +kernel
theorem dX8_leavePieces_73 : decode cX8_leavePieces 73 = .ok (.getfield 206, 3) := by decide +kernel
theorem dX8_leavePieces_76 : decode cX8_leavePieces 76 = .ok (.lload 4, 2) := by decide +kernel
theorem dX8_leavePieces_78 : decode cX8_leavePieces 78 = .ok (.bipush 13, 2) := by decide +kernel
theorem dX8_leavePieces_80 : decode cX8_leavePieces 80 = .ok (.lshr, 1) := by decide +kernel
theorem dX8_leavePieces_81 : decode cX8_leavePieces 81 = .ok (.l2i, 1) := by decide +kernel
theorem dX8_leavePieces_82 : decode cX8_leavePieces 82 = .ok (.iastore, 1) := by decide +kernel
theorem dX8_leavePieces_83 : decode cX8_leavePieces 83 = .ok (.aload_n 0, 1) := by decide +kernel
theorem dX8_leavePieces_84 : decode cX8_leavePieces 84 = .ok (.getfield 38, 3) := by decide +kernel
theorem dX8_leavePieces_87 : decode cX8_leavePieces 87 = .ok (.aload_n 0, 1) := by decide +kernel
theorem dX8_leavePieces_88 : decode cX8_leavePieces 88 = .ok (.getfield 206, 3) := by decide +kernel
theorem dX8_leavePieces_91 : decode cX8_leavePieces 91 = .ok (.lload 4, 2) := by decide +kernel
theorem dX8_leavePieces_93 : decode cX8_leavePieces 93 = .ok (.ldc2_w 211, 3) := by decide +kernel
theorem dX8_leavePieces_96 : decode cX8_leavePieces 96 = .ok (.land, 1) := by decide +kernel
theorem dX8_leavePieces_97 : decode cX8_leavePieces 97 = .ok (.l2i, 1) := by decide +kernel
theorem dX8_leavePieces_98 : decode cX8_leavePieces 98 = .ok (.iastore, 1) := by decide +kernel
theorem dX8_leavePieces_99 : decode cX8_leavePieces 99 = .ok (.aload_n 0, 1) := by decide +kernel
theorem dX8_leavePieces_100 : decode cX8_leavePieces 100 = .ok (.getfield 41, 3) := by decide +kernel
theorem dX8_leavePieces_103 : decode cX8_leavePieces 103 = .ok (.aload_n 0, 1) := by decide +kernel
theorem dX8_leavePieces_104 : decode cX8_leavePieces 104 = .ok (.getfield 206, 3) := by decide +kernel
theorem dX8_leavePieces_107 : decode cX8_leavePieces 107 = .ok (.iload_n 2, 1) := by decide +kernel
theorem dX8_leavePieces_108 : decode cX8_leavePieces 108 = .ok (.iastore, 1) := by decide +kernel
theorem dX8_leavePieces_109 : decode cX8_leavePieces 109 = .ok (.aload_n 0, 1) := by decide +kernel
theorem dX8_leavePieces_110 : decode cX8_leavePieces 110 = .ok (.dup, 1) := by decide +kernel
theorem dX8_leavePieces_111 : decode cX8_leavePieces 111 = .ok (.getfield 206, 3) := by decide +kernel
theorem dX8_leavePieces_114 : decode cX8_leavePieces 114 = .ok (.iconst 1, 1) := by decide +kernel
theorem dX8_leavePieces_115 : decode cX8_leavePieces 115 = .ok (.iadd, 1) := by decide +kernel
theorem dX8_leavePieces_116 : decode cX8_leavePieces 116 = .ok (.putfield 206, 3) := by decide +kernel
theorem dX8_leavePieces_119 : decode cX8_leavePieces 119 = .ok (.iconst 0, 1) := by decide +kernel
theorem dX8_leavePieces_120 : decode cX8_leavePieces 120 = .ok (.istore_n 2, 1) := by decide +kernel
theorem dX8_leavePieces_121 : decode cX8_leavePieces 121 = .ok (.iinc 3 1, 3) := by decide +kernel
theorem dX8_leavePieces_124 : decode cX8_leavePieces 124 = .ok (.goto (-115), 3) := by decide +kernel
theorem dX8_leavePieces_127 : decode cX8_leavePieces 127 = .ok (.return_, 1) := by decide +kernel
theorem dX4_make_0 : decode cX4_make 0 = .ok (.aload_n 0, 1) := by decide +kernel
theorem dX4_make_1 : decode cX4_make 1 = .ok (.invokevirtual 62, 3) := by decide +kernel
theorem dX4_make_4 : decode cX4_make 4 = .ok (.aload_n 0, 1) := by decide +kernel
theorem dX4_make_5 : decode cX4_make 5 = .ok (.iload_n 1, 1) := by decide +kernel
theorem dX4_make_6 : decode cX4_make 6 = .ok (.invokevirtual 65, 3) := by decide +kernel
theorem dX4_make_9 : decode cX4_make 9 = .ok (.aload_n 0, 1) := by decide +kernel
theorem dX4_make_10 : decode cX4_make 10 = .ok (.invokevirtual 69, 3) := by decide +kernel
theorem dX4_make_13 : decode cX4_make 13 = .ok (.aload_n 0, 1) := by decide +kernel
theorem dX4_make_14 : decode cX4_make 14 = .ok (.invokevirtual 72, 3) := by decide +kernel
theorem dX4_make_17 : decode cX4_make 17 = .ok (.ifCond .ne 5, 3) := by decide +kernel
theorem dX4_make_20 : decode cX4_make 20 = .ok (.iconst 0, 1) := by decide +kernel
theorem dX4_make_21 : decode cX4_make 21 = .ok (.ireturn, 1) := by decide +kernel
theorem dX4_make_22 : decode cX4_make 22 = .ok (.aload_n 0, 1) := by decide +kernel
theorem dX4_make_23 : decode cX4_make 23 = .ok (.invokevirtual 76, 3) := by decide +kernel
theorem dX4_make_26 : decode cX4_make 26 = .ok (.aload_n 0, 1) := by decide +kernel
theorem dX4_make_27 : decode cX4_make 27 = .ok (.invokevirtual 79, 3) := by decide +kernel
theorem dX4_make_30 : decode cX4_make 30 = .ok (.aload_n 0, 1) := by decide +kernel
theorem dX4_make_31 : decode cX4_make 31 = .ok (.aload_n 2, 1) := by decide +kernel
theorem dX4_make_32 : decode cX4_make 32 = .ok (.invokevirtual 82, 3) := by decide +kernel
theorem dX4_make_35 : decode cX4_make 35 = .ok (.ireturn, 1) := by decide +kernel
theorem dX4_sweep_0 : decode cX4_sweep 0 = .ok (.aload_n 0, 1) := by decide +kernel
theorem dX4_sweep_1 : decode cX4_sweep 1 = .ok (.iconst 0, 1) := by decide +kernel
theorem dX4_sweep_2 : decode cX4_sweep 2 = .ok (.putfield 86, 3) := by decide +kernel
theorem dX4_sweep_5 : decode cX4_sweep 5 = .ok (.iconst 0, 1) := by decide +kernel
theorem dX4_sweep_6 : decode cX4_sweep 6 = .ok (.istore_n 1, 1) := by decide +kernel
theorem dX4_sweep_7 : decode cX4_sweep 7 = .ok (.iconst 0, 1) := by decide +kernel
theorem dX4_sweep_8 : decode cX4_sweep 8 = .ok (.istore_n 2, 1) := by decide +kernel
theorem dX4_sweep_9 : decode cX4_sweep 9 = .ok (.iload_n 2, 1) := by decide +kernel
theorem dX4_sweep_10 : decode cX4_sweep 10 = .ok (.aload_n 0, 1) := by decide +kernel
theorem dX4_sweep_11 : decode cX4_sweep 11 = .ok (.getfield 58, 3) := by decide +kernel
theorem dX4_sweep_14 : decode cX4_sweep 14 = .ok (.getfield 90, 3) := by decide +kernel
theorem dX4_sweep_17 : decode cX4_sweep 17 = .ok (.if_icmp .ge 95, 3) := by decide +kernel
theorem dX4_sweep_20 : decode cX4_sweep 20 = .ok (.aload_n 0, 1) := by decide +kernel
theorem dX4_sweep_21 : decode cX4_sweep 21 = .ok (.iload_n 2, 1) := by decide +kernel
theorem dX4_sweep_22 : decode cX4_sweep 22 = .ok (.invokevirtual 93, 3) := by decide +kernel
theorem dX4_sweep_25 : decode cX4_sweep 25 = .ok (.istore_n 3, 1) := by decide +kernel
theorem dX4_sweep_26 : decode cX4_sweep 26 = .ok (.iload_n 3, 1) := by decide +kernel
theorem dX4_sweep_27 : decode cX4_sweep 27 = .ok (.istore 4, 2) := by decide +kernel
theorem dX4_sweep_29 : decode cX4_sweep 29 = .ok (.iload 4, 2) := by decide +kernel
theorem dX4_sweep_31 : decode cX4_sweep 31 = .ok (.aload_n 0, 1) := by decide +kernel
theorem dX4_sweep_32 : decode cX4_sweep 32 = .ok (.getfield 86, 3) := by decide +kernel
theorem dX4_sweep_35 : decode cX4_sweep 35 = .ok (.if_icmp .ge 28, 3) := by decide +kernel
theorem dX4_sweep_38 : decode cX4_sweep 38 = .ok (.aload_n 0, 1) := by decide +kernel
theorem dX4_sweep_39 : decode cX4_sweep 39 = .ok (.getfield 58, 3) := by decide +kernel
theorem dX4_sweep_42 : decode cX4_sweep 42 = .ok (.getfield 97, 3) := by decide +kernel
theorem dX4_sweep_45 : decode cX4_sweep 45 = .ok (.aload_n 0, 1) := by decide +kernel
theorem dX4_sweep_46 : decode cX4_sweep 46 = .ok (.getfield 19, 3) := by decide +kernel
theorem dX4_sweep_49 : decode cX4_sweep 49 = .ok (.iload 4, 2) := by decide +kernel
theorem dX4_sweep_51 : decode cX4_sweep 51 = .ok (.iaload, 1) := by decide +kernel
theorem dX4_sweep_52 : decode cX4_sweep 52 = .ok (.iaload, 1) := by decide +kernel
theorem dX4_sweep_53 : decode cX4_sweep 53 = .ok (.iload_n 2, 1) := by decide +kernel
theorem dX4_sweep_54 : decode cX4_sweep 54 = .ok (.if_icmp .ne 9, 3) := by decide +kernel
theorem dX4_sweep_57 : decode cX4_sweep 57 = .ok (.iinc 4 1, 3) := by decide +kernel
theorem dX4_sweep_60 : decode cX4_sweep 60 = .ok (.goto (-31), 3) := by decide +kernel
theorem dX4_sweep_63 : decode cX4_sweep 63 = .ok (.iload_n 1, 1) := by decide +kernel
theorem dX4_sweep_64 : decode cX4_sweep 64 = .ok (.istore 5, 2) := by decide +kernel
theorem dX4_sweep_66 : decode cX4_sweep 66 = .ok (.iload_n 1, 1) := by decide +kernel
theorem dX4_sweep_67 : decode cX4_sweep 67 = .ok (.aload_n 0, 1) := by decide +kernel
theorem dX4_sweep_68 : decode cX4_sweep 68 = .ok (.getfield 58, 3) := by decide +kernel
theorem dX4_sweep_71 : decode cX4_sweep 71 = .ok (.getfield 100, 3) := by decide +kernel
theorem dX4_sweep_74 : decode cX4_sweep 74 = .ok (.if_icmp .ge 22, 3) := by decide +kernel
theorem dX4_sweep_77 : decode cX4_sweep 77 = .ok (.aload_n 0, 1) := by decide +kernel
theorem dX4_sweep_78 : decode cX4_sweep 78 = .ok (.getfield 58, 3) := by decide +kernel
theorem dX4_sweep_81 : decode cX4_sweep 81 = .ok (.getfield 103, 3) := by decide +kernel
theorem dX4_sweep_84 : decode cX4_sweep 84 = .ok (.iload_n 1, 1) := by decide +kernel
theorem dX4_sweep_85 : decode cX4_sweep 85 = .ok (.iaload, 1) := by decide +kernel
theorem dX4_sweep_86 : decode cX4_sweep 86 = .ok (.iload_n 2, 1) := by decide +kernel
theorem dX4_sweep_87 : decode cX4_sweep 87 = .ok (.if_icmp .ne 9, 3) := by decide +kernel
theorem dX4_sweep_90 : decode cX4_sweep 90 = .ok (.iinc 1 1, 3) := by decide +kernel
theorem dX4_sweep_93 : decode cX4_sweep 93 = .ok (.goto (-27), 3) := by decide +kernel
theorem dX4_sweep_96 : decode cX4_sweep 96 = .ok (.aload_n 0, 1) := by decide +kernel
theorem dX4_sweep_97 : decode cX4_sweep 97 = .ok (.iload_n 3, 1) := by decide +kernel
theorem dX4_sweep_98 : decode cX4_sweep 98 = .ok (.iload 4, 2) := by decide +kernel
theorem dX4_sweep_100 : decode cX4_sweep 100 = .ok (.iload 5, 2) := by decide +kernel
theorem dX4_sweep_102 : decode cX4_sweep 102 = .ok (.iload_n 1, 1) := by decide +kernel
theorem dX4_sweep_103 : decode cX4_sweep 103 = .ok (.invokevirtual 106, 3) := by decide +kernel
theorem dX4_sweep_106 : decode cX4_sweep 106 = .ok (.iinc 2 1, 3) := by decide +kernel
theorem dX4_sweep_109 : decode cX4_sweep 109 = .ok (.goto (-100), 3) := by decide +kernel
theorem dX4_sweep_112 : decode cX4_sweep 112 = .ok (.return_, 1) := by decide +kernel
theorem dX4_firstNotBelow_0 : decode cX4_firstNotBelow 0 = .ok (.iconst 0, 1) := by decide +kernel
theorem dX4_firstNotBelow_1 : decode cX4_firstNotBelow 1 = .ok (.istore_n 2, 1) := by decide +kernel
theorem dX4_firstNotBelow_2 : decode cX4_firstNotBelow 2 = .ok (.aload_n 0, 1) := by decide +kernel
theorem dX4_firstNotBelow_3 : decode cX4_firstNotBelow 3 = .ok (.getfield 86, 3) := by decide +kernel
theorem dX4_firstNotBelow_6 : decode cX4_firstNotBelow 6 = .ok (.istore_n 3, 1) := by decide +kernel
theorem dX4_firstNotBelow_7 : decode cX4_firstNotBelow 7 = .ok (.iload_n 2, 1) := by decide +kernel
theorem dX4_firstNotBelow_8 : decode cX4_firstNotBelow 8 = .ok (.iload_n 3, 1) := by decide +kernel
theorem dX4_firstNotBelow_9 : decode cX4_firstNotBelow 9 = .ok (.if_icmp .ge 63, 3) := by decide +kernel
theorem dX4_firstNotBelow_12 : decode cX4_firstNotBelow 12 = .ok (.iload_n 2, 1) := by decide +kernel
theorem dX4_firstNotBelow_13 : decode cX4_firstNotBelow 13 = .ok (.iload_n 3, 1) := by decide +kernel
theorem dX4_firstNotBelow_14 : decode cX4_firstNotBelow 14 = .ok (.iload_n 2, 1) := by decide +kernel
theorem dX4_firstNotBelow_15 : decode cX4_firstNotBelow 15 = .ok (.isub, 1) := by decide +kernel
theorem dX4_firstNotBelow_16 : decode cX4_firstNotBelow 16 = .ok (.iconst 2, 1) := by decide +kernel
theorem dX4_firstNotBelow_17 : decode cX4_firstNotBelow 17 = .ok (.idiv, 1) := by decide +kernel
theorem dX4_firstNotBelow_18 : decode cX4_firstNotBelow 18 = .ok (.iadd, 1) := by decide +kernel
theorem dX4_firstNotBelow_19 : decode cX4_firstNotBelow 19 = .ok (.istore 4, 2) := by decide +kernel
theorem dX4_firstNotBelow_21 : decode cX4_firstNotBelow 21 = .ok (.aload_n 0, 1) := by decide +kernel
theorem dX4_firstNotBelow_22 : decode cX4_firstNotBelow 22 = .ok (.getfield 19, 3) := by decide +kernel
theorem dX4_firstNotBelow_25 : decode cX4_firstNotBelow 25 = .ok (.iload 4, 2) := by decide +kernel
theorem dX4_firstNotBelow_27 : decode cX4_firstNotBelow 27 = .ok (.iaload, 1) := by decide +kernel
theorem dX4_firstNotBelow_28 : decode cX4_firstNotBelow 28 = .ok (.istore 5, 2) := by decide +kernel
theorem dX4_firstNotBelow_30 : decode cX4_firstNotBelow 30 = .ok (.aload_n 0, 1) := by decide +kernel
theorem dX4_firstNotBelow_31 : decode cX4_firstNotBelow 31 = .ok (.aload_n 0, 1) := by decide +kernel
theorem dX4_firstNotBelow_32 : decode cX4_firstNotBelow 32 = .ok (.getfield 58, 3) := by decide +kernel
theorem dX4_firstNotBelow_35 : decode cX4_firstNotBelow 35 = .ok (.getfield 103, 3) := by decide +kernel
theorem dX4_firstNotBelow_38 : decode cX4_firstNotBelow 38 = .ok (.iload 5, 2) := by decide +kernel
theorem dX4_firstNotBelow_40 : decode cX4_firstNotBelow 40 = .ok (.iaload, 1) := by decide +kernel
theorem dX4_firstNotBelow_41 : decode cX4_firstNotBelow 41 = .ok (.aload_n 0, 1) := by decide +kernel
theorem dX4_firstNotBelow_42 : decode cX4_firstNotBelow 42 = .ok (.getfield 58, 3) := by decide +kernel
theorem dX4_firstNotBelow_45 : decode cX4_firstNotBelow 45 = .ok (.getfield 97, 3) := by decide +kernel
theorem dX4_firstNotBelow_48 : decode cX4_firstNotBelow 48 = .ok (.iload 5, 2) := by decide +kernel
theorem dX4_firstNotBelow_50 : decode cX4_firstNotBelow 50 = .ok (.iaload, 1) := by decide +kernel
theorem dX4_firstNotBelow_51 : decode cX4_firstNotBelow 51 = .ok (.iload_n 1, 1) := by decide +kernel
theorem dX4_firstNotBelow_52 : decode cX4_firstNotBelow 52 = .ok (.invokevirtual 110, 3) := by decide +kernel
theorem dX4_firstNotBelow_55 : decode cX4_firstNotBelow 55 = .ok (.ifCond .le 11, 3) := by decide +kernel
theorem dX4_firstNotBelow_58 : decode cX4_firstNotBelow 58 = .ok (.iload 4, 2) := by decide +kernel
theorem dX4_firstNotBelow_60 : decode cX4_firstNotBelow 60 = .ok (.iconst 1, 1) := by decide +kernel
theorem dX4_firstNotBelow_61 : decode cX4_firstNotBelow 61 = .ok (.iadd, 1) := by decide +kernel
theorem dX4_firstNotBelow_62 : decode cX4_firstNotBelow 62 = .ok (.istore_n 2, 1) := by decide +kernel
theorem dX4_firstNotBelow_63 : decode cX4_firstNotBelow 63 = .ok (.goto 6, 3) := by decide +kernel
theorem dX4_firstNotBelow_66 : decode cX4_firstNotBelow 66 = .ok (.iload 4, 2) := by decide +kernel
theorem dX4_firstNotBelow_68 : decode cX4_firstNotBelow 68 = .ok (.istore_n 3, 1) := by decide +kernel
theorem dX4_firstNotBelow_69 : decode cX4_firstNotBelow 69 = .ok (.goto (-62), 3) := by decide +kernel
theorem dX4_firstNotBelow_72 : decode cX4_firstNotBelow 72 = .ok (.iload_n 2, 1) := by decide +kernel
theorem dX4_firstNotBelow_73 : decode cX4_firstNotBelow 73 = .ok (.ireturn, 1) := by decide +kernel
theorem dX4_turnAt_0 : decode cX4_turnAt 0 = .ok (.aload_n 0, 1) := by decide +kernel
theorem dX4_turnAt_1 : decode cX4_turnAt 1 = .ok (.getfield 58, 3) := by decide +kernel
theorem dX4_turnAt_4 : decode cX4_turnAt 4 = .ok (.getfield 114, 3) := by decide +kernel
theorem dX4_turnAt_7 : decode cX4_turnAt 7 = .ok (.iload_n 1, 1) := by decide +kernel
theorem dX4_turnAt_8 : decode cX4_turnAt 8 = .ok (.iaload, 1) := by decide +kernel
theorem dX4_turnAt_9 : decode cX4_turnAt 9 = .ok (.i2l, 1) := by decide +kernel
theorem dX4_turnAt_10 : decode cX4_turnAt 10 = .ok (.aload_n 0, 1) := by decide +kernel
theorem dX4_turnAt_11 : decode cX4_turnAt 11 = .ok (.getfield 58, 3) := by decide +kernel
theorem dX4_turnAt_14 : decode cX4_turnAt 14 = .ok (.getfield 117, 3) := by decide +kernel
theorem dX4_turnAt_17 : decode cX4_turnAt 17 = .ok (.iload_n 1, 1) := by decide +kernel
theorem dX4_turnAt_18 : decode cX4_turnAt 18 = .ok (.iaload, 1) := by decide +kernel
theorem dX4_turnAt_19 : decode cX4_turnAt 19 = .ok (.i2l, 1) := by decide +kernel
theorem dX4_turnAt_20 : decode cX4_turnAt 20 = .ok (.aload_n 0, 1) := by decide +kernel
theorem dX4_turnAt_21 : decode cX4_turnAt 21 = .ok (.getfield 58, 3) := by decide +kernel
theorem dX4_turnAt_24 : decode cX4_turnAt 24 = .ok (.getfield 114, 3) := by decide +kernel
theorem dX4_turnAt_27 : decode cX4_turnAt 27 = .ok (.iload_n 2, 1) := by decide +kernel
theorem dX4_turnAt_28 : decode cX4_turnAt 28 = .ok (.iaload, 1) := by decide +kernel
theorem dX4_turnAt_29 : decode cX4_turnAt 29 = .ok (.i2l, 1) := by decide +kernel
theorem dX4_turnAt_30 : decode cX4_turnAt 30 = .ok (.aload_n 0, 1) := by decide +kernel
theorem dX4_turnAt_31 : decode cX4_turnAt 31 = .ok (.getfield 58, 3) := by decide +kernel
theorem dX4_turnAt_34 : decode cX4_turnAt 34 = .ok (.getfield 117, 3) := by decide +kernel
theorem dX4_turnAt_37 : decode cX4_turnAt 37 = .ok (.iload_n 2, 1) := by decide +kernel
theorem dX4_turnAt_38 : decode cX4_turnAt 38 = .ok (.iaload, 1) := by decide +kernel
theorem dX4_turnAt_39 : decode cX4_turnAt 39 = .ok (.i2l, 1) := by decide +kernel
theorem dX4_turnAt_40 : decode cX4_turnAt 40 = .ok (.aload_n 0, 1) := by decide +kernel
theorem dX4_turnAt_41 : decode cX4_turnAt 41 = .ok (.getfield 58, 3) := by decide +kernel
theorem dX4_turnAt_44 : decode cX4_turnAt 44 = .ok (.getfield 114, 3) := by decide +kernel
theorem dX4_turnAt_47 : decode cX4_turnAt 47 = .ok (.iload_n 3, 1) := by decide +kernel
theorem dX4_turnAt_48 : decode cX4_turnAt 48 = .ok (.iaload, 1) := by decide +kernel
theorem dX4_turnAt_49 : decode cX4_turnAt 49 = .ok (.i2l, 1) := by decide +kernel
theorem dX4_turnAt_50 : decode cX4_turnAt 50 = .ok (.aload_n 0, 1) := by decide +kernel
theorem dX4_turnAt_51 : decode cX4_turnAt 51 = .ok (.getfield 58, 3) := by decide +kernel
theorem dX4_turnAt_54 : decode cX4_turnAt 54 = .ok (.getfield 117, 3) := by decide +kernel
theorem dX4_turnAt_57 : decode cX4_turnAt 57 = .ok (.iload_n 3, 1) := by decide +kernel
theorem dX4_turnAt_58 : decode cX4_turnAt 58 = .ok (.iaload, 1) := by decide +kernel
theorem dX4_turnAt_59 : decode cX4_turnAt 59 = .ok (.i2l, 1) := by decide +kernel
theorem dX4_turnAt_60 : decode cX4_turnAt 60 = .ok (.invokestatic 120, 3) := by decide +kernel
theorem dX4_turnAt_63 : decode cX4_turnAt 63 = .ok (.ireturn, 1) := by decide +kernel
theorem dX4_replaceActive_0 : decode cX4_replaceActive 0 = .ok (.aload_n 0, 1) := by decide +kernel
theorem dX4_replaceActive_1 : decode cX4_replaceActive 1 = .ok (.getfield 19, 3) := by decide +kernel
theorem dX4_replaceActive_4 : decode cX4_replaceActive 4 = .ok (.iload_n 2, 1) := by decide +kernel
theorem dX4_replaceActive_5 : decode cX4_replaceActive 5 = .ok (.aload_n 0, 1) := by decide +kernel
theorem dX4_replaceActive_6 : decode cX4_replaceActive 6 = .ok (.getfield 19, 3) := by decide +kernel
theorem dX4_replaceActive_9 : decode cX4_replaceActive 9 = .ok (.iload_n 1, 1) := by decide +kernel
theorem dX4_replaceActive_10 : decode cX4_replaceActive 10 = .ok (.iload 4, 2) := by decide +kernel
theorem dX4_replaceActive_12 : decode cX4_replaceActive 12 = .ok (.iadd, 1) := by decide +kernel
theorem dX4_replaceActive_13 : decode cX4_replaceActive 13 = .ok (.iload_n 3, 1) := by decide +kernel
theorem dX4_replaceActive_14 : decode cX4_replaceActive 14 = .ok (.isub, 1) := by decide +kernel
theorem dX4_replaceActive_15 : decode cX4_replaceActive 15 = .ok (.aload_n 0, 1) := by decide +kernel
theorem dX4_replaceActive_16 : decode cX4_replaceActive 16 = .ok (.getfield 86, 3) := by decide +kernel
theorem dX4_replaceActive_19 : decode cX4_replaceActive 19 = .ok (.iload_n 2, 1) := by decide +kernel
theorem dX4_replaceActive_20 : decode cX4_replaceActive 20 = .ok (.isub, 1) := by decide +kernel
theorem dX4_replaceActive_21 : decode cX4_replaceActive 21 = .ok (.invokestatic 124, 3) := by decide +kernel
theorem dX4_replaceActive_24 : decode cX4_replaceActive 24 = .ok (.aload_n 0, 1) := by decide +kernel
theorem dX4_replaceActive_25 : decode cX4_replaceActive 25 = .ok (.dup, 1) := by decide +kernel
theorem dX4_replaceActive_26 : decode cX4_replaceActive 26 = .ok (.getfield 86, 3) := by decide +kernel
theorem dX4_replaceActive_29 : decode cX4_replaceActive 29 = .ok (.iload 4, 2) := by decide +kernel
theorem dX4_replaceActive_31 : decode cX4_replaceActive 31 = .ok (.iload_n 3, 1) := by decide +kernel
theorem dX4_replaceActive_32 : decode cX4_replaceActive 32 = .ok (.isub, 1) := by decide +kernel
theorem dX4_replaceActive_33 : decode cX4_replaceActive 33 = .ok (.iload_n 2, 1) := by decide +kernel
theorem dX4_replaceActive_34 : decode cX4_replaceActive 34 = .ok (.iload_n 1, 1) := by decide +kernel
theorem dX4_replaceActive_35 : decode cX4_replaceActive 35 = .ok (.isub, 1) := by decide +kernel
theorem dX4_replaceActive_36 : decode cX4_replaceActive 36 = .ok (.isub, 1) := by decide +kernel
theorem dX4_replaceActive_37 : decode cX4_replaceActive 37 = .ok (.iadd, 1) := by decide +kernel
theorem dX4_replaceActive_38 : decode cX4_replaceActive 38 = .ok (.putfield 86, 3) := by decide +kernel
theorem dX4_replaceActive_41 : decode cX4_replaceActive 41 = .ok (.iload_n 3, 1) := by decide +kernel
theorem dX4_replaceActive_42 : decode cX4_replaceActive 42 = .ok (.istore 5, 2) := by decide +kernel
theorem dX4_replaceActive_44 : decode cX4_replaceActive 44 = .ok (.iload 5, 2) := by decide +kernel
theorem dX4_replaceActive_46 : decode cX4_replaceActive 46 = .ok (.iload 4, 2) := by decide +kernel
theorem dX4_replaceActive_48 : decode cX4_replaceActive 48 = .ok (.if_icmp .ge 98, 3) := by decide +kernel
theorem dX4_replaceActive_51 : decode cX4_replaceActive 51 = .ok (.iload_n 1, 1) := by decide +kernel
theorem dX4_replaceActive_52 : decode cX4_replaceActive 52 = .ok (.iload 5, 2) := by decide +kernel
theorem dX4_replaceActive_54 : decode cX4_replaceActive 54 = .ok (.iadd, 1) := by decide +kernel
theorem dX4_replaceActive_55 : decode cX4_replaceActive 55 = .ok (.iload_n 3, 1) := by decide +kernel
theorem dX4_replaceActive_56 : decode cX4_replaceActive 56 = .ok (.isub, 1) := by decide +kernel
theorem dX4_replaceActive_57 : decode cX4_replaceActive 57 = .ok (.istore 6, 2) := by decide +kernel
theorem dX4_replaceActive_59 : decode cX4_replaceActive 59 = .ok (.iload 6, 2) := by decide +kernel
theorem dX4_replaceActive_61 : decode cX4_replaceActive 61 = .ok (.iload_n 1, 1) := by decide +kernel
theorem dX4_replaceActive_62 : decode cX4_replaceActive 62 = .ok (.if_icmp .le 69, 3) := by decide +kernel
theorem dX4_replaceActive_65 : decode cX4_replaceActive 65 = .ok (.aload_n 0, 1) := by decide +kernel
theorem dX4_replaceActive_66 : decode cX4_replaceActive 66 = .ok (.aload_n 0, 1) := by decide +kernel
theorem dX4_replaceActive_67 : decode cX4_replaceActive 67 = .ok (.getfield 58, 3) := by decide +kernel
theorem dX4_replaceActive_70 : decode cX4_replaceActive 70 = .ok (.getfield 103, 3) := by decide +kernel
theorem dX4_replaceActive_73 : decode cX4_replaceActive 73 = .ok (.iload 5, 2) := by decide +kernel
theorem dX4_replaceActive_75 : decode cX4_replaceActive 75 = .ok (.iaload, 1) := by decide +kernel
theorem dX4_replaceActive_76 : decode cX4_replaceActive 76 = .ok (.aload_n 0, 1) := by decide +kernel
theorem dX4_replaceActive_77 : decode cX4_replaceActive 77 = .ok (.getfield 58, 3) := by decide +kernel
theorem dX4_replaceActive_80 : decode cX4_replaceActive 80 = .ok (.getfield 97, 3) := by decide +kernel
theorem dX4_replaceActive_83 : decode cX4_replaceActive 83 = .ok (.aload_n 0, 1) := by decide +kernel
theorem dX4_replaceActive_84 : decode cX4_replaceActive 84 = .ok (.getfield 19, 3) := by decide +kernel
theorem dX4_replaceActive_87 : decode cX4_replaceActive 87 = .ok (.iload 6, 2) := by decide +kernel
theorem dX4_replaceActive_89 : decode cX4_replaceActive 89 = .ok (.iconst 1, 1) := by decide +kernel
theorem dX4_replaceActive_90 : decode cX4_replaceActive 90 = .ok (.isub, 1) := by decide +kernel
theorem dX4_replaceActive_91 : decode cX4_replaceActive 91 = .ok (.iaload, 1) := by decide +kernel
theorem dX4_replaceActive_92 : decode cX4_replaceActive 92 = .ok (.iaload, 1) := by decide +kernel
theorem dX4_replaceActive_93 : decode cX4_replaceActive 93 = .ok (.aload_n 0, 1) := by decide +kernel
theorem dX4_replaceActive_94 : decode cX4_replaceActive 94 = .ok (.getfield 58, 3) := by decide +kernel
theorem dX4_replaceActive_97 : decode cX4_replaceActive 97 = .ok (.getfield 97, 3) := by decide +kernel
theorem dX4_replaceActive_100 : decode cX4_replaceActive 100 = .ok (.iload 5, 2) := by decide +kernel
theorem dX4_replaceActive_102 : decode cX4_replaceActive 102 = .ok (.iaload, 1) := by decide +kernel
theorem dX4_replaceActive_103 : decode cX4_replaceActive 103 = .ok (.invokevirtual 110, 3) := by decide +kernel
theorem dX4_replaceActive_106 : decode cX4_replaceActive 106 = .ok (.ifCond .ge 25, 3) := by decide +kernel
theorem dX4_replaceActive_109 : decode cX4_replaceActive 109 = .ok (.aload_n 0, 1) := by decide +kernel
theorem dX4_replaceActive_110 : decode cX4_replaceActive 110 = .ok (.getfield 19, 3) := by decide +kernel
theorem dX4_replaceActive_113 : decode cX4_replaceActive 113 = .ok (.iload 6, 2) := by decide +kernel
theorem dX4_replaceActive_115 : decode cX4_replaceActive 115 = .ok (.aload_n 0, 1) := by decide +kernel
theorem dX4_replaceActive_116 : decode cX4_replaceActive 116 = .ok (.getfield 19, 3) := by decide +kernel
theorem dX4_replaceActive_119 : decode cX4_replaceActive 119 = .ok (.iload 6, 2) := by decide +kernel
theorem dX4_replaceActive_121 : decode cX4_replaceActive 121 = .ok (.iconst 1, 1) := by decide +kernel
theorem dX4_replaceActive_122 : decode cX4_replaceActive 122 = .ok (.isub, 1) := by decide +kernel
theorem dX4_replaceActive_123 : decode cX4_replaceActive 123 = .ok (.iaload, 1) := by decide +kernel
theorem dX4_replaceActive_124 : decode cX4_replaceActive 124 = .ok (.iastore, 1) := by decide +kernel
theorem dX4_replaceActive_125 : decode cX4_replaceActive 125 = .ok (.iinc 6 (-1), 3) := by decide +kernel
theorem dX4_replaceActive_128 : decode cX4_replaceActive 128 = .ok (.goto (-69), 3) := by decide +kernel
theorem dX4_replaceActive_131 : decode cX4_replaceActive 131 = .ok (.aload_n 0, 1) := by decide +kernel
theorem dX4_replaceActive_132 : decode cX4_replaceActive 132 = .ok (.getfield 19, 3) := by decide +kernel
theorem dX4_replaceActive_135 : decode cX4_replaceActive 135 = .ok (.iload 6, 2) := by decide +kernel
theorem dX4_replaceActive_137 : decode cX4_replaceActive 137 = .ok (.iload 5, 2) := by decide +kernel
theorem dX4_replaceActive_139 : decode cX4_replaceActive 139 = .ok (.iastore, 1) := by decide +kernel
theorem dX4_replaceActive_140 : decode cX4_replaceActive 140 = .ok (.iinc 5 1, 3) := by decide +kernel
theorem dX4_replaceActive_143 : decode cX4_replaceActive 143 = .ok (.goto (-99), 3) := by decide +kernel
theorem dX4_replaceActive_146 : decode cX4_replaceActive 146 = .ok (.iload_n 1, 1) := by decide +kernel
theorem dX4_replaceActive_147 : decode cX4_replaceActive 147 = .ok (.ifCond .le 19, 3) := by decide +kernel
theorem dX4_replaceActive_150 : decode cX4_replaceActive 150 = .ok (.aload_n 0, 1) := by decide +kernel
theorem dX4_replaceActive_151 : decode cX4_replaceActive 151 = .ok (.getfield 13, 3) := by decide +kernel
theorem dX4_replaceActive_154 : decode cX4_replaceActive 154 = .ok (.aload_n 0, 1) := by decide +kernel
theorem dX4_replaceActive_155 : decode cX4_replaceActive 155 = .ok (.getfield 19, 3) := by decide +kernel
theorem dX4_replaceActive_158 : decode cX4_replaceActive 158 = .ok (.iload_n 1, 1) := by decide +kernel
theorem dX4_replaceActive_159 : decode cX4_replaceActive 159 = .ok (.iconst 1, 1) := by decide +kernel
theorem dX4_replaceActive_160 : decode cX4_replaceActive 160 = .ok (.isub, 1) := by decide +kernel
theorem dX4_replaceActive_161 : decode cX4_replaceActive 161 = .ok (.iaload, 1) := by decide +kernel
theorem dX4_replaceActive_162 : decode cX4_replaceActive 162 = .ok (.iaload, 1) := by decide +kernel
theorem dX4_replaceActive_163 : decode cX4_replaceActive 163 = .ok (.goto 4, 3) := by decide +kernel
theorem dX4_replaceActive_166 : decode cX4_replaceActive 166 = .ok (.iconst 0, 1) := by decide +kernel
theorem dX4_replaceActive_167 : decode cX4_replaceActive 167 = .ok (.istore 5, 2) := by decide +kernel
theorem dX4_replaceActive_169 : decode cX4_replaceActive 169 = .ok (.iload_n 1, 1) := by decide +kernel
theorem dX4_replaceActive_170 : decode cX4_replaceActive 170 = .ok (.istore 6, 2) := by decide +kernel
theorem dX4_replaceActive_172 : decode cX4_replaceActive 172 = .ok (.iload 6, 2) := by decide +kernel
theorem dX4_replaceActive_174 : decode cX4_replaceActive 174 = .ok (.iload_n 1, 1) := by decide +kernel
theorem dX4_replaceActive_175 : decode cX4_replaceActive 175 = .ok (.iload 4, 2) := by decide +kernel
theorem dX4_replaceActive_177 : decode cX4_replaceActive 177 = .ok (.iadd, 1) := by decide +kernel
theorem dX4_replaceActive_178 : decode cX4_replaceActive 178 = .ok (.iload_n 3, 1) := by decide +kernel
theorem dX4_replaceActive_179 : decode cX4_replaceActive 179 = .ok (.isub, 1) := by decide +kernel
theorem dX4_replaceActive_180 : decode cX4_replaceActive 180 = .ok (.if_icmp .ge 43, 3) := by decide +kernel
theorem dX4_replaceActive_183 : decode cX4_replaceActive 183 = .ok (.iload 5, 2) := by decide +kernel
theorem dX4_replaceActive_185 : decode cX4_replaceActive 185 = .ok (.aload_n 0, 1) := by decide +kernel
theorem dX4_replaceActive_186 : decode cX4_replaceActive 186 = .ok (.getfield 58, 3) := by decide +kernel
theorem dX4_replaceActive_189 : decode cX4_replaceActive 189 = .ok (.getfield 130, 3) := by decide +kernel
theorem dX4_replaceActive_192 : decode cX4_replaceActive 192 = .ok (.aload_n 0, 1) := by decide +kernel
theorem dX4_replaceActive_193 : decode cX4_replaceActive 193 = .ok (.getfield 19, 3) := by decide +kernel
theorem dX4_replaceActive_196 : decode cX4_replaceActive 196 = .ok (.iload 6, 2) := by decide +kernel
theorem dX4_replaceActive_198 : decode cX4_replaceActive 198 = .ok (.iaload, 1) := by decide +kernel
theorem dX4_replaceActive_199 : decode cX4_replaceActive 199 = .ok (.iaload, 1) := by decide +kernel
theorem dX4_replaceActive_200 : decode cX4_replaceActive 200 = .ok (.ixor, 1) := by decide +kernel
theorem dX4_replaceActive_201 : decode cX4_replaceActive 201 = .ok (.istore 5, 2) := by decide +kernel
theorem dX4_replaceActive_203 : decode cX4_replaceActive 203 = .ok (.aload_n 0, 1) := by decide +kernel
theorem dX4_replaceActive_204 : decode cX4_replaceActive 204 = .ok (.getfield 13, 3) := by decide +kernel
theorem dX4_replaceActive_207 : decode cX4_replaceActive 207 = .ok (.aload_n 0, 1) := by decide +kernel
theorem dX4_replaceActive_208 : decode cX4_replaceActive 208 = .ok (.getfield 19, 3) := by decide +kernel
theorem dX4_replaceActive_211 : decode cX4_replaceActive 211 = .ok (.iload 6, 2) := by decide +kernel
theorem dX4_replaceActive_213 : decode cX4_replaceActive 213 = .ok (.iaload, 1) := by decide +kernel
theorem dX4_replaceActive_214 : decode cX4_replaceActive 214 = .ok (.iload 5, 2) := by decide +kernel
theorem dX4_replaceActive_216 : decode cX4_replaceActive 216 = .ok (.iastore, 1) := by decide +kernel
theorem dX4_replaceActive_217 : decode cX4_replaceActive 217 = .ok (.iinc 6 1, 3) := by decide +kernel
theorem dX4_replaceActive_220 : decode cX4_replaceActive 220 = .ok (.goto (-48), 3) := by decide +kernel
theorem dX4_replaceActive_223 : decode cX4_replaceActive 223 = .ok (.return_, 1) := by decide +kernel
theorem dX4_isInResult_0 : decode cX4_isInResult 0 = .ok (.iload_n 1, 1) := by decide +kernel
theorem dX4_isInResult_1 : decode cX4_isInResult 1 = .ok (.iconst 1, 1) := by decide +kernel
theorem dX4_isInResult_2 : decode cX4_isInResult 2 = .ok (.iand, 1) := by decide +kernel
theorem dX4_isInResult_3 : decode cX4_isInResult 3 = .ok (.ifCond .eq 7, 3) := by decide +kernel
theorem dX4_isInResult_6 : decode cX4_isInResult 6 = .ok (.iconst 1, 1) := by decide +kernel
theorem dX4_isInResult_7 : decode cX4_isInResult 7 = .ok (.goto 4, 3) := by decide +kernel
theorem dX4_isInResult_10 : decode cX4_isInResult 10 = .ok (.iconst 0, 1) := by decide +kernel
theorem dX4_isInResult_11 : decode cX4_isInResult 11 = .ok (.istore_n 2, 1) := by decide +kernel
theorem dX4_isInResult_12 : decode cX4_isInResult 12 = .ok (.iload_n 1, 1) := by decide +kernel
theorem dX4_isInResult_13 : decode cX4_isInResult 13 = .ok (.iconst 2, 1) := by decide +kernel
theorem dX4_isInResult_14 : decode cX4_isInResult 14 = .ok (.iand, 1) := by decide +kernel
theorem dX4_isInResult_15 : decode cX4_isInResult 15 = .ok (.ifCond .eq 7, 3) := by decide +kernel
theorem dX4_isInResult_18 : decode cX4_isInResult 18 = .ok (.iconst 1, 1) := by decide +kernel
theorem dX4_isInResult_19 : decode cX4_isInResult 19 = .ok (.goto 4, 3) := by decide +kernel
theorem dX4_isInResult_22 : decode cX4_isInResult 22 = .ok (.iconst 0, 1) := by decide +kernel
theorem dX4_isInResult_23 : decode cX4_isInResult 23 = .ok (.istore_n 3, 1) := by decide +kernel
theorem dX4_isInResult_24 : decode cX4_isInResult 24 = .ok (.iload_n 0, 1) := by decide +kernel
theorem dX4_isInResult_25 : decode cX4_isInResult 25 = .ok (.tableswitch 84 0 3 #[31, 45, 59, 73], 31) := by decide +kernel
theorem dX4_isInResult_56 : decode cX4_isInResult 56 = .ok (.iload_n 2, 1) := by decide +kernel
theorem dX4_isInResult_57 : decode cX4_isInResult 57 = .ok (.ifCond .eq 11, 3) := by decide +kernel
theorem dX4_isInResult_60 : decode cX4_isInResult 60 = .ok (.iload_n 3, 1) := by decide +kernel
theorem dX4_isInResult_61 : decode cX4_isInResult 61 = .ok (.ifCond .eq 7, 3) := by decide +kernel
theorem dX4_isInResult_64 : decode cX4_isInResult 64 = .ok (.iconst 1, 1) := by decide +kernel
theorem dX4_isInResult_65 : decode cX4_isInResult 65 = .ok (.goto 4, 3) := by decide +kernel
theorem dX4_isInResult_68 : decode cX4_isInResult 68 = .ok (.iconst 0, 1) := by decide +kernel
theorem dX4_isInResult_69 : decode cX4_isInResult 69 = .ok (.ireturn, 1) := by decide +kernel
theorem dX4_isInResult_70 : decode cX4_isInResult 70 = .ok (.iload_n 2, 1) := by decide +kernel
theorem dX4_isInResult_71 : decode cX4_isInResult 71 = .ok (.ifCond .ne 7, 3) := by decide +kernel
theorem dX4_isInResult_74 : decode cX4_isInResult 74 = .ok (.iload_n 3, 1) := by decide +kernel
theorem dX4_isInResult_75 : decode cX4_isInResult 75 = .ok (.ifCond .eq 7, 3) := by decide +kernel
theorem dX4_isInResult_78 : decode cX4_isInResult 78 = .ok (.iconst 1, 1) := by decide +kernel
theorem dX4_isInResult_79 : decode cX4_isInResult 79 = .ok (.goto 4, 3) := by decide +kernel
theorem dX4_isInResult_82 : decode cX4_isInResult 82 = .ok (.iconst 0, 1) := by decide +kernel
theorem dX4_isInResult_83 : decode cX4_isInResult 83 = .ok (.ireturn, 1) := by decide +kernel
theorem dX4_isInResult_84 : decode cX4_isInResult 84 = .ok (.iload_n 2, 1) := by decide +kernel
theorem dX4_isInResult_85 : decode cX4_isInResult 85 = .ok (.ifCond .eq 11, 3) := by decide +kernel
theorem dX4_isInResult_88 : decode cX4_isInResult 88 = .ok (.iload_n 3, 1) := by decide +kernel
theorem dX4_isInResult_89 : decode cX4_isInResult 89 = .ok (.ifCond .ne 7, 3) := by decide +kernel
theorem dX4_isInResult_92 : decode cX4_isInResult 92 = .ok (.iconst 1, 1) := by decide +kernel
theorem dX4_isInResult_93 : decode cX4_isInResult 93 = .ok (.goto 4, 3) := by decide +kernel
theorem dX4_isInResult_96 : decode cX4_isInResult 96 = .ok (.iconst 0, 1) := by decide +kernel
theorem dX4_isInResult_97 : decode cX4_isInResult 97 = .ok (.ireturn, 1) := by decide +kernel
theorem dX4_isInResult_98 : decode cX4_isInResult 98 = .ok (.iload_n 2, 1) := by decide +kernel
theorem dX4_isInResult_99 : decode cX4_isInResult 99 = .ok (.iload_n 3, 1) := by decide +kernel
theorem dX4_isInResult_100 : decode cX4_isInResult 100 = .ok (.if_icmp .eq 7, 3) := by decide +kernel
theorem dX4_isInResult_103 : decode cX4_isInResult 103 = .ok (.iconst 1, 1) := by decide +kernel
theorem dX4_isInResult_104 : decode cX4_isInResult 104 = .ok (.goto 4, 3) := by decide +kernel
theorem dX4_isInResult_107 : decode cX4_isInResult 107 = .ok (.iconst 0, 1) := by decide +kernel
theorem dX4_isInResult_108 : decode cX4_isInResult 108 = .ok (.ireturn, 1) := by decide +kernel
theorem dX4_isInResult_109 : decode cX4_isInResult 109 = .ok (.iload_n 3, 1) := by decide +kernel
theorem dX4_isInResult_110 : decode cX4_isInResult 110 = .ok (.ifCond .eq 11, 3) := by decide +kernel
theorem dX4_isInResult_113 : decode cX4_isInResult 113 = .ok (.iload_n 2, 1) := by decide +kernel
theorem dX4_isInResult_114 : decode cX4_isInResult 114 = .ok (.ifCond .ne 7, 3) := by decide +kernel
theorem dX4_isInResult_117 : decode cX4_isInResult 117 = .ok (.iconst 1, 1) := by decide +kernel
theorem dX4_isInResult_118 : decode cX4_isInResult 118 = .ok (.goto 4, 3) := by decide +kernel
theorem dX4_isInResult_121 : decode cX4_isInResult 121 = .ok (.iconst 0, 1) := by decide +kernel
theorem dX4_isInResult_122 : decode cX4_isInResult 122 = .ok (.ireturn, 1) := by decide +kernel
theorem dX4_markBoundary_0 : decode cX4_markBoundary 0 = .ok (.iconst 0, 1) := by decide +kernel
theorem dX4_markBoundary_1 : decode cX4_markBoundary 1 = .ok (.istore_n 2, 1) := by decide +kernel
theorem dX4_markBoundary_2 : decode cX4_markBoundary 2 = .ok (.iload_n 2, 1) := by decide +kernel
theorem dX4_markBoundary_3 : decode cX4_markBoundary 3 = .ok (.aload_n 0, 1) := by decide +kernel
theorem dX4_markBoundary_4 : decode cX4_markBoundary 4 = .ok (.getfield 58, 3) := by decide +kernel
theorem dX4_markBoundary_7 : decode cX4_markBoundary 7 = .ok (.getfield 100, 3) := by decide +kernel
theorem dX4_markBoundary_10 : decode cX4_markBoundary 10 = .ok (.if_icmp .ge 67, 3) := by decide +kernel
theorem dX4_markBoundary_13 : decode cX4_markBoundary 13 = .ok (.iload_n 1, 1) := by decide +kernel
theorem dX4_markBoundary_14 : decode cX4_markBoundary 14 = .ok (.aload_n 0, 1) := by decide +kernel
theorem dX4_markBoundary_15 : decode cX4_markBoundary 15 = .ok (.getfield 13, 3) := by decide +kernel
theorem dX4_markBoundary_18 : decode cX4_markBoundary 18 = .ok (.iload_n 2, 1) := by decide +kernel
theorem dX4_markBoundary_19 : decode cX4_markBoundary 19 = .ok (.iaload, 1) := by decide +kernel
theorem dX4_markBoundary_20 : decode cX4_markBoundary 20 = .ok (.invokestatic 133, 3) := by decide +kernel
theorem dX4_markBoundary_23 : decode cX4_markBoundary 23 = .ok (.istore_n 3, 1) := by decide +kernel
theorem dX4_markBoundary_24 : decode cX4_markBoundary 24 = .ok (.iload_n 1, 1) := by decide +kernel
theorem dX4_markBoundary_25 : decode cX4_markBoundary 25 = .ok (.aload_n 0, 1) := by decide +kernel
theorem dX4_markBoundary_26 : decode cX4_markBoundary 26 = .ok (.getfield 13, 3) := by decide +kernel
theorem dX4_markBoundary_29 : decode cX4_markBoundary 29 = .ok (.iload_n 2, 1) := by decide +kernel
theorem dX4_markBoundary_30 : decode cX4_markBoundary 30 = .ok (.iaload, 1) := by decide +kernel
theorem dX4_markBoundary_31 : decode cX4_markBoundary 31 = .ok (.aload_n 0, 1) := by decide +kernel
theorem dX4_markBoundary_32 : decode cX4_markBoundary 32 = .ok (.getfield 58, 3) := by decide +kernel
theorem dX4_markBoundary_35 : decode cX4_markBoundary 35 = .ok (.getfield 130, 3) := by decide +kernel
theorem dX4_markBoundary_38 : decode cX4_markBoundary 38 = .ok (.iload_n 2, 1) := by decide +kernel
theorem dX4_markBoundary_39 : decode cX4_markBoundary 39 = .ok (.iaload, 1) := by decide +kernel
theorem dX4_markBoundary_40 : decode cX4_markBoundary 40 = .ok (.ixor, 1) := by decide +kernel
theorem dX4_markBoundary_41 : decode cX4_markBoundary 41 = .ok (.invokestatic 133, 3) := by decide +kernel
theorem dX4_markBoundary_44 : decode cX4_markBoundary 44 = .ok (.istore 4, 2) := by decide +kernel
theorem dX4_markBoundary_46 : decode cX4_markBoundary 46 = .ok (.aload_n 0, 1) := by decide +kernel
theorem dX4_markBoundary_47 : decode cX4_markBoundary 47 = .ok (.getfield 22, 3) := by decide +kernel
theorem dX4_markBoundary_50 : decode cX4_markBoundary 50 = .ok (.iload_n 2, 1) := by decide +kernel
theorem dX4_markBoundary_51 : decode cX4_markBoundary 51 = .ok (.iload_n 3, 1) := by decide +kernel
theorem dX4_markBoundary_52 : decode cX4_markBoundary 52 = .ok (.iload 4, 2) := by decide +kernel
theorem dX4_markBoundary_54 : decode cX4_markBoundary 54 = .ok (.if_icmp .eq 7, 3) := by decide +kernel
theorem dX4_markBoundary_57 : decode cX4_markBoundary 57 = .ok (.iconst 1, 1) := by decide +kernel
theorem dX4_markBoundary_58 : decode cX4_markBoundary 58 = .ok (.goto 4, 3) := by decide +kernel
theorem dX4_markBoundary_61 : decode cX4_markBoundary 61 = .ok (.iconst 0, 1) := by decide +kernel
theorem dX4_markBoundary_62 : decode cX4_markBoundary 62 = .ok (.bastore, 1) := by decide +kernel
theorem dX4_markBoundary_63 : decode cX4_markBoundary 63 = .ok (.aload_n 0, 1) := by decide +kernel
theorem dX4_markBoundary_64 : decode cX4_markBoundary 64 = .ok (.getfield 26, 3) := by decide +kernel
theorem dX4_markBoundary_67 : decode cX4_markBoundary 67 = .ok (.iload_n 2, 1) := by decide +kernel
theorem dX4_markBoundary_68 : decode cX4_markBoundary 68 = .ok (.iload 4, 2) := by decide +kernel
theorem dX4_markBoundary_70 : decode cX4_markBoundary 70 = .ok (.bastore, 1) := by decide +kernel
theorem dX4_markBoundary_71 : decode cX4_markBoundary 71 = .ok (.iinc 2 1, 3) := by decide +kernel
theorem dX4_markBoundary_74 : decode cX4_markBoundary 74 = .ok (.goto (-72), 3) := by decide +kernel
theorem dX4_markBoundary_77 : decode cX4_markBoundary 77 = .ok (.return_, 1) := by decide +kernel
theorem dX4_listIncident_0 : decode cX4_listIncident 0 = .ok (.aload_n 0, 1) := by decide +kernel
theorem dX4_listIncident_1 : decode cX4_listIncident 1 = .ok (.getfield 58, 3) := by decide +kernel
theorem dX4_listIncident_4 : decode cX4_listIncident 4 = .ok (.getfield 90, 3) := by decide +kernel
theorem dX4_listIncident_7 : decode cX4_listIncident 7 = .ok (.iconst 2, 1) := by decide +kernel
theorem dX4_listIncident_8 : decode cX4_listIncident 8 = .ok (.iadd, 1) := by decide +kernel
theorem dX4_listIncident_9 : decode cX4_listIncident 9 = .ok (.istore_n 1, 1) := by decide +kernel
theorem dX4_listIncident_10 : decode cX4_listIncident 10 = .ok (.aload_n 0, 1) := by decide +kernel
theorem dX4_listIncident_11 : decode cX4_listIncident 11 = .ok (.getfield 29, 3) := by decide +kernel
theorem dX4_listIncident_14 : decode cX4_listIncident 14 = .ok (.iconst 0, 1) := by decide +kernel
theorem dX4_listIncident_15 : decode cX4_listIncident 15 = .ok (.iload_n 1, 1) := by decide +kernel
theorem dX4_listIncident_16 : decode cX4_listIncident 16 = .ok (.iconst 0, 1) := by decide +kernel
theorem dX4_listIncident_17 : decode cX4_listIncident 17 = .ok (.invokestatic 137, 3) := by decide +kernel
theorem dX4_listIncident_20 : decode cX4_listIncident 20 = .ok (.iconst 0, 1) := by decide +kernel
theorem dX4_listIncident_21 : decode cX4_listIncident 21 = .ok (.istore_n 2, 1) := by decide +kernel
theorem dX4_listIncident_22 : decode cX4_listIncident 22 = .ok (.iload_n 2, 1) := by decide +kernel
theorem dX4_listIncident_23 : decode cX4_listIncident 23 = .ok (.aload_n 0, 1) := by decide +kernel
theorem dX4_listIncident_24 : decode cX4_listIncident 24 = .ok (.getfield 58, 3) := by decide +kernel
theorem dX4_listIncident_27 : decode cX4_listIncident 27 = .ok (.getfield 100, 3) := by decide +kernel
theorem dX4_listIncident_30 : decode cX4_listIncident 30 = .ok (.if_icmp .ge 58, 3) := by decide +kernel
theorem dX4_listIncident_33 : decode cX4_listIncident 33 = .ok (.aload_n 0, 1) := by decide +kernel
theorem dX4_listIncident_34 : decode cX4_listIncident 34 = .ok (.getfield 22, 3) := by decide +kernel
theorem dX4_listIncident_37 : decode cX4_listIncident 37 = .ok (.iload_n 2, 1) := by decide +kernel
theorem dX4_listIncident_38 : decode cX4_listIncident 38 = .ok (.baload, 1) := by decide +kernel
theorem dX4_listIncident_39 : decode cX4_listIncident 39 = .ok (.ifCond .eq 43, 3) := by decide +kernel
theorem dX4_listIncident_42 : decode cX4_listIncident 42 = .ok (.aload_n 0, 1) := by decide +kernel
theorem dX4_listIncident_43 : decode cX4_listIncident 43 = .ok (.getfield 29, 3) := by decide +kernel
theorem dX4_listIncident_46 : decode cX4_listIncident 46 = .ok (.aload_n 0, 1) := by decide +kernel
theorem dX4_listIncident_47 : decode cX4_listIncident 47 = .ok (.getfield 58, 3) := by decide +kernel
theorem dX4_listIncident_50 : decode cX4_listIncident 50 = .ok (.getfield 103, 3) := by decide +kernel
theorem dX4_listIncident_53 : decode cX4_listIncident 53 = .ok (.iload_n 2, 1) := by decide +kernel
theorem dX4_listIncident_54 : decode cX4_listIncident 54 = .ok (.iaload, 1) := by decide +kernel
theorem dX4_listIncident_55 : decode cX4_listIncident 55 = .ok (.iconst 2, 1) := by decide +kernel
theorem dX4_listIncident_56 : decode cX4_listIncident 56 = .ok (.iadd, 1) := by decide +kernel
theorem dX4_listIncident_57 : decode cX4_listIncident 57 = .ok (.dup2, 1) := by decide +kernel
theorem dX4_listIncident_58 : decode cX4_listIncident 58 = .ok (.iaload, 1) := by decide +kernel
theorem dX4_listIncident_59 : decode cX4_listIncident 59 = .ok (.iconst 1, 1) := by decide +kernel
theorem dX4_listIncident_60 : decode cX4_listIncident 60 = .ok (.iadd, 1) := by decide +kernel
theorem dX4_listIncident_61 : decode cX4_listIncident 61 = .ok (.iastore, 1) := by decide +kernel
theorem dX4_listIncident_62 : decode cX4_listIncident 62 = .ok (.aload_n 0, 1) := by decide +kernel
theorem dX4_listIncident_63 : decode cX4_listIncident 63 = .ok (.getfield 29, 3) := by decide +kernel
theorem dX4_listIncident_66 : decode cX4_listIncident 66 = .ok (.aload_n 0, 1) := by decide +kernel
theorem dX4_listIncident_67 : decode cX4_listIncident 67 = .ok (.getfield 58, 3) := by decide +kernel
theorem dX4_listIncident_70 : decode cX4_listIncident 70 = .ok (.getfield 97, 3) := by decide +kernel
theorem dX4_listIncident_73 : decode cX4_listIncident 73 = .ok (.iload_n 2, 1) := by decide +kernel
theorem dX4_listIncident_74 : decode cX4_listIncident 74 = .ok (.iaload, 1) := by decide +kernel
theorem dX4_listIncident_75 : decode cX4_listIncident 75 = .ok (.iconst 2, 1) := by decide +kernel
theorem dX4_listIncident_76 : decode cX4_listIncident 76 = .ok (.iadd, 1) := by decide +kernel
theorem dX4_listIncident_77 : decode cX4_listIncident 77 = .ok (.dup2, 1) := by decide +kernel
theorem dX4_listIncident_78 : decode cX4_listIncident 78 = .ok (.iaload, 1) := by decide +kernel
theorem dX4_listIncident_79 : decode cX4_listIncident 79 = .ok (.iconst 1, 1) := by decide +kernel
theorem dX4_listIncident_80 : decode cX4_listIncident 80 = .ok (.iadd, 1) := by decide +kernel
theorem dX4_listIncident_81 : decode cX4_listIncident 81 = .ok (.iastore, 1) := by decide +kernel
theorem dX4_listIncident_82 : decode cX4_listIncident 82 = .ok (.iinc 2 1, 3) := by decide +kernel
theorem dX4_listIncident_85 : decode cX4_listIncident 85 = .ok (.goto (-63), 3) := by decide +kernel
theorem dX4_listIncident_88 : decode cX4_listIncident 88 = .ok (.iconst 2, 1) := by decide +kernel
theorem dX4_listIncident_89 : decode cX4_listIncident 89 = .ok (.istore_n 2, 1) := by decide +kernel
theorem dX4_listIncident_90 : decode cX4_listIncident 90 = .ok (.iload_n 2, 1) := by decide +kernel
theorem dX4_listIncident_91 : decode cX4_listIncident 91 = .ok (.iload_n 1, 1) := by decide +kernel
theorem dX4_listIncident_92 : decode cX4_listIncident 92 = .ok (.if_icmp .ge 26, 3) := by decide +kernel
theorem dX4_listIncident_95 : decode cX4_listIncident 95 = .ok (.aload_n 0, 1) := by decide +kernel
theorem dX4_listIncident_96 : decode cX4_listIncident 96 = .ok (.getfield 29, 3) := by decide +kernel
theorem dX4_listIncident_99 : decode cX4_listIncident 99 = .ok (.iload_n 2, 1) := by decide +kernel
theorem dX4_listIncident_100 : decode cX4_listIncident 100 = .ok (.dup2, 1) := by decide +kernel
theorem dX4_listIncident_101 : decode cX4_listIncident 101 = .ok (.iaload, 1) := by decide +kernel
theorem dX4_listIncident_102 : decode cX4_listIncident 102 = .ok (.aload_n 0, 1) := by decide +kernel
theorem dX4_listIncident_103 : decode cX4_listIncident 103 = .ok (.getfield 29, 3) := by decide +kernel
theorem dX4_listIncident_106 : decode cX4_listIncident 106 = .ok (.iload_n 2, 1) := by decide +kernel
theorem dX4_listIncident_107 : decode cX4_listIncident 107 = .ok (.iconst 1, 1) := by decide +kernel
theorem dX4_listIncident_108 : decode cX4_listIncident 108 = .ok (.isub, 1) := by decide +kernel
theorem dX4_listIncident_109 : decode cX4_listIncident 109 = .ok (.iaload, 1) := by decide +kernel
theorem dX4_listIncident_110 : decode cX4_listIncident 110 = .ok (.iadd, 1) := by decide +kernel
theorem dX4_listIncident_111 : decode cX4_listIncident 111 = .ok (.iastore, 1) := by decide +kernel
theorem dX4_listIncident_112 : decode cX4_listIncident 112 = .ok (.iinc 2 1, 3) := by decide +kernel
theorem dX4_listIncident_115 : decode cX4_listIncident 115 = .ok (.goto (-25), 3) := by decide +kernel
theorem dX4_listIncident_118 : decode cX4_listIncident 118 = .ok (.iconst 0, 1) := by decide +kernel
theorem dX4_listIncident_119 : decode cX4_listIncident 119 = .ok (.istore_n 2, 1) := by decide +kernel
theorem dX4_listIncident_120 : decode cX4_listIncident 120 = .ok (.iload_n 2, 1) := by decide +kernel
theorem dX4_listIncident_121 : decode cX4_listIncident 121 = .ok (.aload_n 0, 1) := by decide +kernel
theorem dX4_listIncident_122 : decode cX4_listIncident 122 = .ok (.getfield 58, 3) := by decide +kernel
theorem dX4_listIncident_125 : decode cX4_listIncident 125 = .ok (.getfield 100, 3) := by decide +kernel
theorem dX4_listIncident_128 : decode cX4_listIncident 128 = .ok (.if_icmp .ge 46, 3) := by decide +kernel
theorem dX4_listIncident_131 : decode cX4_listIncident 131 = .ok (.aload_n 0, 1) := by decide +kernel
theorem dX4_listIncident_132 : decode cX4_listIncident 132 = .ok (.getfield 22, 3) := by decide +kernel
theorem dX4_listIncident_135 : decode cX4_listIncident 135 = .ok (.iload_n 2, 1) := by decide +kernel
theorem dX4_listIncident_136 : decode cX4_listIncident 136 = .ok (.baload, 1) := by decide +kernel
theorem dX4_listIncident_137 : decode cX4_listIncident 137 = .ok (.ifCond .eq 31, 3) := by decide +kernel
theorem dX4_listIncident_140 : decode cX4_listIncident 140 = .ok (.aload_n 0, 1) := by decide +kernel
theorem dX4_listIncident_141 : decode cX4_listIncident 141 = .ok (.aload_n 0, 1) := by decide +kernel
theorem dX4_listIncident_142 : decode cX4_listIncident 142 = .ok (.getfield 58, 3) := by decide +kernel
theorem dX4_listIncident_145 : decode cX4_listIncident 145 = .ok (.getfield 103, 3) := by decide +kernel
theorem dX4_listIncident_148 : decode cX4_listIncident 148 = .ok (.iload_n 2, 1) := by decide +kernel
theorem dX4_listIncident_149 : decode cX4_listIncident 149 = .ok (.iaload, 1) := by decide +kernel
theorem dX4_listIncident_150 : decode cX4_listIncident 150 = .ok (.iload_n 2, 1) := by decide +kernel
theorem dX4_listIncident_151 : decode cX4_listIncident 151 = .ok (.invokevirtual 143, 3) := by decide +kernel
theorem dX4_listIncident_154 : decode cX4_listIncident 154 = .ok (.aload_n 0, 1) := by decide +kernel
theorem dX4_listIncident_155 : decode cX4_listIncident 155 = .ok (.aload_n 0, 1) := by decide +kernel
theorem dX4_listIncident_156 : decode cX4_listIncident 156 = .ok (.getfield 58, 3) := by decide +kernel
theorem dX4_listIncident_159 : decode cX4_listIncident 159 = .ok (.getfield 97, 3) := by decide +kernel
theorem dX4_listIncident_162 : decode cX4_listIncident 162 = .ok (.iload_n 2, 1) := by decide +kernel
theorem dX4_listIncident_163 : decode cX4_listIncident 163 = .ok (.iaload, 1) := by decide +kernel
theorem dX4_listIncident_164 : decode cX4_listIncident 164 = .ok (.iload_n 2, 1) := by decide +kernel
theorem dX4_listIncident_165 : decode cX4_listIncident 165 = .ok (.invokevirtual 143, 3) := by decide +kernel
theorem dX4_listIncident_168 : decode cX4_listIncident 168 = .ok (.iinc 2 1, 3) := by decide +kernel
theorem dX4_listIncident_171 : decode cX4_listIncident 171 = .ok (.goto (-51), 3) := by decide +kernel
theorem dX4_listIncident_174 : decode cX4_listIncident 174 = .ok (.return_, 1) := by decide +kernel
theorem dX4_addIncident_0 : decode cX4_addIncident 0 = .ok (.aload_n 0, 1) := by decide +kernel
theorem dX4_addIncident_1 : decode cX4_addIncident 1 = .ok (.getfield 33, 3) := by decide +kernel
theorem dX4_addIncident_4 : decode cX4_addIncident 4 = .ok (.aload_n 0, 1) := by decide +kernel
theorem dX4_addIncident_5 : decode cX4_addIncident 5 = .ok (.getfield 29, 3) := by decide +kernel
theorem dX4_addIncident_8 : decode cX4_addIncident 8 = .ok (.iload_n 1, 1) := by decide +kernel
theorem dX4_addIncident_9 : decode cX4_addIncident 9 = .ok (.iconst 1, 1) := by decide +kernel
theorem dX4_addIncident_10 : decode cX4_addIncident 10 = .ok (.iadd, 1) := by decide +kernel
theorem dX4_addIncident_11 : decode cX4_addIncident 11 = .ok (.iaload, 1) := by decide +kernel
theorem dX4_addIncident_12 : decode cX4_addIncident 12 = .ok (.iload_n 2, 1) := by decide +kernel
theorem dX4_addIncident_13 : decode cX4_addIncident 13 = .ok (.iastore, 1) := by decide +kernel
theorem dX4_addIncident_14 : decode cX4_addIncident 14 = .ok (.aload_n 0, 1) := by decide +kernel
theorem dX4_addIncident_15 : decode cX4_addIncident 15 = .ok (.getfield 29, 3) := by decide +kernel
theorem dX4_addIncident_18 : decode cX4_addIncident 18 = .ok (.iload_n 1, 1) := by decide +kernel
theorem dX4_addIncident_19 : decode cX4_addIncident 19 = .ok (.iconst 1, 1) := by decide +kernel
theorem dX4_addIncident_20 : decode cX4_addIncident 20 = .ok (.iadd, 1) := by decide +kernel
theorem dX4_addIncident_21 : decode cX4_addIncident 21 = .ok (.dup2, 1) := by decide +kernel
theorem dX4_addIncident_22 : decode cX4_addIncident 22 = .ok (.iaload, 1) := by decide +kernel
theorem dX4_addIncident_23 : decode cX4_addIncident 23 = .ok (.iconst 1, 1) := by decide +kernel
theorem dX4_addIncident_24 : decode cX4_addIncident 24 = .ok (.iadd, 1) := by decide +kernel
theorem dX4_addIncident_25 : decode cX4_addIncident 25 = .ok (.iastore, 1) := by decide +kernel
theorem dX4_addIncident_26 : decode cX4_addIncident 26 = .ok (.return_, 1) := by decide +kernel
theorem dX4_startOf_0 : decode cX4_startOf 0 = .ok (.aload_n 0, 1) := by decide +kernel
theorem dX4_startOf_1 : decode cX4_startOf 1 = .ok (.getfield 26, 3) := by decide +kernel
theorem dX4_startOf_4 : decode cX4_startOf 4 = .ok (.iload_n 1, 1) := by decide +kernel
theorem dX4_startOf_5 : decode cX4_startOf 5 = .ok (.baload, 1) := by decide +kernel
theorem dX4_startOf_6 : decode cX4_startOf 6 = .ok (.ifCond .eq 15, 3) := by decide +kernel
theorem dX4_startOf_9 : decode cX4_startOf 9 = .ok (.aload_n 0, 1) := by decide +kernel
theorem dX4_startOf_10 : decode cX4_startOf 10 = .ok (.getfield 58, 3) := by decide +kernel
theorem dX4_startOf_13 : decode cX4_startOf 13 = .ok (.getfield 97, 3) := by decide +kernel
theorem dX4_startOf_16 : decode cX4_startOf 16 = .ok (.iload_n 1, 1) := by decide +kernel
theorem dX4_startOf_17 : decode cX4_startOf 17 = .ok (.iaload, 1) := by decide +kernel
theorem dX4_startOf_18 : decode cX4_startOf 18 = .ok (.goto 12, 3) := by decide +kernel
theorem dX4_startOf_21 : decode cX4_startOf 21 = .ok (.aload_n 0, 1) := by decide +kernel
theorem dX4_startOf_22 : decode cX4_startOf 22 = .ok (.getfield 58, 3) := by decide +kernel
theorem dX4_startOf_25 : decode cX4_startOf 25 = .ok (.getfield 103, 3) := by decide +kernel
theorem dX4_startOf_28 : decode cX4_startOf 28 = .ok (.iload_n 1, 1) := by decide +kernel
theorem dX4_startOf_29 : decode cX4_startOf 29 = .ok (.iaload, 1) := by decide +kernel
theorem dX4_startOf_30 : decode cX4_startOf 30 = .ok (.ireturn, 1) := by decide +kernel
theorem dX4_finishOf_0 : decode cX4_finishOf 0 = .ok (.aload_n 0, 1) := by decide +kernel
theorem dX4_finishOf_1 : decode cX4_finishOf 1 = .ok (.getfield 26, 3) := by decide +kernel
theorem dX4_finishOf_4 : decode cX4_finishOf 4 = .ok (.iload_n 1, 1) := by decide +kernel
theorem dX4_finishOf_5 : decode cX4_finishOf 5 = .ok (.baload, 1) := by decide +kernel
theorem dX4_finishOf_6 : decode cX4_finishOf 6 = .ok (.ifCond .eq 15, 3) := by decide +kernel
theorem dX4_finishOf_9 : decode cX4_finishOf 9 = .ok (.aload_n 0, 1) := by decide +kernel
theorem dX4_finishOf_10 : decode cX4_finishOf 10 = .ok (.getfield 58, 3) := by decide +kernel
theorem dX4_finishOf_13 : decode cX4_finishOf 13 = .ok (.getfield 103, 3) := by decide +kernel
theorem dX4_finishOf_16 : decode cX4_finishOf 16 = .ok (.iload_n 1, 1) := by decide +kernel
theorem dX4_finishOf_17 : decode cX4_finishOf 17 = .ok (.iaload, 1) := by decide +kernel
theorem dX4_finishOf_18 : decode cX4_finishOf 18 = .ok (.goto 12, 3) := by decide +kernel
theorem dX4_finishOf_21 : decode cX4_finishOf 21 = .ok (.aload_n 0, 1) := by decide +kernel
theorem dX4_finishOf_22 : decode cX4_finishOf 22 = .ok (.getfield 58, 3) := by decide +kernel
theorem dX4_finishOf_25 : decode cX4_finishOf 25 = .ok (.getfield 97, 3) := by decide +kernel
theorem dX4_finishOf_28 : decode cX4_finishOf 28 = .ok (.iload_n 1, 1) := by decide +kernel
theorem dX4_finishOf_29 : decode cX4_finishOf 29 = .ok (.iaload, 1) := by decide +kernel
theorem dX4_finishOf_30 : decode cX4_finishOf 30 = .ok (.ireturn, 1) := by decide +kernel
theorem dX4_traceRings_0 : decode cX4_traceRings 0 = .ok (.aload_n 0, 1) := by decide +kernel
theorem dX4_traceRings_1 : decode cX4_traceRings 1 = .ok (.iconst 0, 1) := by decide +kernel
theorem dX4_traceRings_2 : decode cX4_traceRings 2 = .ok (.putfield 147, 3) := by decide +kernel
theorem dX4_traceRings_5 : decode cX4_traceRings 5 = .ok (.aload_n 0, 1) := by decide +kernel
theorem dX4_traceRings_6 : decode cX4_traceRings 6 = .ok (.iconst 0, 1) := by decide +kernel
theorem dX4_traceRings_7 : decode cX4_traceRings 7 = .ok (.putfield 150, 3) := by decide +kernel
theorem dX4_traceRings_10 : decode cX4_traceRings 10 = .ok (.aload_n 0, 1) := by decide +kernel
theorem dX4_traceRings_11 : decode cX4_traceRings 11 = .ok (.getfield 39, 3) := by decide +kernel
theorem dX4_traceRings_14 : decode cX4_traceRings 14 = .ok (.iconst 0, 1) := by decide +kernel
theorem dX4_traceRings_15 : decode cX4_traceRings 15 = .ok (.aload_n 0, 1) := by decide +kernel
theorem dX4_traceRings_16 : decode cX4_traceRings 16 = .ok (.getfield 58, 3) := by decide +kernel
theorem dX4_traceRings_19 : decode cX4_traceRings 19 = .ok (.getfield 90, 3) := by decide +kernel
theorem dX4_traceRings_22 : decode cX4_traceRings 22 = .ok (.iconst 0, 1) := by decide +kernel
theorem dX4_traceRings_23 : decode cX4_traceRings 23 = .ok (.invokestatic 137, 3) := by decide +kernel
theorem dX4_traceRings_26 : decode cX4_traceRings 26 = .ok (.iconst 0, 1) := by decide +kernel
theorem dX4_traceRings_27 : decode cX4_traceRings 27 = .ok (.istore_n 1, 1) := by decide +kernel
theorem dX4_traceRings_28 : decode cX4_traceRings 28 = .ok (.iload_n 1, 1) := by decide +kernel
theorem dX4_traceRings_29 : decode cX4_traceRings 29 = .ok (.aload_n 0, 1) := by decide +kernel
theorem dX4_traceRings_30 : decode cX4_traceRings 30 = .ok (.getfield 58, 3) := by decide +kernel
theorem dX4_traceRings_33 : decode cX4_traceRings 33 = .ok (.getfield 100, 3) := by decide +kernel
theorem dX4_traceRings_36 : decode cX4_traceRings 36 = .ok (.if_icmp .ge 28, 3) := by decide +kernel
theorem dX4_traceRings_39 : decode cX4_traceRings 39 = .ok (.aload_n 0, 1) := by decide +kernel
theorem dX4_traceRings_40 : decode cX4_traceRings 40 = .ok (.getfield 22, 3) := by decide +kernel
theorem dX4_traceRings_43 : decode cX4_traceRings 43 = .ok (.iload_n 1, 1) := by decide +kernel
theorem dX4_traceRings_44 : decode cX4_traceRings 44 = .ok (.baload, 1) := by decide +kernel
theorem dX4_traceRings_45 : decode cX4_traceRings 45 = .ok (.ifCond .eq 13, 3) := by decide +kernel
theorem dX4_traceRings_48 : decode cX4_traceRings 48 = .ok (.aload_n 0, 1) := by decide +kernel
theorem dX4_traceRings_49 : decode cX4_traceRings 49 = .ok (.iload_n 1, 1) := by decide +kernel
theorem dX4_traceRings_50 : decode cX4_traceRings 50 = .ok (.invokevirtual 153, 3) := by decide +kernel
theorem dX4_traceRings_53 : decode cX4_traceRings 53 = .ok (.ifCond .ne 5, 3) := by decide +kernel
theorem dX4_traceRings_56 : decode cX4_traceRings 56 = .ok (.iconst 0, 1) := by decide +kernel
theorem dX4_traceRings_57 : decode cX4_traceRings 57 = .ok (.ireturn, 1) := by decide +kernel
theorem dX4_traceRings_58 : decode cX4_traceRings 58 = .ok (.iinc 1 1, 3) := by decide +kernel
theorem dX4_traceRings_61 : decode cX4_traceRings 61 = .ok (.goto (-33), 3) := by decide +kernel
theorem dX4_traceRings_64 : decode cX4_traceRings 64 = .ok (.iconst 1, 1) := by decide +kernel
theorem dX4_traceRings_65 : decode cX4_traceRings 65 = .ok (.ireturn, 1) := by decide +kernel
theorem dX4_trace_0 : decode cX4_trace 0 = .ok (.iconst 1, 1) := by decide +kernel
theorem dX4_trace_1 : decode cX4_trace 1 = .ok (.istore_n 2, 1) := by decide +kernel
theorem dX4_trace_2 : decode cX4_trace 2 = .ok (.aload_n 0, 1) := by decide +kernel
theorem dX4_trace_3 : decode cX4_trace 3 = .ok (.getfield 36, 3) := by decide +kernel
theorem dX4_trace_6 : decode cX4_trace 6 = .ok (.iconst 0, 1) := by decide +kernel
theorem dX4_trace_7 : decode cX4_trace 7 = .ok (.aload_n 0, 1) := by decide +kernel
theorem dX4_trace_8 : decode cX4_trace 8 = .ok (.iload_n 1, 1) := by decide +kernel
theorem dX4_trace_9 : decode cX4_trace 9 = .ok (.invokevirtual 157, 3) := by decide +kernel
theorem dX4_trace_12 : decode cX4_trace 12 = .ok (.iastore, 1) := by decide +kernel
theorem dX4_trace_13 : decode cX4_trace 13 = .ok (.aload_n 0, 1) := by decide +kernel
theorem dX4_trace_14 : decode cX4_trace 14 = .ok (.getfield 39, 3) := by decide +kernel
theorem dX4_trace_17 : decode cX4_trace 17 = .ok (.aload_n 0, 1) := by decide +kernel
theorem dX4_trace_18 : decode cX4_trace 18 = .ok (.getfield 36, 3) := by decide +kernel
theorem dX4_trace_21 : decode cX4_trace 21 = .ok (.iconst 0, 1) := by decide +kernel
theorem dX4_trace_22 : decode cX4_trace 22 = .ok (.iaload, 1) := by decide +kernel
theorem dX4_trace_23 : decode cX4_trace 23 = .ok (.iconst 1, 1) := by decide +kernel
theorem dX4_trace_24 : decode cX4_trace 24 = .ok (.iastore, 1) := by decide +kernel
theorem dX4_trace_25 : decode cX4_trace 25 = .ok (.iload_n 1, 1) := by decide +kernel
theorem dX4_trace_26 : decode cX4_trace 26 = .ok (.istore_n 3, 1) := by decide +kernel
theorem dX4_trace_27 : decode cX4_trace 27 = .ok (.iconst 0, 1) := by decide +kernel
theorem dX4_trace_28 : decode cX4_trace 28 = .ok (.istore 4, 2) := by decide +kernel
theorem dX4_trace_30 : decode cX4_trace 30 = .ok (.iload 4, 2) := by decide +kernel
theorem dX4_trace_32 : decode cX4_trace 32 = .ok (.aload_n 0, 1) := by decide +kernel
theorem dX4_trace_33 : decode cX4_trace 33 = .ok (.getfield 58, 3) := by decide +kernel
theorem dX4_trace_36 : decode cX4_trace 36 = .ok (.getfield 100, 3) := by decide +kernel
theorem dX4_trace_39 : decode cX4_trace 39 = .ok (.if_icmp .ge 145, 3) := by decide +kernel
theorem dX4_trace_42 : decode cX4_trace 42 = .ok (.iload_n 3, 1) := by decide +kernel
theorem dX4_trace_43 : decode cX4_trace 43 = .ok (.iconst (-1), 1) := by decide +kernel
theorem dX4_trace_44 : decode cX4_trace 44 = .ok (.if_icmp .eq 140, 3) := by decide +kernel
theorem dX4_trace_47 : decode cX4_trace 47 = .ok (.aload_n 0, 1) := by decide +kernel
theorem dX4_trace_48 : decode cX4_trace 48 = .ok (.getfield 22, 3) := by decide +kernel
theorem dX4_trace_51 : decode cX4_trace 51 = .ok (.iload_n 3, 1) := by decide +kernel
theorem dX4_trace_52 : decode cX4_trace 52 = .ok (.baload, 1) := by decide +kernel
theorem dX4_trace_53 : decode cX4_trace 53 = .ok (.ifCond .eq 131, 3) := by decide +kernel
theorem dX4_trace_56 : decode cX4_trace 56 = .ok (.aload_n 0, 1) := by decide +kernel
theorem dX4_trace_57 : decode cX4_trace 57 = .ok (.getfield 22, 3) := by decide +kernel
theorem dX4_trace_60 : decode cX4_trace 60 = .ok (.iload_n 3, 1) := by decide +kernel
theorem dX4_trace_61 : decode cX4_trace 61 = .ok (.iconst 0, 1) := by decide +kernel
theorem dX4_trace_62 : decode cX4_trace 62 = .ok (.bastore, 1) := by decide +kernel
theorem dX4_trace_63 : decode cX4_trace 63 = .ok (.aload_n 0, 1) := by decide +kernel
theorem dX4_trace_64 : decode cX4_trace 64 = .ok (.iload_n 3, 1) := by decide +kernel
theorem dX4_trace_65 : decode cX4_trace 65 = .ok (.invokevirtual 160, 3) := by decide +kernel
theorem dX4_trace_68 : decode cX4_trace 68 = .ok (.istore 5, 2) := by decide +kernel
theorem dX4_trace_70 : decode cX4_trace 70 = .ok (.aload_n 0, 1) := by decide +kernel
theorem dX4_trace_71 : decode cX4_trace 71 = .ok (.getfield 39, 3) := by decide +kernel
theorem dX4_trace_74 : decode cX4_trace 74 = .ok (.iload 5, 2) := by decide +kernel
theorem dX4_trace_76 : decode cX4_trace 76 = .ok (.iaload, 1) := by decide +kernel
theorem dX4_trace_77 : decode cX4_trace 77 = .ok (.ifCond .le 65, 3) := by decide +kernel
theorem dX4_trace_80 : decode cX4_trace 80 = .ok (.aload_n 0, 1) := by decide +kernel
theorem dX4_trace_81 : decode cX4_trace 81 = .ok (.getfield 39, 3) := by decide +kernel
theorem dX4_trace_84 : decode cX4_trace 84 = .ok (.iload 5, 2) := by decide +kernel
theorem dX4_trace_86 : decode cX4_trace 86 = .ok (.iaload, 1) := by decide +kernel
theorem dX4_trace_87 : decode cX4_trace 87 = .ok (.iconst 1, 1) := by decide +kernel
theorem dX4_trace_88 : decode cX4_trace 88 = .ok (.isub, 1) := by decide +kernel
theorem dX4_trace_89 : decode cX4_trace 89 = .ok (.istore 6, 2) := by decide +kernel
theorem dX4_trace_91 : decode cX4_trace 91 = .ok (.aload_n 0, 1) := by decide +kernel
theorem dX4_trace_92 : decode cX4_trace 92 = .ok (.iload 6, 2) := by decide +kernel
theorem dX4_trace_94 : decode cX4_trace 94 = .ok (.iload_n 2, 1) := by decide +kernel
theorem dX4_trace_95 : decode cX4_trace 95 = .ok (.invokevirtual 163, 3) := by decide +kernel
theorem dX4_trace_98 : decode cX4_trace 98 = .ok (.ifCond .ne 5, 3) := by decide +kernel
theorem dX4_trace_101 : decode cX4_trace 101 = .ok (.iconst 0, 1) := by decide +kernel
theorem dX4_trace_102 : decode cX4_trace 102 = .ok (.ireturn, 1) := by decide +kernel
theorem dX4_trace_103 : decode cX4_trace 103 = .ok (.iload 6, 2) := by decide +kernel
theorem dX4_trace_105 : decode cX4_trace 105 = .ok (.iconst 1, 1) := by decide +kernel
theorem dX4_trace_106 : decode cX4_trace 106 = .ok (.iadd, 1) := by decide +kernel
theorem dX4_trace_107 : decode cX4_trace 107 = .ok (.istore 7, 2) := by decide +kernel
theorem dX4_trace_109 : decode cX4_trace 109 = .ok (.iload 7, 2) := by decide +kernel
theorem dX4_trace_111 : decode cX4_trace 111 = .ok (.iload_n 2, 1) := by decide +kernel
theorem dX4_trace_112 : decode cX4_trace 112 = .ok (.if_icmp .ge 22, 3) := by decide +kernel
theorem dX4_trace_115 : decode cX4_trace 115 = .ok (.aload_n 0, 1) := by decide +kernel
theorem dX4_trace_116 : decode cX4_trace 116 = .ok (.getfield 39, 3) := by decide +kernel
theorem dX4_trace_119 : decode cX4_trace 119 = .ok (.aload_n 0, 1) := by decide +kernel
theorem dX4_trace_120 : decode cX4_trace 120 = .ok (.getfield 36, 3) := by decide +kernel
theorem dX4_trace_123 : decode cX4_trace 123 = .ok (.iload 7, 2) := by decide +kernel
theorem dX4_trace_125 : decode cX4_trace 125 = .ok (.iaload, 1) := by decide +kernel
theorem dX4_trace_126 : decode cX4_trace 126 = .ok (.iconst 0, 1) := by decide +kernel
theorem dX4_trace_127 : decode cX4_trace 127 = .ok (.iastore, 1) := by decide +kernel
theorem dX4_trace_128 : decode cX4_trace 128 = .ok (.iinc 7 1, 3) := by decide +kernel
theorem dX4_trace_131 : decode cX4_trace 131 = .ok (.goto (-22), 3) := by decide +kernel
theorem dX4_trace_134 : decode cX4_trace 134 = .ok (.iload 6, 2) := by decide +kernel
theorem dX4_trace_136 : decode cX4_trace 136 = .ok (.iconst 1, 1) := by decide +kernel
theorem dX4_trace_137 : decode cX4_trace 137 = .ok (.iadd, 1) := by decide +kernel
theorem dX4_trace_138 : decode cX4_trace 138 = .ok (.istore_n 2, 1) := by decide +kernel
theorem dX4_trace_139 : decode cX4_trace 139 = .ok (.goto 31, 3) := by decide +kernel
theorem dX4_trace_142 : decode cX4_trace 142 = .ok (.iload_n 2, 1) := by decide +kernel
theorem dX4_trace_143 : decode cX4_trace 143 = .ok (.aload_n 0, 1) := by decide +kernel
theorem dX4_trace_144 : decode cX4_trace 144 = .ok (.getfield 36, 3) := by decide +kernel
theorem dX4_trace_147 : decode cX4_trace 147 = .ok (.arraylength, 1) := by decide +kernel
theorem dX4_trace_148 : decode cX4_trace 148 = .ok (.if_icmp .ge 22, 3) := by decide +kernel
theorem dX4_trace_151 : decode cX4_trace 151 = .ok (.aload_n 0, 1) := by decide +kernel
theorem dX4_trace_152 : decode cX4_trace 152 = .ok (.getfield 36, 3) := by decide +kernel
theorem dX4_trace_155 : decode cX4_trace 155 = .ok (.iload_n 2, 1) := by decide +kernel
theorem dX4_trace_156 : decode cX4_trace 156 = .ok (.iload 5, 2) := by decide +kernel
theorem dX4_trace_158 : decode cX4_trace 158 = .ok (.iastore, 1) := by decide +kernel
theorem dX4_trace_159 : decode cX4_trace 159 = .ok (.iinc 2 1, 3) := by decide +kernel
theorem dX4_trace_162 : decode cX4_trace 162 = .ok (.aload_n 0, 1) := by decide +kernel
theorem dX4_trace_163 : decode cX4_trace 163 = .ok (.getfield 39, 3) := by decide +kernel
theorem dX4_trace_166 : decode cX4_trace 166 = .ok (.iload 5, 2) := by decide +kernel
theorem dX4_trace_168 : decode cX4_trace 168 = .ok (.iload_n 2, 1) := by decide +kernel
theorem dX4_trace_169 : decode cX4_trace 169 = .ok (.iastore, 1) := by decide +kernel
theorem dX4_trace_170 : decode cX4_trace 170 = .ok (.aload_n 0, 1) := by decide +kernel
theorem dX4_trace_171 : decode cX4_trace 171 = .ok (.iload_n 3, 1) := by decide +kernel
theorem dX4_trace_172 : decode cX4_trace 172 = .ok (.iload 5, 2) := by decide +kernel
theorem dX4_trace_174 : decode cX4_trace 174 = .ok (.invokevirtual 166, 3) := by decide +kernel
theorem dX4_trace_177 : decode cX4_trace 177 = .ok (.istore_n 3, 1) := by decide +kernel
theorem dX4_trace_178 : decode cX4_trace 178 = .ok (.iinc 4 1, 3) := by decide +kernel
theorem dX4_trace_181 : decode cX4_trace 181 = .ok (.goto (-151), 3) := by decide +kernel
theorem dX4_trace_184 : decode cX4_trace 184 = .ok (.iconst 0, 1) := by decide +kernel
theorem dX4_trace_185 : decode cX4_trace 185 = .ok (.istore 4, 2) := by decide +kernel
theorem dX4_trace_187 : decode cX4_trace 187 = .ok (.iload 4, 2) := by decide +kernel
theorem dX4_trace_189 : decode cX4_trace 189 = .ok (.iload_n 2, 1) := by decide +kernel
theorem dX4_trace_190 : decode cX4_trace 190 = .ok (.if_icmp .ge 22, 3) := by decide +kernel
theorem dX4_trace_193 : decode cX4_trace 193 = .ok (.aload_n 0, 1) := by decide +kernel
theorem dX4_trace_194 : decode cX4_trace 194 = .ok (.getfield 39, 3) := by decide +kernel
theorem dX4_trace_197 : decode cX4_trace 197 = .ok (.aload_n 0, 1) := by decide +kernel
theorem dX4_trace_198 : decode cX4_trace 198 = .ok (.getfield 36, 3) := by decide +kernel
theorem dX4_trace_201 : decode cX4_trace 201 = .ok (.iload 4, 2) := by decide +kernel
theorem dX4_trace_203 : decode cX4_trace 203 = .ok (.iaload, 1) := by decide +kernel
theorem dX4_trace_204 : decode cX4_trace 204 = .ok (.iconst 0, 1) := by decide +kernel
theorem dX4_trace_205 : decode cX4_trace 205 = .ok (.iastore, 1) := by decide +kernel
theorem dX4_trace_206 : decode cX4_trace 206 = .ok (.iinc 4 1, 3) := by decide +kernel
theorem dX4_trace_209 : decode cX4_trace 209 = .ok (.goto (-22), 3) := by decide +kernel
theorem dX4_trace_212 : decode cX4_trace 212 = .ok (.iconst 1, 1) := by decide +kernel
theorem dX4_trace_213 : decode cX4_trace 213 = .ok (.ireturn, 1) := by decide +kernel
theorem dX4_nextPiece_0 : decode cX4_nextPiece 0 = .ok (.aload_n 0, 1) := by decide +kernel
theorem dX4_nextPiece_1 : decode cX4_nextPiece 1 = .ok (.iload_n 1, 1) := by decide +kernel
theorem dX4_nextPiece_2 : decode cX4_nextPiece 2 = .ok (.invokevirtual 157, 3) := by decide +kernel
theorem dX4_nextPiece_5 : decode cX4_nextPiece 5 = .ok (.istore_n 3, 1) := by decide +kernel
theorem dX4_nextPiece_6 : decode cX4_nextPiece 6 = .ok (.iconst (-1), 1) := by decide +kernel
theorem dX4_nextPiece_7 : decode cX4_nextPiece 7 = .ok (.istore 4, 2) := by decide +kernel
theorem dX4_nextPiece_9 : decode cX4_nextPiece 9 = .ok (.aload_n 0, 1) := by decide +kernel
theorem dX4_nextPiece_10 : decode cX4_nextPiece 10 = .ok (.getfield 29, 3) := by decide +kernel
theorem dX4_nextPiece_13 : decode cX4_nextPiece 13 = .ok (.iload_n 2, 1) := by decide +kernel
theorem dX4_nextPiece_14 : decode cX4_nextPiece 14 = .ok (.iaload, 1) := by decide +kernel
theorem dX4_nextPiece_15 : decode cX4_nextPiece 15 = .ok (.istore 5, 2) := by decide +kernel
theorem dX4_nextPiece_17 : decode cX4_nextPiece 17 = .ok (.iload 5, 2) := by decide +kernel
theorem dX4_nextPiece_19 : decode cX4_nextPiece 19 = .ok (.aload_n 0, 1) := by decide +kernel
theorem dX4_nextPiece_20 : decode cX4_nextPiece 20 = .ok (.getfield 29, 3) := by decide +kernel
theorem dX4_nextPiece_23 : decode cX4_nextPiece 23 = .ok (.iload_n 2, 1) := by decide +kernel
theorem dX4_nextPiece_24 : decode cX4_nextPiece 24 = .ok (.iconst 1, 1) := by decide +kernel
theorem dX4_nextPiece_25 : decode cX4_nextPiece 25 = .ok (.iadd, 1) := by decide +kernel
theorem dX4_nextPiece_26 : decode cX4_nextPiece 26 = .ok (.iaload, 1) := by decide +kernel
theorem dX4_nextPiece_27 : decode cX4_nextPiece 27 = .ok (.if_icmp .ge 57, 3) := by decide +kernel
theorem dX4_nextPiece_30 : decode cX4_nextPiece 30 = .ok (.aload_n 0, 1) := by decide +kernel
theorem dX4_nextPiece_31 : decode cX4_nextPiece 31 = .ok (.getfield 33, 3) := by decide +kernel
theorem dX4_nextPiece_34 : decode cX4_nextPiece 34 = .ok (.iload 5, 2) := by decide +kernel
theorem dX4_nextPiece_36 : decode cX4_nextPiece 36 = .ok (.iaload, 1) := by decide +kernel
theorem dX4_nextPiece_37 : decode cX4_nextPiece 37 = .ok (.istore 6, 2) := by decide +kernel
theorem dX4_nextPiece_39 : decode cX4_nextPiece 39 = .ok (.iload 6, 2) := by decide +kernel
theorem dX4_nextPiece_41 : decode cX4_nextPiece 41 = .ok (.iload_n 1, 1) := by decide +kernel
theorem dX4_nextPiece_42 : decode cX4_nextPiece 42 = .ok (.if_icmp .eq 36, 3) := by decide +kernel
theorem dX4_nextPiece_45 : decode cX4_nextPiece 45 = .ok (.iload 4, 2) := by decide +kernel
theorem dX4_nextPiece_47 : decode cX4_nextPiece 47 = .ok (.iconst (-1), 1) := by decide +kernel
theorem dX4_nextPiece_48 : decode cX4_nextPiece 48 = .ok (.if_icmp .eq 26, 3) := by decide +kernel
theorem dX4_nextPiece_51 : decode cX4_nextPiece 51 = .ok (.aload_n 0, 1) := by decide +kernel
theorem dX4_nextPiece_52 : decode cX4_nextPiece 52 = .ok (.iload_n 2, 1) := by decide +kernel
theorem dX4_nextPiece_53 : decode cX4_nextPiece 53 = .ok (.iload_n 3, 1) := by decide +kernel
theorem dX4_nextPiece_54 : decode cX4_nextPiece 54 = .ok (.aload_n 0, 1) := by decide +kernel
theorem dX4_nextPiece_55 : decode cX4_nextPiece 55 = .ok (.iload 4, 2) := by decide +kernel
theorem dX4_nextPiece_57 : decode cX4_nextPiece 57 = .ok (.iload_n 2, 1) := by decide +kernel
theorem dX4_nextPiece_58 : decode cX4_nextPiece 58 = .ok (.invokevirtual 170, 3) := by decide +kernel
theorem dX4_nextPiece_61 : decode cX4_nextPiece 61 = .ok (.aload_n 0, 1) := by decide +kernel
theorem dX4_nextPiece_62 : decode cX4_nextPiece 62 = .ok (.iload 6, 2) := by decide +kernel
theorem dX4_nextPiece_64 : decode cX4_nextPiece 64 = .ok (.iload_n 2, 1) := by decide +kernel
theorem dX4_nextPiece_65 : decode cX4_nextPiece 65 = .ok (.invokevirtual 170, 3) := by decide +kernel
theorem dX4_nextPiece_68 : decode cX4_nextPiece 68 = .ok (.invokevirtual 173, 3) := by decide +kernel
theorem dX4_nextPiece_71 : decode cX4_nextPiece 71 = .ok (.ifCond .eq 7, 3) := by decide +kernel
theorem dX4_nextPiece_74 : decode cX4_nextPiece 74 = .ok (.iload 6, 2) := by decide +kernel
theorem dX4_nextPiece_76 : decode cX4_nextPiece 76 = .ok (.istore 4, 2) := by decide +kernel
theorem dX4_nextPiece_78 : decode cX4_nextPiece 78 = .ok (.iinc 5 1, 3) := by decide +kernel
theorem dX4_nextPiece_81 : decode cX4_nextPiece 81 = .ok (.goto (-64), 3) := by decide +kernel
theorem dX4_nextPiece_84 : decode cX4_nextPiece 84 = .ok (.iload 4, 2) := by decide +kernel
theorem dX4_nextPiece_86 : decode cX4_nextPiece 86 = .ok (.ireturn, 1) := by decide +kernel
theorem dX4_otherEnd_0 : decode cX4_otherEnd 0 = .ok (.aload_n 0, 1) := by decide +kernel
theorem dX4_otherEnd_1 : decode cX4_otherEnd 1 = .ok (.getfield 58, 3) := by decide +kernel
theorem dX4_otherEnd_4 : decode cX4_otherEnd 4 = .ok (.getfield 103, 3) := by decide +kernel
theorem dX4_otherEnd_7 : decode cX4_otherEnd 7 = .ok (.iload_n 1, 1) := by decide +kernel
theorem dX4_otherEnd_8 : decode cX4_otherEnd 8 = .ok (.iaload, 1) := by decide +kernel
theorem dX4_otherEnd_9 : decode cX4_otherEnd 9 = .ok (.iload_n 2, 1) := by decide +kernel
theorem dX4_otherEnd_10 : decode cX4_otherEnd 10 = .ok (.if_icmp .ne 15, 3) := by decide +kernel
theorem dX4_otherEnd_13 : decode cX4_otherEnd 13 = .ok (.aload_n 0, 1) := by decide +kernel
theorem dX4_otherEnd_14 : decode cX4_otherEnd 14 = .ok (.getfield 58, 3) := by decide +kernel
theorem dX4_otherEnd_17 : decode cX4_otherEnd 17 = .ok (.getfield 97, 3) := by decide +kernel
theorem dX4_otherEnd_20 : decode cX4_otherEnd 20 = .ok (.iload_n 1, 1) := by decide +kernel
theorem dX4_otherEnd_21 : decode cX4_otherEnd 21 = .ok (.iaload, 1) := by decide +kernel
theorem dX4_otherEnd_22 : decode cX4_otherEnd 22 = .ok (.goto 12, 3) := by decide +kernel
theorem dX4_otherEnd_25 : decode cX4_otherEnd 25 = .ok (.aload_n 0, 1) := by decide +kernel
theorem dX4_otherEnd_26 : decode cX4_otherEnd 26 = .ok (.getfield 58, 3) := by decide +kernel
theorem dX4_otherEnd_29 : decode cX4_otherEnd 29 = .ok (.getfield 103, 3) := by decide +kernel
theorem dX4_otherEnd_32 : decode cX4_otherEnd 32 = .ok (.iload_n 1, 1) := by decide +kernel
theorem dX4_otherEnd_33 : decode cX4_otherEnd 33 = .ok (.iaload, 1) := by decide +kernel
theorem dX4_otherEnd_34 : decode cX4_otherEnd 34 = .ok (.ireturn, 1) := by decide +kernel
theorem dX4_isFartherLeft_0 : decode cX4_isFartherLeft 0 = .ok (.aload_n 0, 1) := by decide +kernel
theorem dX4_isFartherLeft_1 : decode cX4_isFartherLeft 1 = .ok (.iload_n 1, 1) := by decide +kernel
theorem dX4_isFartherLeft_2 : decode cX4_isFartherLeft 2 = .ok (.iload_n 2, 1) := by decide +kernel
theorem dX4_isFartherLeft_3 : decode cX4_isFartherLeft 3 = .ok (.iload_n 3, 1) := by decide +kernel
theorem dX4_isFartherLeft_4 : decode cX4_isFartherLeft 4 = .ok (.invokevirtual 110, 3) := by decide +kernel
theorem dX4_isFartherLeft_7 : decode cX4_isFartherLeft 7 = .ok (.istore 5, 2) := by decide +kernel
theorem dX4_isFartherLeft_9 : decode cX4_isFartherLeft 9 = .ok (.aload_n 0, 1) := by decide +kernel
theorem dX4_isFartherLeft_10 : decode cX4_isFartherLeft 10 = .ok (.iload_n 1, 1) := by decide +kernel
theorem dX4_isFartherLeft_11 : decode cX4_isFartherLeft 11 = .ok (.iload_n 2, 1) := by decide +kernel
theorem dX4_isFartherLeft_12 : decode cX4_isFartherLeft 12 = .ok (.iload 4, 2) := by decide +kernel
theorem dX4_isFartherLeft_14 : decode cX4_isFartherLeft 14 = .ok (.invokevirtual 110, 3) := by decide +kernel
theorem dX4_isFartherLeft_17 : decode cX4_isFartherLeft 17 = .ok (.istore 6, 2) := by decide +kernel
theorem dX4_isFartherLeft_19 : decode cX4_isFartherLeft 19 = .ok (.iload 5, 2) := by decide +kernel
theorem dX4_isFartherLeft_21 : decode cX4_isFartherLeft 21 = .ok (.iload 6, 2) := by decide +kernel
theorem dX4_isFartherLeft_23 : decode cX4_isFartherLeft 23 = .ok (.if_icmp .eq 16, 3) := by decide +kernel
theorem dX4_isFartherLeft_26 : decode cX4_isFartherLeft 26 = .ok (.iload 6, 2) := by decide +kernel
theorem dX4_isFartherLeft_28 : decode cX4_isFartherLeft 28 = .ok (.iload 5, 2) := by decide +kernel
theorem dX4_isFartherLeft_30 : decode cX4_isFartherLeft 30 = .ok (.if_icmp .ge 7, 3) := by decide +kernel
theorem dX4_isFartherLeft_33 : decode cX4_isFartherLeft 33 = .ok (.iconst 1, 1) := by decide +kernel
theorem dX4_isFartherLeft_34 : decode cX4_isFartherLeft 34 = .ok (.goto 4, 3) := by decide +kernel
theorem dX4_isFartherLeft_37 : decode cX4_isFartherLeft 37 = .ok (.iconst 0, 1) := by decide +kernel
theorem dX4_isFartherLeft_38 : decode cX4_isFartherLeft 38 = .ok (.ireturn, 1) := by decide +kernel
theorem dX4_isFartherLeft_39 : decode cX4_isFartherLeft 39 = .ok (.aload_n 0, 1) := by decide +kernel
theorem dX4_isFartherLeft_40 : decode cX4_isFartherLeft 40 = .ok (.iload_n 1, 1) := by decide +kernel
theorem dX4_isFartherLeft_41 : decode cX4_isFartherLeft 41 = .ok (.iload_n 3, 1) := by decide +kernel
theorem dX4_isFartherLeft_42 : decode cX4_isFartherLeft 42 = .ok (.iload 4, 2) := by decide +kernel
theorem dX4_isFartherLeft_44 : decode cX4_isFartherLeft 44 = .ok (.invokevirtual 110, 3) := by decide +kernel
theorem dX4_isFartherLeft_47 : decode cX4_isFartherLeft 47 = .ok (.ifCond .le 7, 3) := by decide +kernel
theorem dX4_isFartherLeft_50 : decode cX4_isFartherLeft 50 = .ok (.iconst 1, 1) := by decide +kernel
theorem dX4_isFartherLeft_51 : decode cX4_isFartherLeft 51 = .ok (.goto 4, 3) := by decide +kernel
theorem dX4_isFartherLeft_54 : decode cX4_isFartherLeft 54 = .ok (.iconst 0, 1) := by decide +kernel
theorem dX4_isFartherLeft_55 : decode cX4_isFartherLeft 55 = .ok (.ireturn, 1) := by decide +kernel
theorem dX4_takeRing_0 : decode cX4_takeRing 0 = .ok (.iload_n 1, 1) := by decide +kernel
theorem dX4_takeRing_1 : decode cX4_takeRing 1 = .ok (.istore_n 3, 1) := by decide +kernel
theorem dX4_takeRing_2 : decode cX4_takeRing 2 = .ok (.iload_n 1, 1) := by decide +kernel
theorem dX4_takeRing_3 : decode cX4_takeRing 3 = .ok (.istore 4, 2) := by decide +kernel
theorem dX4_takeRing_5 : decode cX4_takeRing 5 = .ok (.iload 4, 2) := by decide +kernel
theorem dX4_takeRing_7 : decode cX4_takeRing 7 = .ok (.iload_n 2, 1) := by decide +kernel
theorem dX4_takeRing_8 : decode cX4_takeRing 8 = .ok (.if_icmp .ge 32, 3) := by decide +kernel
theorem dX4_takeRing_11 : decode cX4_takeRing 11 = .ok (.aload_n 0, 1) := by decide +kernel
theorem dX4_takeRing_12 : decode cX4_takeRing 12 = .ok (.getfield 36, 3) := by decide +kernel
theorem dX4_takeRing_15 : decode cX4_takeRing 15 = .ok (.iload 4, 2) := by decide +kernel
theorem dX4_takeRing_17 : decode cX4_takeRing 17 = .ok (.iaload, 1) := by decide +kernel
theorem dX4_takeRing_18 : decode cX4_takeRing 18 = .ok (.aload_n 0, 1) := by decide +kernel
theorem dX4_takeRing_19 : decode cX4_takeRing 19 = .ok (.getfield 36, 3) := by decide +kernel
theorem dX4_takeRing_22 : decode cX4_takeRing 22 = .ok (.iload_n 3, 1) := by decide +kernel
theorem dX4_takeRing_23 : decode cX4_takeRing 23 = .ok (.iaload, 1) := by decide +kernel
theorem dX4_takeRing_24 : decode cX4_takeRing 24 = .ok (.if_icmp .ge 8, 3) := by decide +kernel
theorem dX4_takeRing_27 : decode cX4_takeRing 27 = .ok (.iload 4, 2) := by decide +kernel
theorem dX4_takeRing_29 : decode cX4_takeRing 29 = .ok (.goto 4, 3) := by decide +kernel
theorem dX4_takeRing_32 : decode cX4_takeRing 32 = .ok (.iload_n 3, 1) := by decide +kernel
theorem dX4_takeRing_33 : decode cX4_takeRing 33 = .ok (.istore_n 3, 1) := by decide +kernel
theorem dX4_takeRing_34 : decode cX4_takeRing 34 = .ok (.iinc 4 1, 3) := by decide +kernel
theorem dX4_takeRing_37 : decode cX4_takeRing 37 = .ok (.goto (-32), 3) := by decide +kernel
theorem dX4_takeRing_40 : decode cX4_takeRing 40 = .ok (.aload_n 0, 1) := by decide +kernel
theorem dX4_takeRing_41 : decode cX4_takeRing 41 = .ok (.getfield 147, 3) := by decide +kernel
theorem dX4_takeRing_44 : decode cX4_takeRing 44 = .ok (.sipush 512, 3) := by decide +kernel
theorem dX4_takeRing_47 : decode cX4_takeRing 47 = .ok (.if_icmp .lt 5, 3) := by decide +kernel
theorem dX4_takeRing_50 : decode cX4_takeRing 50 = .ok (.iconst 0, 1) := by decide +kernel
theorem dX4_takeRing_51 : decode cX4_takeRing 51 = .ok (.ireturn, 1) := by decide +kernel
theorem dX4_takeRing_52 : decode cX4_takeRing 52 = .ok (.aload_n 0, 1) := by decide +kernel
theorem dX4_takeRing_53 : decode cX4_takeRing 53 = .ok (.getfield 45, 3) := by decide +kernel
theorem dX4_takeRing_56 : decode cX4_takeRing 56 = .ok (.aload_n 0, 1) := by decide +kernel
theorem dX4_takeRing_57 : decode cX4_takeRing 57 = .ok (.getfield 147, 3) := by decide +kernel
theorem dX4_takeRing_60 : decode cX4_takeRing 60 = .ok (.aload_n 0, 1) := by decide +kernel
theorem dX4_takeRing_61 : decode cX4_takeRing 61 = .ok (.getfield 150, 3) := by decide +kernel
theorem dX4_takeRing_64 : decode cX4_takeRing 64 = .ok (.iastore, 1) := by decide +kernel
theorem dX4_takeRing_65 : decode cX4_takeRing 65 = .ok (.iload_n 2, 1) := by decide +kernel
theorem dX4_takeRing_66 : decode cX4_takeRing 66 = .ok (.iload_n 1, 1) := by decide +kernel
theorem dX4_takeRing_67 : decode cX4_takeRing 67 = .ok (.isub, 1) := by decide +kernel
theorem dX4_takeRing_68 : decode cX4_takeRing 68 = .ok (.istore 4, 2) := by decide +kernel
theorem dX4_takeRing_70 : decode cX4_takeRing 70 = .ok (.iconst 0, 1) := by decide +kernel
theorem dX4_takeRing_71 : decode cX4_takeRing 71 = .ok (.istore 5, 2) := by decide +kernel
theorem dX4_takeRing_73 : decode cX4_takeRing 73 = .ok (.iload 5, 2) := by decide +kernel
theorem dX4_takeRing_75 : decode cX4_takeRing 75 = .ok (.iload 4, 2) := by decide +kernel
theorem dX4_takeRing_77 : decode cX4_takeRing 77 = .ok (.if_icmp .ge 145, 3) := by decide +kernel
theorem dX4_takeRing_80 : decode cX4_takeRing 80 = .ok (.iload_n 3, 1) := by decide +kernel
theorem dX4_takeRing_81 : decode cX4_takeRing 81 = .ok (.iload 5, 2) := by decide +kernel
theorem dX4_takeRing_83 : decode cX4_takeRing 83 = .ok (.iadd, 1) := by decide +kernel
theorem dX4_takeRing_84 : decode cX4_takeRing 84 = .ok (.iload_n 2, 1) := by decide +kernel
theorem dX4_takeRing_85 : decode cX4_takeRing 85 = .ok (.if_icmp .ge 10, 3) := by decide +kernel
theorem dX4_takeRing_88 : decode cX4_takeRing 88 = .ok (.iload_n 3, 1) := by decide +kernel
theorem dX4_takeRing_89 : decode cX4_takeRing 89 = .ok (.iload 5, 2) := by decide +kernel
theorem dX4_takeRing_91 : decode cX4_takeRing 91 = .ok (.iadd, 1) := by decide +kernel
theorem dX4_takeRing_92 : decode cX4_takeRing 92 = .ok (.goto 10, 3) := by decide +kernel
theorem dX4_takeRing_95 : decode cX4_takeRing 95 = .ok (.iload_n 3, 1) := by decide +kernel
theorem dX4_takeRing_96 : decode cX4_takeRing 96 = .ok (.iload 5, 2) := by decide +kernel
theorem dX4_takeRing_98 : decode cX4_takeRing 98 = .ok (.iadd, 1) := by decide +kernel
theorem dX4_takeRing_99 : decode cX4_takeRing 99 = .ok (.iload 4, 2) := by decide +kernel
theorem dX4_takeRing_101 : decode cX4_takeRing 101 = .ok (.isub, 1) := by decide +kernel
theorem dX4_takeRing_102 : decode cX4_takeRing 102 = .ok (.istore 6, 2) := by decide +kernel
theorem dX4_takeRing_104 : decode cX4_takeRing 104 = .ok (.iload 6, 2) := by decide +kernel
theorem dX4_takeRing_106 : decode cX4_takeRing 106 = .ok (.iload_n 1, 1) := by decide +kernel
theorem dX4_takeRing_107 : decode cX4_takeRing 107 = .ok (.if_icmp .le 15, 3) := by decide +kernel
theorem dX4_takeRing_110 : decode cX4_takeRing 110 = .ok (.aload_n 0, 1) := by decide +kernel
theorem dX4_takeRing_111 : decode cX4_takeRing 111 = .ok (.getfield 36, 3) := by decide +kernel
theorem dX4_takeRing_114 : decode cX4_takeRing 114 = .ok (.iload 6, 2) := by decide +kernel
theorem dX4_takeRing_116 : decode cX4_takeRing 116 = .ok (.iconst 1, 1) := by decide +kernel
theorem dX4_takeRing_117 : decode cX4_takeRing 117 = .ok (.isub, 1) := by decide +kernel
theorem dX4_takeRing_118 : decode cX4_takeRing 118 = .ok (.iaload, 1) := by decide +kernel
theorem dX4_takeRing_119 : decode cX4_takeRing 119 = .ok (.goto 11, 3) := by decide +kernel
theorem dX4_takeRing_122 : decode cX4_takeRing 122 = .ok (.aload_n 0, 1) := by decide +kernel
theorem dX4_takeRing_123 : decode cX4_takeRing 123 = .ok (.getfield 36, 3) := by decide +kernel
theorem dX4_takeRing_126 : decode cX4_takeRing 126 = .ok (.iload_n 2, 1) := by decide +kernel
theorem dX4_takeRing_127 : decode cX4_takeRing 127 = .ok (.iconst 1, 1) := by decide +kernel
theorem dX4_takeRing_128 : decode cX4_takeRing 128 = .ok (.isub, 1) := by decide +kernel
theorem dX4_takeRing_129 : decode cX4_takeRing 129 = .ok (.iaload, 1) := by decide +kernel
theorem dX4_takeRing_130 : decode cX4_takeRing 130 = .ok (.istore 7, 2) := by decide +kernel
theorem dX4_takeRing_132 : decode cX4_takeRing 132 = .ok (.iload 6, 2) := by decide +kernel
theorem dX4_takeRing_134 : decode cX4_takeRing 134 = .ok (.iconst 1, 1) := by decide +kernel
theorem dX4_takeRing_135 : decode cX4_takeRing 135 = .ok (.iadd, 1) := by decide +kernel
theorem dX4_takeRing_136 : decode cX4_takeRing 136 = .ok (.iload_n 2, 1) := by decide +kernel
theorem dX4_takeRing_137 : decode cX4_takeRing 137 = .ok (.if_icmp .ge 15, 3) := by decide +kernel
theorem dX4_takeRing_140 : decode cX4_takeRing 140 = .ok (.aload_n 0, 1) := by decide +kernel
theorem dX4_takeRing_141 : decode cX4_takeRing 141 = .ok (.getfield 36, 3) := by decide +kernel
theorem dX4_takeRing_144 : decode cX4_takeRing 144 = .ok (.iload 6, 2) := by decide +kernel
theorem dX4_takeRing_146 : decode cX4_takeRing 146 = .ok (.iconst 1, 1) := by decide +kernel
theorem dX4_takeRing_147 : decode cX4_takeRing 147 = .ok (.iadd, 1) := by decide +kernel
theorem dX4_takeRing_148 : decode cX4_takeRing 148 = .ok (.iaload, 1) := by decide +kernel
theorem dX4_takeRing_149 : decode cX4_takeRing 149 = .ok (.goto 9, 3) := by decide +kernel
theorem dX4_takeRing_152 : decode cX4_takeRing 152 = .ok (.aload_n 0, 1) := by decide +kernel
theorem dX4_takeRing_153 : decode cX4_takeRing 153 = .ok (.getfield 36, 3) := by decide +kernel
theorem dX4_takeRing_156 : decode cX4_takeRing 156 = .ok (.iload_n 1, 1) := by decide +kernel
theorem dX4_takeRing_157 : decode cX4_takeRing 157 = .ok (.iaload, 1) := by decide +kernel
theorem dX4_takeRing_158 : decode cX4_takeRing 158 = .ok (.istore 8, 2) := by decide +kernel
theorem dX4_takeRing_160 : decode cX4_takeRing 160 = .ok (.aload_n 0, 1) := by decide +kernel
theorem dX4_takeRing_161 : decode cX4_takeRing 161 = .ok (.iload 7, 2) := by decide +kernel
theorem dX4_takeRing_163 : decode cX4_takeRing 163 = .ok (.aload_n 0, 1) := by decide +kernel
theorem dX4_takeRing_164 : decode cX4_takeRing 164 = .ok (.getfield 36, 3) := by decide +kernel
theorem dX4_takeRing_167 : decode cX4_takeRing 167 = .ok (.iload 6, 2) := by decide +kernel
theorem dX4_takeRing_169 : decode cX4_takeRing 169 = .ok (.iaload, 1) := by decide +kernel
theorem dX4_takeRing_170 : decode cX4_takeRing 170 = .ok (.iload 8, 2) := by decide +kernel
theorem dX4_takeRing_172 : decode cX4_takeRing 172 = .ok (.invokevirtual 110, 3) := by decide +kernel
theorem dX4_takeRing_175 : decode cX4_takeRing 175 = .ok (.ifCond .eq 41, 3) := by decide +kernel
theorem dX4_takeRing_178 : decode cX4_takeRing 178 = .ok (.aload_n 0, 1) := by decide +kernel
theorem dX4_takeRing_179 : decode cX4_takeRing 179 = .ok (.getfield 150, 3) := by decide +kernel
theorem dX4_takeRing_182 : decode cX4_takeRing 182 = .ok (.sipush 2048, 3) := by decide +kernel
theorem dX4_takeRing_185 : decode cX4_takeRing 185 = .ok (.if_icmp .lt 5, 3) := by decide +kernel
theorem dX4_takeRing_188 : decode cX4_takeRing 188 = .ok (.iconst 0, 1) := by decide +kernel
theorem dX4_takeRing_189 : decode cX4_takeRing 189 = .ok (.ireturn, 1) := by decide +kernel
theorem dX4_takeRing_190 : decode cX4_takeRing 190 = .ok (.aload_n 0, 1) := by decide +kernel
theorem dX4_takeRing_191 : decode cX4_takeRing 191 = .ok (.getfield 42, 3) := by decide +kernel
theorem dX4_takeRing_194 : decode cX4_takeRing 194 = .ok (.aload_n 0, 1) := by decide +kernel
theorem dX4_takeRing_195 : decode cX4_takeRing 195 = .ok (.getfield 150, 3) := by decide +kernel
theorem dX4_takeRing_198 : decode cX4_takeRing 198 = .ok (.aload_n 0, 1) := by decide +kernel
theorem dX4_takeRing_199 : decode cX4_takeRing 199 = .ok (.getfield 36, 3) := by decide +kernel
theorem dX4_takeRing_202 : decode cX4_takeRing 202 = .ok (.iload 6, 2) := by decide +kernel
theorem dX4_takeRing_204 : decode cX4_takeRing 204 = .ok (.iaload, 1) := by decide +kernel
theorem dX4_takeRing_205 : decode cX4_takeRing 205 = .ok (.iastore, 1) := by decide +kernel
theorem dX4_takeRing_206 : decode cX4_takeRing 206 = .ok (.aload_n 0, 1) := by decide +kernel
theorem dX4_takeRing_207 : decode cX4_takeRing 207 = .ok (.dup, 1) := by decide +kernel
theorem dX4_takeRing_208 : decode cX4_takeRing 208 = .ok (.getfield 150, 3) := by decide +kernel
theorem dX4_takeRing_211 : decode cX4_takeRing 211 = .ok (.iconst 1, 1) := by decide +kernel
theorem dX4_takeRing_212 : decode cX4_takeRing 212 = .ok (.iadd, 1) := by decide +kernel
theorem dX4_takeRing_213 : decode cX4_takeRing 213 = .ok (.putfield 150, 3) := by decide +kernel
theorem dX4_takeRing_216 : decode cX4_takeRing 216 = .ok (.iinc 5 1, 3) := by decide +kernel
theorem dX4_takeRing_219 : decode cX4_takeRing 219 = .ok (.goto (-146), 3) := by decide +kernel
theorem dX4_takeRing_222 : decode cX4_takeRing 222 = .ok (.aload_n 0, 1) := by decide +kernel
theorem dX4_takeRing_223 : decode cX4_takeRing 223 = .ok (.getfield 48, 3) := by decide +kernel
theorem dX4_takeRing_226 : decode cX4_takeRing 226 = .ok (.aload_n 0, 1) := by decide +kernel
theorem dX4_takeRing_227 : decode cX4_takeRing 227 = .ok (.getfield 147, 3) := by decide +kernel
theorem dX4_takeRing_230 : decode cX4_takeRing 230 = .ok (.aload_n 0, 1) := by decide +kernel
theorem dX4_takeRing_231 : decode cX4_takeRing 231 = .ok (.aload_n 0, 1) := by decide +kernel
theorem dX4_takeRing_232 : decode cX4_takeRing 232 = .ok (.getfield 45, 3) := by decide +kernel
theorem dX4_takeRing_235 : decode cX4_takeRing 235 = .ok (.aload_n 0, 1) := by decide +kernel
theorem dX4_takeRing_236 : decode cX4_takeRing 236 = .ok (.getfield 147, 3) := by decide +kernel
theorem dX4_takeRing_239 : decode cX4_takeRing 239 = .ok (.iaload, 1) := by decide +kernel
theorem dX4_takeRing_240 : decode cX4_takeRing 240 = .ok (.aload_n 0, 1) := by decide +kernel
theorem dX4_takeRing_241 : decode cX4_takeRing 241 = .ok (.getfield 150, 3) := by decide +kernel
theorem dX4_takeRing_244 : decode cX4_takeRing 244 = .ok (.invokevirtual 177, 3) := by decide +kernel
theorem dX4_takeRing_247 : decode cX4_takeRing 247 = .ok (.lastore, 1) := by decide +kernel
theorem dX4_takeRing_248 : decode cX4_takeRing 248 = .ok (.aload_n 0, 1) := by decide +kernel
theorem dX4_takeRing_249 : decode cX4_takeRing 249 = .ok (.dup, 1) := by decide +kernel
theorem dX4_takeRing_250 : decode cX4_takeRing 250 = .ok (.getfield 147, 3) := by decide +kernel
theorem dX4_takeRing_253 : decode cX4_takeRing 253 = .ok (.iconst 1, 1) := by decide +kernel
theorem dX4_takeRing_254 : decode cX4_takeRing 254 = .ok (.iadd, 1) := by decide +kernel
theorem dX4_takeRing_255 : decode cX4_takeRing 255 = .ok (.putfield 147, 3) := by decide +kernel
theorem dX4_takeRing_258 : decode cX4_takeRing 258 = .ok (.aload_n 0, 1) := by decide +kernel
theorem dX4_takeRing_259 : decode cX4_takeRing 259 = .ok (.getfield 45, 3) := by decide +kernel
theorem dX4_takeRing_262 : decode cX4_takeRing 262 = .ok (.aload_n 0, 1) := by decide +kernel
theorem dX4_takeRing_263 : decode cX4_takeRing 263 = .ok (.getfield 147, 3) := by decide +kernel
theorem dX4_takeRing_266 : decode cX4_takeRing 266 = .ok (.aload_n 0, 1) := by decide +kernel
theorem dX4_takeRing_267 : decode cX4_takeRing 267 = .ok (.getfield 150, 3) := by decide +kernel
theorem dX4_takeRing_270 : decode cX4_takeRing 270 = .ok (.iastore, 1) := by decide +kernel
theorem dX4_takeRing_271 : decode cX4_takeRing 271 = .ok (.aload_n 0, 1) := by decide +kernel
theorem dX4_takeRing_272 : decode cX4_takeRing 272 = .ok (.getfield 150, 3) := by decide +kernel
theorem dX4_takeRing_275 : decode cX4_takeRing 275 = .ok (.aload_n 0, 1) := by decide +kernel
theorem dX4_takeRing_276 : decode cX4_takeRing 276 = .ok (.getfield 147, 3) := by decide +kernel
theorem dX4_takeRing_279 : decode cX4_takeRing 279 = .ok (.iadd, 1) := by decide +kernel
theorem dX4_takeRing_280 : decode cX4_takeRing 280 = .ok (.sipush 2048, 3) := by decide +kernel
theorem dX4_takeRing_283 : decode cX4_takeRing 283 = .ok (.if_icmp .gt 7, 3) := by decide +kernel
theorem dX4_takeRing_286 : decode cX4_takeRing 286 = .ok (.iconst 1, 1) := by decide +kernel
theorem dX4_takeRing_287 : decode cX4_takeRing 287 = .ok (.goto 4, 3) := by decide +kernel
theorem dX4_takeRing_290 : decode cX4_takeRing 290 = .ok (.iconst 0, 1) := by decide +kernel
theorem dX4_takeRing_291 : decode cX4_takeRing 291 = .ok (.ireturn, 1) := by decide +kernel
theorem dX4_twiceAround_0 : decode cX4_twiceAround 0 = .ok (.lconst 0, 1) := by decide +kernel
theorem dX4_twiceAround_1 : decode cX4_twiceAround 1 = .ok (.lstore_n 3, 1) := by decide +kernel
theorem dX4_twiceAround_2 : decode cX4_twiceAround 2 = .ok (.iload_n 1, 1) := by decide +kernel
theorem dX4_twiceAround_3 : decode cX4_twiceAround 3 = .ok (.istore 5, 2) := by decide +kernel
theorem dX4_twiceAround_5 : decode cX4_twiceAround 5 = .ok (.iload 5, 2) := by decide +kernel
theorem dX4_twiceAround_7 : decode cX4_twiceAround 7 = .ok (.iload_n 2, 1) := by decide +kernel
theorem dX4_twiceAround_8 : decode cX4_twiceAround 8 = .ok (.if_icmp .ge 97, 3) := by decide +kernel
theorem dX4_twiceAround_11 : decode cX4_twiceAround 11 = .ok (.iload 5, 2) := by decide +kernel
theorem dX4_twiceAround_13 : decode cX4_twiceAround 13 = .ok (.iconst 1, 1) := by decide +kernel
theorem dX4_twiceAround_14 : decode cX4_twiceAround 14 = .ok (.iadd, 1) := by decide +kernel
theorem dX4_twiceAround_15 : decode cX4_twiceAround 15 = .ok (.iload_n 2, 1) := by decide +kernel
theorem dX4_twiceAround_16 : decode cX4_twiceAround 16 = .ok (.if_icmp .ge 15, 3) := by decide +kernel
theorem dX4_twiceAround_19 : decode cX4_twiceAround 19 = .ok (.aload_n 0, 1) := by decide +kernel
theorem dX4_twiceAround_20 : decode cX4_twiceAround 20 = .ok (.getfield 42, 3) := by decide +kernel
theorem dX4_twiceAround_23 : decode cX4_twiceAround 23 = .ok (.iload 5, 2) := by decide +kernel
theorem dX4_twiceAround_25 : decode cX4_twiceAround 25 = .ok (.iconst 1, 1) := by decide +kernel
theorem dX4_twiceAround_26 : decode cX4_twiceAround 26 = .ok (.iadd, 1) := by decide +kernel
theorem dX4_twiceAround_27 : decode cX4_twiceAround 27 = .ok (.iaload, 1) := by decide +kernel
theorem dX4_twiceAround_28 : decode cX4_twiceAround 28 = .ok (.goto 9, 3) := by decide +kernel
theorem dX4_twiceAround_31 : decode cX4_twiceAround 31 = .ok (.aload_n 0, 1) := by decide +kernel
theorem dX4_twiceAround_32 : decode cX4_twiceAround 32 = .ok (.getfield 42, 3) := by decide +kernel
theorem dX4_twiceAround_35 : decode cX4_twiceAround 35 = .ok (.iload_n 1, 1) := by decide +kernel
theorem dX4_twiceAround_36 : decode cX4_twiceAround 36 = .ok (.iaload, 1) := by decide +kernel
theorem dX4_twiceAround_37 : decode cX4_twiceAround 37 = .ok (.istore 6, 2) := by decide +kernel
theorem dX4_twiceAround_39 : decode cX4_twiceAround 39 = .ok (.lload_n 3, 1) := by decide +kernel
theorem dX4_twiceAround_40 : decode cX4_twiceAround 40 = .ok (.aload_n 0, 1) := by decide +kernel
theorem dX4_twiceAround_41 : decode cX4_twiceAround 41 = .ok (.getfield 58, 3) := by decide +kernel
theorem dX4_twiceAround_44 : decode cX4_twiceAround 44 = .ok (.getfield 114, 3) := by decide +kernel
theorem dX4_twiceAround_47 : decode cX4_twiceAround 47 = .ok (.aload_n 0, 1) := by decide +kernel
theorem dX4_twiceAround_48 : decode cX4_twiceAround 48 = .ok (.getfield 42, 3) := by decide +kernel
theorem dX4_twiceAround_51 : decode cX4_twiceAround 51 = .ok (.iload 5, 2) := by decide +kernel
theorem dX4_twiceAround_53 : decode cX4_twiceAround 53 = .ok (.iaload, 1) := by decide +kernel
theorem dX4_twiceAround_54 : decode cX4_twiceAround 54 = .ok (.iaload, 1) := by decide +kernel
theorem dX4_twiceAround_55 : decode cX4_twiceAround 55 = .ok (.i2l, 1) := by decide +kernel
theorem dX4_twiceAround_56 : decode cX4_twiceAround 56 = .ok (.aload_n 0, 1) := by decide +kernel
theorem dX4_twiceAround_57 : decode cX4_twiceAround 57 = .ok (.getfield 58, 3) := by decide +kernel
theorem dX4_twiceAround_60 : decode cX4_twiceAround 60 = .ok (.getfield 117, 3) := by decide +kernel
theorem dX4_twiceAround_63 : decode cX4_twiceAround 63 = .ok (.iload 6, 2) := by decide +kernel
theorem dX4_twiceAround_65 : decode cX4_twiceAround 65 = .ok (.iaload, 1) := by decide +kernel
theorem dX4_twiceAround_66 : decode cX4_twiceAround 66 = .ok (.i2l, 1) := by decide +kernel
theorem dX4_twiceAround_67 : decode cX4_twiceAround 67 = .ok (.lmul, 1) := by decide +kernel
theorem dX4_twiceAround_68 : decode cX4_twiceAround 68 = .ok (.aload_n 0, 1) := by decide +kernel
theorem dX4_twiceAround_69 : decode cX4_twiceAround 69 = .ok (.getfield 58, 3) := by decide +kernel
theorem dX4_twiceAround_72 : decode cX4_twiceAround 72 = .ok (.getfield 114, 3) := by decide +kernel
theorem dX4_twiceAround_75 : decode cX4_twiceAround 75 = .ok (.iload 6, 2) := by decide +kernel
theorem dX4_twiceAround_77 : decode cX4_twiceAround 77 = .ok (.iaload, 1) := by decide +kernel
theorem dX4_twiceAround_78 : decode cX4_twiceAround 78 = .ok (.i2l, 1) := by decide +kernel
theorem dX4_twiceAround_79 : decode cX4_twiceAround 79 = .ok (.aload_n 0, 1) := by decide +kernel
theorem dX4_twiceAround_80 : decode cX4_twiceAround 80 = .ok (.getfield 58, 3) := by decide +kernel
theorem dX4_twiceAround_83 : decode cX4_twiceAround 83 = .ok (.getfield 117, 3) := by decide +kernel
theorem dX4_twiceAround_86 : decode cX4_twiceAround 86 = .ok (.aload_n 0, 1) := by decide +kernel
theorem dX4_twiceAround_87 : decode cX4_twiceAround 87 = .ok (.getfield 42, 3) := by decide +kernel
theorem dX4_twiceAround_90 : decode cX4_twiceAround 90 = .ok (.iload 5, 2) := by decide +kernel
theorem dX4_twiceAround_92 : decode cX4_twiceAround 92 = .ok (.iaload, 1) := by decide +kernel
theorem dX4_twiceAround_93 : decode cX4_twiceAround 93 = .ok (.iaload, 1) := by decide +kernel
theorem dX4_twiceAround_94 : decode cX4_twiceAround 94 = .ok (.i2l, 1) := by decide +kernel
theorem dX4_twiceAround_95 : decode cX4_twiceAround 95 = .ok (.lmul, 1) := by decide +kernel
theorem dX4_twiceAround_96 : decode cX4_twiceAround 96 = .ok (.lsub, 1) := by decide +kernel
theorem dX4_twiceAround_97 : decode cX4_twiceAround 97 = .ok (.ladd, 1) := by decide +kernel
theorem dX4_twiceAround_98 : decode cX4_twiceAround 98 = .ok (.lstore_n 3, 1) := by decide +kernel
theorem dX4_twiceAround_99 : decode cX4_twiceAround 99 = .ok (.iinc 5 1, 3) := by decide +kernel
theorem dX4_twiceAround_102 : decode cX4_twiceAround 102 = .ok (.goto (-97), 3) := by decide +kernel
theorem dX4_twiceAround_105 : decode cX4_twiceAround 105 = .ok (.lload_n 3, 1) := by decide +kernel
theorem dX4_twiceAround_106 : decode cX4_twiceAround 106 = .ok (.lreturn, 1) := by decide +kernel
theorem dX4_isShell_0 : decode cX4_isShell 0 = .ok (.aload_n 0, 1) := by decide +kernel
theorem dX4_isShell_1 : decode cX4_isShell 1 = .ok (.getfield 48, 3) := by decide +kernel
theorem dX4_isShell_4 : decode cX4_isShell 4 = .ok (.iload_n 1, 1) := by decide +kernel
theorem dX4_isShell_5 : decode cX4_isShell 5 = .ok (.laload, 1) := by decide +kernel
theorem dX4_isShell_6 : decode cX4_isShell 6 = .ok (.lconst 0, 1) := by decide +kernel
theorem dX4_isShell_7 : decode cX4_isShell 7 = .ok (.lcmp, 1) := by decide +kernel
theorem dX4_isShell_8 : decode cX4_isShell 8 = .ok (.ifCond .le 7, 3) := by decide +kernel
theorem dX4_isShell_11 : decode cX4_isShell 11 = .ok (.iconst 1, 1) := by decide +kernel
theorem dX4_isShell_12 : decode cX4_isShell 12 = .ok (.goto 4, 3) := by decide +kernel
theorem dX4_isShell_15 : decode cX4_isShell 15 = .ok (.iconst 0, 1) := by decide +kernel
theorem dX4_isShell_16 : decode cX4_isShell 16 = .ok (.ireturn, 1) := by decide +kernel
theorem dX4_giveHolesToShells_0 : decode cX4_giveHolesToShells 0 = .ok (.iconst 0, 1) := by decide +kernel
theorem dX4_giveHolesToShells_1 : decode cX4_giveHolesToShells 1 = .ok (.istore_n 1, 1) := by decide +kernel
theorem dX4_giveHolesToShells_2 : decode cX4_giveHolesToShells 2 = .ok (.iload_n 1, 1) := by decide +kernel
theorem dX4_giveHolesToShells_3 : decode cX4_giveHolesToShells 3 = .ok (.aload_n 0, 1) := by decide +kernel
theorem dX4_giveHolesToShells_4 : decode cX4_giveHolesToShells 4 = .ok (.getfield 147, 3) := by decide +kernel
theorem dX4_giveHolesToShells_7 : decode cX4_giveHolesToShells 7 = .ok (.if_icmp .ge 122, 3) := by decide +kernel
theorem dX4_giveHolesToShells_10 : decode cX4_giveHolesToShells 10 = .ok (.aload_n 0, 1) := by decide +kernel
theorem dX4_giveHolesToShells_11 : decode cX4_giveHolesToShells 11 = .ok (.getfield 52, 3) := by decide +kernel
theorem dX4_giveHolesToShells_14 : decode cX4_giveHolesToShells 14 = .ok (.iload_n 1, 1) := by decide +kernel
theorem dX4_giveHolesToShells_15 : decode cX4_giveHolesToShells 15 = .ok (.iconst (-1), 1) := by decide +kernel
theorem dX4_giveHolesToShells_16 : decode cX4_giveHolesToShells 16 = .ok (.iastore, 1) := by decide +kernel
theorem dX4_giveHolesToShells_17 : decode cX4_giveHolesToShells 17 = .ok (.iconst 0, 1) := by decide +kernel
theorem dX4_giveHolesToShells_18 : decode cX4_giveHolesToShells 18 = .ok (.istore_n 2, 1) := by decide +kernel
theorem dX4_giveHolesToShells_19 : decode cX4_giveHolesToShells 19 = .ok (.iload_n 2, 1) := by decide +kernel
theorem dX4_giveHolesToShells_20 : decode cX4_giveHolesToShells 20 = .ok (.aload_n 0, 1) := by decide +kernel
theorem dX4_giveHolesToShells_21 : decode cX4_giveHolesToShells 21 = .ok (.getfield 147, 3) := by decide +kernel
theorem dX4_giveHolesToShells_24 : decode cX4_giveHolesToShells 24 = .ok (.if_icmp .ge 99, 3) := by decide +kernel
theorem dX4_giveHolesToShells_27 : decode cX4_giveHolesToShells 27 = .ok (.aload_n 0, 1) := by decide +kernel
theorem dX4_giveHolesToShells_28 : decode cX4_giveHolesToShells 28 = .ok (.iload_n 1, 1) := by decide +kernel
theorem dX4_giveHolesToShells_29 : decode cX4_giveHolesToShells 29 = .ok (.invokevirtual 181, 3) := by decide +kernel
theorem dX4_giveHolesToShells_32 : decode cX4_giveHolesToShells 32 = .ok (.ifCond .ne 91, 3) := by decide +kernel
theorem dX4_giveHolesToShells_35 : decode cX4_giveHolesToShells 35 = .ok (.aload_n 0, 1) := by decide +kernel
theorem dX4_giveHolesToShells_36 : decode cX4_giveHolesToShells 36 = .ok (.getfield 52, 3) := by decide +kernel
theorem dX4_giveHolesToShells_39 : decode cX4_giveHolesToShells 39 = .ok (.iload_n 1, 1) := by decide +kernel
theorem dX4_giveHolesToShells_40 : decode cX4_giveHolesToShells 40 = .ok (.iaload, 1) := by decide +kernel
theorem dX4_giveHolesToShells_41 : decode cX4_giveHolesToShells 41 = .ok (.iconst (-1), 1) := by decide +kernel
theorem dX4_giveHolesToShells_42 : decode cX4_giveHolesToShells 42 = .ok (.if_icmp .eq 24, 3) := by decide +kernel
theorem dX4_giveHolesToShells_45 : decode cX4_giveHolesToShells 45 = .ok (.aload_n 0, 1) := by decide +kernel
theorem dX4_giveHolesToShells_46 : decode cX4_giveHolesToShells 46 = .ok (.getfield 48, 3) := by decide +kernel
theorem dX4_giveHolesToShells_49 : decode cX4_giveHolesToShells 49 = .ok (.iload_n 2, 1) := by decide +kernel
theorem dX4_giveHolesToShells_50 : decode cX4_giveHolesToShells 50 = .ok (.laload, 1) := by decide +kernel
theorem dX4_giveHolesToShells_51 : decode cX4_giveHolesToShells 51 = .ok (.aload_n 0, 1) := by decide +kernel
theorem dX4_giveHolesToShells_52 : decode cX4_giveHolesToShells 52 = .ok (.getfield 48, 3) := by decide +kernel
theorem dX4_giveHolesToShells_55 : decode cX4_giveHolesToShells 55 = .ok (.aload_n 0, 1) := by decide +kernel
theorem dX4_giveHolesToShells_56 : decode cX4_giveHolesToShells 56 = .ok (.getfield 52, 3) := by decide +kernel
theorem dX4_giveHolesToShells_59 : decode cX4_giveHolesToShells 59 = .ok (.iload_n 1, 1) := by decide +kernel
theorem dX4_giveHolesToShells_60 : decode cX4_giveHolesToShells 60 = .ok (.iaload, 1) := by decide +kernel
theorem dX4_giveHolesToShells_61 : decode cX4_giveHolesToShells 61 = .ok (.laload, 1) := by decide +kernel
theorem dX4_giveHolesToShells_62 : decode cX4_giveHolesToShells 62 = .ok (.lcmp, 1) := by decide +kernel
theorem dX4_giveHolesToShells_63 : decode cX4_giveHolesToShells 63 = .ok (.ifCond .ge 7, 3) := by decide +kernel
theorem dX4_giveHolesToShells_66 : decode cX4_giveHolesToShells 66 = .ok (.iconst 1, 1) := by decide +kernel
theorem dX4_giveHolesToShells_67 : decode cX4_giveHolesToShells 67 = .ok (.goto 4, 3) := by decide +kernel
theorem dX4_giveHolesToShells_70 : decode cX4_giveHolesToShells 70 = .ok (.iconst 0, 1) := by decide +kernel
theorem dX4_giveHolesToShells_71 : decode cX4_giveHolesToShells 71 = .ok (.istore_n 3, 1) := by decide +kernel
theorem dX4_giveHolesToShells_72 : decode cX4_giveHolesToShells 72 = .ok (.aload_n 0, 1) := by decide +kernel
theorem dX4_giveHolesToShells_73 : decode cX4_giveHolesToShells 73 = .ok (.iload_n 2, 1) := by decide +kernel
theorem dX4_giveHolesToShells_74 : decode cX4_giveHolesToShells 74 = .ok (.invokevirtual 181, 3) := by decide +kernel
theorem dX4_giveHolesToShells_77 : decode cX4_giveHolesToShells 77 = .ok (.ifCond .eq 40, 3) := by decide +kernel
theorem dX4_giveHolesToShells_80 : decode cX4_giveHolesToShells 80 = .ok (.iload_n 3, 1) := by decide +kernel
theorem dX4_giveHolesToShells_81 : decode cX4_giveHolesToShells 81 = .ok (.ifCond .eq 36, 3) := by decide +kernel
theorem dX4_giveHolesToShells_84 : decode cX4_giveHolesToShells 84 = .ok (.aload_n 0, 1) := by decide +kernel
theorem dX4_giveHolesToShells_85 : decode cX4_giveHolesToShells 85 = .ok (.getfield 48, 3) := by decide +kernel
theorem dX4_giveHolesToShells_88 : decode cX4_giveHolesToShells 88 = .ok (.iload_n 2, 1) := by decide +kernel
theorem dX4_giveHolesToShells_89 : decode cX4_giveHolesToShells 89 = .ok (.laload, 1) := by decide +kernel
theorem dX4_giveHolesToShells_90 : decode cX4_giveHolesToShells 90 = .ok (.aload_n 0, 1) := by decide +kernel
theorem dX4_giveHolesToShells_91 : decode cX4_giveHolesToShells 91 = .ok (.getfield 48, 3) := by decide +kernel
theorem dX4_giveHolesToShells_94 : decode cX4_giveHolesToShells 94 = .ok (.iload_n 1, 1) := by decide +kernel
theorem dX4_giveHolesToShells_95 : decode cX4_giveHolesToShells 95 = .ok (.laload, 1) := by decide +kernel
theorem dX4_giveHolesToShells_96 : decode cX4_giveHolesToShells 96 = .ok (.lneg, 1) := by decide +kernel
theorem dX4_giveHolesToShells_97 : decode cX4_giveHolesToShells 97 = .ok (.lcmp, 1) := by decide +kernel
theorem dX4_giveHolesToShells_98 : decode cX4_giveHolesToShells 98 = .ok (.ifCond .le 19, 3) := by decide +kernel
theorem dX4_giveHolesToShells_101 : decode cX4_giveHolesToShells 101 = .ok (.aload_n 0, 1) := by decide +kernel
theorem dX4_giveHolesToShells_102 : decode cX4_giveHolesToShells 102 = .ok (.iload_n 1, 1) := by decide +kernel
theorem dX4_giveHolesToShells_103 : decode cX4_giveHolesToShells 103 = .ok (.iload_n 2, 1) := by decide +kernel
theorem dX4_giveHolesToShells_104 : decode cX4_giveHolesToShells 104 = .ok (.invokevirtual 184, 3) := by decide +kernel
theorem dX4_giveHolesToShells_107 : decode cX4_giveHolesToShells 107 = .ok (.ifCond .eq 10, 3) := by decide +kernel
theorem dX4_giveHolesToShells_110 : decode cX4_giveHolesToShells 110 = .ok (.aload_n 0, 1) := by decide +kernel
theorem dX4_giveHolesToShells_111 : decode cX4_giveHolesToShells 111 = .ok (.getfield 52, 3) := by decide +kernel
theorem dX4_giveHolesToShells_114 : decode cX4_giveHolesToShells 114 = .ok (.iload_n 1, 1) := by decide +kernel
theorem dX4_giveHolesToShells_115 : decode cX4_giveHolesToShells 115 = .ok (.iload_n 2, 1) := by decide +kernel
theorem dX4_giveHolesToShells_116 : decode cX4_giveHolesToShells 116 = .ok (.iastore, 1) := by decide +kernel
theorem dX4_giveHolesToShells_117 : decode cX4_giveHolesToShells 117 = .ok (.iinc 2 1, 3) := by decide +kernel
theorem dX4_giveHolesToShells_120 : decode cX4_giveHolesToShells 120 = .ok (.goto (-101), 3) := by decide +kernel
theorem dX4_giveHolesToShells_123 : decode cX4_giveHolesToShells 123 = .ok (.iinc 1 1, 3) := by decide +kernel
theorem dX4_giveHolesToShells_126 : decode cX4_giveHolesToShells 126 = .ok (.goto (-124), 3) := by decide +kernel
theorem dX4_giveHolesToShells_129 : decode cX4_giveHolesToShells 129 = .ok (.return_, 1) := by decide +kernel
theorem dX4_liesIn_0 : decode cX4_liesIn 0 = .ok (.aload_n 0, 1) := by decide +kernel
theorem dX4_liesIn_1 : decode cX4_liesIn 1 = .ok (.getfield 45, 3) := by decide +kernel
theorem dX4_liesIn_4 : decode cX4_liesIn 4 = .ok (.iload_n 1, 1) := by decide +kernel
theorem dX4_liesIn_5 : decode cX4_liesIn 5 = .ok (.iaload, 1) := by decide +kernel
theorem dX4_liesIn_6 : decode cX4_liesIn 6 = .ok (.istore_n 3, 1) := by decide +kernel
theorem dX4_liesIn_7 : decode cX4_liesIn 7 = .ok (.iload_n 3, 1) := by decide +kernel
theorem dX4_liesIn_8 : decode cX4_liesIn 8 = .ok (.aload_n 0, 1) := by decide +kernel
theorem dX4_liesIn_9 : decode cX4_liesIn 9 = .ok (.getfield 45, 3) := by decide +kernel
theorem dX4_liesIn_12 : decode cX4_liesIn 12 = .ok (.iload_n 1, 1) := by decide +kernel
theorem dX4_liesIn_13 : decode cX4_liesIn 13 = .ok (.iconst 1, 1) := by decide +kernel
theorem dX4_liesIn_14 : decode cX4_liesIn 14 = .ok (.iadd, 1) := by decide +kernel
theorem dX4_liesIn_15 : decode cX4_liesIn 15 = .ok (.iaload, 1) := by decide +kernel
theorem dX4_liesIn_16 : decode cX4_liesIn 16 = .ok (.if_icmp .ge 61, 3) := by decide +kernel
theorem dX4_liesIn_19 : decode cX4_liesIn 19 = .ok (.aload_n 0, 1) := by decide +kernel
theorem dX4_liesIn_20 : decode cX4_liesIn 20 = .ok (.iload_n 2, 1) := by decide +kernel
theorem dX4_liesIn_21 : decode cX4_liesIn 21 = .ok (.aload_n 0, 1) := by decide +kernel
theorem dX4_liesIn_22 : decode cX4_liesIn 22 = .ok (.getfield 58, 3) := by decide +kernel
theorem dX4_liesIn_25 : decode cX4_liesIn 25 = .ok (.getfield 114, 3) := by decide +kernel
theorem dX4_liesIn_28 : decode cX4_liesIn 28 = .ok (.aload_n 0, 1) := by decide +kernel
theorem dX4_liesIn_29 : decode cX4_liesIn 29 = .ok (.getfield 42, 3) := by decide +kernel
theorem dX4_liesIn_32 : decode cX4_liesIn 32 = .ok (.iload_n 3, 1) := by decide +kernel
theorem dX4_liesIn_33 : decode cX4_liesIn 33 = .ok (.iaload, 1) := by decide +kernel
theorem dX4_liesIn_34 : decode cX4_liesIn 34 = .ok (.iaload, 1) := by decide +kernel
theorem dX4_liesIn_35 : decode cX4_liesIn 35 = .ok (.aload_n 0, 1) := by decide +kernel
theorem dX4_liesIn_36 : decode cX4_liesIn 36 = .ok (.getfield 58, 3) := by decide +kernel
theorem dX4_liesIn_39 : decode cX4_liesIn 39 = .ok (.getfield 117, 3) := by decide +kernel
theorem dX4_liesIn_42 : decode cX4_liesIn 42 = .ok (.aload_n 0, 1) := by decide +kernel
theorem dX4_liesIn_43 : decode cX4_liesIn 43 = .ok (.getfield 42, 3) := by decide +kernel
theorem dX4_liesIn_46 : decode cX4_liesIn 46 = .ok (.iload_n 3, 1) := by decide +kernel
theorem dX4_liesIn_47 : decode cX4_liesIn 47 = .ok (.iaload, 1) := by decide +kernel
theorem dX4_liesIn_48 : decode cX4_liesIn 48 = .ok (.iaload, 1) := by decide +kernel
theorem dX4_liesIn_49 : decode cX4_liesIn 49 = .ok (.invokevirtual 187, 3) := by decide +kernel
theorem dX4_liesIn_52 : decode cX4_liesIn 52 = .ok (.istore 4, 2) := by decide +kernel
theorem dX4_liesIn_54 : decode cX4_liesIn 54 = .ok (.iload 4, 2) := by decide +kernel
theorem dX4_liesIn_56 : decode cX4_liesIn 56 = .ok (.iconst 1, 1) := by decide +kernel
theorem dX4_liesIn_57 : decode cX4_liesIn 57 = .ok (.if_icmp .eq 14, 3) := by decide +kernel
theorem dX4_liesIn_60 : decode cX4_liesIn 60 = .ok (.iload 4, 2) := by decide +kernel
theorem dX4_liesIn_62 : decode cX4_liesIn 62 = .ok (.ifCond .ne 7, 3) := by decide +kernel
theorem dX4_liesIn_65 : decode cX4_liesIn 65 = .ok (.iconst 1, 1) := by decide +kernel
theorem dX4_liesIn_66 : decode cX4_liesIn 66 = .ok (.goto 4, 3) := by decide +kernel
theorem dX4_liesIn_69 : decode cX4_liesIn 69 = .ok (.iconst 0, 1) := by decide +kernel
theorem dX4_liesIn_70 : decode cX4_liesIn 70 = .ok (.ireturn, 1) := by decide +kernel
theorem dX4_liesIn_71 : decode cX4_liesIn 71 = .ok (.iinc 3 1, 3) := by decide +kernel
theorem dX4_liesIn_74 : decode cX4_liesIn 74 = .ok (.goto (-67), 3) := by decide +kernel
theorem dX4_liesIn_77 : decode cX4_liesIn 77 = .ok (.iconst 0, 1) := by decide +kernel
theorem dX4_liesIn_78 : decode cX4_liesIn 78 = .ok (.ireturn, 1) := by decide +kernel
theorem dX4_whereIs_0 : decode cX4_whereIs 0 = .ok (.iconst 0, 1) := by decide +kernel
theorem dX4_whereIs_1 : decode cX4_whereIs 1 = .ok (.istore 4, 2) := by decide +kernel
theorem dX4_whereIs_3 : decode cX4_whereIs 3 = .ok (.aload_n 0, 1) := by decide +kernel
theorem dX4_whereIs_4 : decode cX4_whereIs 4 = .ok (.getfield 45, 3) := by decide +kernel
theorem dX4_whereIs_7 : decode cX4_whereIs 7 = .ok (.iload_n 1, 1) := by decide +kernel
theorem dX4_whereIs_8 : decode cX4_whereIs 8 = .ok (.iaload, 1) := by decide +kernel
theorem dX4_whereIs_9 : decode cX4_whereIs 9 = .ok (.istore 5, 2) := by decide +kernel
theorem dX4_whereIs_11 : decode cX4_whereIs 11 = .ok (.iload 5, 2) := by decide +kernel
theorem dX4_whereIs_13 : decode cX4_whereIs 13 = .ok (.aload_n 0, 1) := by decide +kernel
theorem dX4_whereIs_14 : decode cX4_whereIs 14 = .ok (.getfield 45, 3) := by decide +kernel
theorem dX4_whereIs_17 : decode cX4_whereIs 17 = .ok (.iload_n 1, 1) := by decide +kernel
theorem dX4_whereIs_18 : decode cX4_whereIs 18 = .ok (.iconst 1, 1) := by decide +kernel
theorem dX4_whereIs_19 : decode cX4_whereIs 19 = .ok (.iadd, 1) := by decide +kernel
theorem dX4_whereIs_20 : decode cX4_whereIs 20 = .ok (.iaload, 1) := by decide +kernel
theorem dX4_whereIs_21 : decode cX4_whereIs 21 = .ok (.if_icmp .ge 152, 3) := by decide +kernel
theorem dX4_whereIs_24 : decode cX4_whereIs 24 = .ok (.aload_n 0, 1) := by decide +kernel
theorem dX4_whereIs_25 : decode cX4_whereIs 25 = .ok (.getfield 42, 3) := by decide +kernel
theorem dX4_whereIs_28 : decode cX4_whereIs 28 = .ok (.iload 5, 2) := by decide +kernel
theorem dX4_whereIs_30 : decode cX4_whereIs 30 = .ok (.iaload, 1) := by decide +kernel
theorem dX4_whereIs_31 : decode cX4_whereIs 31 = .ok (.istore 6, 2) := by decide +kernel
theorem dX4_whereIs_33 : decode cX4_whereIs 33 = .ok (.iload 5, 2) := by decide +kernel
theorem dX4_whereIs_35 : decode cX4_whereIs 35 = .ok (.iconst 1, 1) := by decide +kernel
theorem dX4_whereIs_36 : decode cX4_whereIs 36 = .ok (.iadd, 1) := by decide +kernel
theorem dX4_whereIs_37 : decode cX4_whereIs 37 = .ok (.aload_n 0, 1) := by decide +kernel
theorem dX4_whereIs_38 : decode cX4_whereIs 38 = .ok (.getfield 45, 3) := by decide +kernel
theorem dX4_whereIs_41 : decode cX4_whereIs 41 = .ok (.iload_n 1, 1) := by decide +kernel
theorem dX4_whereIs_42 : decode cX4_whereIs 42 = .ok (.iconst 1, 1) := by decide +kernel
theorem dX4_whereIs_43 : decode cX4_whereIs 43 = .ok (.iadd, 1) := by decide +kernel
theorem dX4_whereIs_44 : decode cX4_whereIs 44 = .ok (.iaload, 1) := by decide +kernel
theorem dX4_whereIs_45 : decode cX4_whereIs 45 = .ok (.if_icmp .ge 15, 3) := by decide +kernel
theorem dX4_whereIs_48 : decode cX4_whereIs 48 = .ok (.aload_n 0, 1) := by decide +kernel
theorem dX4_whereIs_49 : decode cX4_whereIs 49 = .ok (.getfield 42, 3) := by decide +kernel
theorem dX4_whereIs_52 : decode cX4_whereIs 52 = .ok (.iload 5, 2) := by decide +kernel
theorem dX4_whereIs_54 : decode cX4_whereIs 54 = .ok (.iconst 1, 1) := by decide +kernel
theorem dX4_whereIs_55 : decode cX4_whereIs 55 = .ok (.iadd, 1) := by decide +kernel
theorem dX4_whereIs_56 : decode cX4_whereIs 56 = .ok (.iaload, 1) := by decide +kernel
theorem dX4_whereIs_57 : decode cX4_whereIs 57 = .ok (.goto 14, 3) := by decide +kernel
theorem dX4_whereIs_60 : decode cX4_whereIs 60 = .ok (.aload_n 0, 1) := by decide +kernel
theorem dX4_whereIs_61 : decode cX4_whereIs 61 = .ok (.getfield 42, 3) := by decide +kernel
theorem dX4_whereIs_64 : decode cX4_whereIs 64 = .ok (.aload_n 0, 1) := by decide +kernel
theorem dX4_whereIs_65 : decode cX4_whereIs 65 = .ok (.getfield 45, 3) := by decide +kernel
theorem dX4_whereIs_68 : decode cX4_whereIs 68 = .ok (.iload_n 1, 1) := by decide +kernel
theorem dX4_whereIs_69 : decode cX4_whereIs 69 = .ok (.iaload, 1) := by decide +kernel
theorem dX4_whereIs_70 : decode cX4_whereIs 70 = .ok (.iaload, 1) := by decide +kernel
theorem dX4_whereIs_71 : decode cX4_whereIs 71 = .ok (.istore 7, 2) := by decide +kernel
theorem dX4_whereIs_73 : decode cX4_whereIs 73 = .ok (.aload_n 0, 1) := by decide +kernel
theorem dX4_whereIs_74 : decode cX4_whereIs 74 = .ok (.getfield 58, 3) := by decide +kernel
theorem dX4_whereIs_77 : decode cX4_whereIs 77 = .ok (.getfield 114, 3) := by decide +kernel
theorem dX4_whereIs_80 : decode cX4_whereIs 80 = .ok (.iload 6, 2) := by decide +kernel
theorem dX4_whereIs_82 : decode cX4_whereIs 82 = .ok (.iaload, 1) := by decide +kernel
theorem dX4_whereIs_83 : decode cX4_whereIs 83 = .ok (.istore 8, 2) := by decide +kernel
theorem dX4_whereIs_85 : decode cX4_whereIs 85 = .ok (.aload_n 0, 1) := by decide +kernel
theorem dX4_whereIs_86 : decode cX4_whereIs 86 = .ok (.getfield 58, 3) := by decide +kernel
theorem dX4_whereIs_89 : decode cX4_whereIs 89 = .ok (.getfield 117, 3) := by decide +kernel
theorem dX4_whereIs_92 : decode cX4_whereIs 92 = .ok (.iload 6, 2) := by decide +kernel
theorem dX4_whereIs_94 : decode cX4_whereIs 94 = .ok (.iaload, 1) := by decide +kernel
theorem dX4_whereIs_95 : decode cX4_whereIs 95 = .ok (.istore 9, 2) := by decide +kernel
theorem dX4_whereIs_97 : decode cX4_whereIs 97 = .ok (.aload_n 0, 1) := by decide +kernel
theorem dX4_whereIs_98 : decode cX4_whereIs 98 = .ok (.getfield 58, 3) := by decide +kernel
theorem dX4_whereIs_101 : decode cX4_whereIs 101 = .ok (.getfield 114, 3) := by decide +kernel
theorem dX4_whereIs_104 : decode cX4_whereIs 104 = .ok (.iload 7, 2) := by decide +kernel
theorem dX4_whereIs_106 : decode cX4_whereIs 106 = .ok (.iaload, 1) := by decide +kernel
theorem dX4_whereIs_107 : decode cX4_whereIs 107 = .ok (.istore 10, 2) := by decide +kernel
theorem dX4_whereIs_109 : decode cX4_whereIs 109 = .ok (.aload_n 0, 1) := by decide +kernel
theorem dX4_whereIs_110 : decode cX4_whereIs 110 = .ok (.getfield 58, 3) := by decide +kernel
theorem dX4_whereIs_113 : decode cX4_whereIs 113 = .ok (.getfield 117, 3) := by decide +kernel
theorem dX4_whereIs_116 : decode cX4_whereIs 116 = .ok (.iload 7, 2) := by decide +kernel
theorem dX4_whereIs_118 : decode cX4_whereIs 118 = .ok (.iaload, 1) := by decide +kernel
theorem dX4_whereIs_119 : decode cX4_whereIs 119 = .ok (.istore 11, 2) := by decide +kernel
theorem dX4_whereIs_121 : decode cX4_whereIs 121 = .ok (.iload 8, 2) := by decide +kernel
theorem dX4_whereIs_123 : decode cX4_whereIs 123 = .ok (.iload 9, 2) := by decide +kernel
theorem dX4_whereIs_125 : decode cX4_whereIs 125 = .ok (.iload 10, 2) := by decide +kernel
theorem dX4_whereIs_127 : decode cX4_whereIs 127 = .ok (.iload 11, 2) := by decide +kernel
theorem dX4_whereIs_129 : decode cX4_whereIs 129 = .ok (.iload_n 2, 1) := by decide +kernel
theorem dX4_whereIs_130 : decode cX4_whereIs 130 = .ok (.iload_n 3, 1) := by decide +kernel
theorem dX4_whereIs_131 : decode cX4_whereIs 131 = .ok (.invokestatic 190, 3) := by decide +kernel
theorem dX4_whereIs_134 : decode cX4_whereIs 134 = .ok (.ifCond .eq 5, 3) := by decide +kernel
theorem dX4_whereIs_137 : decode cX4_whereIs 137 = .ok (.iconst 1, 1) := by decide +kernel
theorem dX4_whereIs_138 : decode cX4_whereIs 138 = .ok (.ireturn, 1) := by decide +kernel
theorem dX4_whereIs_139 : decode cX4_whereIs 139 = .ok (.iload 8, 2) := by decide +kernel
theorem dX4_whereIs_141 : decode cX4_whereIs 141 = .ok (.iload 9, 2) := by decide +kernel
theorem dX4_whereIs_143 : decode cX4_whereIs 143 = .ok (.iload 10, 2) := by decide +kernel
theorem dX4_whereIs_145 : decode cX4_whereIs 145 = .ok (.iload 11, 2) := by decide +kernel
theorem dX4_whereIs_147 : decode cX4_whereIs 147 = .ok (.iload_n 2, 1) := by decide +kernel
theorem dX4_whereIs_148 : decode cX4_whereIs 148 = .ok (.iload_n 3, 1) := by decide +kernel
theorem dX4_whereIs_149 : decode cX4_whereIs 149 = .ok (.invokestatic 194, 3) := by decide +kernel
theorem dX4_whereIs_152 : decode cX4_whereIs 152 = .ok (.ifCond .eq 15, 3) := by decide +kernel
theorem dX4_whereIs_155 : decode cX4_whereIs 155 = .ok (.iload 4, 2) := by decide +kernel
theorem dX4_whereIs_157 : decode cX4_whereIs 157 = .ok (.ifCond .ne 7, 3) := by decide +kernel
theorem dX4_whereIs_160 : decode cX4_whereIs 160 = .ok (.iconst 1, 1) := by decide +kernel
theorem dX4_whereIs_161 : decode cX4_whereIs 161 = .ok (.goto 4, 3) := by decide +kernel
theorem dX4_whereIs_164 : decode cX4_whereIs 164 = .ok (.iconst 0, 1) := by decide +kernel
theorem dX4_whereIs_165 : decode cX4_whereIs 165 = .ok (.istore 4, 2) := by decide +kernel
theorem dX4_whereIs_167 : decode cX4_whereIs 167 = .ok (.iinc 5 1, 3) := by decide +kernel
theorem dX4_whereIs_170 : decode cX4_whereIs 170 = .ok (.goto (-159), 3) := by decide +kernel
theorem dX4_whereIs_173 : decode cX4_whereIs 173 = .ok (.iload 4, 2) := by decide +kernel
theorem dX4_whereIs_175 : decode cX4_whereIs 175 = .ok (.ifCond .eq 7, 3) := by decide +kernel
theorem dX4_whereIs_178 : decode cX4_whereIs 178 = .ok (.iconst 0, 1) := by decide +kernel
theorem dX4_whereIs_179 : decode cX4_whereIs 179 = .ok (.goto 4, 3) := by decide +kernel
theorem dX4_whereIs_182 : decode cX4_whereIs 182 = .ok (.iconst 2, 1) := by decide +kernel
theorem dX4_whereIs_183 : decode cX4_whereIs 183 = .ok (.ireturn, 1) := by decide +kernel
theorem dX4_sortRings_0 : decode cX4_sortRings 0 = .ok (.iconst 0, 1) := by decide +kernel
theorem dX4_sortRings_1 : decode cX4_sortRings 1 = .ok (.istore_n 1, 1) := by decide +kernel
theorem dX4_sortRings_2 : decode cX4_sortRings 2 = .ok (.iload_n 1, 1) := by decide +kernel
theorem dX4_sortRings_3 : decode cX4_sortRings 3 = .ok (.aload_n 0, 1) := by decide +kernel
theorem dX4_sortRings_4 : decode cX4_sortRings 4 = .ok (.getfield 147, 3) := by decide +kernel
theorem dX4_sortRings_7 : decode cX4_sortRings 7 = .ok (.if_icmp .ge 68, 3) := by decide +kernel
theorem dX4_sortRings_10 : decode cX4_sortRings 10 = .ok (.aload_n 0, 1) := by decide +kernel
theorem dX4_sortRings_11 : decode cX4_sortRings 11 = .ok (.getfield 45, 3) := by decide +kernel
theorem dX4_sortRings_14 : decode cX4_sortRings 14 = .ok (.iload_n 1, 1) := by decide +kernel
theorem dX4_sortRings_15 : decode cX4_sortRings 15 = .ok (.iaload, 1) := by decide +kernel
theorem dX4_sortRings_16 : decode cX4_sortRings 16 = .ok (.istore_n 2, 1) := by decide +kernel
theorem dX4_sortRings_17 : decode cX4_sortRings 17 = .ok (.iload_n 2, 1) := by decide +kernel
theorem dX4_sortRings_18 : decode cX4_sortRings 18 = .ok (.iconst 1, 1) := by decide +kernel
theorem dX4_sortRings_19 : decode cX4_sortRings 19 = .ok (.iadd, 1) := by decide +kernel
theorem dX4_sortRings_20 : decode cX4_sortRings 20 = .ok (.aload_n 0, 1) := by decide +kernel
theorem dX4_sortRings_21 : decode cX4_sortRings 21 = .ok (.getfield 45, 3) := by decide +kernel
theorem dX4_sortRings_24 : decode cX4_sortRings 24 = .ok (.iload_n 1, 1) := by decide +kernel
theorem dX4_sortRings_25 : decode cX4_sortRings 25 = .ok (.iconst 1, 1) := by decide +kernel
theorem dX4_sortRings_26 : decode cX4_sortRings 26 = .ok (.iadd, 1) := by decide +kernel
theorem dX4_sortRings_27 : decode cX4_sortRings 27 = .ok (.iaload, 1) := by decide +kernel
theorem dX4_sortRings_28 : decode cX4_sortRings 28 = .ok (.if_icmp .ge 15, 3) := by decide +kernel
theorem dX4_sortRings_31 : decode cX4_sortRings 31 = .ok (.aload_n 0, 1) := by decide +kernel
theorem dX4_sortRings_32 : decode cX4_sortRings 32 = .ok (.getfield 42, 3) := by decide +kernel
theorem dX4_sortRings_35 : decode cX4_sortRings 35 = .ok (.iload_n 2, 1) := by decide +kernel
theorem dX4_sortRings_36 : decode cX4_sortRings 36 = .ok (.iconst 1, 1) := by decide +kernel
theorem dX4_sortRings_37 : decode cX4_sortRings 37 = .ok (.iadd, 1) := by decide +kernel
theorem dX4_sortRings_38 : decode cX4_sortRings 38 = .ok (.iaload, 1) := by decide +kernel
theorem dX4_sortRings_39 : decode cX4_sortRings 39 = .ok (.i2l, 1) := by decide +kernel
theorem dX4_sortRings_40 : decode cX4_sortRings 40 = .ok (.goto 4, 3) := by decide +kernel
theorem dX4_sortRings_43 : decode cX4_sortRings 43 = .ok (.lconst 0, 1) := by decide +kernel
theorem dX4_sortRings_44 : decode cX4_sortRings 44 = .ok (.lstore_n 3, 1) := by decide +kernel
theorem dX4_sortRings_45 : decode cX4_sortRings 45 = .ok (.aload_n 0, 1) := by decide +kernel
theorem dX4_sortRings_46 : decode cX4_sortRings 46 = .ok (.getfield 55, 3) := by decide +kernel
theorem dX4_sortRings_49 : decode cX4_sortRings 49 = .ok (.iload_n 1, 1) := by decide +kernel
theorem dX4_sortRings_50 : decode cX4_sortRings 50 = .ok (.aload_n 0, 1) := by decide +kernel
theorem dX4_sortRings_51 : decode cX4_sortRings 51 = .ok (.getfield 42, 3) := by decide +kernel
theorem dX4_sortRings_54 : decode cX4_sortRings 54 = .ok (.iload_n 2, 1) := by decide +kernel
theorem dX4_sortRings_55 : decode cX4_sortRings 55 = .ok (.iaload, 1) := by decide +kernel
theorem dX4_sortRings_56 : decode cX4_sortRings 56 = .ok (.i2l, 1) := by decide +kernel
theorem dX4_sortRings_57 : decode cX4_sortRings 57 = .ok (.bipush 32, 2) := by decide +kernel
theorem dX4_sortRings_59 : decode cX4_sortRings 59 = .ok (.lshl, 1) := by decide +kernel
theorem dX4_sortRings_60 : decode cX4_sortRings 60 = .ok (.lload_n 3, 1) := by decide +kernel
theorem dX4_sortRings_61 : decode cX4_sortRings 61 = .ok (.lor, 1) := by decide +kernel
theorem dX4_sortRings_62 : decode cX4_sortRings 62 = .ok (.bipush 9, 2) := by decide +kernel
theorem dX4_sortRings_64 : decode cX4_sortRings 64 = .ok (.lshl, 1) := by decide +kernel
theorem dX4_sortRings_65 : decode cX4_sortRings 65 = .ok (.iload_n 1, 1) := by decide +kernel
theorem dX4_sortRings_66 : decode cX4_sortRings 66 = .ok (.i2l, 1) := by decide +kernel
theorem dX4_sortRings_67 : decode cX4_sortRings 67 = .ok (.lor, 1) := by decide +kernel
theorem dX4_sortRings_68 : decode cX4_sortRings 68 = .ok (.lastore, 1) := by decide +kernel
theorem dX4_sortRings_69 : decode cX4_sortRings 69 = .ok (.iinc 1 1, 3) := by decide +kernel
theorem dX4_sortRings_72 : decode cX4_sortRings 72 = .ok (.goto (-70), 3) := by decide +kernel
theorem dX4_sortRings_75 : decode cX4_sortRings 75 = .ok (.aload_n 0, 1) := by decide +kernel
theorem dX4_sortRings_76 : decode cX4_sortRings 76 = .ok (.getfield 55, 3) := by decide +kernel
theorem dX4_sortRings_79 : decode cX4_sortRings 79 = .ok (.aload_n 0, 1) := by decide +kernel
theorem dX4_sortRings_80 : decode cX4_sortRings 80 = .ok (.getfield 147, 3) := by decide +kernel
theorem dX4_sortRings_83 : decode cX4_sortRings 83 = .ok (.invokestatic 197, 3) := by decide +kernel
theorem dX4_sortRings_86 : decode cX4_sortRings 86 = .ok (.return_, 1) := by decide +kernel
theorem dX4_ringInOrder_0 : decode cX4_ringInOrder 0 = .ok (.aload_n 0, 1) := by decide +kernel
theorem dX4_ringInOrder_1 : decode cX4_ringInOrder 1 = .ok (.getfield 55, 3) := by decide +kernel
theorem dX4_ringInOrder_4 : decode cX4_ringInOrder 4 = .ok (.iload_n 1, 1) := by decide +kernel
theorem dX4_ringInOrder_5 : decode cX4_ringInOrder 5 = .ok (.laload, 1) := by decide +kernel
theorem dX4_ringInOrder_6 : decode cX4_ringInOrder 6 = .ok (.ldc2_w 201, 3) := by decide +kernel
theorem dX4_ringInOrder_9 : decode cX4_ringInOrder 9 = .ok (.land, 1) := by decide +kernel
theorem dX4_ringInOrder_10 : decode cX4_ringInOrder 10 = .ok (.l2i, 1) := by decide +kernel
theorem dX4_ringInOrder_11 : decode cX4_ringInOrder 11 = .ok (.ireturn, 1) := by decide +kernel
