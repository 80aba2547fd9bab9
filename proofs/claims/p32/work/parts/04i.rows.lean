theorem dX2_triangleKey_0 : decode cX2_triangleKey 0 = .ok (.lload_n 2, 1) := by decide +kernel
theorem dX2_triangleKey_1 : decode cX2_triangleKey 1 = .ok (.lload_n 0, 1) := by decide +kernel
theorem dX2_triangleKey_2 : decode cX2_triangleKey 2 = .ok (.lcmp, 1) := by decide +kernel
theorem dX2_triangleKey_3 : decode cX2_triangleKey 3 = .ok (.ifCond .ge 18, 3) := by decide +kernel
theorem dX2_triangleKey_6 : decode cX2_triangleKey 6 = .ok (.lload_n 2, 1) := by decide +kernel
theorem dX2_triangleKey_7 : decode cX2_triangleKey 7 = .ok (.lload 4, 2) := by decide +kernel
theorem dX2_triangleKey_9 : decode cX2_triangleKey 9 = .ok (.lcmp, 1) := by decide +kernel
theorem dX2_triangleKey_10 : decode cX2_triangleKey 10 = .ok (.ifCond .ge 11, 3) := by decide +kernel
theorem dX2_triangleKey_13 : decode cX2_triangleKey 13 = .ok (.lload_n 2, 1) := by decide +kernel
theorem dX2_triangleKey_14 : decode cX2_triangleKey 14 = .ok (.lload 4, 2) := by decide +kernel
theorem dX2_triangleKey_16 : decode cX2_triangleKey 16 = .ok (.lload_n 0, 1) := by decide +kernel
theorem dX2_triangleKey_17 : decode cX2_triangleKey 17 = .ok (.invokestatic 180, 3) := by decide +kernel
theorem dX2_triangleKey_20 : decode cX2_triangleKey 20 = .ok (.lreturn, 1) := by decide +kernel
theorem dX2_triangleKey_21 : decode cX2_triangleKey 21 = .ok (.lload 4, 2) := by decide +kernel
theorem dX2_triangleKey_23 : decode cX2_triangleKey 23 = .ok (.lload_n 0, 1) := by decide +kernel
theorem dX2_triangleKey_24 : decode cX2_triangleKey 24 = .ok (.lcmp, 1) := by decide +kernel
theorem dX2_triangleKey_25 : decode cX2_triangleKey 25 = .ok (.ifCond .ge 20, 3) := by decide +kernel
theorem dX2_triangleKey_28 : decode cX2_triangleKey 28 = .ok (.lload 4, 2) := by decide +kernel
theorem dX2_triangleKey_30 : decode cX2_triangleKey 30 = .ok (.lload_n 2, 1) := by decide +kernel
theorem dX2_triangleKey_31 : decode cX2_triangleKey 31 = .ok (.lcmp, 1) := by decide +kernel
theorem dX2_triangleKey_32 : decode cX2_triangleKey 32 = .ok (.ifCond .ge 13, 3) := by decide +kernel
theorem dX2_triangleKey_35 : decode cX2_triangleKey 35 = .ok (.lload 4, 2) := by decide +kernel
theorem dX2_triangleKey_37 : decode cX2_triangleKey 37 = .ok (.lload_n 0, 1) := by decide +kernel
theorem dX2_triangleKey_38 : decode cX2_triangleKey 38 = .ok (.lload_n 2, 1) := by decide +kernel
theorem dX2_triangleKey_39 : decode cX2_triangleKey 39 = .ok (.invokestatic 180, 3) := by decide +kernel
theorem dX2_triangleKey_42 : decode cX2_triangleKey 42 = .ok (.goto 10, 3) := by decide +kernel
theorem dX2_triangleKey_45 : decode cX2_triangleKey 45 = .ok (.lload_n 0, 1) := by decide +kernel
theorem dX2_triangleKey_46 : decode cX2_triangleKey 46 = .ok (.lload_n 2, 1) := by decide +kernel
theorem dX2_triangleKey_47 : decode cX2_triangleKey 47 = .ok (.lload 4, 2) := by decide +kernel
theorem dX2_triangleKey_49 : decode cX2_triangleKey 49 = .ok (.invokestatic 180, 3) := by decide +kernel
theorem dX2_triangleKey_52 : decode cX2_triangleKey 52 = .ok (.lreturn, 1) := by decide +kernel
theorem dX2_triangleKeyFrom_0 : decode cX2_triangleKeyFrom 0 = .ok (.lload_n 0, 1) := by decide +kernel
theorem dX2_triangleKeyFrom_1 : decode cX2_triangleKeyFrom 1 = .ok (.bipush 10, 2) := by decide +kernel
theorem dX2_triangleKeyFrom_3 : decode cX2_triangleKeyFrom 3 = .ok (.lshl, 1) := by decide +kernel
theorem dX2_triangleKeyFrom_4 : decode cX2_triangleKeyFrom 4 = .ok (.lload_n 2, 1) := by decide +kernel
theorem dX2_triangleKeyFrom_5 : decode cX2_triangleKeyFrom 5 = .ok (.lor, 1) := by decide +kernel
theorem dX2_triangleKeyFrom_6 : decode cX2_triangleKeyFrom 6 = .ok (.bipush 10, 2) := by decide +kernel
theorem dX2_triangleKeyFrom_8 : decode cX2_triangleKeyFrom 8 = .ok (.lshl, 1) := by decide +kernel
theorem dX2_triangleKeyFrom_9 : decode cX2_triangleKeyFrom 9 = .ok (.lload 4, 2) := by decide +kernel
theorem dX2_triangleKeyFrom_11 : decode cX2_triangleKeyFrom 11 = .ok (.lor, 1) := by decide +kernel
theorem dX2_triangleKeyFrom_12 : decode cX2_triangleKeyFrom 12 = .ok (.lreturn, 1) := by decide +kernel
theorem dX2_tellTriangles_0 : decode cX2_tellTriangles 0 = .ok (.aload_n 1, 1) := by decide +kernel
theorem dX2_tellTriangles_1 : decode cX2_tellTriangles 1 = .ok (.invokevirtual 115, 3) := by decide +kernel
theorem dX2_tellTriangles_4 : decode cX2_tellTriangles 4 = .ok (.aload_n 1, 1) := by decide +kernel
theorem dX2_tellTriangles_5 : decode cX2_tellTriangles 5 = .ok (.bipush 6, 2) := by decide +kernel
theorem dX2_tellTriangles_7 : decode cX2_tellTriangles 7 = .ok (.aload_n 0, 1) := by decide +kernel
theorem dX2_tellTriangles_8 : decode cX2_tellTriangles 8 = .ok (.getfield 129, 3) := by decide +kernel
theorem dX2_tellTriangles_11 : decode cX2_tellTriangles 11 = .ok (.invokevirtual 118, 3) := by decide +kernel
theorem dX2_tellTriangles_14 : decode cX2_tellTriangles 14 = .ok (.pop, 1) := by decide +kernel
theorem dX2_tellTriangles_15 : decode cX2_tellTriangles 15 = .ok (.iconst 0, 1) := by decide +kernel
theorem dX2_tellTriangles_16 : decode cX2_tellTriangles 16 = .ok (.istore_n 2, 1) := by decide +kernel
theorem dX2_tellTriangles_17 : decode cX2_tellTriangles 17 = .ok (.iload_n 2, 1) := by decide +kernel
theorem dX2_tellTriangles_18 : decode cX2_tellTriangles 18 = .ok (.aload_n 0, 1) := by decide +kernel
theorem dX2_tellTriangles_19 : decode cX2_tellTriangles 19 = .ok (.getfield 129, 3) := by decide +kernel
theorem dX2_tellTriangles_22 : decode cX2_tellTriangles 22 = .ok (.if_icmp .ge 89, 3) := by decide +kernel
theorem dX2_tellTriangles_25 : decode cX2_tellTriangles 25 = .ok (.aload_n 1, 1) := by decide +kernel
theorem dX2_tellTriangles_26 : decode cX2_tellTriangles 26 = .ok (.iconst 3, 1) := by decide +kernel
theorem dX2_tellTriangles_27 : decode cX2_tellTriangles 27 = .ok (.iconst 1, 1) := by decide +kernel
theorem dX2_tellTriangles_28 : decode cX2_tellTriangles 28 = .ok (.invokevirtual 118, 3) := by decide +kernel
theorem dX2_tellTriangles_31 : decode cX2_tellTriangles 31 = .ok (.pop, 1) := by decide +kernel
theorem dX2_tellTriangles_32 : decode cX2_tellTriangles 32 = .ok (.aload_n 1, 1) := by decide +kernel
theorem dX2_tellTriangles_33 : decode cX2_tellTriangles 33 = .ok (.iconst 4, 1) := by decide +kernel
theorem dX2_tellTriangles_34 : decode cX2_tellTriangles 34 = .ok (.invokevirtual 122, 3) := by decide +kernel
theorem dX2_tellTriangles_37 : decode cX2_tellTriangles 37 = .ok (.pop, 1) := by decide +kernel
theorem dX2_tellTriangles_38 : decode cX2_tellTriangles 38 = .ok (.iconst 2, 1) := by decide +kernel
theorem dX2_tellTriangles_39 : decode cX2_tellTriangles 39 = .ok (.istore_n 3, 1) := by decide +kernel
theorem dX2_tellTriangles_40 : decode cX2_tellTriangles 40 = .ok (.iload_n 3, 1) := by decide +kernel
theorem dX2_tellTriangles_41 : decode cX2_tellTriangles 41 = .ok (.iconst (-1), 1) := by decide +kernel
theorem dX2_tellTriangles_42 : decode cX2_tellTriangles 42 = .ok (.if_icmp .lt 63, 3) := by decide +kernel
theorem dX2_tellTriangles_45 : decode cX2_tellTriangles 45 = .ok (.bipush 10, 2) := by decide +kernel
theorem dX2_tellTriangles_47 : decode cX2_tellTriangles 47 = .ok (.iload_n 3, 1) := by decide +kernel
theorem dX2_tellTriangles_48 : decode cX2_tellTriangles 48 = .ok (.ifCond .ge 7, 3) := by decide +kernel
theorem dX2_tellTriangles_51 : decode cX2_tellTriangles 51 = .ok (.iconst 2, 1) := by decide +kernel
theorem dX2_tellTriangles_52 : decode cX2_tellTriangles 52 = .ok (.goto 4, 3) := by decide +kernel
theorem dX2_tellTriangles_55 : decode cX2_tellTriangles 55 = .ok (.iload_n 3, 1) := by decide +kernel
theorem dX2_tellTriangles_56 : decode cX2_tellTriangles 56 = .ok (.imul, 1) := by decide +kernel
theorem dX2_tellTriangles_57 : decode cX2_tellTriangles 57 = .ok (.istore 4, 2) := by decide +kernel
theorem dX2_tellTriangles_59 : decode cX2_tellTriangles 59 = .ok (.aload_n 0, 1) := by decide +kernel
theorem dX2_tellTriangles_60 : decode cX2_tellTriangles 60 = .ok (.getfield 27, 3) := by decide +kernel
theorem dX2_tellTriangles_63 : decode cX2_tellTriangles 63 = .ok (.aload_n 0, 1) := by decide +kernel
theorem dX2_tellTriangles_64 : decode cX2_tellTriangles 64 = .ok (.getfield 45, 3) := by decide +kernel
theorem dX2_tellTriangles_67 : decode cX2_tellTriangles 67 = .ok (.iload_n 2, 1) := by decide +kernel
theorem dX2_tellTriangles_68 : decode cX2_tellTriangles 68 = .ok (.laload, 1) := by decide +kernel
theorem dX2_tellTriangles_69 : decode cX2_tellTriangles 69 = .ok (.iload 4, 2) := by decide +kernel
theorem dX2_tellTriangles_71 : decode cX2_tellTriangles 71 = .ok (.lshr, 1) := by decide +kernel
theorem dX2_tellTriangles_72 : decode cX2_tellTriangles 72 = .ok (.l2i, 1) := by decide +kernel
theorem dX2_tellTriangles_73 : decode cX2_tellTriangles 73 = .ok (.sipush 1023, 3) := by decide +kernel
theorem dX2_tellTriangles_76 : decode cX2_tellTriangles 76 = .ok (.iand, 1) := by decide +kernel
theorem dX2_tellTriangles_77 : decode cX2_tellTriangles 77 = .ok (.iaload, 1) := by decide +kernel
theorem dX2_tellTriangles_78 : decode cX2_tellTriangles 78 = .ok (.istore 5, 2) := by decide +kernel
theorem dX2_tellTriangles_80 : decode cX2_tellTriangles 80 = .ok (.aload_n 1, 1) := by decide +kernel
theorem dX2_tellTriangles_81 : decode cX2_tellTriangles 81 = .ok (.aload_n 0, 1) := by decide +kernel
theorem dX2_tellTriangles_82 : decode cX2_tellTriangles 82 = .ok (.getfield 17, 3) := by decide +kernel
theorem dX2_tellTriangles_85 : decode cX2_tellTriangles 85 = .ok (.iload 5, 2) := by decide +kernel
theorem dX2_tellTriangles_87 : decode cX2_tellTriangles 87 = .ok (.iaload, 1) := by decide +kernel
theorem dX2_tellTriangles_88 : decode cX2_tellTriangles 88 = .ok (.aload_n 0, 1) := by decide +kernel
theorem dX2_tellTriangles_89 : decode cX2_tellTriangles 89 = .ok (.getfield 21, 3) := by decide +kernel
theorem dX2_tellTriangles_92 : decode cX2_tellTriangles 92 = .ok (.iload 5, 2) := by decide +kernel
theorem dX2_tellTriangles_94 : decode cX2_tellTriangles 94 = .ok (.iaload, 1) := by decide +kernel
theorem dX2_tellTriangles_95 : decode cX2_tellTriangles 95 = .ok (.invokevirtual 126, 3) := by decide +kernel
theorem dX2_tellTriangles_98 : decode cX2_tellTriangles 98 = .ok (.pop, 1) := by decide +kernel
theorem dX2_tellTriangles_99 : decode cX2_tellTriangles 99 = .ok (.iinc 3 (-1), 3) := by decide +kernel
theorem dX2_tellTriangles_102 : decode cX2_tellTriangles 102 = .ok (.goto (-62), 3) := by decide +kernel
theorem dX2_tellTriangles_105 : decode cX2_tellTriangles 105 = .ok (.iinc 2 1, 3) := by decide +kernel
theorem dX2_tellTriangles_108 : decode cX2_tellTriangles 108 = .ok (.goto (-91), 3) := by decide +kernel
theorem dX2_tellTriangles_111 : decode cX2_tellTriangles 111 = .ok (.aload_n 0, 1) := by decide +kernel
theorem dX2_tellTriangles_112 : decode cX2_tellTriangles 112 = .ok (.getfield 129, 3) := by decide +kernel
theorem dX2_tellTriangles_115 : decode cX2_tellTriangles 115 = .ok (.ireturn, 1) := by decide +kernel
theorem dX2_thin_0 : decode cX2_thin 0 = .ok (.aload_n 2, 1) := by decide +kernel
theorem dX2_thin_1 : decode cX2_thin 1 = .ok (.invokevirtual 115, 3) := by decide +kernel
theorem dX2_thin_4 : decode cX2_thin 4 = .ok (.iconst 0, 1) := by decide +kernel
theorem dX2_thin_5 : decode cX2_thin 5 = .ok (.istore 4, 2) := by decide +kernel
theorem dX2_thin_7 : decode cX2_thin 7 = .ok (.iconst 0, 1) := by decide +kernel
theorem dX2_thin_8 : decode cX2_thin 8 = .ok (.istore 5, 2) := by decide +kernel
theorem dX2_thin_10 : decode cX2_thin 10 = .ok (.iload 5, 2) := by decide +kernel
theorem dX2_thin_12 : decode cX2_thin 12 = .ok (.iconst 1, 1) := by decide +kernel
theorem dX2_thin_13 : decode cX2_thin 13 = .ok (.iadd, 1) := by decide +kernel
theorem dX2_thin_14 : decode cX2_thin 14 = .ok (.aload_n 1, 1) := by decide +kernel
theorem dX2_thin_15 : decode cX2_thin 15 = .ok (.getfield 183, 3) := by decide +kernel
theorem dX2_thin_18 : decode cX2_thin 18 = .ok (.if_icmp .ge 119, 3) := by decide +kernel
theorem dX2_thin_21 : decode cX2_thin 21 = .ok (.aload_n 2, 1) := by decide +kernel
theorem dX2_thin_22 : decode cX2_thin 22 = .ok (.aload_n 1, 1) := by decide +kernel
theorem dX2_thin_23 : decode cX2_thin 23 = .ok (.getfield 186, 3) := by decide +kernel
theorem dX2_thin_26 : decode cX2_thin 26 = .ok (.iload 5, 2) := by decide +kernel
theorem dX2_thin_28 : decode cX2_thin 28 = .ok (.iaload, 1) := by decide +kernel
theorem dX2_thin_29 : decode cX2_thin 29 = .ok (.aload_n 1, 1) := by decide +kernel
theorem dX2_thin_30 : decode cX2_thin 30 = .ok (.getfield 186, 3) := by decide +kernel
theorem dX2_thin_33 : decode cX2_thin 33 = .ok (.iload 5, 2) := by decide +kernel
theorem dX2_thin_35 : decode cX2_thin 35 = .ok (.iconst 1, 1) := by decide +kernel
theorem dX2_thin_36 : decode cX2_thin 36 = .ok (.iadd, 1) := by decide +kernel
theorem dX2_thin_37 : decode cX2_thin 37 = .ok (.iaload, 1) := by decide +kernel
theorem dX2_thin_38 : decode cX2_thin 38 = .ok (.invokevirtual 118, 3) := by decide +kernel
theorem dX2_thin_41 : decode cX2_thin 41 = .ok (.pop, 1) := by decide +kernel
theorem dX2_thin_42 : decode cX2_thin 42 = .ok (.iconst 0, 1) := by decide +kernel
theorem dX2_thin_43 : decode cX2_thin 43 = .ok (.istore 6, 2) := by decide +kernel
theorem dX2_thin_45 : decode cX2_thin 45 = .ok (.iload 6, 2) := by decide +kernel
theorem dX2_thin_47 : decode cX2_thin 47 = .ok (.aload_n 1, 1) := by decide +kernel
theorem dX2_thin_48 : decode cX2_thin 48 = .ok (.iload 5, 2) := by decide +kernel
theorem dX2_thin_50 : decode cX2_thin 50 = .ok (.invokevirtual 189, 3) := by decide +kernel
theorem dX2_thin_53 : decode cX2_thin 53 = .ok (.if_icmp .ge 73, 3) := by decide +kernel
theorem dX2_thin_56 : decode cX2_thin 56 = .ok (.aload_n 1, 1) := by decide +kernel
theorem dX2_thin_57 : decode cX2_thin 57 = .ok (.iload 5, 2) := by decide +kernel
theorem dX2_thin_59 : decode cX2_thin 59 = .ok (.iload 6, 2) := by decide +kernel
theorem dX2_thin_61 : decode cX2_thin 61 = .ok (.invokevirtual 193, 3) := by decide +kernel
theorem dX2_thin_64 : decode cX2_thin 64 = .ok (.istore 7, 2) := by decide +kernel
theorem dX2_thin_66 : decode cX2_thin 66 = .ok (.aload_n 0, 1) := by decide +kernel
theorem dX2_thin_67 : decode cX2_thin 67 = .ok (.aload_n 1, 1) := by decide +kernel
theorem dX2_thin_68 : decode cX2_thin 68 = .ok (.aload_n 2, 1) := by decide +kernel
theorem dX2_thin_69 : decode cX2_thin 69 = .ok (.iload 4, 2) := by decide +kernel
theorem dX2_thin_71 : decode cX2_thin 71 = .ok (.iload 7, 2) := by decide +kernel
theorem dX2_thin_73 : decode cX2_thin 73 = .ok (.iload_n 3, 1) := by decide +kernel
theorem dX2_thin_74 : decode cX2_thin 74 = .ok (.invokevirtual 197, 3) := by decide +kernel
theorem dX2_thin_77 : decode cX2_thin 77 = .ok (.istore 8, 2) := by decide +kernel
theorem dX2_thin_79 : decode cX2_thin 79 = .ok (.aload_n 1, 1) := by decide +kernel
theorem dX2_thin_80 : decode cX2_thin 80 = .ok (.getfield 186, 3) := by decide +kernel
theorem dX2_thin_83 : decode cX2_thin 83 = .ok (.iload 5, 2) := by decide +kernel
theorem dX2_thin_85 : decode cX2_thin 85 = .ok (.iaload, 1) := by decide +kernel
theorem dX2_thin_86 : decode cX2_thin 86 = .ok (.iconst 3, 1) := by decide +kernel
theorem dX2_thin_87 : decode cX2_thin 87 = .ok (.if_icmp .ne 13, 3) := by decide +kernel
theorem dX2_thin_90 : decode cX2_thin 90 = .ok (.aload_n 2, 1) := by decide +kernel
theorem dX2_thin_91 : decode cX2_thin 91 = .ok (.iload 8, 2) := by decide +kernel
theorem dX2_thin_93 : decode cX2_thin 93 = .ok (.invokevirtual 122, 3) := by decide +kernel
theorem dX2_thin_96 : decode cX2_thin 96 = .ok (.pop, 1) := by decide +kernel
theorem dX2_thin_97 : decode cX2_thin 97 = .ok (.goto 16, 3) := by decide +kernel
theorem dX2_thin_100 : decode cX2_thin 100 = .ok (.aload_n 2, 1) := by decide +kernel
theorem dX2_thin_101 : decode cX2_thin 101 = .ok (.getfield 186, 3) := by decide +kernel
theorem dX2_thin_104 : decode cX2_thin 104 = .ok (.aload_n 2, 1) := by decide +kernel
theorem dX2_thin_105 : decode cX2_thin 105 = .ok (.getfield 183, 3) := by decide +kernel
theorem dX2_thin_108 : decode cX2_thin 108 = .ok (.iconst 1, 1) := by decide +kernel
theorem dX2_thin_109 : decode cX2_thin 109 = .ok (.isub, 1) := by decide +kernel
theorem dX2_thin_110 : decode cX2_thin 110 = .ok (.iload 8, 2) := by decide +kernel
theorem dX2_thin_112 : decode cX2_thin 112 = .ok (.iastore, 1) := by decide +kernel
theorem dX2_thin_113 : decode cX2_thin 113 = .ok (.iload 4, 2) := by decide +kernel
theorem dX2_thin_115 : decode cX2_thin 115 = .ok (.iload 7, 2) := by decide +kernel
theorem dX2_thin_117 : decode cX2_thin 117 = .ok (.iadd, 1) := by decide +kernel
theorem dX2_thin_118 : decode cX2_thin 118 = .ok (.istore 4, 2) := by decide +kernel
theorem dX2_thin_120 : decode cX2_thin 120 = .ok (.iinc 6 1, 3) := by decide +kernel
theorem dX2_thin_123 : decode cX2_thin 123 = .ok (.goto (-78), 3) := by decide +kernel
theorem dX2_thin_126 : decode cX2_thin 126 = .ok (.aload_n 1, 1) := by decide +kernel
theorem dX2_thin_127 : decode cX2_thin 127 = .ok (.iload 5, 2) := by decide +kernel
theorem dX2_thin_129 : decode cX2_thin 129 = .ok (.invokevirtual 201, 3) := by decide +kernel
theorem dX2_thin_132 : decode cX2_thin 132 = .ok (.istore 5, 2) := by decide +kernel
theorem dX2_thin_134 : decode cX2_thin 134 = .ok (.goto (-124), 3) := by decide +kernel
theorem dX2_thin_137 : decode cX2_thin 137 = .ok (.aload_n 1, 1) := by decide +kernel
theorem dX2_thin_138 : decode cX2_thin 138 = .ok (.getfield 55, 3) := by decide +kernel
theorem dX2_thin_141 : decode cX2_thin 141 = .ok (.aload_n 2, 1) := by decide +kernel
theorem dX2_thin_142 : decode cX2_thin 142 = .ok (.getfield 55, 3) := by decide +kernel
theorem dX2_thin_145 : decode cX2_thin 145 = .ok (.isub, 1) := by decide +kernel
theorem dX2_thin_146 : decode cX2_thin 146 = .ok (.ireturn, 1) := by decide +kernel
theorem dX2_thinRow_0 : decode cX2_thinRow 0 = .ok (.aload_n 2, 1) := by decide +kernel
theorem dX2_thinRow_1 : decode cX2_thinRow 1 = .ok (.getfield 55, 3) := by decide +kernel
theorem dX2_thinRow_4 : decode cX2_thinRow 4 = .ok (.istore 6, 2) := by decide +kernel
theorem dX2_thinRow_6 : decode cX2_thinRow 6 = .ok (.aload_n 0, 1) := by decide +kernel
theorem dX2_thinRow_7 : decode cX2_thinRow 7 = .ok (.aload_n 1, 1) := by decide +kernel
theorem dX2_thinRow_8 : decode cX2_thinRow 8 = .ok (.iload_n 3, 1) := by decide +kernel
theorem dX2_thinRow_9 : decode cX2_thinRow 9 = .ok (.iload_n 3, 1) := by decide +kernel
theorem dX2_thinRow_10 : decode cX2_thinRow 10 = .ok (.iload 4, 2) := by decide +kernel
theorem dX2_thinRow_12 : decode cX2_thinRow 12 = .ok (.iadd, 1) := by decide +kernel
theorem dX2_thinRow_13 : decode cX2_thinRow 13 = .ok (.iconst 1, 1) := by decide +kernel
theorem dX2_thinRow_14 : decode cX2_thinRow 14 = .ok (.isub, 1) := by decide +kernel
theorem dX2_thinRow_15 : decode cX2_thinRow 15 = .ok (.iload 5, 2) := by decide +kernel
theorem dX2_thinRow_17 : decode cX2_thinRow 17 = .ok (.invokevirtual 204, 3) := by decide +kernel
theorem dX2_thinRow_20 : decode cX2_thinRow 20 = .ok (.iload_n 3, 1) := by decide +kernel
theorem dX2_thinRow_21 : decode cX2_thinRow 21 = .ok (.istore 7, 2) := by decide +kernel
theorem dX2_thinRow_23 : decode cX2_thinRow 23 = .ok (.iload 7, 2) := by decide +kernel
theorem dX2_thinRow_25 : decode cX2_thinRow 25 = .ok (.iload_n 3, 1) := by decide +kernel
theorem dX2_thinRow_26 : decode cX2_thinRow 26 = .ok (.iload 4, 2) := by decide +kernel
theorem dX2_thinRow_28 : decode cX2_thinRow 28 = .ok (.iadd, 1) := by decide +kernel
theorem dX2_thinRow_29 : decode cX2_thinRow 29 = .ok (.if_icmp .ge 38, 3) := by decide +kernel
theorem dX2_thinRow_32 : decode cX2_thinRow 32 = .ok (.aload_n 0, 1) := by decide +kernel
theorem dX2_thinRow_33 : decode cX2_thinRow 33 = .ok (.getfield 48, 3) := by decide +kernel
theorem dX2_thinRow_36 : decode cX2_thinRow 36 = .ok (.iload 7, 2) := by decide +kernel
theorem dX2_thinRow_38 : decode cX2_thinRow 38 = .ok (.baload, 1) := by decide +kernel
theorem dX2_thinRow_39 : decode cX2_thinRow 39 = .ok (.ifCond .eq 22, 3) := by decide +kernel
theorem dX2_thinRow_42 : decode cX2_thinRow 42 = .ok (.aload_n 2, 1) := by decide +kernel
theorem dX2_thinRow_43 : decode cX2_thinRow 43 = .ok (.aload_n 1, 1) := by decide +kernel
theorem dX2_thinRow_44 : decode cX2_thinRow 44 = .ok (.getfield 59, 3) := by decide +kernel
theorem dX2_thinRow_47 : decode cX2_thinRow 47 = .ok (.iload 7, 2) := by decide +kernel
theorem dX2_thinRow_49 : decode cX2_thinRow 49 = .ok (.iaload, 1) := by decide +kernel
theorem dX2_thinRow_50 : decode cX2_thinRow 50 = .ok (.aload_n 1, 1) := by decide +kernel
theorem dX2_thinRow_51 : decode cX2_thinRow 51 = .ok (.getfield 62, 3) := by decide +kernel
theorem dX2_thinRow_54 : decode cX2_thinRow 54 = .ok (.iload 7, 2) := by decide +kernel
theorem dX2_thinRow_56 : decode cX2_thinRow 56 = .ok (.iaload, 1) := by decide +kernel
theorem dX2_thinRow_57 : decode cX2_thinRow 57 = .ok (.invokevirtual 126, 3) := by decide +kernel
theorem dX2_thinRow_60 : decode cX2_thinRow 60 = .ok (.pop, 1) := by decide +kernel
theorem dX2_thinRow_61 : decode cX2_thinRow 61 = .ok (.iinc 7 1, 3) := by decide +kernel
theorem dX2_thinRow_64 : decode cX2_thinRow 64 = .ok (.goto (-41), 3) := by decide +kernel
theorem dX2_thinRow_67 : decode cX2_thinRow 67 = .ok (.aload_n 2, 1) := by decide +kernel
theorem dX2_thinRow_68 : decode cX2_thinRow 68 = .ok (.getfield 55, 3) := by decide +kernel
theorem dX2_thinRow_71 : decode cX2_thinRow 71 = .ok (.iload 6, 2) := by decide +kernel
theorem dX2_thinRow_73 : decode cX2_thinRow 73 = .ok (.isub, 1) := by decide +kernel
theorem dX2_thinRow_74 : decode cX2_thinRow 74 = .ok (.ireturn, 1) := by decide +kernel
theorem dX2_markStaying_0 : decode cX2_markStaying 0 = .ok (.iload_n 3, 1) := by decide +kernel
theorem dX2_markStaying_1 : decode cX2_markStaying 1 = .ok (.iload_n 2, 1) := by decide +kernel
theorem dX2_markStaying_2 : decode cX2_markStaying 2 = .ok (.if_icmp .ge 4, 3) := by decide +kernel
theorem dX2_markStaying_5 : decode cX2_markStaying 5 = .ok (.return_, 1) := by decide +kernel
theorem dX2_markStaying_6 : decode cX2_markStaying 6 = .ok (.iload_n 2, 1) := by decide +kernel
theorem dX2_markStaying_7 : decode cX2_markStaying 7 = .ok (.istore 5, 2) := by decide +kernel
theorem dX2_markStaying_9 : decode cX2_markStaying 9 = .ok (.iload 5, 2) := by decide +kernel
theorem dX2_markStaying_11 : decode cX2_markStaying 11 = .ok (.iload_n 3, 1) := by decide +kernel
theorem dX2_markStaying_12 : decode cX2_markStaying 12 = .ok (.if_icmp .gt 17, 3) := by decide +kernel
theorem dX2_markStaying_15 : decode cX2_markStaying 15 = .ok (.aload_n 0, 1) := by decide +kernel
theorem dX2_markStaying_16 : decode cX2_markStaying 16 = .ok (.getfield 48, 3) := by decide +kernel
theorem dX2_markStaying_19 : decode cX2_markStaying 19 = .ok (.iload 5, 2) := by decide +kernel
theorem dX2_markStaying_21 : decode cX2_markStaying 21 = .ok (.iconst 0, 1) := by decide +kernel
theorem dX2_markStaying_22 : decode cX2_markStaying 22 = .ok (.bastore, 1) := by decide +kernel
theorem dX2_markStaying_23 : decode cX2_markStaying 23 = .ok (.iinc 5 1, 3) := by decide +kernel
theorem dX2_markStaying_26 : decode cX2_markStaying 26 = .ok (.goto (-17), 3) := by decide +kernel
theorem dX2_markStaying_29 : decode cX2_markStaying 29 = .ok (.aload_n 0, 1) := by decide +kernel
theorem dX2_markStaying_30 : decode cX2_markStaying 30 = .ok (.getfield 48, 3) := by decide +kernel
theorem dX2_markStaying_33 : decode cX2_markStaying 33 = .ok (.iload_n 2, 1) := by decide +kernel
theorem dX2_markStaying_34 : decode cX2_markStaying 34 = .ok (.iconst 1, 1) := by decide +kernel
theorem dX2_markStaying_35 : decode cX2_markStaying 35 = .ok (.bastore, 1) := by decide +kernel
theorem dX2_markStaying_36 : decode cX2_markStaying 36 = .ok (.aload_n 0, 1) := by decide +kernel
theorem dX2_markStaying_37 : decode cX2_markStaying 37 = .ok (.getfield 48, 3) := by decide +kernel
theorem dX2_markStaying_40 : decode cX2_markStaying 40 = .ok (.iload_n 3, 1) := by decide +kernel
theorem dX2_markStaying_41 : decode cX2_markStaying 41 = .ok (.iconst 1, 1) := by decide +kernel
theorem dX2_markStaying_42 : decode cX2_markStaying 42 = .ok (.bastore, 1) := by decide +kernel
theorem dX2_markStaying_43 : decode cX2_markStaying 43 = .ok (.iload_n 2, 1) := by decide +kernel
theorem dX2_markStaying_44 : decode cX2_markStaying 44 = .ok (.istore 5, 2) := by decide +kernel
theorem dX2_markStaying_46 : decode cX2_markStaying 46 = .ok (.iconst 1, 1) := by decide +kernel
theorem dX2_markStaying_47 : decode cX2_markStaying 47 = .ok (.istore 6, 2) := by decide +kernel
theorem dX2_markStaying_49 : decode cX2_markStaying 49 = .ok (.aload_n 0, 1) := by decide +kernel
theorem dX2_markStaying_50 : decode cX2_markStaying 50 = .ok (.getfield 52, 3) := by decide +kernel
theorem dX2_markStaying_53 : decode cX2_markStaying 53 = .ok (.iconst 0, 1) := by decide +kernel
theorem dX2_markStaying_54 : decode cX2_markStaying 54 = .ok (.iload_n 3, 1) := by decide +kernel
theorem dX2_markStaying_55 : decode cX2_markStaying 55 = .ok (.iastore, 1) := by decide +kernel
theorem dX2_markStaying_56 : decode cX2_markStaying 56 = .ok (.iconst 0, 1) := by decide +kernel
theorem dX2_markStaying_57 : decode cX2_markStaying 57 = .ok (.istore 7, 2) := by decide +kernel
theorem dX2_markStaying_59 : decode cX2_markStaying 59 = .ok (.iload 6, 2) := by decide +kernel
theorem dX2_markStaying_61 : decode cX2_markStaying 61 = .ok (.ifCond .le 90, 3) := by decide +kernel
theorem dX2_markStaying_64 : decode cX2_markStaying 64 = .ok (.iload 6, 2) := by decide +kernel
theorem dX2_markStaying_66 : decode cX2_markStaying 66 = .ok (.aload_n 0, 1) := by decide +kernel
theorem dX2_markStaying_67 : decode cX2_markStaying 67 = .ok (.getfield 52, 3) := by decide +kernel
theorem dX2_markStaying_70 : decode cX2_markStaying 70 = .ok (.arraylength, 1) := by decide +kernel
theorem dX2_markStaying_71 : decode cX2_markStaying 71 = .ok (.if_icmp .ge 80, 3) := by decide +kernel
theorem dX2_markStaying_74 : decode cX2_markStaying 74 = .ok (.iload 7, 2) := by decide +kernel
theorem dX2_markStaying_76 : decode cX2_markStaying 76 = .ok (.iconst 2, 1) := by decide +kernel
theorem dX2_markStaying_77 : decode cX2_markStaying 77 = .ok (.aload_n 0, 1) := by decide +kernel
theorem dX2_markStaying_78 : decode cX2_markStaying 78 = .ok (.getfield 52, 3) := by decide +kernel
theorem dX2_markStaying_81 : decode cX2_markStaying 81 = .ok (.arraylength, 1) := by decide +kernel
theorem dX2_markStaying_82 : decode cX2_markStaying 82 = .ok (.imul, 1) := by decide +kernel
theorem dX2_markStaying_83 : decode cX2_markStaying 83 = .ok (.if_icmp .ge 68, 3) := by decide +kernel
theorem dX2_markStaying_86 : decode cX2_markStaying 86 = .ok (.aload_n 0, 1) := by decide +kernel
theorem dX2_markStaying_87 : decode cX2_markStaying 87 = .ok (.getfield 52, 3) := by decide +kernel
theorem dX2_markStaying_90 : decode cX2_markStaying 90 = .ok (.iload 6, 2) := by decide +kernel
theorem dX2_markStaying_92 : decode cX2_markStaying 92 = .ok (.iconst 1, 1) := by decide +kernel
theorem dX2_markStaying_93 : decode cX2_markStaying 93 = .ok (.isub, 1) := by decide +kernel
theorem dX2_markStaying_94 : decode cX2_markStaying 94 = .ok (.iaload, 1) := by decide +kernel
theorem dX2_markStaying_95 : decode cX2_markStaying 95 = .ok (.istore 8, 2) := by decide +kernel
theorem dX2_markStaying_97 : decode cX2_markStaying 97 = .ok (.aload_n 1, 1) := by decide +kernel
theorem dX2_markStaying_98 : decode cX2_markStaying 98 = .ok (.iload 5, 2) := by decide +kernel
theorem dX2_markStaying_100 : decode cX2_markStaying 100 = .ok (.iload 8, 2) := by decide +kernel
theorem dX2_markStaying_102 : decode cX2_markStaying 102 = .ok (.iload 4, 2) := by decide +kernel
theorem dX2_markStaying_104 : decode cX2_markStaying 104 = .ok (.invokestatic 208, 3) := by decide +kernel
theorem dX2_markStaying_107 : decode cX2_markStaying 107 = .ok (.istore 9, 2) := by decide +kernel
theorem dX2_markStaying_109 : decode cX2_markStaying 109 = .ok (.iload 9, 2) := by decide +kernel
theorem dX2_markStaying_111 : decode cX2_markStaying 111 = .ok (.iconst (-1), 1) := by decide +kernel
theorem dX2_markStaying_112 : decode cX2_markStaying 112 = .ok (.if_icmp .ne 13, 3) := by decide +kernel
theorem dX2_markStaying_115 : decode cX2_markStaying 115 = .ok (.iload 8, 2) := by decide +kernel
theorem dX2_markStaying_117 : decode cX2_markStaying 117 = .ok (.istore 5, 2) := by decide +kernel
theorem dX2_markStaying_119 : decode cX2_markStaying 119 = .ok (.iinc 6 (-1), 3) := by decide +kernel
theorem dX2_markStaying_122 : decode cX2_markStaying 122 = .ok (.goto 23, 3) := by decide +kernel
theorem dX2_markStaying_125 : decode cX2_markStaying 125 = .ok (.aload_n 0, 1) := by decide +kernel
theorem dX2_markStaying_126 : decode cX2_markStaying 126 = .ok (.getfield 48, 3) := by decide +kernel
theorem dX2_markStaying_129 : decode cX2_markStaying 129 = .ok (.iload 9, 2) := by decide +kernel
theorem dX2_markStaying_131 : decode cX2_markStaying 131 = .ok (.iconst 1, 1) := by decide +kernel
theorem dX2_markStaying_132 : decode cX2_markStaying 132 = .ok (.bastore, 1) := by decide +kernel
theorem dX2_markStaying_133 : decode cX2_markStaying 133 = .ok (.aload_n 0, 1) := by decide +kernel
theorem dX2_markStaying_134 : decode cX2_markStaying 134 = .ok (.getfield 52, 3) := by decide +kernel
theorem dX2_markStaying_137 : decode cX2_markStaying 137 = .ok (.iload 6, 2) := by decide +kernel
theorem dX2_markStaying_139 : decode cX2_markStaying 139 = .ok (.iload 9, 2) := by decide +kernel
theorem dX2_markStaying_141 : decode cX2_markStaying 141 = .ok (.iastore, 1) := by decide +kernel
theorem dX2_markStaying_142 : decode cX2_markStaying 142 = .ok (.iinc 6 1, 3) := by decide +kernel
theorem dX2_markStaying_145 : decode cX2_markStaying 145 = .ok (.iinc 7 1, 3) := by decide +kernel
theorem dX2_markStaying_148 : decode cX2_markStaying 148 = .ok (.goto (-89), 3) := by decide +kernel
theorem dX2_markStaying_151 : decode cX2_markStaying 151 = .ok (.return_, 1) := by decide +kernel
theorem dX2_farthest_0 : decode cX2_farthest 0 = .ok (.aload_n 0, 1) := by decide +kernel
theorem dX2_farthest_1 : decode cX2_farthest 1 = .ok (.getfield 59, 3) := by decide +kernel
theorem dX2_farthest_4 : decode cX2_farthest 4 = .ok (.iload_n 2, 1) := by decide +kernel
theorem dX2_farthest_5 : decode cX2_farthest 5 = .ok (.iaload, 1) := by decide +kernel
theorem dX2_farthest_6 : decode cX2_farthest 6 = .ok (.i2l, 1) := by decide +kernel
theorem dX2_farthest_7 : decode cX2_farthest 7 = .ok (.aload_n 0, 1) := by decide +kernel
theorem dX2_farthest_8 : decode cX2_farthest 8 = .ok (.getfield 59, 3) := by decide +kernel
theorem dX2_farthest_11 : decode cX2_farthest 11 = .ok (.iload_n 1, 1) := by decide +kernel
theorem dX2_farthest_12 : decode cX2_farthest 12 = .ok (.iaload, 1) := by decide +kernel
theorem dX2_farthest_13 : decode cX2_farthest 13 = .ok (.i2l, 1) := by decide +kernel
theorem dX2_farthest_14 : decode cX2_farthest 14 = .ok (.lsub, 1) := by decide +kernel
theorem dX2_farthest_15 : decode cX2_farthest 15 = .ok (.lstore 4, 2) := by decide +kernel
theorem dX2_farthest_17 : decode cX2_farthest 17 = .ok (.aload_n 0, 1) := by decide +kernel
theorem dX2_farthest_18 : decode cX2_farthest 18 = .ok (.getfield 62, 3) := by decide +kernel
theorem dX2_farthest_21 : decode cX2_farthest 21 = .ok (.iload_n 2, 1) := by decide +kernel
theorem dX2_farthest_22 : decode cX2_farthest 22 = .ok (.iaload, 1) := by decide +kernel
theorem dX2_farthest_23 : decode cX2_farthest 23 = .ok (.i2l, 1) := by decide +kernel
theorem dX2_farthest_24 : decode cX2_farthest 24 = .ok (.aload_n 0, 1) := by decide +kernel
theorem dX2_farthest_25 : decode cX2_farthest 25 = .ok (.getfield 62, 3) := by decide +kernel
theorem dX2_farthest_28 : decode cX2_farthest 28 = .ok (.iload_n 1, 1) := by decide +kernel
theorem dX2_farthest_29 : decode cX2_farthest 29 = .ok (.iaload, 1) := by decide +kernel
theorem dX2_farthest_30 : decode cX2_farthest 30 = .ok (.i2l, 1) := by decide +kernel
theorem dX2_farthest_31 : decode cX2_farthest 31 = .ok (.lsub, 1) := by decide +kernel
theorem dX2_farthest_32 : decode cX2_farthest 32 = .ok (.lstore 6, 2) := by decide +kernel
theorem dX2_farthest_34 : decode cX2_farthest 34 = .ok (.lload 4, 2) := by decide +kernel
theorem dX2_farthest_36 : decode cX2_farthest 36 = .ok (.lload 4, 2) := by decide +kernel
theorem dX2_farthest_38 : decode cX2_farthest 38 = .ok (.lmul, 1) := by decide +kernel
theorem dX2_farthest_39 : decode cX2_farthest 39 = .ok (.lload 6, 2) := by decide +kernel
theorem dX2_farthest_41 : decode cX2_farthest 41 = .ok (.lload 6, 2) := by decide +kernel
theorem dX2_farthest_43 : decode cX2_farthest 43 = .ok (.lmul, 1) := by decide +kernel
theorem dX2_farthest_44 : decode cX2_farthest 44 = .ok (.ladd, 1) := by decide +kernel
theorem dX2_farthest_45 : decode cX2_farthest 45 = .ok (.lstore 8, 2) := by decide +kernel
theorem dX2_farthest_47 : decode cX2_farthest 47 = .ok (.iconst (-1), 1) := by decide +kernel
theorem dX2_farthest_48 : decode cX2_farthest 48 = .ok (.istore 10, 2) := by decide +kernel
theorem dX2_farthest_50 : decode cX2_farthest 50 = .ok (.iconst 0, 1) := by decide +kernel
theorem dX2_farthest_51 : decode cX2_farthest 51 = .ok (.istore 11, 2) := by decide +kernel
theorem dX2_farthest_53 : decode cX2_farthest 53 = .ok (.iload_n 3, 1) := by decide +kernel
theorem dX2_farthest_54 : decode cX2_farthest 54 = .ok (.i2l, 1) := by decide +kernel
theorem dX2_farthest_55 : decode cX2_farthest 55 = .ok (.iload_n 3, 1) := by decide +kernel
theorem dX2_farthest_56 : decode cX2_farthest 56 = .ok (.i2l, 1) := by decide +kernel
theorem dX2_farthest_57 : decode cX2_farthest 57 = .ok (.lmul, 1) := by decide +kernel
theorem dX2_farthest_58 : decode cX2_farthest 58 = .ok (.lstore 12, 2) := by decide +kernel
theorem dX2_farthest_60 : decode cX2_farthest 60 = .ok (.iload_n 1, 1) := by decide +kernel
theorem dX2_farthest_61 : decode cX2_farthest 61 = .ok (.iconst 1, 1) := by decide +kernel
theorem dX2_farthest_62 : decode cX2_farthest 62 = .ok (.iadd, 1) := by decide +kernel
theorem dX2_farthest_63 : decode cX2_farthest 63 = .ok (.istore 14, 2) := by decide +kernel
theorem dX2_farthest_65 : decode cX2_farthest 65 = .ok (.iload 14, 2) := by decide +kernel
theorem dX2_farthest_67 : decode cX2_farthest 67 = .ok (.iload_n 2, 1) := by decide +kernel
theorem dX2_farthest_68 : decode cX2_farthest 68 = .ok (.if_icmp .ge 160, 3) := by decide +kernel
theorem dX2_farthest_71 : decode cX2_farthest 71 = .ok (.aload_n 0, 1) := by decide +kernel
theorem dX2_farthest_72 : decode cX2_farthest 72 = .ok (.getfield 59, 3) := by decide +kernel
theorem dX2_farthest_75 : decode cX2_farthest 75 = .ok (.iload 14, 2) := by decide +kernel
theorem dX2_farthest_77 : decode cX2_farthest 77 = .ok (.iaload, 1) := by decide +kernel
theorem dX2_farthest_78 : decode cX2_farthest 78 = .ok (.i2l, 1) := by decide +kernel
theorem dX2_farthest_79 : decode cX2_farthest 79 = .ok (.aload_n 0, 1) := by decide +kernel
theorem dX2_farthest_80 : decode cX2_farthest 80 = .ok (.getfield 59, 3) := by decide +kernel
theorem dX2_farthest_83 : decode cX2_farthest 83 = .ok (.iload_n 1, 1) := by decide +kernel
theorem dX2_farthest_84 : decode cX2_farthest 84 = .ok (.iaload, 1) := by decide +kernel
theorem dX2_farthest_85 : decode cX2_farthest 85 = .ok (.i2l, 1) := by decide +kernel
theorem dX2_farthest_86 : decode cX2_farthest 86 = .ok (.lsub, 1) := by decide +kernel
theorem dX2_farthest_87 : decode cX2_farthest 87 = .ok (.lstore 15, 2) := by decide +kernel
theorem dX2_farthest_89 : decode cX2_farthest 89 = .ok (.aload_n 0, 1) := by decide +kernel
theorem dX2_farthest_90 : decode cX2_farthest 90 = .ok (.getfield 62, 3) := by decide +kernel
theorem dX2_farthest_93 : decode cX2_farthest 93 = .ok (.iload 14, 2) := by decide +kernel
theorem dX2_farthest_95 : decode cX2_farthest 95 = .ok (.iaload, 1) := by decide +kernel
theorem dX2_farthest_96 : decode cX2_farthest 96 = .ok (.i2l, 1) := by decide +kernel
theorem dX2_farthest_97 : decode cX2_farthest 97 = .ok (.aload_n 0, 1) := by decide +kernel
theorem dX2_farthest_98 : decode cX2_farthest 98 = .ok (.getfield 62, 3) := by decide +kernel
theorem dX2_farthest_101 : decode cX2_farthest 101 = .ok (.iload_n 1, 1) := by decide +kernel
theorem dX2_farthest_102 : decode cX2_farthest 102 = .ok (.iaload, 1) := by decide +kernel
theorem dX2_farthest_103 : decode cX2_farthest 103 = .ok (.i2l, 1) := by decide +kernel
theorem dX2_farthest_104 : decode cX2_farthest 104 = .ok (.lsub, 1) := by decide +kernel
theorem dX2_farthest_105 : decode cX2_farthest 105 = .ok (.lstore 17, 2) := by decide +kernel
theorem dX2_farthest_107 : decode cX2_farthest 107 = .ok (.lload 15, 2) := by decide +kernel
theorem dX2_farthest_109 : decode cX2_farthest 109 = .ok (.lload 4, 2) := by decide +kernel
theorem dX2_farthest_111 : decode cX2_farthest 111 = .ok (.lmul, 1) := by decide +kernel
theorem dX2_farthest_112 : decode cX2_farthest 112 = .ok (.lload 17, 2) := by decide +kernel
theorem dX2_farthest_114 : decode cX2_farthest 114 = .ok (.lload 6, 2) := by decide +kernel
theorem dX2_farthest_116 : decode cX2_farthest 116 = .ok (.lmul, 1) := by decide +kernel
theorem dX2_farthest_117 : decode cX2_farthest 117 = .ok (.ladd, 1) := by decide +kernel
theorem dX2_farthest_118 : decode cX2_farthest 118 = .ok (.lstore 19, 2) := by decide +kernel
theorem dX2_farthest_120 : decode cX2_farthest 120 = .ok (.lload 19, 2) := by decide +kernel
theorem dX2_farthest_122 : decode cX2_farthest 122 = .ok (.lconst 0, 1) := by decide +kernel
theorem dX2_farthest_123 : decode cX2_farthest 123 = .ok (.lcmp, 1) := by decide +kernel
theorem dX2_farthest_124 : decode cX2_farthest 124 = .ok (.ifCond .le 15, 3) := by decide +kernel
theorem dX2_farthest_127 : decode cX2_farthest 127 = .ok (.lload 19, 2) := by decide +kernel
theorem dX2_farthest_129 : decode cX2_farthest 129 = .ok (.lload 8, 2) := by decide +kernel
theorem dX2_farthest_131 : decode cX2_farthest 131 = .ok (.lcmp, 1) := by decide +kernel
theorem dX2_farthest_132 : decode cX2_farthest 132 = .ok (.ifCond .ge 7, 3) := by decide +kernel
theorem dX2_farthest_135 : decode cX2_farthest 135 = .ok (.iconst 1, 1) := by decide +kernel
theorem dX2_farthest_136 : decode cX2_farthest 136 = .ok (.goto 4, 3) := by decide +kernel
theorem dX2_farthest_139 : decode cX2_farthest 139 = .ok (.iconst 0, 1) := by decide +kernel
theorem dX2_farthest_140 : decode cX2_farthest 140 = .ok (.istore 21, 2) := by decide +kernel
theorem dX2_farthest_142 : decode cX2_farthest 142 = .ok (.iload 21, 2) := by decide +kernel
theorem dX2_farthest_144 : decode cX2_farthest 144 = .ok (.ifCond .eq 20, 3) := by decide +kernel
theorem dX2_farthest_147 : decode cX2_farthest 147 = .ok (.lload 4, 2) := by decide +kernel
theorem dX2_farthest_149 : decode cX2_farthest 149 = .ok (.lload 17, 2) := by decide +kernel
theorem dX2_farthest_151 : decode cX2_farthest 151 = .ok (.lmul, 1) := by decide +kernel
theorem dX2_farthest_152 : decode cX2_farthest 152 = .ok (.lload 6, 2) := by decide +kernel
theorem dX2_farthest_154 : decode cX2_farthest 154 = .ok (.lload 15, 2) := by decide +kernel
theorem dX2_farthest_156 : decode cX2_farthest 156 = .ok (.lmul, 1) := by decide +kernel
theorem dX2_farthest_157 : decode cX2_farthest 157 = .ok (.lsub, 1) := by decide +kernel
theorem dX2_farthest_158 : decode cX2_farthest 158 = .ok (.invokestatic 212, 3) := by decide +kernel
theorem dX2_farthest_161 : decode cX2_farthest 161 = .ok (.goto 31, 3) := by decide +kernel
theorem dX2_farthest_164 : decode cX2_farthest 164 = .ok (.lload 19, 2) := by decide +kernel
theorem dX2_farthest_166 : decode cX2_farthest 166 = .ok (.lconst 0, 1) := by decide +kernel
theorem dX2_farthest_167 : decode cX2_farthest 167 = .ok (.lcmp, 1) := by decide +kernel
theorem dX2_farthest_168 : decode cX2_farthest 168 = .ok (.ifCond .gt 17, 3) := by decide +kernel
theorem dX2_farthest_171 : decode cX2_farthest 171 = .ok (.lload 15, 2) := by decide +kernel
theorem dX2_farthest_173 : decode cX2_farthest 173 = .ok (.lload 15, 2) := by decide +kernel
theorem dX2_farthest_175 : decode cX2_farthest 175 = .ok (.lmul, 1) := by decide +kernel
theorem dX2_farthest_176 : decode cX2_farthest 176 = .ok (.lload 17, 2) := by decide +kernel
theorem dX2_farthest_178 : decode cX2_farthest 178 = .ok (.lload 17, 2) := by decide +kernel
theorem dX2_farthest_180 : decode cX2_farthest 180 = .ok (.lmul, 1) := by decide +kernel
theorem dX2_farthest_181 : decode cX2_farthest 181 = .ok (.ladd, 1) := by decide +kernel
theorem dX2_farthest_182 : decode cX2_farthest 182 = .ok (.goto 10, 3) := by decide +kernel
theorem dX2_farthest_185 : decode cX2_farthest 185 = .ok (.aload_n 0, 1) := by decide +kernel
theorem dX2_farthest_186 : decode cX2_farthest 186 = .ok (.iload 14, 2) := by decide +kernel
theorem dX2_farthest_188 : decode cX2_farthest 188 = .ok (.iload_n 2, 1) := by decide +kernel
theorem dX2_farthest_189 : decode cX2_farthest 189 = .ok (.invokestatic 218, 3) := by decide +kernel
theorem dX2_farthest_192 : decode cX2_farthest 192 = .ok (.lstore 22, 2) := by decide +kernel
theorem dX2_farthest_194 : decode cX2_farthest 194 = .ok (.iload 21, 2) := by decide +kernel
theorem dX2_farthest_196 : decode cX2_farthest 196 = .ok (.lload 22, 2) := by decide +kernel
theorem dX2_farthest_198 : decode cX2_farthest 198 = .ok (.iload 11, 2) := by decide +kernel
theorem dX2_farthest_200 : decode cX2_farthest 200 = .ok (.lload 12, 2) := by decide +kernel
theorem dX2_farthest_202 : decode cX2_farthest 202 = .ok (.lload 8, 2) := by decide +kernel
theorem dX2_farthest_204 : decode cX2_farthest 204 = .ok (.invokestatic 222, 3) := by decide +kernel
theorem dX2_farthest_207 : decode cX2_farthest 207 = .ok (.ifCond .eq 15, 3) := by decide +kernel
theorem dX2_farthest_210 : decode cX2_farthest 210 = .ok (.iload 14, 2) := by decide +kernel
theorem dX2_farthest_212 : decode cX2_farthest 212 = .ok (.istore 10, 2) := by decide +kernel
theorem dX2_farthest_214 : decode cX2_farthest 214 = .ok (.iload 21, 2) := by decide +kernel
theorem dX2_farthest_216 : decode cX2_farthest 216 = .ok (.istore 11, 2) := by decide +kernel
theorem dX2_farthest_218 : decode cX2_farthest 218 = .ok (.lload 22, 2) := by decide +kernel
theorem dX2_farthest_220 : decode cX2_farthest 220 = .ok (.lstore 12, 2) := by decide +kernel
theorem dX2_farthest_222 : decode cX2_farthest 222 = .ok (.iinc 14 1, 3) := by decide +kernel
theorem dX2_farthest_225 : decode cX2_farthest 225 = .ok (.goto (-160), 3) := by decide +kernel
theorem dX2_farthest_228 : decode cX2_farthest 228 = .ok (.iload 10, 2) := by decide +kernel
theorem dX2_farthest_230 : decode cX2_farthest 230 = .ok (.ireturn, 1) := by decide +kernel
theorem dX2_squareTo_0 : decode cX2_squareTo 0 = .ok (.aload_n 0, 1) := by decide +kernel
theorem dX2_squareTo_1 : decode cX2_squareTo 1 = .ok (.getfield 59, 3) := by decide +kernel
theorem dX2_squareTo_4 : decode cX2_squareTo 4 = .ok (.iload_n 1, 1) := by decide +kernel
theorem dX2_squareTo_5 : decode cX2_squareTo 5 = .ok (.iaload, 1) := by decide +kernel
theorem dX2_squareTo_6 : decode cX2_squareTo 6 = .ok (.i2l, 1) := by decide +kernel
theorem dX2_squareTo_7 : decode cX2_squareTo 7 = .ok (.aload_n 0, 1) := by decide +kernel
theorem dX2_squareTo_8 : decode cX2_squareTo 8 = .ok (.getfield 59, 3) := by decide +kernel
theorem dX2_squareTo_11 : decode cX2_squareTo 11 = .ok (.iload_n 2, 1) := by decide +kernel
theorem dX2_squareTo_12 : decode cX2_squareTo 12 = .ok (.iaload, 1) := by decide +kernel
theorem dX2_squareTo_13 : decode cX2_squareTo 13 = .ok (.i2l, 1) := by decide +kernel
theorem dX2_squareTo_14 : decode cX2_squareTo 14 = .ok (.lsub, 1) := by decide +kernel
theorem dX2_squareTo_15 : decode cX2_squareTo 15 = .ok (.lstore_n 3, 1) := by decide +kernel
theorem dX2_squareTo_16 : decode cX2_squareTo 16 = .ok (.aload_n 0, 1) := by decide +kernel
theorem dX2_squareTo_17 : decode cX2_squareTo 17 = .ok (.getfield 62, 3) := by decide +kernel
theorem dX2_squareTo_20 : decode cX2_squareTo 20 = .ok (.iload_n 1, 1) := by decide +kernel
theorem dX2_squareTo_21 : decode cX2_squareTo 21 = .ok (.iaload, 1) := by decide +kernel
theorem dX2_squareTo_22 : decode cX2_squareTo 22 = .ok (.i2l, 1) := by decide +kernel
theorem dX2_squareTo_23 : decode cX2_squareTo 23 = .ok (.aload_n 0, 1) := by decide +kernel
theorem dX2_squareTo_24 : decode cX2_squareTo 24 = .ok (.getfield 62, 3) := by decide +kernel
theorem dX2_squareTo_27 : decode cX2_squareTo 27 = .ok (.iload_n 2, 1) := by decide +kernel
theorem dX2_squareTo_28 : decode cX2_squareTo 28 = .ok (.iaload, 1) := by decide +kernel
theorem dX2_squareTo_29 : decode cX2_squareTo 29 = .ok (.i2l, 1) := by decide +kernel
theorem dX2_squareTo_30 : decode cX2_squareTo 30 = .ok (.lsub, 1) := by decide +kernel
theorem dX2_squareTo_31 : decode cX2_squareTo 31 = .ok (.lstore 5, 2) := by decide +kernel
theorem dX2_squareTo_33 : decode cX2_squareTo 33 = .ok (.lload_n 3, 1) := by decide +kernel
theorem dX2_squareTo_34 : decode cX2_squareTo 34 = .ok (.lload_n 3, 1) := by decide +kernel
theorem dX2_squareTo_35 : decode cX2_squareTo 35 = .ok (.lmul, 1) := by decide +kernel
theorem dX2_squareTo_36 : decode cX2_squareTo 36 = .ok (.lload 5, 2) := by decide +kernel
theorem dX2_squareTo_38 : decode cX2_squareTo 38 = .ok (.lload 5, 2) := by decide +kernel
theorem dX2_squareTo_40 : decode cX2_squareTo 40 = .ok (.lmul, 1) := by decide +kernel
theorem dX2_squareTo_41 : decode cX2_squareTo 41 = .ok (.ladd, 1) := by decide +kernel
theorem dX2_squareTo_42 : decode cX2_squareTo 42 = .ok (.lreturn, 1) := by decide +kernel
theorem dX2_isFarther_0 : decode cX2_isFarther 0 = .ok (.iload_n 0, 1) := by decide +kernel
theorem dX2_isFarther_1 : decode cX2_isFarther 1 = .ok (.iload_n 3, 1) := by decide +kernel
theorem dX2_isFarther_2 : decode cX2_isFarther 2 = .ok (.if_icmp .ne 16, 3) := by decide +kernel
theorem dX2_isFarther_5 : decode cX2_isFarther 5 = .ok (.lload_n 1, 1) := by decide +kernel
theorem dX2_isFarther_6 : decode cX2_isFarther 6 = .ok (.lload 4, 2) := by decide +kernel
theorem dX2_isFarther_8 : decode cX2_isFarther 8 = .ok (.lcmp, 1) := by decide +kernel
theorem dX2_isFarther_9 : decode cX2_isFarther 9 = .ok (.ifCond .le 7, 3) := by decide +kernel
theorem dX2_isFarther_12 : decode cX2_isFarther 12 = .ok (.iconst 1, 1) := by decide +kernel
theorem dX2_isFarther_13 : decode cX2_isFarther 13 = .ok (.goto 4, 3) := by decide +kernel
theorem dX2_isFarther_16 : decode cX2_isFarther 16 = .ok (.iconst 0, 1) := by decide +kernel
theorem dX2_isFarther_17 : decode cX2_isFarther 17 = .ok (.ireturn, 1) := by decide +kernel
theorem dX2_isFarther_18 : decode cX2_isFarther 18 = .ok (.iload_n 0, 1) := by decide +kernel
theorem dX2_isFarther_19 : decode cX2_isFarther 19 = .ok (.ifCond .eq 26, 3) := by decide +kernel
theorem dX2_isFarther_22 : decode cX2_isFarther 22 = .ok (.lload_n 1, 1) := by decide +kernel
theorem dX2_isFarther_23 : decode cX2_isFarther 23 = .ok (.lload_n 1, 1) := by decide +kernel
theorem dX2_isFarther_24 : decode cX2_isFarther 24 = .ok (.lload 4, 2) := by decide +kernel
theorem dX2_isFarther_26 : decode cX2_isFarther 26 = .ok (.lneg, 1) := by decide +kernel
theorem dX2_isFarther_27 : decode cX2_isFarther 27 = .ok (.lload 6, 2) := by decide +kernel
theorem dX2_isFarther_29 : decode cX2_isFarther 29 = .ok (.lconst 0, 1) := by decide +kernel
theorem dX2_isFarther_30 : decode cX2_isFarther 30 = .ok (.lconst 0, 1) := by decide +kernel
theorem dX2_isFarther_31 : decode cX2_isFarther 31 = .ok (.invokestatic 170, 3) := by decide +kernel
theorem dX2_isFarther_34 : decode cX2_isFarther 34 = .ok (.ifCond .le 7, 3) := by decide +kernel
theorem dX2_isFarther_37 : decode cX2_isFarther 37 = .ok (.iconst 1, 1) := by decide +kernel
theorem dX2_isFarther_38 : decode cX2_isFarther 38 = .ok (.goto 28, 3) := by decide +kernel
theorem dX2_isFarther_41 : decode cX2_isFarther 41 = .ok (.iconst 0, 1) := by decide +kernel
theorem dX2_isFarther_42 : decode cX2_isFarther 42 = .ok (.goto 24, 3) := by decide +kernel
theorem dX2_isFarther_45 : decode cX2_isFarther 45 = .ok (.lload_n 1, 1) := by decide +kernel
theorem dX2_isFarther_46 : decode cX2_isFarther 46 = .ok (.lload 6, 2) := by decide +kernel
theorem dX2_isFarther_48 : decode cX2_isFarther 48 = .ok (.lload 4, 2) := by decide +kernel
theorem dX2_isFarther_50 : decode cX2_isFarther 50 = .ok (.lneg, 1) := by decide +kernel
theorem dX2_isFarther_51 : decode cX2_isFarther 51 = .ok (.lload 4, 2) := by decide +kernel
theorem dX2_isFarther_53 : decode cX2_isFarther 53 = .ok (.lconst 0, 1) := by decide +kernel
theorem dX2_isFarther_54 : decode cX2_isFarther 54 = .ok (.lconst 0, 1) := by decide +kernel
theorem dX2_isFarther_55 : decode cX2_isFarther 55 = .ok (.invokestatic 170, 3) := by decide +kernel
theorem dX2_isFarther_58 : decode cX2_isFarther 58 = .ok (.ifCond .le 7, 3) := by decide +kernel
theorem dX2_isFarther_61 : decode cX2_isFarther 61 = .ok (.iconst 1, 1) := by decide +kernel
theorem dX2_isFarther_62 : decode cX2_isFarther 62 = .ok (.goto 4, 3) := by decide +kernel
theorem dX2_isFarther_65 : decode cX2_isFarther 65 = .ok (.iconst 0, 1) := by decide +kernel
theorem dX2_isFarther_66 : decode cX2_isFarther 66 = .ok (.ireturn, 1) := by decide +kernel
theorem dX7_sideSign_0 : decode cX7_sideSign 0 = .ok (.aload_n 0, 1) := by decide +kernel
theorem dX7_sideSign_1 : decode cX7_sideSign 1 = .ok (.iconst 2, 1) := by decide +kernel
theorem dX7_sideSign_2 : decode cX7_sideSign 2 = .ok (.aload_n 0, 1) := by decide +kernel
theorem dX7_sideSign_3 : decode cX7_sideSign 3 = .ok (.getfield 9, 3) := by decide +kernel
theorem dX7_sideSign_6 : decode cX7_sideSign 6 = .ok (.iload_n 2, 1) := by decide +kernel
theorem dX7_sideSign_7 : decode cX7_sideSign 7 = .ok (.laload, 1) := by decide +kernel
theorem dX7_sideSign_8 : decode cX7_sideSign 8 = .ok (.aload_n 0, 1) := by decide +kernel
theorem dX7_sideSign_9 : decode cX7_sideSign 9 = .ok (.getfield 9, 3) := by decide +kernel
theorem dX7_sideSign_12 : decode cX7_sideSign 12 = .ok (.iload_n 1, 1) := by decide +kernel
theorem dX7_sideSign_13 : decode cX7_sideSign 13 = .ok (.laload, 1) := by decide +kernel
theorem dX7_sideSign_14 : decode cX7_sideSign 14 = .ok (.invokevirtual 30, 3) := by decide +kernel
theorem dX7_sideSign_17 : decode cX7_sideSign 17 = .ok (.aload_n 0, 1) := by decide +kernel
theorem dX7_sideSign_18 : decode cX7_sideSign 18 = .ok (.iconst 3, 1) := by decide +kernel
theorem dX7_sideSign_19 : decode cX7_sideSign 19 = .ok (.aload_n 0, 1) := by decide +kernel
theorem dX7_sideSign_20 : decode cX7_sideSign 20 = .ok (.getfield 15, 3) := by decide +kernel
theorem dX7_sideSign_23 : decode cX7_sideSign 23 = .ok (.iload_n 3, 1) := by decide +kernel
theorem dX7_sideSign_24 : decode cX7_sideSign 24 = .ok (.laload, 1) := by decide +kernel
theorem dX7_sideSign_25 : decode cX7_sideSign 25 = .ok (.aload_n 0, 1) := by decide +kernel
theorem dX7_sideSign_26 : decode cX7_sideSign 26 = .ok (.getfield 15, 3) := by decide +kernel
theorem dX7_sideSign_29 : decode cX7_sideSign 29 = .ok (.iload_n 1, 1) := by decide +kernel
theorem dX7_sideSign_30 : decode cX7_sideSign 30 = .ok (.laload, 1) := by decide +kernel
theorem dX7_sideSign_31 : decode cX7_sideSign 31 = .ok (.invokevirtual 30, 3) := by decide +kernel
theorem dX7_sideSign_34 : decode cX7_sideSign 34 = .ok (.aload_n 0, 1) := by decide +kernel
theorem dX7_sideSign_35 : decode cX7_sideSign 35 = .ok (.iconst 4, 1) := by decide +kernel
theorem dX7_sideSign_36 : decode cX7_sideSign 36 = .ok (.aload_n 0, 1) := by decide +kernel
theorem dX7_sideSign_37 : decode cX7_sideSign 37 = .ok (.getfield 15, 3) := by decide +kernel
theorem dX7_sideSign_40 : decode cX7_sideSign 40 = .ok (.iload_n 2, 1) := by decide +kernel
theorem dX7_sideSign_41 : decode cX7_sideSign 41 = .ok (.laload, 1) := by decide +kernel
theorem dX7_sideSign_42 : decode cX7_sideSign 42 = .ok (.aload_n 0, 1) := by decide +kernel
theorem dX7_sideSign_43 : decode cX7_sideSign 43 = .ok (.getfield 15, 3) := by decide +kernel
theorem dX7_sideSign_46 : decode cX7_sideSign 46 = .ok (.iload_n 1, 1) := by decide +kernel
theorem dX7_sideSign_47 : decode cX7_sideSign 47 = .ok (.laload, 1) := by decide +kernel
theorem dX7_sideSign_48 : decode cX7_sideSign 48 = .ok (.invokevirtual 30, 3) := by decide +kernel
theorem dX7_sideSign_51 : decode cX7_sideSign 51 = .ok (.aload_n 0, 1) := by decide +kernel
theorem dX7_sideSign_52 : decode cX7_sideSign 52 = .ok (.iconst 5, 1) := by decide +kernel
theorem dX7_sideSign_53 : decode cX7_sideSign 53 = .ok (.aload_n 0, 1) := by decide +kernel
theorem dX7_sideSign_54 : decode cX7_sideSign 54 = .ok (.getfield 9, 3) := by decide +kernel
theorem dX7_sideSign_57 : decode cX7_sideSign 57 = .ok (.iload_n 3, 1) := by decide +kernel
theorem dX7_sideSign_58 : decode cX7_sideSign 58 = .ok (.laload, 1) := by decide +kernel
theorem dX7_sideSign_59 : decode cX7_sideSign 59 = .ok (.aload_n 0, 1) := by decide +kernel
theorem dX7_sideSign_60 : decode cX7_sideSign 60 = .ok (.getfield 9, 3) := by decide +kernel
theorem dX7_sideSign_63 : decode cX7_sideSign 63 = .ok (.iload_n 1, 1) := by decide +kernel
theorem dX7_sideSign_64 : decode cX7_sideSign 64 = .ok (.laload, 1) := by decide +kernel
theorem dX7_sideSign_65 : decode cX7_sideSign 65 = .ok (.invokevirtual 30, 3) := by decide +kernel
theorem dX7_sideSign_68 : decode cX7_sideSign 68 = .ok (.aload_n 0, 1) := by decide +kernel
theorem dX7_sideSign_69 : decode cX7_sideSign 69 = .ok (.bipush 6, 2) := by decide +kernel
theorem dX7_sideSign_71 : decode cX7_sideSign 71 = .ok (.iconst 2, 1) := by decide +kernel
theorem dX7_sideSign_72 : decode cX7_sideSign 72 = .ok (.iconst 3, 1) := by decide +kernel
theorem dX7_sideSign_73 : decode cX7_sideSign 73 = .ok (.invokevirtual 34, 3) := by decide +kernel
theorem dX7_sideSign_76 : decode cX7_sideSign 76 = .ok (.aload_n 0, 1) := by decide +kernel
theorem dX7_sideSign_77 : decode cX7_sideSign 77 = .ok (.bipush 7, 2) := by decide +kernel
theorem dX7_sideSign_79 : decode cX7_sideSign 79 = .ok (.iconst 4, 1) := by decide +kernel
theorem dX7_sideSign_80 : decode cX7_sideSign 80 = .ok (.iconst 5, 1) := by decide +kernel
theorem dX7_sideSign_81 : decode cX7_sideSign 81 = .ok (.invokevirtual 34, 3) := by decide +kernel
theorem dX7_sideSign_84 : decode cX7_sideSign 84 = .ok (.aload_n 0, 1) := by decide +kernel
theorem dX7_sideSign_85 : decode cX7_sideSign 85 = .ok (.bipush 8, 2) := by decide +kernel
theorem dX7_sideSign_87 : decode cX7_sideSign 87 = .ok (.bipush 6, 2) := by decide +kernel
theorem dX7_sideSign_89 : decode cX7_sideSign 89 = .ok (.bipush 7, 2) := by decide +kernel
theorem dX7_sideSign_91 : decode cX7_sideSign 91 = .ok (.iconst (-1), 1) := by decide +kernel
theorem dX7_sideSign_92 : decode cX7_sideSign 92 = .ok (.invokevirtual 38, 3) := by decide +kernel
theorem dX7_sideSign_95 : decode cX7_sideSign 95 = .ok (.aload_n 0, 1) := by decide +kernel
theorem dX7_sideSign_96 : decode cX7_sideSign 96 = .ok (.getfield 27, 3) := by decide +kernel
theorem dX7_sideSign_99 : decode cX7_sideSign 99 = .ok (.bipush 8, 2) := by decide +kernel
theorem dX7_sideSign_101 : decode cX7_sideSign 101 = .ok (.iaload, 1) := by decide +kernel
theorem dX7_sideSign_102 : decode cX7_sideSign 102 = .ok (.ireturn, 1) := by decide +kernel
theorem dX7_circleSign_0 : decode cX7_circleSign 0 = .ok (.aload_n 0, 1) := by decide +kernel
theorem dX7_circleSign_1 : decode cX7_circleSign 1 = .ok (.iconst 2, 1) := by decide +kernel
theorem dX7_circleSign_2 : decode cX7_circleSign 2 = .ok (.aload_n 0, 1) := by decide +kernel
theorem dX7_circleSign_3 : decode cX7_circleSign 3 = .ok (.getfield 9, 3) := by decide +kernel
theorem dX7_circleSign_6 : decode cX7_circleSign 6 = .ok (.iload_n 1, 1) := by decide +kernel
theorem dX7_circleSign_7 : decode cX7_circleSign 7 = .ok (.laload, 1) := by decide +kernel
theorem dX7_circleSign_8 : decode cX7_circleSign 8 = .ok (.aload_n 0, 1) := by decide +kernel
theorem dX7_circleSign_9 : decode cX7_circleSign 9 = .ok (.getfield 9, 3) := by decide +kernel
theorem dX7_circleSign_12 : decode cX7_circleSign 12 = .ok (.iload 4, 2) := by decide +kernel
theorem dX7_circleSign_14 : decode cX7_circleSign 14 = .ok (.laload, 1) := by decide +kernel
theorem dX7_circleSign_15 : decode cX7_circleSign 15 = .ok (.invokevirtual 30, 3) := by decide +kernel
theorem dX7_circleSign_18 : decode cX7_circleSign 18 = .ok (.aload_n 0, 1) := by decide +kernel
theorem dX7_circleSign_19 : decode cX7_circleSign 19 = .ok (.iconst 3, 1) := by decide +kernel
theorem dX7_circleSign_20 : decode cX7_circleSign 20 = .ok (.aload_n 0, 1) := by decide +kernel
theorem dX7_circleSign_21 : decode cX7_circleSign 21 = .ok (.getfield 15, 3) := by decide +kernel
theorem dX7_circleSign_24 : decode cX7_circleSign 24 = .ok (.iload_n 1, 1) := by decide +kernel
theorem dX7_circleSign_25 : decode cX7_circleSign 25 = .ok (.laload, 1) := by decide +kernel
theorem dX7_circleSign_26 : decode cX7_circleSign 26 = .ok (.aload_n 0, 1) := by decide +kernel
theorem dX7_circleSign_27 : decode cX7_circleSign 27 = .ok (.getfield 15, 3) := by decide +kernel
theorem dX7_circleSign_30 : decode cX7_circleSign 30 = .ok (.iload 4, 2) := by decide +kernel
theorem dX7_circleSign_32 : decode cX7_circleSign 32 = .ok (.laload, 1) := by decide +kernel
theorem dX7_circleSign_33 : decode cX7_circleSign 33 = .ok (.invokevirtual 30, 3) := by decide +kernel
theorem dX7_circleSign_36 : decode cX7_circleSign 36 = .ok (.aload_n 0, 1) := by decide +kernel
theorem dX7_circleSign_37 : decode cX7_circleSign 37 = .ok (.iconst 4, 1) := by decide +kernel
theorem dX7_circleSign_38 : decode cX7_circleSign 38 = .ok (.aload_n 0, 1) := by decide +kernel
theorem dX7_circleSign_39 : decode cX7_circleSign 39 = .ok (.getfield 9, 3) := by decide +kernel
theorem dX7_circleSign_42 : decode cX7_circleSign 42 = .ok (.iload_n 2, 1) := by decide +kernel
theorem dX7_circleSign_43 : decode cX7_circleSign 43 = .ok (.laload, 1) := by decide +kernel
theorem dX7_circleSign_44 : decode cX7_circleSign 44 = .ok (.aload_n 0, 1) := by decide +kernel
theorem dX7_circleSign_45 : decode cX7_circleSign 45 = .ok (.getfield 9, 3) := by decide +kernel
theorem dX7_circleSign_48 : decode cX7_circleSign 48 = .ok (.iload 4, 2) := by decide +kernel
theorem dX7_circleSign_50 : decode cX7_circleSign 50 = .ok (.laload, 1) := by decide +kernel
theorem dX7_circleSign_51 : decode cX7_circleSign 51 = .ok (.invokevirtual 30, 3) := by decide +kernel
theorem dX7_circleSign_54 : decode cX7_circleSign 54 = .ok (.aload_n 0, 1) := by decide +kernel
theorem dX7_circleSign_55 : decode cX7_circleSign 55 = .ok (.iconst 5, 1) := by decide +kernel
theorem dX7_circleSign_56 : decode cX7_circleSign 56 = .ok (.aload_n 0, 1) := by decide +kernel
theorem dX7_circleSign_57 : decode cX7_circleSign 57 = .ok (.getfield 15, 3) := by decide +kernel
theorem dX7_circleSign_60 : decode cX7_circleSign 60 = .ok (.iload_n 2, 1) := by decide +kernel
theorem dX7_circleSign_61 : decode cX7_circleSign 61 = .ok (.laload, 1) := by decide +kernel
theorem dX7_circleSign_62 : decode cX7_circleSign 62 = .ok (.aload_n 0, 1) := by decide +kernel
theorem dX7_circleSign_63 : decode cX7_circleSign 63 = .ok (.getfield 15, 3) := by decide +kernel
theorem dX7_circleSign_66 : decode cX7_circleSign 66 = .ok (.iload 4, 2) := by decide +kernel
theorem dX7_circleSign_68 : decode cX7_circleSign 68 = .ok (.laload, 1) := by decide +kernel
theorem dX7_circleSign_69 : decode cX7_circleSign 69 = .ok (.invokevirtual 30, 3) := by decide +kernel
theorem dX7_circleSign_72 : decode cX7_circleSign 72 = .ok (.aload_n 0, 1) := by decide +kernel
theorem dX7_circleSign_73 : decode cX7_circleSign 73 = .ok (.bipush 6, 2) := by decide +kernel
theorem dX7_circleSign_75 : decode cX7_circleSign 75 = .ok (.aload_n 0, 1) := by decide +kernel
theorem dX7_circleSign_76 : decode cX7_circleSign 76 = .ok (.getfield 9, 3) := by decide +kernel
theorem dX7_circleSign_79 : decode cX7_circleSign 79 = .ok (.iload_n 3, 1) := by decide +kernel
theorem dX7_circleSign_80 : decode cX7_circleSign 80 = .ok (.laload, 1) := by decide +kernel
theorem dX7_circleSign_81 : decode cX7_circleSign 81 = .ok (.aload_n 0, 1) := by decide +kernel
theorem dX7_circleSign_82 : decode cX7_circleSign 82 = .ok (.getfield 9, 3) := by decide +kernel
theorem dX7_circleSign_85 : decode cX7_circleSign 85 = .ok (.iload 4, 2) := by decide +kernel
theorem dX7_circleSign_87 : decode cX7_circleSign 87 = .ok (.laload, 1) := by decide +kernel
theorem dX7_circleSign_88 : decode cX7_circleSign 88 = .ok (.invokevirtual 30, 3) := by decide +kernel
theorem dX7_circleSign_91 : decode cX7_circleSign 91 = .ok (.aload_n 0, 1) := by decide +kernel
theorem dX7_circleSign_92 : decode cX7_circleSign 92 = .ok (.bipush 7, 2) := by decide +kernel
theorem dX7_circleSign_94 : decode cX7_circleSign 94 = .ok (.aload_n 0, 1) := by decide +kernel
theorem dX7_circleSign_95 : decode cX7_circleSign 95 = .ok (.getfield 15, 3) := by decide +kernel
theorem dX7_circleSign_98 : decode cX7_circleSign 98 = .ok (.iload_n 3, 1) := by decide +kernel
theorem dX7_circleSign_99 : decode cX7_circleSign 99 = .ok (.laload, 1) := by decide +kernel
theorem dX7_circleSign_100 : decode cX7_circleSign 100 = .ok (.aload_n 0, 1) := by decide +kernel
theorem dX7_circleSign_101 : decode cX7_circleSign 101 = .ok (.getfield 15, 3) := by decide +kernel
theorem dX7_circleSign_104 : decode cX7_circleSign 104 = .ok (.iload 4, 2) := by decide +kernel
theorem dX7_circleSign_106 : decode cX7_circleSign 106 = .ok (.laload, 1) := by decide +kernel
theorem dX7_circleSign_107 : decode cX7_circleSign 107 = .ok (.invokevirtual 30, 3) := by decide +kernel
theorem dX7_circleSign_110 : decode cX7_circleSign 110 = .ok (.aload_n 0, 1) := by decide +kernel
theorem dX7_circleSign_111 : decode cX7_circleSign 111 = .ok (.bipush 8, 2) := by decide +kernel
theorem dX7_circleSign_113 : decode cX7_circleSign 113 = .ok (.iconst 2, 1) := by decide +kernel
theorem dX7_circleSign_114 : decode cX7_circleSign 114 = .ok (.iconst 4, 1) := by decide +kernel
theorem dX7_circleSign_115 : decode cX7_circleSign 115 = .ok (.bipush 6, 2) := by decide +kernel
theorem dX7_circleSign_117 : decode cX7_circleSign 117 = .ok (.invokevirtual 42, 3) := by decide +kernel
theorem dX7_circleSign_120 : decode cX7_circleSign 120 = .ok (.aload_n 0, 1) := by decide +kernel
theorem dX7_circleSign_121 : decode cX7_circleSign 121 = .ok (.bipush 9, 2) := by decide +kernel
theorem dX7_circleSign_123 : decode cX7_circleSign 123 = .ok (.iconst 4, 1) := by decide +kernel
theorem dX7_circleSign_124 : decode cX7_circleSign 124 = .ok (.bipush 6, 2) := by decide +kernel
theorem dX7_circleSign_126 : decode cX7_circleSign 126 = .ok (.iconst 2, 1) := by decide +kernel
theorem dX7_circleSign_127 : decode cX7_circleSign 127 = .ok (.invokevirtual 42, 3) := by decide +kernel
theorem dX7_circleSign_130 : decode cX7_circleSign 130 = .ok (.aload_n 0, 1) := by decide +kernel
theorem dX7_circleSign_131 : decode cX7_circleSign 131 = .ok (.bipush 10, 2) := by decide +kernel
theorem dX7_circleSign_133 : decode cX7_circleSign 133 = .ok (.bipush 6, 2) := by decide +kernel
theorem dX7_circleSign_135 : decode cX7_circleSign 135 = .ok (.iconst 2, 1) := by decide +kernel
theorem dX7_circleSign_136 : decode cX7_circleSign 136 = .ok (.iconst 4, 1) := by decide +kernel
theorem dX7_circleSign_137 : decode cX7_circleSign 137 = .ok (.invokevirtual 42, 3) := by decide +kernel
theorem dX7_circleSign_140 : decode cX7_circleSign 140 = .ok (.aload_n 0, 1) := by decide +kernel
theorem dX7_circleSign_141 : decode cX7_circleSign 141 = .ok (.bipush 11, 2) := by decide +kernel
theorem dX7_circleSign_143 : decode cX7_circleSign 143 = .ok (.bipush 8, 2) := by decide +kernel
theorem dX7_circleSign_145 : decode cX7_circleSign 145 = .ok (.bipush 9, 2) := by decide +kernel
theorem dX7_circleSign_147 : decode cX7_circleSign 147 = .ok (.iconst 1, 1) := by decide +kernel
theorem dX7_circleSign_148 : decode cX7_circleSign 148 = .ok (.invokevirtual 38, 3) := by decide +kernel
theorem dX7_circleSign_151 : decode cX7_circleSign 151 = .ok (.aload_n 0, 1) := by decide +kernel
theorem dX7_circleSign_152 : decode cX7_circleSign 152 = .ok (.bipush 12, 2) := by decide +kernel
theorem dX7_circleSign_154 : decode cX7_circleSign 154 = .ok (.bipush 11, 2) := by decide +kernel
theorem dX7_circleSign_156 : decode cX7_circleSign 156 = .ok (.bipush 10, 2) := by decide +kernel
theorem dX7_circleSign_158 : decode cX7_circleSign 158 = .ok (.iconst 1, 1) := by decide +kernel
theorem dX7_circleSign_159 : decode cX7_circleSign 159 = .ok (.invokevirtual 38, 3) := by decide +kernel
theorem dX7_circleSign_162 : decode cX7_circleSign 162 = .ok (.aload_n 0, 1) := by decide +kernel
theorem dX7_circleSign_163 : decode cX7_circleSign 163 = .ok (.getfield 27, 3) := by decide +kernel
theorem dX7_circleSign_166 : decode cX7_circleSign 166 = .ok (.bipush 12, 2) := by decide +kernel
theorem dX7_circleSign_168 : decode cX7_circleSign 168 = .ok (.iaload, 1) := by decide +kernel
theorem dX7_circleSign_169 : decode cX7_circleSign 169 = .ok (.ireturn, 1) := by decide +kernel
theorem dX7_putTerm_0 : decode cX7_putTerm 0 = .ok (.aload_n 0, 1) := by decide +kernel
theorem dX7_putTerm_1 : decode cX7_putTerm 1 = .ok (.bipush 13, 2) := by decide +kernel
theorem dX7_putTerm_3 : decode cX7_putTerm 3 = .ok (.iload_n 2, 1) := by decide +kernel
theorem dX7_putTerm_4 : decode cX7_putTerm 4 = .ok (.iload_n 2, 1) := by decide +kernel
theorem dX7_putTerm_5 : decode cX7_putTerm 5 = .ok (.invokevirtual 34, 3) := by decide +kernel
theorem dX7_putTerm_8 : decode cX7_putTerm 8 = .ok (.aload_n 0, 1) := by decide +kernel
theorem dX7_putTerm_9 : decode cX7_putTerm 9 = .ok (.bipush 14, 2) := by decide +kernel
theorem dX7_putTerm_11 : decode cX7_putTerm 11 = .ok (.iload_n 2, 1) := by decide +kernel
theorem dX7_putTerm_12 : decode cX7_putTerm 12 = .ok (.iconst 1, 1) := by decide +kernel
theorem dX7_putTerm_13 : decode cX7_putTerm 13 = .ok (.iadd, 1) := by decide +kernel
theorem dX7_putTerm_14 : decode cX7_putTerm 14 = .ok (.iload_n 2, 1) := by decide +kernel
theorem dX7_putTerm_15 : decode cX7_putTerm 15 = .ok (.iconst 1, 1) := by decide +kernel
theorem dX7_putTerm_16 : decode cX7_putTerm 16 = .ok (.iadd, 1) := by decide +kernel
theorem dX7_putTerm_17 : decode cX7_putTerm 17 = .ok (.invokevirtual 34, 3) := by decide +kernel
theorem dX7_putTerm_20 : decode cX7_putTerm 20 = .ok (.aload_n 0, 1) := by decide +kernel
theorem dX7_putTerm_21 : decode cX7_putTerm 21 = .ok (.bipush 15, 2) := by decide +kernel
theorem dX7_putTerm_23 : decode cX7_putTerm 23 = .ok (.bipush 13, 2) := by decide +kernel
theorem dX7_putTerm_25 : decode cX7_putTerm 25 = .ok (.bipush 14, 2) := by decide +kernel
theorem dX7_putTerm_27 : decode cX7_putTerm 27 = .ok (.iconst 1, 1) := by decide +kernel
theorem dX7_putTerm_28 : decode cX7_putTerm 28 = .ok (.invokevirtual 38, 3) := by decide +kernel
theorem dX7_putTerm_31 : decode cX7_putTerm 31 = .ok (.aload_n 0, 1) := by decide +kernel
theorem dX7_putTerm_32 : decode cX7_putTerm 32 = .ok (.bipush 13, 2) := by decide +kernel
theorem dX7_putTerm_34 : decode cX7_putTerm 34 = .ok (.iload_n 3, 1) := by decide +kernel
theorem dX7_putTerm_35 : decode cX7_putTerm 35 = .ok (.iload 4, 2) := by decide +kernel
theorem dX7_putTerm_37 : decode cX7_putTerm 37 = .ok (.iconst 1, 1) := by decide +kernel
theorem dX7_putTerm_38 : decode cX7_putTerm 38 = .ok (.iadd, 1) := by decide +kernel
theorem dX7_putTerm_39 : decode cX7_putTerm 39 = .ok (.invokevirtual 34, 3) := by decide +kernel
theorem dX7_putTerm_42 : decode cX7_putTerm 42 = .ok (.aload_n 0, 1) := by decide +kernel
theorem dX7_putTerm_43 : decode cX7_putTerm 43 = .ok (.bipush 14, 2) := by decide +kernel
theorem dX7_putTerm_45 : decode cX7_putTerm 45 = .ok (.iload_n 3, 1) := by decide +kernel
theorem dX7_putTerm_46 : decode cX7_putTerm 46 = .ok (.iconst 1, 1) := by decide +kernel
theorem dX7_putTerm_47 : decode cX7_putTerm 47 = .ok (.iadd, 1) := by decide +kernel
theorem dX7_putTerm_48 : decode cX7_putTerm 48 = .ok (.iload 4, 2) := by decide +kernel
theorem dX7_putTerm_50 : decode cX7_putTerm 50 = .ok (.invokevirtual 34, 3) := by decide +kernel
theorem dX7_putTerm_53 : decode cX7_putTerm 53 = .ok (.aload_n 0, 1) := by decide +kernel
theorem dX7_putTerm_54 : decode cX7_putTerm 54 = .ok (.iconst 0, 1) := by decide +kernel
theorem dX7_putTerm_55 : decode cX7_putTerm 55 = .ok (.bipush 13, 2) := by decide +kernel
theorem dX7_putTerm_57 : decode cX7_putTerm 57 = .ok (.bipush 14, 2) := by decide +kernel
theorem dX7_putTerm_59 : decode cX7_putTerm 59 = .ok (.iconst (-1), 1) := by decide +kernel
theorem dX7_putTerm_60 : decode cX7_putTerm 60 = .ok (.invokevirtual 38, 3) := by decide +kernel
theorem dX7_putTerm_63 : decode cX7_putTerm 63 = .ok (.aload_n 0, 1) := by decide +kernel
theorem dX7_putTerm_64 : decode cX7_putTerm 64 = .ok (.iload_n 1, 1) := by decide +kernel
theorem dX7_putTerm_65 : decode cX7_putTerm 65 = .ok (.bipush 15, 2) := by decide +kernel
theorem dX7_putTerm_67 : decode cX7_putTerm 67 = .ok (.iconst 0, 1) := by decide +kernel
theorem dX7_putTerm_68 : decode cX7_putTerm 68 = .ok (.invokevirtual 34, 3) := by decide +kernel
theorem dX7_putTerm_71 : decode cX7_putTerm 71 = .ok (.return_, 1) := by decide +kernel
theorem dX7_difference_0 : decode cX7_difference 0 = .ok (.aload_n 0, 1) := by decide +kernel
theorem dX7_difference_1 : decode cX7_difference 1 = .ok (.iconst 0, 1) := by decide +kernel
theorem dX7_difference_2 : decode cX7_difference 2 = .ok (.lload_n 2, 1) := by decide +kernel
theorem dX7_difference_3 : decode cX7_difference 3 = .ok (.invokevirtual 45, 3) := by decide +kernel
theorem dX7_difference_6 : decode cX7_difference 6 = .ok (.aload_n 0, 1) := by decide +kernel
theorem dX7_difference_7 : decode cX7_difference 7 = .ok (.iconst 1, 1) := by decide +kernel
theorem dX7_difference_8 : decode cX7_difference 8 = .ok (.lload 4, 2) := by decide +kernel
theorem dX7_difference_10 : decode cX7_difference 10 = .ok (.invokevirtual 45, 3) := by decide +kernel
theorem dX7_difference_13 : decode cX7_difference 13 = .ok (.aload_n 0, 1) := by decide +kernel
theorem dX7_difference_14 : decode cX7_difference 14 = .ok (.iload_n 1, 1) := by decide +kernel
theorem dX7_difference_15 : decode cX7_difference 15 = .ok (.iconst 0, 1) := by decide +kernel
theorem dX7_difference_16 : decode cX7_difference 16 = .ok (.iconst 1, 1) := by decide +kernel
theorem dX7_difference_17 : decode cX7_difference 17 = .ok (.iconst (-1), 1) := by decide +kernel
theorem dX7_difference_18 : decode cX7_difference 18 = .ok (.invokevirtual 38, 3) := by decide +kernel
theorem dX7_difference_21 : decode cX7_difference 21 = .ok (.return_, 1) := by decide +kernel
theorem dX7_load_0 : decode cX7_load 0 = .ok (.lload_n 2, 1) := by decide +kernel
theorem dX7_load_1 : decode cX7_load 1 = .ok (.bipush 52, 2) := by decide +kernel
theorem dX7_load_3 : decode cX7_load 3 = .ok (.lushr, 1) := by decide +kernel
theorem dX7_load_4 : decode cX7_load 4 = .ok (.l2i, 1) := by decide +kernel
theorem dX7_load_5 : decode cX7_load 5 = .ok (.sipush 2047, 3) := by decide +kernel
theorem dX7_load_8 : decode cX7_load 8 = .ok (.iand, 1) := by decide +kernel
theorem dX7_load_9 : decode cX7_load 9 = .ok (.istore 4, 2) := by decide +kernel
theorem dX7_load_11 : decode cX7_load 11 = .ok (.iload 4, 2) := by decide +kernel
theorem dX7_load_13 : decode cX7_load 13 = .ok (.ifCond .ne 11, 3) := by decide +kernel
theorem dX7_load_16 : decode cX7_load 16 = .ok (.lload_n 2, 1) := by decide +kernel
theorem dX7_load_17 : decode cX7_load 17 = .ok (.ldc2_w 49, 3) := by decide +kernel
theorem dX7_load_20 : decode cX7_load 20 = .ok (.land, 1) := by decide +kernel
theorem dX7_load_21 : decode cX7_load 21 = .ok (.goto 14, 3) := by decide +kernel
theorem dX7_load_24 : decode cX7_load 24 = .ok (.lload_n 2, 1) := by decide +kernel
theorem dX7_load_25 : decode cX7_load 25 = .ok (.ldc2_w 49, 3) := by decide +kernel
theorem dX7_load_28 : decode cX7_load 28 = .ok (.land, 1) := by decide +kernel
theorem dX7_load_29 : decode cX7_load 29 = .ok (.ldc2_w 49, 3) := by decide +kernel
theorem dX7_load_32 : decode cX7_load 32 = .ok (.ladd, 1) := by decide +kernel
theorem dX7_load_33 : decode cX7_load 33 = .ok (.lconst 1, 1) := by decide +kernel
theorem dX7_load_34 : decode cX7_load 34 = .ok (.ladd, 1) := by decide +kernel
theorem dX7_load_35 : decode cX7_load 35 = .ok (.lstore 5, 2) := by decide +kernel
theorem dX7_load_37 : decode cX7_load 37 = .ok (.iload 4, 2) := by decide +kernel
theorem dX7_load_39 : decode cX7_load 39 = .ok (.iconst 1, 1) := by decide +kernel
theorem dX7_load_40 : decode cX7_load 40 = .ok (.isub, 1) := by decide +kernel
theorem dX7_load_41 : decode cX7_load 41 = .ok (.iconst 0, 1) := by decide +kernel
theorem dX7_load_42 : decode cX7_load 42 = .ok (.invokestatic 51, 3) := by decide +kernel
theorem dX7_load_45 : decode cX7_load 45 = .ok (.istore 7, 2) := by decide +kernel
theorem dX7_load_47 : decode cX7_load 47 = .ok (.iload 7, 2) := by decide +kernel
theorem dX7_load_49 : decode cX7_load 49 = .ok (.iconst 5, 1) := by decide +kernel
theorem dX7_load_50 : decode cX7_load 50 = .ok (.ishr, 1) := by decide +kernel
theorem dX7_load_51 : decode cX7_load 51 = .ok (.istore 8, 2) := by decide +kernel
theorem dX7_load_53 : decode cX7_load 53 = .ok (.iload 7, 2) := by decide +kernel
theorem dX7_load_55 : decode cX7_load 55 = .ok (.bipush 31, 2) := by decide +kernel
theorem dX7_load_57 : decode cX7_load 57 = .ok (.iand, 1) := by decide +kernel
theorem dX7_load_58 : decode cX7_load 58 = .ok (.istore 9, 2) := by decide +kernel
theorem dX7_load_60 : decode cX7_load 60 = .ok (.aload_n 0, 1) := by decide +kernel
theorem dX7_load_61 : decode cX7_load 61 = .ok (.getfield 20, 3) := by decide +kernel
theorem dX7_load_64 : decode cX7_load 64 = .ok (.iload_n 1, 1) := by decide +kernel
theorem dX7_load_65 : decode cX7_load 65 = .ok (.aaload, 1) := by decide +kernel
theorem dX7_load_66 : decode cX7_load 66 = .ok (.iconst 0, 1) := by decide +kernel
theorem dX7_load_67 : decode cX7_load 67 = .ok (.iload 8, 2) := by decide +kernel
theorem dX7_load_69 : decode cX7_load 69 = .ok (.iconst 3, 1) := by decide +kernel
theorem dX7_load_70 : decode cX7_load 70 = .ok (.iadd, 1) := by decide +kernel
theorem dX7_load_71 : decode cX7_load 71 = .ok (.iconst 0, 1) := by decide +kernel
theorem dX7_load_72 : decode cX7_load 72 = .ok (.invokestatic 57, 3) := by decide +kernel
theorem dX7_load_75 : decode cX7_load 75 = .ok (.lload 5, 2) := by decide +kernel
theorem dX7_load_77 : decode cX7_load 77 = .ok (.ldc2_w 63, 3) := by decide +kernel
theorem dX7_load_80 : decode cX7_load 80 = .ok (.land, 1) := by decide +kernel
theorem dX7_load_81 : decode cX7_load 81 = .ok (.iload 9, 2) := by decide +kernel
theorem dX7_load_83 : decode cX7_load 83 = .ok (.lshl, 1) := by decide +kernel
theorem dX7_load_84 : decode cX7_load 84 = .ok (.lstore 10, 2) := by decide +kernel
theorem dX7_load_86 : decode cX7_load 86 = .ok (.lload 5, 2) := by decide +kernel
theorem dX7_load_88 : decode cX7_load 88 = .ok (.bipush 32, 2) := by decide +kernel
theorem dX7_load_90 : decode cX7_load 90 = .ok (.lushr, 1) := by decide +kernel
theorem dX7_load_91 : decode cX7_load 91 = .ok (.iload 9, 2) := by decide +kernel
theorem dX7_load_93 : decode cX7_load 93 = .ok (.lshl, 1) := by decide +kernel
theorem dX7_load_94 : decode cX7_load 94 = .ok (.lload 10, 2) := by decide +kernel
theorem dX7_load_96 : decode cX7_load 96 = .ok (.bipush 32, 2) := by decide +kernel
theorem dX7_load_98 : decode cX7_load 98 = .ok (.lushr, 1) := by decide +kernel
theorem dX7_load_99 : decode cX7_load 99 = .ok (.ladd, 1) := by decide +kernel
theorem dX7_load_100 : decode cX7_load 100 = .ok (.lstore 12, 2) := by decide +kernel
theorem dX7_load_102 : decode cX7_load 102 = .ok (.aload_n 0, 1) := by decide +kernel
theorem dX7_load_103 : decode cX7_load 103 = .ok (.getfield 20, 3) := by decide +kernel
theorem dX7_load_106 : decode cX7_load 106 = .ok (.iload_n 1, 1) := by decide +kernel
theorem dX7_load_107 : decode cX7_load 107 = .ok (.aaload, 1) := by decide +kernel
theorem dX7_load_108 : decode cX7_load 108 = .ok (.iload 8, 2) := by decide +kernel
theorem dX7_load_110 : decode cX7_load 110 = .ok (.lload 10, 2) := by decide +kernel
theorem dX7_load_112 : decode cX7_load 112 = .ok (.l2i, 1) := by decide +kernel
theorem dX7_load_113 : decode cX7_load 113 = .ok (.iastore, 1) := by decide +kernel
theorem dX7_load_114 : decode cX7_load 114 = .ok (.aload_n 0, 1) := by decide +kernel
theorem dX7_load_115 : decode cX7_load 115 = .ok (.getfield 20, 3) := by decide +kernel
theorem dX7_load_118 : decode cX7_load 118 = .ok (.iload_n 1, 1) := by decide +kernel
theorem dX7_load_119 : decode cX7_load 119 = .ok (.aaload, 1) := by decide +kernel
theorem dX7_load_120 : decode cX7_load 120 = .ok (.iload 8, 2) := by decide +kernel
theorem dX7_load_122 : decode cX7_load 122 = .ok (.iconst 1, 1) := by decide +kernel
theorem dX7_load_123 : decode cX7_load 123 = .ok (.iadd, 1) := by decide +kernel
theorem dX7_load_124 : decode cX7_load 124 = .ok (.lload 12, 2) := by decide +kernel
theorem dX7_load_126 : decode cX7_load 126 = .ok (.l2i, 1) := by decide +kernel
theorem dX7_load_127 : decode cX7_load 127 = .ok (.iastore, 1) := by decide +kernel
theorem dX7_load_128 : decode cX7_load 128 = .ok (.aload_n 0, 1) := by decide +kernel
theorem dX7_load_129 : decode cX7_load 129 = .ok (.getfield 20, 3) := by decide +kernel
theorem dX7_load_132 : decode cX7_load 132 = .ok (.iload_n 1, 1) := by decide +kernel
theorem dX7_load_133 : decode cX7_load 133 = .ok (.aaload, 1) := by decide +kernel
theorem dX7_load_134 : decode cX7_load 134 = .ok (.iload 8, 2) := by decide +kernel
theorem dX7_load_136 : decode cX7_load 136 = .ok (.iconst 2, 1) := by decide +kernel
theorem dX7_load_137 : decode cX7_load 137 = .ok (.iadd, 1) := by decide +kernel
theorem dX7_load_138 : decode cX7_load 138 = .ok (.lload 12, 2) := by decide +kernel
theorem dX7_load_140 : decode cX7_load 140 = .ok (.bipush 32, 2) := by decide +kernel
theorem dX7_load_142 : decode cX7_load 142 = .ok (.lushr, 1) := by decide +kernel
theorem dX7_load_143 : decode cX7_load 143 = .ok (.l2i, 1) := by decide +kernel
theorem dX7_load_144 : decode cX7_load 144 = .ok (.iastore, 1) := by decide +kernel
theorem dX7_load_145 : decode cX7_load 145 = .ok (.aload_n 0, 1) := by decide +kernel
theorem dX7_load_146 : decode cX7_load 146 = .ok (.getfield 23, 3) := by decide +kernel
theorem dX7_load_149 : decode cX7_load 149 = .ok (.iload_n 1, 1) := by decide +kernel
theorem dX7_load_150 : decode cX7_load 150 = .ok (.iload 8, 2) := by decide +kernel
theorem dX7_load_152 : decode cX7_load 152 = .ok (.iconst 3, 1) := by decide +kernel
theorem dX7_load_153 : decode cX7_load 153 = .ok (.iadd, 1) := by decide +kernel
theorem dX7_load_154 : decode cX7_load 154 = .ok (.iastore, 1) := by decide +kernel
theorem dX7_load_155 : decode cX7_load 155 = .ok (.aload_n 0, 1) := by decide +kernel
theorem dX7_load_156 : decode cX7_load 156 = .ok (.getfield 27, 3) := by decide +kernel
theorem dX7_load_159 : decode cX7_load 159 = .ok (.iload_n 1, 1) := by decide +kernel
theorem dX7_load_160 : decode cX7_load 160 = .ok (.lload_n 2, 1) := by decide +kernel
theorem dX7_load_161 : decode cX7_load 161 = .ok (.lconst 0, 1) := by decide +kernel
theorem dX7_load_162 : decode cX7_load 162 = .ok (.lcmp, 1) := by decide +kernel
theorem dX7_load_163 : decode cX7_load 163 = .ok (.ifCond .ge 7, 3) := by decide +kernel
theorem dX7_load_166 : decode cX7_load 166 = .ok (.iconst (-1), 1) := by decide +kernel
theorem dX7_load_167 : decode cX7_load 167 = .ok (.goto 4, 3) := by decide +kernel
theorem dX7_load_170 : decode cX7_load 170 = .ok (.iconst 1, 1) := by decide +kernel
theorem dX7_load_171 : decode cX7_load 171 = .ok (.iastore, 1) := by decide +kernel
theorem dX7_load_172 : decode cX7_load 172 = .ok (.aload_n 0, 1) := by decide +kernel
theorem dX7_load_173 : decode cX7_load 173 = .ok (.iload_n 1, 1) := by decide +kernel
theorem dX7_load_174 : decode cX7_load 174 = .ok (.invokevirtual 65, 3) := by decide +kernel
theorem dX7_load_177 : decode cX7_load 177 = .ok (.return_, 1) := by decide +kernel
theorem dX7_trim_0 : decode cX7_trim 0 = .ok (.aload_n 0, 1) := by decide +kernel
theorem dX7_trim_1 : decode cX7_trim 1 = .ok (.getfield 23, 3) := by decide +kernel
theorem dX7_trim_4 : decode cX7_trim 4 = .ok (.iload_n 1, 1) := by decide +kernel
theorem dX7_trim_5 : decode cX7_trim 5 = .ok (.iaload, 1) := by decide +kernel
theorem dX7_trim_6 : decode cX7_trim 6 = .ok (.ifCond .le 34, 3) := by decide +kernel
theorem dX7_trim_9 : decode cX7_trim 9 = .ok (.aload_n 0, 1) := by decide +kernel
theorem dX7_trim_10 : decode cX7_trim 10 = .ok (.getfield 20, 3) := by decide +kernel
theorem dX7_trim_13 : decode cX7_trim 13 = .ok (.iload_n 1, 1) := by decide +kernel
theorem dX7_trim_14 : decode cX7_trim 14 = .ok (.aaload, 1) := by decide +kernel
theorem dX7_trim_15 : decode cX7_trim 15 = .ok (.aload_n 0, 1) := by decide +kernel
theorem dX7_trim_16 : decode cX7_trim 16 = .ok (.getfield 23, 3) := by decide +kernel
theorem dX7_trim_19 : decode cX7_trim 19 = .ok (.iload_n 1, 1) := by decide +kernel
theorem dX7_trim_20 : decode cX7_trim 20 = .ok (.iaload, 1) := by decide +kernel
theorem dX7_trim_21 : decode cX7_trim 21 = .ok (.iconst 1, 1) := by decide +kernel
theorem dX7_trim_22 : decode cX7_trim 22 = .ok (.isub, 1) := by decide +kernel
theorem dX7_trim_23 : decode cX7_trim 23 = .ok (.iaload, 1) := by decide +kernel
theorem dX7_trim_24 : decode cX7_trim 24 = .ok (.ifCond .ne 16, 3) := by decide +kernel
theorem dX7_trim_27 : decode cX7_trim 27 = .ok (.aload_n 0, 1) := by decide +kernel
theorem dX7_trim_28 : decode cX7_trim 28 = .ok (.getfield 23, 3) := by decide +kernel
theorem dX7_trim_31 : decode cX7_trim 31 = .ok (.iload_n 1, 1) := by decide +kernel
theorem dX7_trim_32 : decode cX7_trim 32 = .ok (.dup2, 1) := by decide +kernel
theorem dX7_trim_33 : decode cX7_trim 33 = .ok (.iaload, 1) := by decide +kernel
theorem dX7_trim_34 : decode cX7_trim 34 = .ok (.iconst 1, 1) := by decide +kernel
theorem dX7_trim_35 : decode cX7_trim 35 = .ok (.isub, 1) := by decide +kernel
theorem dX7_trim_36 : decode cX7_trim 36 = .ok (.iastore, 1) := by decide +kernel
theorem dX7_trim_37 : decode cX7_trim 37 = .ok (.goto (-37), 3) := by decide +kernel
theorem dX7_trim_40 : decode cX7_trim 40 = .ok (.aload_n 0, 1) := by decide +kernel
theorem dX7_trim_41 : decode cX7_trim 41 = .ok (.getfield 23, 3) := by decide +kernel
theorem dX7_trim_44 : decode cX7_trim 44 = .ok (.iload_n 1, 1) := by decide +kernel
theorem dX7_trim_45 : decode cX7_trim 45 = .ok (.iaload, 1) := by decide +kernel
theorem dX7_trim_46 : decode cX7_trim 46 = .ok (.ifCond .ne 10, 3) := by decide +kernel
theorem dX7_trim_49 : decode cX7_trim 49 = .ok (.aload_n 0, 1) := by decide +kernel
theorem dX7_trim_50 : decode cX7_trim 50 = .ok (.getfield 27, 3) := by decide +kernel
theorem dX7_trim_53 : decode cX7_trim 53 = .ok (.iload_n 1, 1) := by decide +kernel
theorem dX7_trim_54 : decode cX7_trim 54 = .ok (.iconst 0, 1) := by decide +kernel
theorem dX7_trim_55 : decode cX7_trim 55 = .ok (.iastore, 1) := by decide +kernel
theorem dX7_trim_56 : decode cX7_trim 56 = .ok (.return_, 1) := by decide +kernel
theorem dX7_limbAt_0 : decode cX7_limbAt 0 = .ok (.iload_n 2, 1) := by decide +kernel
theorem dX7_limbAt_1 : decode cX7_limbAt 1 = .ok (.aload_n 0, 1) := by decide +kernel
theorem dX7_limbAt_2 : decode cX7_limbAt 2 = .ok (.getfield 23, 3) := by decide +kernel
theorem dX7_limbAt_5 : decode cX7_limbAt 5 = .ok (.iload_n 1, 1) := by decide +kernel
theorem dX7_limbAt_6 : decode cX7_limbAt 6 = .ok (.iaload, 1) := by decide +kernel
theorem dX7_limbAt_7 : decode cX7_limbAt 7 = .ok (.if_icmp .ge 19, 3) := by decide +kernel
theorem dX7_limbAt_10 : decode cX7_limbAt 10 = .ok (.aload_n 0, 1) := by decide +kernel
theorem dX7_limbAt_11 : decode cX7_limbAt 11 = .ok (.getfield 20, 3) := by decide +kernel
theorem dX7_limbAt_14 : decode cX7_limbAt 14 = .ok (.iload_n 1, 1) := by decide +kernel
theorem dX7_limbAt_15 : decode cX7_limbAt 15 = .ok (.aaload, 1) := by decide +kernel
theorem dX7_limbAt_16 : decode cX7_limbAt 16 = .ok (.iload_n 2, 1) := by decide +kernel
theorem dX7_limbAt_17 : decode cX7_limbAt 17 = .ok (.iaload, 1) := by decide +kernel
theorem dX7_limbAt_18 : decode cX7_limbAt 18 = .ok (.i2l, 1) := by decide +kernel
theorem dX7_limbAt_19 : decode cX7_limbAt 19 = .ok (.ldc2_w 63, 3) := by decide +kernel
theorem dX7_limbAt_22 : decode cX7_limbAt 22 = .ok (.land, 1) := by decide +kernel
theorem dX7_limbAt_23 : decode cX7_limbAt 23 = .ok (.goto 4, 3) := by decide +kernel
theorem dX7_limbAt_26 : decode cX7_limbAt 26 = .ok (.lconst 0, 1) := by decide +kernel
theorem dX7_limbAt_27 : decode cX7_limbAt 27 = .ok (.lreturn, 1) := by decide +kernel
theorem dX7_multiply_0 : decode cX7_multiply 0 = .ok (.aload_n 0, 1) := by decide +kernel
theorem dX7_multiply_1 : decode cX7_multiply 1 = .ok (.getfield 23, 3) := by decide +kernel
theorem dX7_multiply_4 : decode cX7_multiply 4 = .ok (.iload_n 2, 1) := by decide +kernel
theorem dX7_multiply_5 : decode cX7_multiply 5 = .ok (.iaload, 1) := by decide +kernel
theorem dX7_multiply_6 : decode cX7_multiply 6 = .ok (.aload_n 0, 1) := by decide +kernel
theorem dX7_multiply_7 : decode cX7_multiply 7 = .ok (.getfield 23, 3) := by decide +kernel
theorem dX7_multiply_10 : decode cX7_multiply 10 = .ok (.iload_n 3, 1) := by decide +kernel
theorem dX7_multiply_11 : decode cX7_multiply 11 = .ok (.iaload, 1) := by decide +kernel
theorem dX7_multiply_12 : decode cX7_multiply 12 = .ok (.iadd, 1) := by decide +kernel
theorem dX7_multiply_13 : decode cX7_multiply 13 = .ok (.sipush 280, 3) := by decide +kernel
theorem dX7_multiply_16 : decode cX7_multiply 16 = .ok (.invokestatic 69, 3) := by decide +kernel
theorem dX7_multiply_19 : decode cX7_multiply 19 = .ok (.istore 4, 2) := by decide +kernel
theorem dX7_multiply_21 : decode cX7_multiply 21 = .ok (.aload_n 0, 1) := by decide +kernel
theorem dX7_multiply_22 : decode cX7_multiply 22 = .ok (.getfield 20, 3) := by decide +kernel
theorem dX7_multiply_25 : decode cX7_multiply 25 = .ok (.iload_n 1, 1) := by decide +kernel
theorem dX7_multiply_26 : decode cX7_multiply 26 = .ok (.aaload, 1) := by decide +kernel
theorem dX7_multiply_27 : decode cX7_multiply 27 = .ok (.iconst 0, 1) := by decide +kernel
theorem dX7_multiply_28 : decode cX7_multiply 28 = .ok (.iload 4, 2) := by decide +kernel
theorem dX7_multiply_30 : decode cX7_multiply 30 = .ok (.iconst 0, 1) := by decide +kernel
theorem dX7_multiply_31 : decode cX7_multiply 31 = .ok (.invokestatic 57, 3) := by decide +kernel
theorem dX7_multiply_34 : decode cX7_multiply 34 = .ok (.iconst 0, 1) := by decide +kernel
theorem dX7_multiply_35 : decode cX7_multiply 35 = .ok (.istore 5, 2) := by decide +kernel
theorem dX7_multiply_37 : decode cX7_multiply 37 = .ok (.iload 5, 2) := by decide +kernel
theorem dX7_multiply_39 : decode cX7_multiply 39 = .ok (.aload_n 0, 1) := by decide +kernel
theorem dX7_multiply_40 : decode cX7_multiply 40 = .ok (.getfield 23, 3) := by decide +kernel
theorem dX7_multiply_43 : decode cX7_multiply 43 = .ok (.iload_n 2, 1) := by decide +kernel
theorem dX7_multiply_44 : decode cX7_multiply 44 = .ok (.iaload, 1) := by decide +kernel
theorem dX7_multiply_45 : decode cX7_multiply 45 = .ok (.if_icmp .ge 116, 3) := by decide +kernel
theorem dX7_multiply_48 : decode cX7_multiply 48 = .ok (.aload_n 0, 1) := by decide +kernel
theorem dX7_multiply_49 : decode cX7_multiply 49 = .ok (.iload_n 2, 1) := by decide +kernel
theorem dX7_multiply_50 : decode cX7_multiply 50 = .ok (.iload 5, 2) := by decide +kernel
theorem dX7_multiply_52 : decode cX7_multiply 52 = .ok (.invokevirtual 72, 3) := by decide +kernel
theorem dX7_multiply_55 : decode cX7_multiply 55 = .ok (.lstore 6, 2) := by decide +kernel
theorem dX7_multiply_57 : decode cX7_multiply 57 = .ok (.lload 6, 2) := by decide +kernel
theorem dX7_multiply_59 : decode cX7_multiply 59 = .ok (.lconst 0, 1) := by decide +kernel
theorem dX7_multiply_60 : decode cX7_multiply 60 = .ok (.lcmp, 1) := by decide +kernel
theorem dX7_multiply_61 : decode cX7_multiply 61 = .ok (.ifCond .ne 6, 3) := by decide +kernel
theorem dX7_multiply_64 : decode cX7_multiply 64 = .ok (.goto 91, 3) := by decide +kernel
theorem dX7_multiply_67 : decode cX7_multiply 67 = .ok (.lconst 0, 1) := by decide +kernel
theorem dX7_multiply_68 : decode cX7_multiply 68 = .ok (.lstore 8, 2) := by decide +kernel
theorem dX7_multiply_70 : decode cX7_multiply 70 = .ok (.iconst 0, 1) := by decide +kernel
theorem dX7_multiply_71 : decode cX7_multiply 71 = .ok (.istore 10, 2) := by decide +kernel
theorem dX7_multiply_73 : decode cX7_multiply 73 = .ok (.iload 10, 2) := by decide +kernel
theorem dX7_multiply_75 : decode cX7_multiply 75 = .ok (.aload_n 0, 1) := by decide +kernel
theorem dX7_multiply_76 : decode cX7_multiply 76 = .ok (.getfield 23, 3) := by decide +kernel
theorem dX7_multiply_79 : decode cX7_multiply 79 = .ok (.iload_n 3, 1) := by decide +kernel
theorem dX7_multiply_80 : decode cX7_multiply 80 = .ok (.iaload, 1) := by decide +kernel
theorem dX7_multiply_81 : decode cX7_multiply 81 = .ok (.if_icmp .gt 74, 3) := by decide +kernel
theorem dX7_multiply_84 : decode cX7_multiply 84 = .ok (.iload 5, 2) := by decide +kernel
theorem dX7_multiply_86 : decode cX7_multiply 86 = .ok (.iload 10, 2) := by decide +kernel
theorem dX7_multiply_88 : decode cX7_multiply 88 = .ok (.iadd, 1) := by decide +kernel
theorem dX7_multiply_89 : decode cX7_multiply 89 = .ok (.iload 4, 2) := by decide +kernel
theorem dX7_multiply_91 : decode cX7_multiply 91 = .ok (.if_icmp .ge 64, 3) := by decide +kernel
theorem dX7_multiply_94 : decode cX7_multiply 94 = .ok (.lload 6, 2) := by decide +kernel
theorem dX7_multiply_96 : decode cX7_multiply 96 = .ok (.aload_n 0, 1) := by decide +kernel
theorem dX7_multiply_97 : decode cX7_multiply 97 = .ok (.iload_n 3, 1) := by decide +kernel
theorem dX7_multiply_98 : decode cX7_multiply 98 = .ok (.iload 10, 2) := by decide +kernel
theorem dX7_multiply_100 : decode cX7_multiply 100 = .ok (.invokevirtual 72, 3) := by decide +kernel
theorem dX7_multiply_103 : decode cX7_multiply 103 = .ok (.lmul, 1) := by decide +kernel
theorem dX7_multiply_104 : decode cX7_multiply 104 = .ok (.aload_n 0, 1) := by decide +kernel
theorem dX7_multiply_105 : decode cX7_multiply 105 = .ok (.getfield 20, 3) := by decide +kernel
theorem dX7_multiply_108 : decode cX7_multiply 108 = .ok (.iload_n 1, 1) := by decide +kernel
theorem dX7_multiply_109 : decode cX7_multiply 109 = .ok (.aaload, 1) := by decide +kernel
theorem dX7_multiply_110 : decode cX7_multiply 110 = .ok (.iload 5, 2) := by decide +kernel
theorem dX7_multiply_112 : decode cX7_multiply 112 = .ok (.iload 10, 2) := by decide +kernel
theorem dX7_multiply_114 : decode cX7_multiply 114 = .ok (.iadd, 1) := by decide +kernel
theorem dX7_multiply_115 : decode cX7_multiply 115 = .ok (.iaload, 1) := by decide +kernel
theorem dX7_multiply_116 : decode cX7_multiply 116 = .ok (.i2l, 1) := by decide +kernel
theorem dX7_multiply_117 : decode cX7_multiply 117 = .ok (.ldc2_w 63, 3) := by decide +kernel
theorem dX7_multiply_120 : decode cX7_multiply 120 = .ok (.land, 1) := by decide +kernel
theorem dX7_multiply_121 : decode cX7_multiply 121 = .ok (.ladd, 1) := by decide +kernel
theorem dX7_multiply_122 : decode cX7_multiply 122 = .ok (.lload 8, 2) := by decide +kernel
theorem dX7_multiply_124 : decode cX7_multiply 124 = .ok (.ladd, 1) := by decide +kernel
theorem dX7_multiply_125 : decode cX7_multiply 125 = .ok (.lstore 11, 2) := by decide +kernel
theorem dX7_multiply_127 : decode cX7_multiply 127 = .ok (.aload_n 0, 1) := by decide +kernel
theorem dX7_multiply_128 : decode cX7_multiply 128 = .ok (.getfield 20, 3) := by decide +kernel
theorem dX7_multiply_131 : decode cX7_multiply 131 = .ok (.iload_n 1, 1) := by decide +kernel
theorem dX7_multiply_132 : decode cX7_multiply 132 = .ok (.aaload, 1) := by decide +kernel
theorem dX7_multiply_133 : decode cX7_multiply 133 = .ok (.iload 5, 2) := by decide +kernel
theorem dX7_multiply_135 : decode cX7_multiply 135 = .ok (.iload 10, 2) := by decide +kernel
theorem dX7_multiply_137 : decode cX7_multiply 137 = .ok (.iadd, 1) := by decide +kernel
theorem dX7_multiply_138 : decode cX7_multiply 138 = .ok (.lload 11, 2) := by decide +kernel
theorem dX7_multiply_140 : decode cX7_multiply 140 = .ok (.l2i, 1) := by decide +kernel
theorem dX7_multiply_141 : decode cX7_multiply 141 = .ok (.iastore, 1) := by decide +kernel
theorem dX7_multiply_142 : decode cX7_multiply 142 = .ok (.lload 11, 2) := by decide +kernel
theorem dX7_multiply_144 : decode cX7_multiply 144 = .ok (.bipush 32, 2) := by decide +kernel
theorem dX7_multiply_146 : decode cX7_multiply 146 = .ok (.lushr, 1) := by decide +kernel
theorem dX7_multiply_147 : decode cX7_multiply 147 = .ok (.lstore 8, 2) := by decide +kernel
theorem dX7_multiply_149 : decode cX7_multiply 149 = .ok (.iinc 10 1, 3) := by decide +kernel
theorem dX7_multiply_152 : decode cX7_multiply 152 = .ok (.goto (-79), 3) := by decide +kernel
theorem dX7_multiply_155 : decode cX7_multiply 155 = .ok (.iinc 5 1, 3) := by decide +kernel
theorem dX7_multiply_158 : decode cX7_multiply 158 = .ok (.goto (-121), 3) := by decide +kernel
theorem dX7_multiply_161 : decode cX7_multiply 161 = .ok (.aload_n 0, 1) := by decide +kernel
theorem dX7_multiply_162 : decode cX7_multiply 162 = .ok (.getfield 23, 3) := by decide +kernel
theorem dX7_multiply_165 : decode cX7_multiply 165 = .ok (.iload_n 1, 1) := by decide +kernel
theorem dX7_multiply_166 : decode cX7_multiply 166 = .ok (.iload 4, 2) := by decide +kernel
theorem dX7_multiply_168 : decode cX7_multiply 168 = .ok (.iastore, 1) := by decide +kernel
theorem dX7_multiply_169 : decode cX7_multiply 169 = .ok (.aload_n 0, 1) := by decide +kernel
theorem dX7_multiply_170 : decode cX7_multiply 170 = .ok (.getfield 27, 3) := by decide +kernel
theorem dX7_multiply_173 : decode cX7_multiply 173 = .ok (.iload_n 1, 1) := by decide +kernel
theorem dX7_multiply_174 : decode cX7_multiply 174 = .ok (.aload_n 0, 1) := by decide +kernel
theorem dX7_multiply_175 : decode cX7_multiply 175 = .ok (.getfield 27, 3) := by decide +kernel
theorem dX7_multiply_178 : decode cX7_multiply 178 = .ok (.iload_n 2, 1) := by decide +kernel
theorem dX7_multiply_179 : decode cX7_multiply 179 = .ok (.iaload, 1) := by decide +kernel
theorem dX7_multiply_180 : decode cX7_multiply 180 = .ok (.aload_n 0, 1) := by decide +kernel
theorem dX7_multiply_181 : decode cX7_multiply 181 = .ok (.getfield 27, 3) := by decide +kernel
theorem dX7_multiply_184 : decode cX7_multiply 184 = .ok (.iload_n 3, 1) := by decide +kernel
theorem dX7_multiply_185 : decode cX7_multiply 185 = .ok (.iaload, 1) := by decide +kernel
theorem dX7_multiply_186 : decode cX7_multiply 186 = .ok (.imul, 1) := by decide +kernel
theorem dX7_multiply_187 : decode cX7_multiply 187 = .ok (.iastore, 1) := by decide +kernel
theorem dX7_multiply_188 : decode cX7_multiply 188 = .ok (.aload_n 0, 1) := by decide +kernel
theorem dX7_multiply_189 : decode cX7_multiply 189 = .ok (.iload_n 1, 1) := by decide +kernel
theorem dX7_multiply_190 : decode cX7_multiply 190 = .ok (.invokevirtual 65, 3) := by decide +kernel
theorem dX7_multiply_193 : decode cX7_multiply 193 = .ok (.return_, 1) := by decide +kernel
theorem dX7_addSigned_0 : decode cX7_addSigned 0 = .ok (.aload_n 0, 1) := by decide +kernel
theorem dX7_addSigned_1 : decode cX7_addSigned 1 = .ok (.getfield 27, 3) := by decide +kernel
theorem dX7_addSigned_4 : decode cX7_addSigned 4 = .ok (.iload_n 3, 1) := by decide +kernel
theorem dX7_addSigned_5 : decode cX7_addSigned 5 = .ok (.iaload, 1) := by decide +kernel
theorem dX7_addSigned_6 : decode cX7_addSigned 6 = .ok (.iload 4, 2) := by decide +kernel
theorem dX7_addSigned_8 : decode cX7_addSigned 8 = .ok (.imul, 1) := by decide +kernel
theorem dX7_addSigned_9 : decode cX7_addSigned 9 = .ok (.istore 5, 2) := by decide +kernel
theorem dX7_addSigned_11 : decode cX7_addSigned 11 = .ok (.aload_n 0, 1) := by decide +kernel
theorem dX7_addSigned_12 : decode cX7_addSigned 12 = .ok (.getfield 27, 3) := by decide +kernel
theorem dX7_addSigned_15 : decode cX7_addSigned 15 = .ok (.iload_n 2, 1) := by decide +kernel
theorem dX7_addSigned_16 : decode cX7_addSigned 16 = .ok (.iaload, 1) := by decide +kernel
theorem dX7_addSigned_17 : decode cX7_addSigned 17 = .ok (.iload 5, 2) := by decide +kernel
theorem dX7_addSigned_19 : decode cX7_addSigned 19 = .ok (.imul, 1) := by decide +kernel
theorem dX7_addSigned_20 : decode cX7_addSigned 20 = .ok (.ifCond .lt 44, 3) := by decide +kernel
theorem dX7_addSigned_23 : decode cX7_addSigned 23 = .ok (.aload_n 0, 1) := by decide +kernel
theorem dX7_addSigned_24 : decode cX7_addSigned 24 = .ok (.getfield 27, 3) := by decide +kernel
theorem dX7_addSigned_27 : decode cX7_addSigned 27 = .ok (.iload_n 2, 1) := by decide +kernel
theorem dX7_addSigned_28 : decode cX7_addSigned 28 = .ok (.iaload, 1) := by decide +kernel
theorem dX7_addSigned_29 : decode cX7_addSigned 29 = .ok (.ifCond .eq 12, 3) := by decide +kernel
theorem dX7_addSigned_32 : decode cX7_addSigned 32 = .ok (.aload_n 0, 1) := by decide +kernel
theorem dX7_addSigned_33 : decode cX7_addSigned 33 = .ok (.getfield 27, 3) := by decide +kernel
theorem dX7_addSigned_36 : decode cX7_addSigned 36 = .ok (.iload_n 2, 1) := by decide +kernel
theorem dX7_addSigned_37 : decode cX7_addSigned 37 = .ok (.iaload, 1) := by decide +kernel
theorem dX7_addSigned_38 : decode cX7_addSigned 38 = .ok (.goto 5, 3) := by decide +kernel
theorem dX7_addSigned_41 : decode cX7_addSigned 41 = .ok (.iload 5, 2) := by decide +kernel
theorem dX7_addSigned_43 : decode cX7_addSigned 43 = .ok (.istore 6, 2) := by decide +kernel
theorem dX7_addSigned_45 : decode cX7_addSigned 45 = .ok (.aload_n 0, 1) := by decide +kernel
theorem dX7_addSigned_46 : decode cX7_addSigned 46 = .ok (.iload_n 1, 1) := by decide +kernel
theorem dX7_addSigned_47 : decode cX7_addSigned 47 = .ok (.iload_n 2, 1) := by decide +kernel
theorem dX7_addSigned_48 : decode cX7_addSigned 48 = .ok (.iload_n 3, 1) := by decide +kernel
theorem dX7_addSigned_49 : decode cX7_addSigned 49 = .ok (.iconst 1, 1) := by decide +kernel
theorem dX7_addSigned_50 : decode cX7_addSigned 50 = .ok (.invokevirtual 76, 3) := by decide +kernel
theorem dX7_addSigned_53 : decode cX7_addSigned 53 = .ok (.aload_n 0, 1) := by decide +kernel
theorem dX7_addSigned_54 : decode cX7_addSigned 54 = .ok (.getfield 27, 3) := by decide +kernel
theorem dX7_addSigned_57 : decode cX7_addSigned 57 = .ok (.iload_n 1, 1) := by decide +kernel
theorem dX7_addSigned_58 : decode cX7_addSigned 58 = .ok (.iload 6, 2) := by decide +kernel
theorem dX7_addSigned_60 : decode cX7_addSigned 60 = .ok (.iastore, 1) := by decide +kernel
theorem dX7_addSigned_61 : decode cX7_addSigned 61 = .ok (.goto 51, 3) := by decide +kernel
theorem dX7_addSigned_64 : decode cX7_addSigned 64 = .ok (.aload_n 0, 1) := by decide +kernel
theorem dX7_addSigned_65 : decode cX7_addSigned 65 = .ok (.iload_n 2, 1) := by decide +kernel
theorem dX7_addSigned_66 : decode cX7_addSigned 66 = .ok (.iload_n 3, 1) := by decide +kernel
theorem dX7_addSigned_67 : decode cX7_addSigned 67 = .ok (.invokevirtual 79, 3) := by decide +kernel
theorem dX7_addSigned_70 : decode cX7_addSigned 70 = .ok (.ifCond .lt 26, 3) := by decide +kernel
theorem dX7_addSigned_73 : decode cX7_addSigned 73 = .ok (.aload_n 0, 1) := by decide +kernel
theorem dX7_addSigned_74 : decode cX7_addSigned 74 = .ok (.getfield 27, 3) := by decide +kernel
theorem dX7_addSigned_77 : decode cX7_addSigned 77 = .ok (.iload_n 1, 1) := by decide +kernel
theorem dX7_addSigned_78 : decode cX7_addSigned 78 = .ok (.aload_n 0, 1) := by decide +kernel
theorem dX7_addSigned_79 : decode cX7_addSigned 79 = .ok (.getfield 27, 3) := by decide +kernel
theorem dX7_addSigned_82 : decode cX7_addSigned 82 = .ok (.iload_n 2, 1) := by decide +kernel
theorem dX7_addSigned_83 : decode cX7_addSigned 83 = .ok (.iaload, 1) := by decide +kernel
theorem dX7_addSigned_84 : decode cX7_addSigned 84 = .ok (.iastore, 1) := by decide +kernel
theorem dX7_addSigned_85 : decode cX7_addSigned 85 = .ok (.aload_n 0, 1) := by decide +kernel
theorem dX7_addSigned_86 : decode cX7_addSigned 86 = .ok (.iload_n 1, 1) := by decide +kernel
theorem dX7_addSigned_87 : decode cX7_addSigned 87 = .ok (.iload_n 2, 1) := by decide +kernel
theorem dX7_addSigned_88 : decode cX7_addSigned 88 = .ok (.iload_n 3, 1) := by decide +kernel
theorem dX7_addSigned_89 : decode cX7_addSigned 89 = .ok (.iconst (-1), 1) := by decide +kernel
theorem dX7_addSigned_90 : decode cX7_addSigned 90 = .ok (.invokevirtual 76, 3) := by decide +kernel
theorem dX7_addSigned_93 : decode cX7_addSigned 93 = .ok (.goto 19, 3) := by decide +kernel
theorem dX7_addSigned_96 : decode cX7_addSigned 96 = .ok (.aload_n 0, 1) := by decide +kernel
theorem dX7_addSigned_97 : decode cX7_addSigned 97 = .ok (.getfield 27, 3) := by decide +kernel
theorem dX7_addSigned_100 : decode cX7_addSigned 100 = .ok (.iload_n 1, 1) := by decide +kernel
theorem dX7_addSigned_101 : decode cX7_addSigned 101 = .ok (.iload 5, 2) := by decide +kernel
theorem dX7_addSigned_103 : decode cX7_addSigned 103 = .ok (.iastore, 1) := by decide +kernel
theorem dX7_addSigned_104 : decode cX7_addSigned 104 = .ok (.aload_n 0, 1) := by decide +kernel
theorem dX7_addSigned_105 : decode cX7_addSigned 105 = .ok (.iload_n 1, 1) := by decide +kernel
theorem dX7_addSigned_106 : decode cX7_addSigned 106 = .ok (.iload_n 3, 1) := by decide +kernel
theorem dX7_addSigned_107 : decode cX7_addSigned 107 = .ok (.iload_n 2, 1) := by decide +kernel
theorem dX7_addSigned_108 : decode cX7_addSigned 108 = .ok (.iconst (-1), 1) := by decide +kernel
theorem dX7_addSigned_109 : decode cX7_addSigned 109 = .ok (.invokevirtual 76, 3) := by decide +kernel
theorem dX7_addSigned_112 : decode cX7_addSigned 112 = .ok (.aload_n 0, 1) := by decide +kernel
theorem dX7_addSigned_113 : decode cX7_addSigned 113 = .ok (.iload_n 1, 1) := by decide +kernel
theorem dX7_addSigned_114 : decode cX7_addSigned 114 = .ok (.invokevirtual 65, 3) := by decide +kernel
theorem dX7_addSigned_117 : decode cX7_addSigned 117 = .ok (.return_, 1) := by decide +kernel
theorem dX7_compareLimbs_0 : decode cX7_compareLimbs 0 = .ok (.aload_n 0, 1) := by decide +kernel
theorem dX7_compareLimbs_1 : decode cX7_compareLimbs 1 = .ok (.getfield 23, 3) := by decide +kernel
theorem dX7_compareLimbs_4 : decode cX7_compareLimbs 4 = .ok (.iload_n 1, 1) := by decide +kernel
theorem dX7_compareLimbs_5 : decode cX7_compareLimbs 5 = .ok (.iaload, 1) := by decide +kernel
theorem dX7_compareLimbs_6 : decode cX7_compareLimbs 6 = .ok (.aload_n 0, 1) := by decide +kernel
theorem dX7_compareLimbs_7 : decode cX7_compareLimbs 7 = .ok (.getfield 23, 3) := by decide +kernel
theorem dX7_compareLimbs_10 : decode cX7_compareLimbs 10 = .ok (.iload_n 2, 1) := by decide +kernel
theorem dX7_compareLimbs_11 : decode cX7_compareLimbs 11 = .ok (.iaload, 1) := by decide +kernel
theorem dX7_compareLimbs_12 : decode cX7_compareLimbs 12 = .ok (.invokestatic 51, 3) := by decide +kernel
theorem dX7_compareLimbs_15 : decode cX7_compareLimbs 15 = .ok (.iconst 1, 1) := by decide +kernel
theorem dX7_compareLimbs_16 : decode cX7_compareLimbs 16 = .ok (.isub, 1) := by decide +kernel
theorem dX7_compareLimbs_17 : decode cX7_compareLimbs 17 = .ok (.istore_n 3, 1) := by decide +kernel
theorem dX7_compareLimbs_18 : decode cX7_compareLimbs 18 = .ok (.iload_n 3, 1) := by decide +kernel
theorem dX7_compareLimbs_19 : decode cX7_compareLimbs 19 = .ok (.ifCond .lt 47, 3) := by decide +kernel
theorem dX7_compareLimbs_22 : decode cX7_compareLimbs 22 = .ok (.aload_n 0, 1) := by decide +kernel
theorem dX7_compareLimbs_23 : decode cX7_compareLimbs 23 = .ok (.iload_n 1, 1) := by decide +kernel
theorem dX7_compareLimbs_24 : decode cX7_compareLimbs 24 = .ok (.iload_n 3, 1) := by decide +kernel
theorem dX7_compareLimbs_25 : decode cX7_compareLimbs 25 = .ok (.invokevirtual 72, 3) := by decide +kernel
theorem dX7_compareLimbs_28 : decode cX7_compareLimbs 28 = .ok (.aload_n 0, 1) := by decide +kernel
theorem dX7_compareLimbs_29 : decode cX7_compareLimbs 29 = .ok (.iload_n 2, 1) := by decide +kernel
theorem dX7_compareLimbs_30 : decode cX7_compareLimbs 30 = .ok (.iload_n 3, 1) := by decide +kernel
theorem dX7_compareLimbs_31 : decode cX7_compareLimbs 31 = .ok (.invokevirtual 72, 3) := by decide +kernel
theorem dX7_compareLimbs_34 : decode cX7_compareLimbs 34 = .ok (.lcmp, 1) := by decide +kernel
theorem dX7_compareLimbs_35 : decode cX7_compareLimbs 35 = .ok (.ifCond .eq 25, 3) := by decide +kernel
theorem dX7_compareLimbs_38 : decode cX7_compareLimbs 38 = .ok (.aload_n 0, 1) := by decide +kernel
theorem dX7_compareLimbs_39 : decode cX7_compareLimbs 39 = .ok (.iload_n 1, 1) := by decide +kernel
theorem dX7_compareLimbs_40 : decode cX7_compareLimbs 40 = .ok (.iload_n 3, 1) := by decide +kernel
theorem dX7_compareLimbs_41 : decode cX7_compareLimbs 41 = .ok (.invokevirtual 72, 3) := by decide +kernel
theorem dX7_compareLimbs_44 : decode cX7_compareLimbs 44 = .ok (.aload_n 0, 1) := by decide +kernel
theorem dX7_compareLimbs_45 : decode cX7_compareLimbs 45 = .ok (.iload_n 2, 1) := by decide +kernel
theorem dX7_compareLimbs_46 : decode cX7_compareLimbs 46 = .ok (.iload_n 3, 1) := by decide +kernel
theorem dX7_compareLimbs_47 : decode cX7_compareLimbs 47 = .ok (.invokevirtual 72, 3) := by decide +kernel
theorem dX7_compareLimbs_50 : decode cX7_compareLimbs 50 = .ok (.lcmp, 1) := by decide +kernel
theorem dX7_compareLimbs_51 : decode cX7_compareLimbs 51 = .ok (.ifCond .le 7, 3) := by decide +kernel
theorem dX7_compareLimbs_54 : decode cX7_compareLimbs 54 = .ok (.iconst 1, 1) := by decide +kernel
theorem dX7_compareLimbs_55 : decode cX7_compareLimbs 55 = .ok (.goto 4, 3) := by decide +kernel
theorem dX7_compareLimbs_58 : decode cX7_compareLimbs 58 = .ok (.iconst (-1), 1) := by decide +kernel
theorem dX7_compareLimbs_59 : decode cX7_compareLimbs 59 = .ok (.ireturn, 1) := by decide +kernel
theorem dX7_compareLimbs_60 : decode cX7_compareLimbs 60 = .ok (.iinc 3 (-1), 3) := by decide +kernel
theorem dX7_compareLimbs_63 : decode cX7_compareLimbs 63 = .ok (.goto (-45), 3) := by decide +kernel
theorem dX7_compareLimbs_66 : decode cX7_compareLimbs 66 = .ok (.iconst 0, 1) := by decide +kernel
theorem dX7_compareLimbs_67 : decode cX7_compareLimbs 67 = .ok (.ireturn, 1) := by decide +kernel
theorem dX7_addLimbs_0 : decode cX7_addLimbs 0 = .ok (.aload_n 0, 1) := by decide +kernel
theorem dX7_addLimbs_1 : decode cX7_addLimbs 1 = .ok (.getfield 23, 3) := by decide +kernel
theorem dX7_addLimbs_4 : decode cX7_addLimbs 4 = .ok (.iload_n 2, 1) := by decide +kernel
theorem dX7_addLimbs_5 : decode cX7_addLimbs 5 = .ok (.iaload, 1) := by decide +kernel
theorem dX7_addLimbs_6 : decode cX7_addLimbs 6 = .ok (.aload_n 0, 1) := by decide +kernel
theorem dX7_addLimbs_7 : decode cX7_addLimbs 7 = .ok (.getfield 23, 3) := by decide +kernel
theorem dX7_addLimbs_10 : decode cX7_addLimbs 10 = .ok (.iload_n 3, 1) := by decide +kernel
theorem dX7_addLimbs_11 : decode cX7_addLimbs 11 = .ok (.iaload, 1) := by decide +kernel
theorem dX7_addLimbs_12 : decode cX7_addLimbs 12 = .ok (.invokestatic 51, 3) := by decide +kernel
theorem dX7_addLimbs_15 : decode cX7_addLimbs 15 = .ok (.iconst 1, 1) := by decide +kernel
theorem dX7_addLimbs_16 : decode cX7_addLimbs 16 = .ok (.iadd, 1) := by decide +kernel
theorem dX7_addLimbs_17 : decode cX7_addLimbs 17 = .ok (.sipush 280, 3) := by decide +kernel
theorem dX7_addLimbs_20 : decode cX7_addLimbs 20 = .ok (.invokestatic 69, 3) := by decide +kernel
theorem dX7_addLimbs_23 : decode cX7_addLimbs 23 = .ok (.istore 5, 2) := by decide +kernel
theorem dX7_addLimbs_25 : decode cX7_addLimbs 25 = .ok (.lconst 0, 1) := by decide +kernel
theorem dX7_addLimbs_26 : decode cX7_addLimbs 26 = .ok (.lstore 6, 2) := by decide +kernel
theorem dX7_addLimbs_28 : decode cX7_addLimbs 28 = .ok (.iconst 0, 1) := by decide +kernel
theorem dX7_addLimbs_29 : decode cX7_addLimbs 29 = .ok (.istore 8, 2) := by decide +kernel
theorem dX7_addLimbs_31 : decode cX7_addLimbs 31 = .ok (.iload 8, 2) := by decide +kernel
theorem dX7_addLimbs_33 : decode cX7_addLimbs 33 = .ok (.iload 5, 2) := by decide +kernel
theorem dX7_addLimbs_35 : decode cX7_addLimbs 35 = .ok (.if_icmp .ge 52, 3) := by decide +kernel
theorem dX7_addLimbs_38 : decode cX7_addLimbs 38 = .ok (.aload_n 0, 1) := by decide +kernel
theorem dX7_addLimbs_39 : decode cX7_addLimbs 39 = .ok (.iload_n 2, 1) := by decide +kernel
theorem dX7_addLimbs_40 : decode cX7_addLimbs 40 = .ok (.iload 8, 2) := by decide +kernel
theorem dX7_addLimbs_42 : decode cX7_addLimbs 42 = .ok (.invokevirtual 72, 3) := by decide +kernel
theorem dX7_addLimbs_45 : decode cX7_addLimbs 45 = .ok (.iload 4, 2) := by decide +kernel
theorem dX7_addLimbs_47 : decode cX7_addLimbs 47 = .ok (.i2l, 1) := by decide +kernel
theorem dX7_addLimbs_48 : decode cX7_addLimbs 48 = .ok (.aload_n 0, 1) := by decide +kernel
theorem dX7_addLimbs_49 : decode cX7_addLimbs 49 = .ok (.iload_n 3, 1) := by decide +kernel
theorem dX7_addLimbs_50 : decode cX7_addLimbs 50 = .ok (.iload 8, 2) := by decide +kernel
theorem dX7_addLimbs_52 : decode cX7_addLimbs 52 = .ok (.invokevirtual 72, 3) := by decide +kernel
theorem dX7_addLimbs_55 : decode cX7_addLimbs 55 = .ok (.lmul, 1) := by decide +kernel
theorem dX7_addLimbs_56 : decode cX7_addLimbs 56 = .ok (.ladd, 1) := by decide +kernel
theorem dX7_addLimbs_57 : decode cX7_addLimbs 57 = .ok (.lload 6, 2) := by decide +kernel
theorem dX7_addLimbs_59 : decode cX7_addLimbs 59 = .ok (.ladd, 1) := by decide +kernel
theorem dX7_addLimbs_60 : decode cX7_addLimbs 60 = .ok (.lstore 9, 2) := by decide +kernel
theorem dX7_addLimbs_62 : decode cX7_addLimbs 62 = .ok (.aload_n 0, 1) := by decide +kernel
theorem dX7_addLimbs_63 : decode cX7_addLimbs 63 = .ok (.getfield 20, 3) := by decide +kernel
theorem dX7_addLimbs_66 : decode cX7_addLimbs 66 = .ok (.iload_n 1, 1) := by decide +kernel
theorem dX7_addLimbs_67 : decode cX7_addLimbs 67 = .ok (.aaload, 1) := by decide +kernel
theorem dX7_addLimbs_68 : decode cX7_addLimbs 68 = .ok (.iload 8, 2) := by decide +kernel
theorem dX7_addLimbs_70 : decode cX7_addLimbs 70 = .ok (.lload 9, 2) := by decide +kernel
theorem dX7_addLimbs_72 : decode cX7_addLimbs 72 = .ok (.l2i, 1) := by decide +kernel
theorem dX7_addLimbs_73 : decode cX7_addLimbs 73 = .ok (.iastore, 1) := by decide +kernel
theorem dX7_addLimbs_74 : decode cX7_addLimbs 74 = .ok (.lload 9, 2) := by decide +kernel
theorem dX7_addLimbs_76 : decode cX7_addLimbs 76 = .ok (.bipush 32, 2) := by decide +kernel
theorem dX7_addLimbs_78 : decode cX7_addLimbs 78 = .ok (.lshr, 1) := by decide +kernel
theorem dX7_addLimbs_79 : decode cX7_addLimbs 79 = .ok (.lstore 6, 2) := by decide +kernel
theorem dX7_addLimbs_81 : decode cX7_addLimbs 81 = .ok (.iinc 8 1, 3) := by decide +kernel
theorem dX7_addLimbs_84 : decode cX7_addLimbs 84 = .ok (.goto (-53), 3) := by decide +kernel
theorem dX7_addLimbs_87 : decode cX7_addLimbs 87 = .ok (.aload_n 0, 1) := by decide +kernel
theorem dX7_addLimbs_88 : decode cX7_addLimbs 88 = .ok (.getfield 23, 3) := by decide +kernel
theorem dX7_addLimbs_91 : decode cX7_addLimbs 91 = .ok (.iload_n 1, 1) := by decide +kernel
theorem dX7_addLimbs_92 : decode cX7_addLimbs 92 = .ok (.iload 5, 2) := by decide +kernel
theorem dX7_addLimbs_94 : decode cX7_addLimbs 94 = .ok (.iastore, 1) := by decide +kernel
theorem dX7_addLimbs_95 : decode cX7_addLimbs 95 = .ok (.return_, 1) := by decide +kernel
theorem dX12_thrown_0 : decode cX12_thrown 0 = .ok (.aload_n 0, 1) := by decide +kernel
theorem dX12_thrown_1 : decode cX12_thrown 1 = .ok (.getfield 271, 3) := by decide +kernel
theorem dX12_thrown_4 : decode cX12_thrown 4 = .ok (.ireturn, 1) := by decide +kernel
theorem dX12_fails_0 : decode cX12_fails 0 = .ok (.aload_n 0, 1) := by decide +kernel
theorem dX12_fails_1 : decode cX12_fails 1 = .ok (.iload_n 1, 1) := by decide +kernel
theorem dX12_fails_2 : decode cX12_fails 2 = .ok (.ifCond .eq 14, 3) := by decide +kernel
theorem dX12_fails_5 : decode cX12_fails 5 = .ok (.aload_n 0, 1) := by decide +kernel
theorem dX12_fails_6 : decode cX12_fails 6 = .ok (.getfield 271, 3) := by decide +kernel
theorem dX12_fails_9 : decode cX12_fails 9 = .ok (.ifCond .ne 7, 3) := by decide +kernel
theorem dX12_fails_12 : decode cX12_fails 12 = .ok (.iload_n 2, 1) := by decide +kernel
theorem dX12_fails_13 : decode cX12_fails 13 = .ok (.goto 7, 3) := by decide +kernel
theorem dX12_fails_16 : decode cX12_fails 16 = .ok (.aload_n 0, 1) := by decide +kernel
theorem dX12_fails_17 : decode cX12_fails 17 = .ok (.getfield 271, 3) := by decide +kernel
theorem dX12_fails_20 : decode cX12_fails 20 = .ok (.putfield 271, 3) := by decide +kernel
theorem dX12_fails_23 : decode cX12_fails 23 = .ok (.aload_n 0, 1) := by decide +kernel
theorem dX12_fails_24 : decode cX12_fails 24 = .ok (.getfield 271, 3) := by decide +kernel
theorem dX12_fails_27 : decode cX12_fails 27 = .ok (.ifCond .eq 7, 3) := by decide +kernel
theorem dX12_fails_30 : decode cX12_fails 30 = .ok (.iconst 1, 1) := by decide +kernel
theorem dX12_fails_31 : decode cX12_fails 31 = .ok (.goto 4, 3) := by decide +kernel
theorem dX12_fails_34 : decode cX12_fails 34 = .ok (.iconst 0, 1) := by decide +kernel
theorem dX12_fails_35 : decode cX12_fails 35 = .ok (.ireturn, 1) := by decide +kernel
theorem dX12_in_0 : decode cX12_in 0 = .ok (.lload_n 0, 1) := by decide +kernel
theorem dX12_in_1 : decode cX12_in 1 = .ok (.lload_n 2, 1) := by decide +kernel
theorem dX12_in_2 : decode cX12_in 2 = .ok (.lcmp, 1) := by decide +kernel
theorem dX12_in_3 : decode cX12_in 3 = .ok (.ifCond .lt 14, 3) := by decide +kernel
theorem dX12_in_6 : decode cX12_in 6 = .ok (.lload_n 0, 1) := by decide +kernel
theorem dX12_in_7 : decode cX12_in 7 = .ok (.lload 4, 2) := by decide +kernel
theorem dX12_in_9 : decode cX12_in 9 = .ok (.lcmp, 1) := by decide +kernel
theorem dX12_in_10 : decode cX12_in 10 = .ok (.ifCond .gt 7, 3) := by decide +kernel
theorem dX12_in_13 : decode cX12_in 13 = .ok (.iconst 1, 1) := by decide +kernel
theorem dX12_in_14 : decode cX12_in 14 = .ok (.goto 4, 3) := by decide +kernel
theorem dX12_in_17 : decode cX12_in 17 = .ok (.iconst 0, 1) := by decide +kernel
theorem dX12_in_18 : decode cX12_in 18 = .ok (.ireturn, 1) := by decide +kernel
theorem dX12_isSlot_0 : decode cX12_isSlot 0 = .ok (.iload_n 0, 1) := by decide +kernel
theorem dX12_isSlot_1 : decode cX12_isSlot 1 = .ok (.ifCond .lt 13, 3) := by decide +kernel
theorem dX12_isSlot_4 : decode cX12_isSlot 4 = .ok (.iload_n 0, 1) := by decide +kernel
theorem dX12_isSlot_5 : decode cX12_isSlot 5 = .ok (.bipush 32, 2) := by decide +kernel
theorem dX12_isSlot_7 : decode cX12_isSlot 7 = .ok (.if_icmp .ge 7, 3) := by decide +kernel
theorem dX12_isSlot_10 : decode cX12_isSlot 10 = .ok (.iconst 1, 1) := by decide +kernel
theorem dX12_isSlot_11 : decode cX12_isSlot 11 = .ok (.goto 4, 3) := by decide +kernel
theorem dX12_isSlot_14 : decode cX12_isSlot 14 = .ok (.iconst 0, 1) := by decide +kernel
theorem dX12_isSlot_15 : decode cX12_isSlot 15 = .ok (.ireturn, 1) := by decide +kernel
theorem dX12_has_0 : decode cX12_has 0 = .ok (.aload_n 0, 1) := by decide +kernel
theorem dX12_has_1 : decode cX12_has 1 = .ok (.getfield 18, 3) := by decide +kernel
theorem dX12_has_4 : decode cX12_has 4 = .ok (.iload_n 1, 1) := by decide +kernel
theorem dX12_has_5 : decode cX12_has 5 = .ok (.iaload, 1) := by decide +kernel
theorem dX12_has_6 : decode cX12_has 6 = .ok (.ifCond .le 7, 3) := by decide +kernel
theorem dX12_has_9 : decode cX12_has 9 = .ok (.iconst 1, 1) := by decide +kernel
theorem dX12_has_10 : decode cX12_has 10 = .ok (.goto 4, 3) := by decide +kernel
theorem dX12_has_13 : decode cX12_has 13 = .ok (.iconst 0, 1) := by decide +kernel
theorem dX12_has_14 : decode cX12_has 14 = .ok (.ireturn, 1) := by decide +kernel
theorem dX12_clear_0 : decode cX12_clear 0 = .ok (.aload_n 0, 1) := by decide +kernel
theorem dX12_clear_1 : decode cX12_clear 1 = .ok (.getfield 18, 3) := by decide +kernel
theorem dX12_clear_4 : decode cX12_clear 4 = .ok (.iload_n 1, 1) := by decide +kernel
theorem dX12_clear_5 : decode cX12_clear 5 = .ok (.iconst 0, 1) := by decide +kernel
theorem dX12_clear_6 : decode cX12_clear 6 = .ok (.iastore, 1) := by decide +kernel
theorem dX12_clear_7 : decode cX12_clear 7 = .ok (.aload_n 0, 1) := by decide +kernel
theorem dX12_clear_8 : decode cX12_clear 8 = .ok (.getfield 26, 3) := by decide +kernel
theorem dX12_clear_11 : decode cX12_clear 11 = .ok (.iload_n 1, 1) := by decide +kernel
theorem dX12_clear_12 : decode cX12_clear 12 = .ok (.iconst 0, 1) := by decide +kernel
theorem dX12_clear_13 : decode cX12_clear 13 = .ok (.iastore, 1) := by decide +kernel
theorem dX12_clear_14 : decode cX12_clear 14 = .ok (.return_, 1) := by decide +kernel
theorem dX12_move_0 : decode cX12_move 0 = .ok (.iconst 0, 1) := by decide +kernel
theorem dX12_move_1 : decode cX12_move 1 = .ok (.istore_n 3, 1) := by decide +kernel
theorem dX12_move_2 : decode cX12_move 2 = .ok (.iload_n 3, 1) := by decide +kernel
theorem dX12_move_3 : decode cX12_move 3 = .ok (.aload_n 0, 1) := by decide +kernel
theorem dX12_move_4 : decode cX12_move 4 = .ok (.getfield 18, 3) := by decide +kernel
theorem dX12_move_7 : decode cX12_move 7 = .ok (.iload_n 1, 1) := by decide +kernel
theorem dX12_move_8 : decode cX12_move 8 = .ok (.iaload, 1) := by decide +kernel
theorem dX12_move_9 : decode cX12_move 9 = .ok (.if_icmp .ge 33, 3) := by decide +kernel
theorem dX12_move_12 : decode cX12_move 12 = .ok (.aload_n 0, 1) := by decide +kernel
theorem dX12_move_13 : decode cX12_move 13 = .ok (.getfield 23, 3) := by decide +kernel
theorem dX12_move_16 : decode cX12_move 16 = .ok (.sipush 2048, 3) := by decide +kernel
theorem dX12_move_19 : decode cX12_move 19 = .ok (.iload_n 2, 1) := by decide +kernel
theorem dX12_move_20 : decode cX12_move 20 = .ok (.imul, 1) := by decide +kernel
theorem dX12_move_21 : decode cX12_move 21 = .ok (.iload_n 3, 1) := by decide +kernel
theorem dX12_move_22 : decode cX12_move 22 = .ok (.iadd, 1) := by decide +kernel
theorem dX12_move_23 : decode cX12_move 23 = .ok (.aload_n 0, 1) := by decide +kernel
theorem dX12_move_24 : decode cX12_move 24 = .ok (.getfield 23, 3) := by decide +kernel
theorem dX12_move_27 : decode cX12_move 27 = .ok (.sipush 2048, 3) := by decide +kernel
theorem dX12_move_30 : decode cX12_move 30 = .ok (.iload_n 1, 1) := by decide +kernel
theorem dX12_move_31 : decode cX12_move 31 = .ok (.imul, 1) := by decide +kernel
theorem dX12_move_32 : decode cX12_move 32 = .ok (.iload_n 3, 1) := by decide +kernel
theorem dX12_move_33 : decode cX12_move 33 = .ok (.iadd, 1) := by decide +kernel
theorem dX12_move_34 : decode cX12_move 34 = .ok (.iaload, 1) := by decide +kernel
theorem dX12_move_35 : decode cX12_move 35 = .ok (.iastore, 1) := by decide +kernel
theorem dX12_move_36 : decode cX12_move 36 = .ok (.iinc 3 1, 3) := by decide +kernel
theorem dX12_move_39 : decode cX12_move 39 = .ok (.goto (-37), 3) := by decide +kernel
theorem dX12_move_42 : decode cX12_move 42 = .ok (.iconst 0, 1) := by decide +kernel
theorem dX12_move_43 : decode cX12_move 43 = .ok (.istore_n 3, 1) := by decide +kernel
theorem dX12_move_44 : decode cX12_move 44 = .ok (.iload_n 3, 1) := by decide +kernel
theorem dX12_move_45 : decode cX12_move 45 = .ok (.aload_n 0, 1) := by decide +kernel
theorem dX12_move_46 : decode cX12_move 46 = .ok (.getfield 26, 3) := by decide +kernel
theorem dX12_move_49 : decode cX12_move 49 = .ok (.iload_n 1, 1) := by decide +kernel
theorem dX12_move_50 : decode cX12_move 50 = .ok (.iaload, 1) := by decide +kernel
theorem dX12_move_51 : decode cX12_move 51 = .ok (.if_icmp .ge 57, 3) := by decide +kernel
theorem dX12_move_54 : decode cX12_move 54 = .ok (.aload_n 0, 1) := by decide +kernel
theorem dX12_move_55 : decode cX12_move 55 = .ok (.getfield 29, 3) := by decide +kernel
theorem dX12_move_58 : decode cX12_move 58 = .ok (.sipush 2048, 3) := by decide +kernel
theorem dX12_move_61 : decode cX12_move 61 = .ok (.iload_n 2, 1) := by decide +kernel
theorem dX12_move_62 : decode cX12_move 62 = .ok (.imul, 1) := by decide +kernel
theorem dX12_move_63 : decode cX12_move 63 = .ok (.iload_n 3, 1) := by decide +kernel
theorem dX12_move_64 : decode cX12_move 64 = .ok (.iadd, 1) := by decide +kernel
theorem dX12_move_65 : decode cX12_move 65 = .ok (.aload_n 0, 1) := by decide +kernel
theorem dX12_move_66 : decode cX12_move 66 = .ok (.getfield 29, 3) := by decide +kernel
theorem dX12_move_69 : decode cX12_move 69 = .ok (.sipush 2048, 3) := by decide +kernel
theorem dX12_move_72 : decode cX12_move 72 = .ok (.iload_n 1, 1) := by decide +kernel
theorem dX12_move_73 : decode cX12_move 73 = .ok (.imul, 1) := by decide +kernel
theorem dX12_move_74 : decode cX12_move 74 = .ok (.iload_n 3, 1) := by decide +kernel
theorem dX12_move_75 : decode cX12_move 75 = .ok (.iadd, 1) := by decide +kernel
theorem dX12_move_76 : decode cX12_move 76 = .ok (.iaload, 1) := by decide +kernel
theorem dX12_move_77 : decode cX12_move 77 = .ok (.iastore, 1) := by decide +kernel
theorem dX12_move_78 : decode cX12_move 78 = .ok (.aload_n 0, 1) := by decide +kernel
theorem dX12_move_79 : decode cX12_move 79 = .ok (.getfield 32, 3) := by decide +kernel
theorem dX12_move_82 : decode cX12_move 82 = .ok (.sipush 2048, 3) := by decide +kernel
theorem dX12_move_85 : decode cX12_move 85 = .ok (.iload_n 2, 1) := by decide +kernel
theorem dX12_move_86 : decode cX12_move 86 = .ok (.imul, 1) := by decide +kernel
theorem dX12_move_87 : decode cX12_move 87 = .ok (.iload_n 3, 1) := by decide +kernel
theorem dX12_move_88 : decode cX12_move 88 = .ok (.iadd, 1) := by decide +kernel
theorem dX12_move_89 : decode cX12_move 89 = .ok (.aload_n 0, 1) := by decide +kernel
theorem dX12_move_90 : decode cX12_move 90 = .ok (.getfield 32, 3) := by decide +kernel
theorem dX12_move_93 : decode cX12_move 93 = .ok (.sipush 2048, 3) := by decide +kernel
theorem dX12_move_96 : decode cX12_move 96 = .ok (.iload_n 1, 1) := by decide +kernel
theorem dX12_move_97 : decode cX12_move 97 = .ok (.imul, 1) := by decide +kernel
theorem dX12_move_98 : decode cX12_move 98 = .ok (.iload_n 3, 1) := by decide +kernel
theorem dX12_move_99 : decode cX12_move 99 = .ok (.iadd, 1) := by decide +kernel
theorem dX12_move_100 : decode cX12_move 100 = .ok (.iaload, 1) := by decide +kernel
theorem dX12_move_101 : decode cX12_move 101 = .ok (.iastore, 1) := by decide +kernel
theorem dX12_move_102 : decode cX12_move 102 = .ok (.iinc 3 1, 3) := by decide +kernel
theorem dX12_move_105 : decode cX12_move 105 = .ok (.goto (-61), 3) := by decide +kernel
theorem dX12_move_108 : decode cX12_move 108 = .ok (.aload_n 0, 1) := by decide +kernel
theorem dX12_move_109 : decode cX12_move 109 = .ok (.getfield 18, 3) := by decide +kernel
theorem dX12_move_112 : decode cX12_move 112 = .ok (.iload_n 2, 1) := by decide +kernel
theorem dX12_move_113 : decode cX12_move 113 = .ok (.aload_n 0, 1) := by decide +kernel
theorem dX12_move_114 : decode cX12_move 114 = .ok (.getfield 18, 3) := by decide +kernel
theorem dX12_move_117 : decode cX12_move 117 = .ok (.iload_n 1, 1) := by decide +kernel
theorem dX12_move_118 : decode cX12_move 118 = .ok (.iaload, 1) := by decide +kernel
theorem dX12_move_119 : decode cX12_move 119 = .ok (.iastore, 1) := by decide +kernel
theorem dX12_move_120 : decode cX12_move 120 = .ok (.aload_n 0, 1) := by decide +kernel
theorem dX12_move_121 : decode cX12_move 121 = .ok (.getfield 26, 3) := by decide +kernel
theorem dX12_move_124 : decode cX12_move 124 = .ok (.iload_n 2, 1) := by decide +kernel
theorem dX12_move_125 : decode cX12_move 125 = .ok (.aload_n 0, 1) := by decide +kernel
theorem dX12_move_126 : decode cX12_move 126 = .ok (.getfield 26, 3) := by decide +kernel
theorem dX12_move_129 : decode cX12_move 129 = .ok (.iload_n 1, 1) := by decide +kernel
theorem dX12_move_130 : decode cX12_move 130 = .ok (.iaload, 1) := by decide +kernel
theorem dX12_move_131 : decode cX12_move 131 = .ok (.iastore, 1) := by decide +kernel
theorem dX12_move_132 : decode cX12_move 132 = .ok (.return_, 1) := by decide +kernel
theorem dX12_tell_0 : decode cX12_tell 0 = .ok (.aload_n 0, 1) := by decide +kernel
theorem dX12_tell_1 : decode cX12_tell 1 = .ok (.getfield 23, 3) := by decide +kernel
theorem dX12_tell_4 : decode cX12_tell 4 = .ok (.ldc 7, 2) := by decide +kernel
theorem dX12_tell_6 : decode cX12_tell 6 = .ok (.aload_n 0, 1) := by decide +kernel
theorem dX12_tell_7 : decode cX12_tell 7 = .ok (.getfield 18, 3) := by decide +kernel
theorem dX12_tell_10 : decode cX12_tell 10 = .ok (.bipush 32, 2) := by decide +kernel
theorem dX12_tell_12 : decode cX12_tell 12 = .ok (.iaload, 1) := by decide +kernel
theorem dX12_tell_13 : decode cX12_tell 13 = .ok (.iadd, 1) := by decide +kernel
theorem dX12_tell_14 : decode cX12_tell 14 = .ok (.iload_n 1, 1) := by decide +kernel
theorem dX12_tell_15 : decode cX12_tell 15 = .ok (.iastore, 1) := by decide +kernel
theorem dX12_tell_16 : decode cX12_tell 16 = .ok (.aload_n 0, 1) := by decide +kernel
theorem dX12_tell_17 : decode cX12_tell 17 = .ok (.getfield 18, 3) := by decide +kernel
theorem dX12_tell_20 : decode cX12_tell 20 = .ok (.bipush 32, 2) := by decide +kernel
theorem dX12_tell_22 : decode cX12_tell 22 = .ok (.dup2, 1) := by decide +kernel
theorem dX12_tell_23 : decode cX12_tell 23 = .ok (.iaload, 1) := by decide +kernel
theorem dX12_tell_24 : decode cX12_tell 24 = .ok (.iconst 1, 1) := by decide +kernel
theorem dX12_tell_25 : decode cX12_tell 25 = .ok (.iadd, 1) := by decide +kernel
theorem dX12_tell_26 : decode cX12_tell 26 = .ok (.iastore, 1) := by decide +kernel
theorem dX12_tell_27 : decode cX12_tell 27 = .ok (.return_, 1) := by decide +kernel
theorem dX12_dot_0 : decode cX12_dot 0 = .ok (.aload_n 0, 1) := by decide +kernel
theorem dX12_dot_1 : decode cX12_dot 1 = .ok (.getfield 29, 3) := by decide +kernel
theorem dX12_dot_4 : decode cX12_dot 4 = .ok (.ldc 7, 2) := by decide +kernel
theorem dX12_dot_6 : decode cX12_dot 6 = .ok (.aload_n 0, 1) := by decide +kernel
theorem dX12_dot_7 : decode cX12_dot 7 = .ok (.getfield 26, 3) := by decide +kernel
theorem dX12_dot_10 : decode cX12_dot 10 = .ok (.bipush 32, 2) := by decide +kernel
theorem dX12_dot_12 : decode cX12_dot 12 = .ok (.iaload, 1) := by decide +kernel
theorem dX12_dot_13 : decode cX12_dot 13 = .ok (.iadd, 1) := by decide +kernel
theorem dX12_dot_14 : decode cX12_dot 14 = .ok (.lload_n 1, 1) := by decide +kernel
theorem dX12_dot_15 : decode cX12_dot 15 = .ok (.l2i, 1) := by decide +kernel
theorem dX12_dot_16 : decode cX12_dot 16 = .ok (.iastore, 1) := by decide +kernel
theorem dX12_dot_17 : decode cX12_dot 17 = .ok (.aload_n 0, 1) := by decide +kernel
theorem dX12_dot_18 : decode cX12_dot 18 = .ok (.getfield 32, 3) := by decide +kernel
theorem dX12_dot_21 : decode cX12_dot 21 = .ok (.ldc 7, 2) := by decide +kernel
theorem dX12_dot_23 : decode cX12_dot 23 = .ok (.aload_n 0, 1) := by decide +kernel
theorem dX12_dot_24 : decode cX12_dot 24 = .ok (.getfield 26, 3) := by decide +kernel
theorem dX12_dot_27 : decode cX12_dot 27 = .ok (.bipush 32, 2) := by decide +kernel
theorem dX12_dot_29 : decode cX12_dot 29 = .ok (.iaload, 1) := by decide +kernel
theorem dX12_dot_30 : decode cX12_dot 30 = .ok (.iadd, 1) := by decide +kernel
theorem dX12_dot_31 : decode cX12_dot 31 = .ok (.lload_n 3, 1) := by decide +kernel
theorem dX12_dot_32 : decode cX12_dot 32 = .ok (.l2i, 1) := by decide +kernel
theorem dX12_dot_33 : decode cX12_dot 33 = .ok (.iastore, 1) := by decide +kernel
theorem dX12_dot_34 : decode cX12_dot 34 = .ok (.aload_n 0, 1) := by decide +kernel
theorem dX12_dot_35 : decode cX12_dot 35 = .ok (.getfield 26, 3) := by decide +kernel
theorem dX12_dot_38 : decode cX12_dot 38 = .ok (.bipush 32, 2) := by decide +kernel
theorem dX12_dot_40 : decode cX12_dot 40 = .ok (.dup2, 1) := by decide +kernel
theorem dX12_dot_41 : decode cX12_dot 41 = .ok (.iaload, 1) := by decide +kernel
theorem dX12_dot_42 : decode cX12_dot 42 = .ok (.iconst 1, 1) := by decide +kernel
theorem dX12_dot_43 : decode cX12_dot 43 = .ok (.iadd, 1) := by decide +kernel
theorem dX12_dot_44 : decode cX12_dot 44 = .ok (.iastore, 1) := by decide +kernel
theorem dX12_dot_45 : decode cX12_dot 45 = .ok (.return_, 1) := by decide +kernel
theorem dX12_four_0 : decode cX12_four 0 = .ok (.bipush 24, 2) := by decide +kernel
theorem dX12_four_2 : decode cX12_four 2 = .ok (.istore_n 2, 1) := by decide +kernel
theorem dX12_four_3 : decode cX12_four 3 = .ok (.iload_n 2, 1) := by decide +kernel
theorem dX12_four_4 : decode cX12_four 4 = .ok (.ifCond .lt 32, 3) := by decide +kernel
theorem dX12_four_7 : decode cX12_four 7 = .ok (.aload_n 0, 1) := by decide +kernel
theorem dX12_four_8 : decode cX12_four 8 = .ok (.getfield 8, 3) := by decide +kernel
theorem dX12_four_11 : decode cX12_four 11 = .ok (.aload_n 0, 1) := by decide +kernel
theorem dX12_four_12 : decode cX12_four 12 = .ok (.getfield 274, 3) := by decide +kernel
theorem dX12_four_15 : decode cX12_four 15 = .ok (.iload_n 1, 1) := by decide +kernel
theorem dX12_four_16 : decode cX12_four 16 = .ok (.iload_n 2, 1) := by decide +kernel
theorem dX12_four_17 : decode cX12_four 17 = .ok (.ishr, 1) := by decide +kernel
theorem dX12_four_18 : decode cX12_four 18 = .ok (.i2b, 1) := by decide +kernel
theorem dX12_four_19 : decode cX12_four 19 = .ok (.bastore, 1) := by decide +kernel
theorem dX12_four_20 : decode cX12_four 20 = .ok (.aload_n 0, 1) := by decide +kernel
theorem dX12_four_21 : decode cX12_four 21 = .ok (.dup, 1) := by decide +kernel
theorem dX12_four_22 : decode cX12_four 22 = .ok (.getfield 274, 3) := by decide +kernel
theorem dX12_four_25 : decode cX12_four 25 = .ok (.iconst 1, 1) := by decide +kernel
theorem dX12_four_26 : decode cX12_four 26 = .ok (.iadd, 1) := by decide +kernel
theorem dX12_four_27 : decode cX12_four 27 = .ok (.putfield 274, 3) := by decide +kernel
theorem dX12_four_30 : decode cX12_four 30 = .ok (.iinc 2 (-8), 3) := by decide +kernel
theorem dX12_four_33 : decode cX12_four 33 = .ok (.goto (-30), 3) := by decide +kernel
theorem dX12_four_36 : decode cX12_four 36 = .ok (.return_, 1) := by decide +kernel
theorem dX12_feed_0 : decode cX12_feed 0 = .ok (.aload_n 0, 1) := by decide +kernel
theorem dX12_feed_1 : decode cX12_feed 1 = .ok (.iconst 0, 1) := by decide +kernel
theorem dX12_feed_2 : decode cX12_feed 2 = .ok (.putfield 271, 3) := by decide +kernel
theorem dX12_feed_5 : decode cX12_feed 5 = .ok (.aload_n 0, 1) := by decide +kernel
theorem dX12_feed_6 : decode cX12_feed 6 = .ok (.aload_n 0, 1) := by decide +kernel
theorem dX12_feed_7 : decode cX12_feed 7 = .ok (.getfield 274, 3) := by decide +kernel
theorem dX12_feed_10 : decode cX12_feed 10 = .ok (.bipush 20, 2) := by decide +kernel
theorem dX12_feed_12 : decode cX12_feed 12 = .ok (.iadd, 1) := by decide +kernel
theorem dX12_feed_13 : decode cX12_feed 13 = .ok (.ldc 7, 2) := by decide +kernel
theorem dX12_feed_15 : decode cX12_feed 15 = .ok (.if_icmp .le 7, 3) := by decide +kernel
theorem dX12_feed_18 : decode cX12_feed 18 = .ok (.iconst 1, 1) := by decide +kernel
theorem dX12_feed_19 : decode cX12_feed 19 = .ok (.goto 4, 3) := by decide +kernel
theorem dX12_feed_22 : decode cX12_feed 22 = .ok (.iconst 0, 1) := by decide +kernel
theorem dX12_feed_23 : decode cX12_feed 23 = .ok (.iconst 1, 1) := by decide +kernel
theorem dX12_feed_24 : decode cX12_feed 24 = .ok (.invokevirtual 277, 3) := by decide +kernel
theorem dX12_feed_27 : decode cX12_feed 27 = .ok (.ifCond .eq 5, 3) := by decide +kernel
theorem dX12_feed_30 : decode cX12_feed 30 = .ok (.iconst 0, 1) := by decide +kernel
theorem dX12_feed_31 : decode cX12_feed 31 = .ok (.ireturn, 1) := by decide +kernel
theorem dX12_feed_32 : decode cX12_feed 32 = .ok (.aload_n 0, 1) := by decide +kernel
theorem dX12_feed_33 : decode cX12_feed 33 = .ok (.iload_n 1, 1) := by decide +kernel
theorem dX12_feed_34 : decode cX12_feed 34 = .ok (.invokevirtual 281, 3) := by decide +kernel
theorem dX12_feed_37 : decode cX12_feed 37 = .ok (.aload_n 0, 1) := by decide +kernel
theorem dX12_feed_38 : decode cX12_feed 38 = .ok (.iload_n 2, 1) := by decide +kernel
theorem dX12_feed_39 : decode cX12_feed 39 = .ok (.invokevirtual 281, 3) := by decide +kernel
theorem dX12_feed_42 : decode cX12_feed 42 = .ok (.aload_n 0, 1) := by decide +kernel
theorem dX12_feed_43 : decode cX12_feed 43 = .ok (.iload_n 3, 1) := by decide +kernel
theorem dX12_feed_44 : decode cX12_feed 44 = .ok (.invokevirtual 281, 3) := by decide +kernel
theorem dX12_feed_47 : decode cX12_feed 47 = .ok (.aload_n 0, 1) := by decide +kernel
theorem dX12_feed_48 : decode cX12_feed 48 = .ok (.iload 4, 2) := by decide +kernel
theorem dX12_feed_50 : decode cX12_feed 50 = .ok (.invokevirtual 281, 3) := by decide +kernel
theorem dX12_feed_53 : decode cX12_feed 53 = .ok (.aload_n 0, 1) := by decide +kernel
theorem dX12_feed_54 : decode cX12_feed 54 = .ok (.iload 5, 2) := by decide +kernel
theorem dX12_feed_56 : decode cX12_feed 56 = .ok (.invokevirtual 281, 3) := by decide +kernel
theorem dX12_feed_59 : decode cX12_feed 59 = .ok (.aload_n 0, 1) := by decide +kernel
theorem dX12_feed_60 : decode cX12_feed 60 = .ok (.getfield 274, 3) := by decide +kernel
theorem dX12_feed_63 : decode cX12_feed 63 = .ok (.ireturn, 1) := by decide +kernel
