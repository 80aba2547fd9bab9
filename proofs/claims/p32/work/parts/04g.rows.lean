theorem dX4_tellPolygons_0 : decode cX4_tellPolygons 0 = .ok (.aload_n 1, 1) := by decide +kernel
theorem dX4_tellPolygons_1 : decode cX4_tellPolygons 1 = .ok (.invokevirtual 203, 3) := by decide +kernel
theorem dX4_tellPolygons_4 : decode cX4_tellPolygons 4 = .ok (.aload_n 1, 1) := by decide +kernel
theorem dX4_tellPolygons_5 : decode cX4_tellPolygons 5 = .ok (.bipush 6, 2) := by decide +kernel
theorem dX4_tellPolygons_7 : decode cX4_tellPolygons 7 = .ok (.iconst 0, 1) := by decide +kernel
theorem dX4_tellPolygons_8 : decode cX4_tellPolygons 8 = .ok (.invokevirtual 206, 3) := by decide +kernel
theorem dX4_tellPolygons_11 : decode cX4_tellPolygons 11 = .ok (.istore_n 2, 1) := by decide +kernel
theorem dX4_tellPolygons_12 : decode cX4_tellPolygons 12 = .ok (.iconst 0, 1) := by decide +kernel
theorem dX4_tellPolygons_13 : decode cX4_tellPolygons 13 = .ok (.istore_n 3, 1) := by decide +kernel
theorem dX4_tellPolygons_14 : decode cX4_tellPolygons 14 = .ok (.iload_n 3, 1) := by decide +kernel
theorem dX4_tellPolygons_15 : decode cX4_tellPolygons 15 = .ok (.aload_n 0, 1) := by decide +kernel
theorem dX4_tellPolygons_16 : decode cX4_tellPolygons 16 = .ok (.getfield 147, 3) := by decide +kernel
theorem dX4_tellPolygons_19 : decode cX4_tellPolygons 19 = .ok (.if_icmp .ge 136, 3) := by decide +kernel
theorem dX4_tellPolygons_22 : decode cX4_tellPolygons 22 = .ok (.iload_n 2, 1) := by decide +kernel
theorem dX4_tellPolygons_23 : decode cX4_tellPolygons 23 = .ok (.ifCond .eq 132, 3) := by decide +kernel
theorem dX4_tellPolygons_26 : decode cX4_tellPolygons 26 = .ok (.aload_n 0, 1) := by decide +kernel
theorem dX4_tellPolygons_27 : decode cX4_tellPolygons 27 = .ok (.iload_n 3, 1) := by decide +kernel
theorem dX4_tellPolygons_28 : decode cX4_tellPolygons 28 = .ok (.invokevirtual 209, 3) := by decide +kernel
theorem dX4_tellPolygons_31 : decode cX4_tellPolygons 31 = .ok (.istore 4, 2) := by decide +kernel
theorem dX4_tellPolygons_33 : decode cX4_tellPolygons 33 = .ok (.aload_n 0, 1) := by decide +kernel
theorem dX4_tellPolygons_34 : decode cX4_tellPolygons 34 = .ok (.iload 4, 2) := by decide +kernel
theorem dX4_tellPolygons_36 : decode cX4_tellPolygons 36 = .ok (.invokevirtual 181, 3) := by decide +kernel
theorem dX4_tellPolygons_39 : decode cX4_tellPolygons 39 = .ok (.ifCond .ne 6, 3) := by decide +kernel
theorem dX4_tellPolygons_42 : decode cX4_tellPolygons 42 = .ok (.goto 107, 3) := by decide +kernel
theorem dX4_tellPolygons_45 : decode cX4_tellPolygons 45 = .ok (.aload_n 1, 1) := by decide +kernel
theorem dX4_tellPolygons_46 : decode cX4_tellPolygons 46 = .ok (.getfield 212, 3) := by decide +kernel
theorem dX4_tellPolygons_49 : decode cX4_tellPolygons 49 = .ok (.iconst 1, 1) := by decide +kernel
theorem dX4_tellPolygons_50 : decode cX4_tellPolygons 50 = .ok (.dup2, 1) := by decide +kernel
theorem dX4_tellPolygons_51 : decode cX4_tellPolygons 51 = .ok (.iaload, 1) := by decide +kernel
theorem dX4_tellPolygons_52 : decode cX4_tellPolygons 52 = .ok (.iconst 1, 1) := by decide +kernel
theorem dX4_tellPolygons_53 : decode cX4_tellPolygons 53 = .ok (.iadd, 1) := by decide +kernel
theorem dX4_tellPolygons_54 : decode cX4_tellPolygons 54 = .ok (.iastore, 1) := by decide +kernel
theorem dX4_tellPolygons_55 : decode cX4_tellPolygons 55 = .ok (.aload_n 1, 1) := by decide +kernel
theorem dX4_tellPolygons_56 : decode cX4_tellPolygons 56 = .ok (.getfield 215, 3) := by decide +kernel
theorem dX4_tellPolygons_59 : decode cX4_tellPolygons 59 = .ok (.iconst 1, 1) := by decide +kernel
theorem dX4_tellPolygons_60 : decode cX4_tellPolygons 60 = .ok (.iadd, 1) := by decide +kernel
theorem dX4_tellPolygons_61 : decode cX4_tellPolygons 61 = .ok (.istore 5, 2) := by decide +kernel
theorem dX4_tellPolygons_63 : decode cX4_tellPolygons 63 = .ok (.aload_n 1, 1) := by decide +kernel
theorem dX4_tellPolygons_64 : decode cX4_tellPolygons 64 = .ok (.iconst 3, 1) := by decide +kernel
theorem dX4_tellPolygons_65 : decode cX4_tellPolygons 65 = .ok (.iconst 1, 1) := by decide +kernel
theorem dX4_tellPolygons_66 : decode cX4_tellPolygons 66 = .ok (.invokevirtual 206, 3) := by decide +kernel
theorem dX4_tellPolygons_69 : decode cX4_tellPolygons 69 = .ok (.ifCond .eq 17, 3) := by decide +kernel
theorem dX4_tellPolygons_72 : decode cX4_tellPolygons 72 = .ok (.aload_n 0, 1) := by decide +kernel
theorem dX4_tellPolygons_73 : decode cX4_tellPolygons 73 = .ok (.aload_n 1, 1) := by decide +kernel
theorem dX4_tellPolygons_74 : decode cX4_tellPolygons 74 = .ok (.iload 4, 2) := by decide +kernel
theorem dX4_tellPolygons_76 : decode cX4_tellPolygons 76 = .ok (.invokevirtual 218, 3) := by decide +kernel
theorem dX4_tellPolygons_79 : decode cX4_tellPolygons 79 = .ok (.ifCond .eq 7, 3) := by decide +kernel
theorem dX4_tellPolygons_82 : decode cX4_tellPolygons 82 = .ok (.iconst 1, 1) := by decide +kernel
theorem dX4_tellPolygons_83 : decode cX4_tellPolygons 83 = .ok (.goto 4, 3) := by decide +kernel
theorem dX4_tellPolygons_86 : decode cX4_tellPolygons 86 = .ok (.iconst 0, 1) := by decide +kernel
theorem dX4_tellPolygons_87 : decode cX4_tellPolygons 87 = .ok (.istore_n 2, 1) := by decide +kernel
theorem dX4_tellPolygons_88 : decode cX4_tellPolygons 88 = .ok (.iconst 0, 1) := by decide +kernel
theorem dX4_tellPolygons_89 : decode cX4_tellPolygons 89 = .ok (.istore 6, 2) := by decide +kernel
theorem dX4_tellPolygons_91 : decode cX4_tellPolygons 91 = .ok (.iload 6, 2) := by decide +kernel
theorem dX4_tellPolygons_93 : decode cX4_tellPolygons 93 = .ok (.aload_n 0, 1) := by decide +kernel
theorem dX4_tellPolygons_94 : decode cX4_tellPolygons 94 = .ok (.getfield 147, 3) := by decide +kernel
theorem dX4_tellPolygons_97 : decode cX4_tellPolygons 97 = .ok (.if_icmp .ge 52, 3) := by decide +kernel
theorem dX4_tellPolygons_100 : decode cX4_tellPolygons 100 = .ok (.iload_n 2, 1) := by decide +kernel
theorem dX4_tellPolygons_101 : decode cX4_tellPolygons 101 = .ok (.ifCond .eq 48, 3) := by decide +kernel
theorem dX4_tellPolygons_104 : decode cX4_tellPolygons 104 = .ok (.aload_n 0, 1) := by decide +kernel
theorem dX4_tellPolygons_105 : decode cX4_tellPolygons 105 = .ok (.iload 6, 2) := by decide +kernel
theorem dX4_tellPolygons_107 : decode cX4_tellPolygons 107 = .ok (.invokevirtual 209, 3) := by decide +kernel
theorem dX4_tellPolygons_110 : decode cX4_tellPolygons 110 = .ok (.istore 7, 2) := by decide +kernel
theorem dX4_tellPolygons_112 : decode cX4_tellPolygons 112 = .ok (.aload_n 0, 1) := by decide +kernel
theorem dX4_tellPolygons_113 : decode cX4_tellPolygons 113 = .ok (.getfield 52, 3) := by decide +kernel
theorem dX4_tellPolygons_116 : decode cX4_tellPolygons 116 = .ok (.iload 7, 2) := by decide +kernel
theorem dX4_tellPolygons_118 : decode cX4_tellPolygons 118 = .ok (.iaload, 1) := by decide +kernel
theorem dX4_tellPolygons_119 : decode cX4_tellPolygons 119 = .ok (.iload 4, 2) := by decide +kernel
theorem dX4_tellPolygons_121 : decode cX4_tellPolygons 121 = .ok (.if_icmp .ne 22, 3) := by decide +kernel
theorem dX4_tellPolygons_124 : decode cX4_tellPolygons 124 = .ok (.aload_n 1, 1) := by decide +kernel
theorem dX4_tellPolygons_125 : decode cX4_tellPolygons 125 = .ok (.getfield 212, 3) := by decide +kernel
theorem dX4_tellPolygons_128 : decode cX4_tellPolygons 128 = .ok (.iload 5, 2) := by decide +kernel
theorem dX4_tellPolygons_130 : decode cX4_tellPolygons 130 = .ok (.dup2, 1) := by decide +kernel
theorem dX4_tellPolygons_131 : decode cX4_tellPolygons 131 = .ok (.iaload, 1) := by decide +kernel
theorem dX4_tellPolygons_132 : decode cX4_tellPolygons 132 = .ok (.iconst 1, 1) := by decide +kernel
theorem dX4_tellPolygons_133 : decode cX4_tellPolygons 133 = .ok (.iadd, 1) := by decide +kernel
theorem dX4_tellPolygons_134 : decode cX4_tellPolygons 134 = .ok (.iastore, 1) := by decide +kernel
theorem dX4_tellPolygons_135 : decode cX4_tellPolygons 135 = .ok (.aload_n 0, 1) := by decide +kernel
theorem dX4_tellPolygons_136 : decode cX4_tellPolygons 136 = .ok (.aload_n 1, 1) := by decide +kernel
theorem dX4_tellPolygons_137 : decode cX4_tellPolygons 137 = .ok (.iload 7, 2) := by decide +kernel
theorem dX4_tellPolygons_139 : decode cX4_tellPolygons 139 = .ok (.invokevirtual 218, 3) := by decide +kernel
theorem dX4_tellPolygons_142 : decode cX4_tellPolygons 142 = .ok (.istore_n 2, 1) := by decide +kernel
theorem dX4_tellPolygons_143 : decode cX4_tellPolygons 143 = .ok (.iinc 6 1, 3) := by decide +kernel
theorem dX4_tellPolygons_146 : decode cX4_tellPolygons 146 = .ok (.goto (-55), 3) := by decide +kernel
theorem dX4_tellPolygons_149 : decode cX4_tellPolygons 149 = .ok (.iinc 3 1, 3) := by decide +kernel
theorem dX4_tellPolygons_152 : decode cX4_tellPolygons 152 = .ok (.goto (-138), 3) := by decide +kernel
theorem dX4_tellPolygons_155 : decode cX4_tellPolygons 155 = .ok (.iload_n 2, 1) := by decide +kernel
theorem dX4_tellPolygons_156 : decode cX4_tellPolygons 156 = .ok (.ireturn, 1) := by decide +kernel
theorem dX4_tellRing_0 : decode cX4_tellRing 0 = .ok (.aload_n 0, 1) := by decide +kernel
theorem dX4_tellRing_1 : decode cX4_tellRing 1 = .ok (.getfield 45, 3) := by decide +kernel
theorem dX4_tellRing_4 : decode cX4_tellRing 4 = .ok (.iload_n 2, 1) := by decide +kernel
theorem dX4_tellRing_5 : decode cX4_tellRing 5 = .ok (.iaload, 1) := by decide +kernel
theorem dX4_tellRing_6 : decode cX4_tellRing 6 = .ok (.istore_n 3, 1) := by decide +kernel
theorem dX4_tellRing_7 : decode cX4_tellRing 7 = .ok (.aload_n 0, 1) := by decide +kernel
theorem dX4_tellRing_8 : decode cX4_tellRing 8 = .ok (.getfield 45, 3) := by decide +kernel
theorem dX4_tellRing_11 : decode cX4_tellRing 11 = .ok (.iload_n 2, 1) := by decide +kernel
theorem dX4_tellRing_12 : decode cX4_tellRing 12 = .ok (.iconst 1, 1) := by decide +kernel
theorem dX4_tellRing_13 : decode cX4_tellRing 13 = .ok (.iadd, 1) := by decide +kernel
theorem dX4_tellRing_14 : decode cX4_tellRing 14 = .ok (.iaload, 1) := by decide +kernel
theorem dX4_tellRing_15 : decode cX4_tellRing 15 = .ok (.iload_n 3, 1) := by decide +kernel
theorem dX4_tellRing_16 : decode cX4_tellRing 16 = .ok (.isub, 1) := by decide +kernel
theorem dX4_tellRing_17 : decode cX4_tellRing 17 = .ok (.istore 4, 2) := by decide +kernel
theorem dX4_tellRing_19 : decode cX4_tellRing 19 = .ok (.aload_n 1, 1) := by decide +kernel
theorem dX4_tellRing_20 : decode cX4_tellRing 20 = .ok (.iload 4, 2) := by decide +kernel
theorem dX4_tellRing_22 : decode cX4_tellRing 22 = .ok (.iconst 1, 1) := by decide +kernel
theorem dX4_tellRing_23 : decode cX4_tellRing 23 = .ok (.iadd, 1) := by decide +kernel
theorem dX4_tellRing_24 : decode cX4_tellRing 24 = .ok (.invokevirtual 222, 3) := by decide +kernel
theorem dX4_tellRing_27 : decode cX4_tellRing 27 = .ok (.istore 5, 2) := by decide +kernel
theorem dX4_tellRing_29 : decode cX4_tellRing 29 = .ok (.iconst 0, 1) := by decide +kernel
theorem dX4_tellRing_30 : decode cX4_tellRing 30 = .ok (.istore 6, 2) := by decide +kernel
theorem dX4_tellRing_32 : decode cX4_tellRing 32 = .ok (.iload 6, 2) := by decide +kernel
theorem dX4_tellRing_34 : decode cX4_tellRing 34 = .ok (.iload 4, 2) := by decide +kernel
theorem dX4_tellRing_36 : decode cX4_tellRing 36 = .ok (.if_icmp .gt 62, 3) := by decide +kernel
theorem dX4_tellRing_39 : decode cX4_tellRing 39 = .ok (.iload 5, 2) := by decide +kernel
theorem dX4_tellRing_41 : decode cX4_tellRing 41 = .ok (.ifCond .eq 57, 3) := by decide +kernel
theorem dX4_tellRing_44 : decode cX4_tellRing 44 = .ok (.aload_n 0, 1) := by decide +kernel
theorem dX4_tellRing_45 : decode cX4_tellRing 45 = .ok (.getfield 42, 3) := by decide +kernel
theorem dX4_tellRing_48 : decode cX4_tellRing 48 = .ok (.iload 6, 2) := by decide +kernel
theorem dX4_tellRing_50 : decode cX4_tellRing 50 = .ok (.iload 4, 2) := by decide +kernel
theorem dX4_tellRing_52 : decode cX4_tellRing 52 = .ok (.if_icmp .ge 10, 3) := by decide +kernel
theorem dX4_tellRing_55 : decode cX4_tellRing 55 = .ok (.iload_n 3, 1) := by decide +kernel
theorem dX4_tellRing_56 : decode cX4_tellRing 56 = .ok (.iload 6, 2) := by decide +kernel
theorem dX4_tellRing_58 : decode cX4_tellRing 58 = .ok (.iadd, 1) := by decide +kernel
theorem dX4_tellRing_59 : decode cX4_tellRing 59 = .ok (.goto 4, 3) := by decide +kernel
theorem dX4_tellRing_62 : decode cX4_tellRing 62 = .ok (.iload_n 3, 1) := by decide +kernel
theorem dX4_tellRing_63 : decode cX4_tellRing 63 = .ok (.iaload, 1) := by decide +kernel
theorem dX4_tellRing_64 : decode cX4_tellRing 64 = .ok (.istore 7, 2) := by decide +kernel
theorem dX4_tellRing_66 : decode cX4_tellRing 66 = .ok (.aload_n 1, 1) := by decide +kernel
theorem dX4_tellRing_67 : decode cX4_tellRing 67 = .ok (.aload_n 0, 1) := by decide +kernel
theorem dX4_tellRing_68 : decode cX4_tellRing 68 = .ok (.getfield 58, 3) := by decide +kernel
theorem dX4_tellRing_71 : decode cX4_tellRing 71 = .ok (.getfield 114, 3) := by decide +kernel
theorem dX4_tellRing_74 : decode cX4_tellRing 74 = .ok (.iload 7, 2) := by decide +kernel
theorem dX4_tellRing_76 : decode cX4_tellRing 76 = .ok (.iaload, 1) := by decide +kernel
theorem dX4_tellRing_77 : decode cX4_tellRing 77 = .ok (.aload_n 0, 1) := by decide +kernel
theorem dX4_tellRing_78 : decode cX4_tellRing 78 = .ok (.getfield 58, 3) := by decide +kernel
theorem dX4_tellRing_81 : decode cX4_tellRing 81 = .ok (.getfield 117, 3) := by decide +kernel
theorem dX4_tellRing_84 : decode cX4_tellRing 84 = .ok (.iload 7, 2) := by decide +kernel
theorem dX4_tellRing_86 : decode cX4_tellRing 86 = .ok (.iaload, 1) := by decide +kernel
theorem dX4_tellRing_87 : decode cX4_tellRing 87 = .ok (.invokevirtual 225, 3) := by decide +kernel
theorem dX4_tellRing_90 : decode cX4_tellRing 90 = .ok (.istore 5, 2) := by decide +kernel
theorem dX4_tellRing_92 : decode cX4_tellRing 92 = .ok (.iinc 6 1, 3) := by decide +kernel
theorem dX4_tellRing_95 : decode cX4_tellRing 95 = .ok (.goto (-63), 3) := by decide +kernel
theorem dX4_tellRing_98 : decode cX4_tellRing 98 = .ok (.iload 5, 2) := by decide +kernel
theorem dX4_tellRing_100 : decode cX4_tellRing 100 = .ok (.ireturn, 1) := by decide +kernel
theorem dX3_isOfPoints_0 : decode cX3_isOfPoints 0 = .ok (.aload_n 0, 1) := by decide +kernel
theorem dX3_isOfPoints_1 : decode cX3_isOfPoints 1 = .ok (.invokevirtual 49, 3) := by decide +kernel
theorem dX3_isOfPoints_4 : decode cX3_isOfPoints 4 = .ok (.iconst 1, 1) := by decide +kernel
theorem dX3_isOfPoints_5 : decode cX3_isOfPoints 5 = .ok (.if_icmp .eq 11, 3) := by decide +kernel
theorem dX3_isOfPoints_8 : decode cX3_isOfPoints 8 = .ok (.aload_n 0, 1) := by decide +kernel
theorem dX3_isOfPoints_9 : decode cX3_isOfPoints 9 = .ok (.invokevirtual 49, 3) := by decide +kernel
theorem dX3_isOfPoints_12 : decode cX3_isOfPoints 12 = .ok (.iconst 4, 1) := by decide +kernel
theorem dX3_isOfPoints_13 : decode cX3_isOfPoints 13 = .ok (.if_icmp .ne 7, 3) := by decide +kernel
theorem dX3_isOfPoints_16 : decode cX3_isOfPoints 16 = .ok (.iconst 1, 1) := by decide +kernel
theorem dX3_isOfPoints_17 : decode cX3_isOfPoints 17 = .ok (.goto 4, 3) := by decide +kernel
theorem dX3_isOfPoints_20 : decode cX3_isOfPoints 20 = .ok (.iconst 0, 1) := by decide +kernel
theorem dX3_isOfPoints_21 : decode cX3_isOfPoints 21 = .ok (.ireturn, 1) := by decide +kernel
theorem dX3_isOfLines_0 : decode cX3_isOfLines 0 = .ok (.aload_n 0, 1) := by decide +kernel
theorem dX3_isOfLines_1 : decode cX3_isOfLines 1 = .ok (.invokevirtual 49, 3) := by decide +kernel
theorem dX3_isOfLines_4 : decode cX3_isOfLines 4 = .ok (.iconst 2, 1) := by decide +kernel
theorem dX3_isOfLines_5 : decode cX3_isOfLines 5 = .ok (.if_icmp .eq 11, 3) := by decide +kernel
theorem dX3_isOfLines_8 : decode cX3_isOfLines 8 = .ok (.aload_n 0, 1) := by decide +kernel
theorem dX3_isOfLines_9 : decode cX3_isOfLines 9 = .ok (.invokevirtual 49, 3) := by decide +kernel
theorem dX3_isOfLines_12 : decode cX3_isOfLines 12 = .ok (.iconst 5, 1) := by decide +kernel
theorem dX3_isOfLines_13 : decode cX3_isOfLines 13 = .ok (.if_icmp .ne 7, 3) := by decide +kernel
theorem dX3_isOfLines_16 : decode cX3_isOfLines 16 = .ok (.iconst 1, 1) := by decide +kernel
theorem dX3_isOfLines_17 : decode cX3_isOfLines 17 = .ok (.goto 4, 3) := by decide +kernel
theorem dX3_isOfLines_20 : decode cX3_isOfLines 20 = .ok (.iconst 0, 1) := by decide +kernel
theorem dX3_isOfLines_21 : decode cX3_isOfLines 21 = .ok (.ireturn, 1) := by decide +kernel
theorem dX3_isArea_0 : decode cX3_isArea 0 = .ok (.aload_n 0, 1) := by decide +kernel
theorem dX3_isArea_1 : decode cX3_isArea 1 = .ok (.invokevirtual 49, 3) := by decide +kernel
theorem dX3_isArea_4 : decode cX3_isArea 4 = .ok (.iconst 3, 1) := by decide +kernel
theorem dX3_isArea_5 : decode cX3_isArea 5 = .ok (.if_icmp .eq 12, 3) := by decide +kernel
theorem dX3_isArea_8 : decode cX3_isArea 8 = .ok (.aload_n 0, 1) := by decide +kernel
theorem dX3_isArea_9 : decode cX3_isArea 9 = .ok (.invokevirtual 49, 3) := by decide +kernel
theorem dX3_isArea_12 : decode cX3_isArea 12 = .ok (.bipush 6, 2) := by decide +kernel
theorem dX3_isArea_14 : decode cX3_isArea 14 = .ok (.if_icmp .ne 7, 3) := by decide +kernel
theorem dX3_isArea_17 : decode cX3_isArea 17 = .ok (.iconst 1, 1) := by decide +kernel
theorem dX3_isArea_18 : decode cX3_isArea 18 = .ok (.goto 4, 3) := by decide +kernel
theorem dX3_isArea_21 : decode cX3_isArea 21 = .ok (.iconst 0, 1) := by decide +kernel
theorem dX3_isArea_22 : decode cX3_isArea 22 = .ok (.ireturn, 1) := by decide +kernel
theorem dX3_hasTooManyParts_0 : decode cX3_hasTooManyParts 0 = .ok (.aload_n 0, 1) := by decide +kernel
theorem dX3_hasTooManyParts_1 : decode cX3_hasTooManyParts 1 = .ok (.invokestatic 55, 3) := by decide +kernel
theorem dX3_hasTooManyParts_4 : decode cX3_hasTooManyParts 4 = .ok (.ifCond .eq 5, 3) := by decide +kernel
theorem dX3_hasTooManyParts_7 : decode cX3_hasTooManyParts 7 = .ok (.iconst 0, 1) := by decide +kernel
theorem dX3_hasTooManyParts_8 : decode cX3_hasTooManyParts 8 = .ok (.ireturn, 1) := by decide +kernel
theorem dX3_hasTooManyParts_9 : decode cX3_hasTooManyParts 9 = .ok (.iconst 0, 1) := by decide +kernel
theorem dX3_hasTooManyParts_10 : decode cX3_hasTooManyParts 10 = .ok (.istore_n 1, 1) := by decide +kernel
theorem dX3_hasTooManyParts_11 : decode cX3_hasTooManyParts 11 = .ok (.iconst 0, 1) := by decide +kernel
theorem dX3_hasTooManyParts_12 : decode cX3_hasTooManyParts 12 = .ok (.istore_n 2, 1) := by decide +kernel
theorem dX3_hasTooManyParts_13 : decode cX3_hasTooManyParts 13 = .ok (.iload_n 2, 1) := by decide +kernel
theorem dX3_hasTooManyParts_14 : decode cX3_hasTooManyParts 14 = .ok (.iconst 1, 1) := by decide +kernel
theorem dX3_hasTooManyParts_15 : decode cX3_hasTooManyParts 15 = .ok (.iadd, 1) := by decide +kernel
theorem dX3_hasTooManyParts_16 : decode cX3_hasTooManyParts 16 = .ok (.aload_n 0, 1) := by decide +kernel
theorem dX3_hasTooManyParts_17 : decode cX3_hasTooManyParts 17 = .ok (.getfield 59, 3) := by decide +kernel
theorem dX3_hasTooManyParts_20 : decode cX3_hasTooManyParts 20 = .ok (.if_icmp .ge 20, 3) := by decide +kernel
theorem dX3_hasTooManyParts_23 : decode cX3_hasTooManyParts 23 = .ok (.iload_n 1, 1) := by decide +kernel
theorem dX3_hasTooManyParts_24 : decode cX3_hasTooManyParts 24 = .ok (.aload_n 0, 1) := by decide +kernel
theorem dX3_hasTooManyParts_25 : decode cX3_hasTooManyParts 25 = .ok (.iload_n 2, 1) := by decide +kernel
theorem dX3_hasTooManyParts_26 : decode cX3_hasTooManyParts 26 = .ok (.invokevirtual 63, 3) := by decide +kernel
theorem dX3_hasTooManyParts_29 : decode cX3_hasTooManyParts 29 = .ok (.iadd, 1) := by decide +kernel
theorem dX3_hasTooManyParts_30 : decode cX3_hasTooManyParts 30 = .ok (.istore_n 1, 1) := by decide +kernel
theorem dX3_hasTooManyParts_31 : decode cX3_hasTooManyParts 31 = .ok (.aload_n 0, 1) := by decide +kernel
theorem dX3_hasTooManyParts_32 : decode cX3_hasTooManyParts 32 = .ok (.iload_n 2, 1) := by decide +kernel
theorem dX3_hasTooManyParts_33 : decode cX3_hasTooManyParts 33 = .ok (.invokevirtual 67, 3) := by decide +kernel
theorem dX3_hasTooManyParts_36 : decode cX3_hasTooManyParts 36 = .ok (.istore_n 2, 1) := by decide +kernel
theorem dX3_hasTooManyParts_37 : decode cX3_hasTooManyParts 37 = .ok (.goto (-24), 3) := by decide +kernel
theorem dX3_hasTooManyParts_40 : decode cX3_hasTooManyParts 40 = .ok (.iload_n 1, 1) := by decide +kernel
theorem dX3_hasTooManyParts_41 : decode cX3_hasTooManyParts 41 = .ok (.sipush 1024, 3) := by decide +kernel
theorem dX3_hasTooManyParts_44 : decode cX3_hasTooManyParts 44 = .ok (.if_icmp .le 7, 3) := by decide +kernel
theorem dX3_hasTooManyParts_47 : decode cX3_hasTooManyParts 47 = .ok (.iconst 1, 1) := by decide +kernel
theorem dX3_hasTooManyParts_48 : decode cX3_hasTooManyParts 48 = .ok (.goto 4, 3) := by decide +kernel
theorem dX3_hasTooManyParts_51 : decode cX3_hasTooManyParts 51 = .ok (.iconst 0, 1) := by decide +kernel
theorem dX3_hasTooManyParts_52 : decode cX3_hasTooManyParts 52 = .ok (.ireturn, 1) := by decide +kernel
theorem dX3_whereIs_0 : decode cX3_whereIs 0 = .ok (.aload_n 0, 1) := by decide +kernel
theorem dX3_whereIs_1 : decode cX3_whereIs 1 = .ok (.invokestatic 55, 3) := by decide +kernel
theorem dX3_whereIs_4 : decode cX3_whereIs 4 = .ok (.ifCond .eq 18, 3) := by decide +kernel
theorem dX3_whereIs_7 : decode cX3_whereIs 7 = .ok (.aload_n 0, 1) := by decide +kernel
theorem dX3_whereIs_8 : decode cX3_whereIs 8 = .ok (.iload_n 1, 1) := by decide +kernel
theorem dX3_whereIs_9 : decode cX3_whereIs 9 = .ok (.iload_n 2, 1) := by decide +kernel
theorem dX3_whereIs_10 : decode cX3_whereIs 10 = .ok (.invokestatic 70, 3) := by decide +kernel
theorem dX3_whereIs_13 : decode cX3_whereIs 13 = .ok (.ifCond .eq 7, 3) := by decide +kernel
theorem dX3_whereIs_16 : decode cX3_whereIs 16 = .ok (.iconst 0, 1) := by decide +kernel
theorem dX3_whereIs_17 : decode cX3_whereIs 17 = .ok (.goto 4, 3) := by decide +kernel
theorem dX3_whereIs_20 : decode cX3_whereIs 20 = .ok (.iconst 2, 1) := by decide +kernel
theorem dX3_whereIs_21 : decode cX3_whereIs 21 = .ok (.ireturn, 1) := by decide +kernel
theorem dX3_whereIs_22 : decode cX3_whereIs 22 = .ok (.aload_n 0, 1) := by decide +kernel
theorem dX3_whereIs_23 : decode cX3_whereIs 23 = .ok (.invokestatic 74, 3) := by decide +kernel
theorem dX3_whereIs_26 : decode cX3_whereIs 26 = .ok (.istore_n 3, 1) := by decide +kernel
theorem dX3_whereIs_27 : decode cX3_whereIs 27 = .ok (.iconst 0, 1) := by decide +kernel
theorem dX3_whereIs_28 : decode cX3_whereIs 28 = .ok (.istore 4, 2) := by decide +kernel
theorem dX3_whereIs_30 : decode cX3_whereIs 30 = .ok (.iconst 0, 1) := by decide +kernel
theorem dX3_whereIs_31 : decode cX3_whereIs 31 = .ok (.istore 5, 2) := by decide +kernel
theorem dX3_whereIs_33 : decode cX3_whereIs 33 = .ok (.iconst 0, 1) := by decide +kernel
theorem dX3_whereIs_34 : decode cX3_whereIs 34 = .ok (.istore 6, 2) := by decide +kernel
theorem dX3_whereIs_36 : decode cX3_whereIs 36 = .ok (.iconst 0, 1) := by decide +kernel
theorem dX3_whereIs_37 : decode cX3_whereIs 37 = .ok (.istore 7, 2) := by decide +kernel
theorem dX3_whereIs_39 : decode cX3_whereIs 39 = .ok (.iconst 0, 1) := by decide +kernel
theorem dX3_whereIs_40 : decode cX3_whereIs 40 = .ok (.istore 8, 2) := by decide +kernel
theorem dX3_whereIs_42 : decode cX3_whereIs 42 = .ok (.iload 8, 2) := by decide +kernel
theorem dX3_whereIs_44 : decode cX3_whereIs 44 = .ok (.iconst 1, 1) := by decide +kernel
theorem dX3_whereIs_45 : decode cX3_whereIs 45 = .ok (.iadd, 1) := by decide +kernel
theorem dX3_whereIs_46 : decode cX3_whereIs 46 = .ok (.aload_n 0, 1) := by decide +kernel
theorem dX3_whereIs_47 : decode cX3_whereIs 47 = .ok (.getfield 59, 3) := by decide +kernel
theorem dX3_whereIs_50 : decode cX3_whereIs 50 = .ok (.if_icmp .ge 240, 3) := by decide +kernel
theorem dX3_whereIs_53 : decode cX3_whereIs 53 = .ok (.iconst 0, 1) := by decide +kernel
theorem dX3_whereIs_54 : decode cX3_whereIs 54 = .ok (.istore 9, 2) := by decide +kernel
theorem dX3_whereIs_56 : decode cX3_whereIs 56 = .ok (.iload 9, 2) := by decide +kernel
theorem dX3_whereIs_58 : decode cX3_whereIs 58 = .ok (.aload_n 0, 1) := by decide +kernel
theorem dX3_whereIs_59 : decode cX3_whereIs 59 = .ok (.iload 8, 2) := by decide +kernel
theorem dX3_whereIs_61 : decode cX3_whereIs 61 = .ok (.invokevirtual 63, 3) := by decide +kernel
theorem dX3_whereIs_64 : decode cX3_whereIs 64 = .ok (.if_icmp .ge 215, 3) := by decide +kernel
theorem dX3_whereIs_67 : decode cX3_whereIs 67 = .ok (.iload 7, 2) := by decide +kernel
theorem dX3_whereIs_69 : decode cX3_whereIs 69 = .ok (.aload_n 0, 1) := by decide +kernel
theorem dX3_whereIs_70 : decode cX3_whereIs 70 = .ok (.iload 8, 2) := by decide +kernel
theorem dX3_whereIs_72 : decode cX3_whereIs 72 = .ok (.iload 9, 2) := by decide +kernel
theorem dX3_whereIs_74 : decode cX3_whereIs 74 = .ok (.invokevirtual 77, 3) := by decide +kernel
theorem dX3_whereIs_77 : decode cX3_whereIs 77 = .ok (.iadd, 1) := by decide +kernel
theorem dX3_whereIs_78 : decode cX3_whereIs 78 = .ok (.istore 10, 2) := by decide +kernel
theorem dX3_whereIs_80 : decode cX3_whereIs 80 = .ok (.iload 7, 2) := by decide +kernel
theorem dX3_whereIs_82 : decode cX3_whereIs 82 = .ok (.iload 10, 2) := by decide +kernel
theorem dX3_whereIs_84 : decode cX3_whereIs 84 = .ok (.if_icmp .ge 36, 3) := by decide +kernel
theorem dX3_whereIs_87 : decode cX3_whereIs 87 = .ok (.aload_n 0, 1) := by decide +kernel
theorem dX3_whereIs_88 : decode cX3_whereIs 88 = .ok (.iload 7, 2) := by decide +kernel
theorem dX3_whereIs_90 : decode cX3_whereIs 90 = .ok (.iload_n 1, 1) := by decide +kernel
theorem dX3_whereIs_91 : decode cX3_whereIs 91 = .ok (.iload_n 2, 1) := by decide +kernel
theorem dX3_whereIs_92 : decode cX3_whereIs 92 = .ok (.invokevirtual 81, 3) := by decide +kernel
theorem dX3_whereIs_95 : decode cX3_whereIs 95 = .ok (.aload_n 0, 1) := by decide +kernel
theorem dX3_whereIs_96 : decode cX3_whereIs 96 = .ok (.iload 10, 2) := by decide +kernel
theorem dX3_whereIs_98 : decode cX3_whereIs 98 = .ok (.iconst 1, 1) := by decide +kernel
theorem dX3_whereIs_99 : decode cX3_whereIs 99 = .ok (.isub, 1) := by decide +kernel
theorem dX3_whereIs_100 : decode cX3_whereIs 100 = .ok (.iload_n 1, 1) := by decide +kernel
theorem dX3_whereIs_101 : decode cX3_whereIs 101 = .ok (.iload_n 2, 1) := by decide +kernel
theorem dX3_whereIs_102 : decode cX3_whereIs 102 = .ok (.invokevirtual 81, 3) := by decide +kernel
theorem dX3_whereIs_105 : decode cX3_whereIs 105 = .ok (.if_icmp .eq 15, 3) := by decide +kernel
theorem dX3_whereIs_108 : decode cX3_whereIs 108 = .ok (.iload 4, 2) := by decide +kernel
theorem dX3_whereIs_110 : decode cX3_whereIs 110 = .ok (.ifCond .ne 7, 3) := by decide +kernel
theorem dX3_whereIs_113 : decode cX3_whereIs 113 = .ok (.iconst 1, 1) := by decide +kernel
theorem dX3_whereIs_114 : decode cX3_whereIs 114 = .ok (.goto 4, 3) := by decide +kernel
theorem dX3_whereIs_117 : decode cX3_whereIs 117 = .ok (.iconst 0, 1) := by decide +kernel
theorem dX3_whereIs_118 : decode cX3_whereIs 118 = .ok (.istore 4, 2) := by decide +kernel
theorem dX3_whereIs_120 : decode cX3_whereIs 120 = .ok (.iload 7, 2) := by decide +kernel
theorem dX3_whereIs_122 : decode cX3_whereIs 122 = .ok (.istore 11, 2) := by decide +kernel
theorem dX3_whereIs_124 : decode cX3_whereIs 124 = .ok (.iload 11, 2) := by decide +kernel
theorem dX3_whereIs_126 : decode cX3_whereIs 126 = .ok (.iload 10, 2) := by decide +kernel
theorem dX3_whereIs_128 : decode cX3_whereIs 128 = .ok (.if_icmp .ge 141, 3) := by decide +kernel
theorem dX3_whereIs_131 : decode cX3_whereIs 131 = .ok (.iload 11, 2) := by decide +kernel
theorem dX3_whereIs_133 : decode cX3_whereIs 133 = .ok (.iconst 1, 1) := by decide +kernel
theorem dX3_whereIs_134 : decode cX3_whereIs 134 = .ok (.iadd, 1) := by decide +kernel
theorem dX3_whereIs_135 : decode cX3_whereIs 135 = .ok (.iload 10, 2) := by decide +kernel
theorem dX3_whereIs_137 : decode cX3_whereIs 137 = .ok (.if_icmp .ge 10, 3) := by decide +kernel
theorem dX3_whereIs_140 : decode cX3_whereIs 140 = .ok (.iload 11, 2) := by decide +kernel
theorem dX3_whereIs_142 : decode cX3_whereIs 142 = .ok (.iconst 1, 1) := by decide +kernel
theorem dX3_whereIs_143 : decode cX3_whereIs 143 = .ok (.iadd, 1) := by decide +kernel
theorem dX3_whereIs_144 : decode cX3_whereIs 144 = .ok (.goto 5, 3) := by decide +kernel
theorem dX3_whereIs_147 : decode cX3_whereIs 147 = .ok (.iload 7, 2) := by decide +kernel
theorem dX3_whereIs_149 : decode cX3_whereIs 149 = .ok (.istore 12, 2) := by decide +kernel
theorem dX3_whereIs_151 : decode cX3_whereIs 151 = .ok (.aload_n 0, 1) := by decide +kernel
theorem dX3_whereIs_152 : decode cX3_whereIs 152 = .ok (.iload 11, 2) := by decide +kernel
theorem dX3_whereIs_154 : decode cX3_whereIs 154 = .ok (.iload 12, 2) := by decide +kernel
theorem dX3_whereIs_156 : decode cX3_whereIs 156 = .ok (.invokevirtual 85, 3) := by decide +kernel
theorem dX3_whereIs_159 : decode cX3_whereIs 159 = .ok (.ifCond .ne 104, 3) := by decide +kernel
theorem dX3_whereIs_162 : decode cX3_whereIs 162 = .ok (.iload 12, 2) := by decide +kernel
theorem dX3_whereIs_164 : decode cX3_whereIs 164 = .ok (.iload 7, 2) := by decide +kernel
theorem dX3_whereIs_166 : decode cX3_whereIs 166 = .ok (.if_icmp .ne 10, 3) := by decide +kernel
theorem dX3_whereIs_169 : decode cX3_whereIs 169 = .ok (.iload_n 3, 1) := by decide +kernel
theorem dX3_whereIs_170 : decode cX3_whereIs 170 = .ok (.ifCond .ne 6, 3) := by decide +kernel
theorem dX3_whereIs_173 : decode cX3_whereIs 173 = .ok (.goto 90, 3) := by decide +kernel
theorem dX3_whereIs_176 : decode cX3_whereIs 176 = .ok (.aload_n 0, 1) := by decide +kernel
theorem dX3_whereIs_177 : decode cX3_whereIs 177 = .ok (.getfield 89, 3) := by decide +kernel
theorem dX3_whereIs_180 : decode cX3_whereIs 180 = .ok (.iload 11, 2) := by decide +kernel
theorem dX3_whereIs_182 : decode cX3_whereIs 182 = .ok (.iaload, 1) := by decide +kernel
theorem dX3_whereIs_183 : decode cX3_whereIs 183 = .ok (.aload_n 0, 1) := by decide +kernel
theorem dX3_whereIs_184 : decode cX3_whereIs 184 = .ok (.getfield 92, 3) := by decide +kernel
theorem dX3_whereIs_187 : decode cX3_whereIs 187 = .ok (.iload 11, 2) := by decide +kernel
theorem dX3_whereIs_189 : decode cX3_whereIs 189 = .ok (.iaload, 1) := by decide +kernel
theorem dX3_whereIs_190 : decode cX3_whereIs 190 = .ok (.aload_n 0, 1) := by decide +kernel
theorem dX3_whereIs_191 : decode cX3_whereIs 191 = .ok (.getfield 89, 3) := by decide +kernel
theorem dX3_whereIs_194 : decode cX3_whereIs 194 = .ok (.iload 12, 2) := by decide +kernel
theorem dX3_whereIs_196 : decode cX3_whereIs 196 = .ok (.iaload, 1) := by decide +kernel
theorem dX3_whereIs_197 : decode cX3_whereIs 197 = .ok (.aload_n 0, 1) := by decide +kernel
theorem dX3_whereIs_198 : decode cX3_whereIs 198 = .ok (.getfield 92, 3) := by decide +kernel
theorem dX3_whereIs_201 : decode cX3_whereIs 201 = .ok (.iload 12, 2) := by decide +kernel
theorem dX3_whereIs_203 : decode cX3_whereIs 203 = .ok (.iaload, 1) := by decide +kernel
theorem dX3_whereIs_204 : decode cX3_whereIs 204 = .ok (.iload_n 1, 1) := by decide +kernel
theorem dX3_whereIs_205 : decode cX3_whereIs 205 = .ok (.iload_n 2, 1) := by decide +kernel
theorem dX3_whereIs_206 : decode cX3_whereIs 206 = .ok (.invokestatic 95, 3) := by decide +kernel
theorem dX3_whereIs_209 : decode cX3_whereIs 209 = .ok (.ifCond .eq 6, 3) := by decide +kernel
theorem dX3_whereIs_212 : decode cX3_whereIs 212 = .ok (.iconst 1, 1) := by decide +kernel
theorem dX3_whereIs_213 : decode cX3_whereIs 213 = .ok (.istore 5, 2) := by decide +kernel
theorem dX3_whereIs_215 : decode cX3_whereIs 215 = .ok (.aload_n 0, 1) := by decide +kernel
theorem dX3_whereIs_216 : decode cX3_whereIs 216 = .ok (.getfield 89, 3) := by decide +kernel
theorem dX3_whereIs_219 : decode cX3_whereIs 219 = .ok (.iload 11, 2) := by decide +kernel
theorem dX3_whereIs_221 : decode cX3_whereIs 221 = .ok (.iaload, 1) := by decide +kernel
theorem dX3_whereIs_222 : decode cX3_whereIs 222 = .ok (.aload_n 0, 1) := by decide +kernel
theorem dX3_whereIs_223 : decode cX3_whereIs 223 = .ok (.getfield 92, 3) := by decide +kernel
theorem dX3_whereIs_226 : decode cX3_whereIs 226 = .ok (.iload 11, 2) := by decide +kernel
theorem dX3_whereIs_228 : decode cX3_whereIs 228 = .ok (.iaload, 1) := by decide +kernel
theorem dX3_whereIs_229 : decode cX3_whereIs 229 = .ok (.aload_n 0, 1) := by decide +kernel
theorem dX3_whereIs_230 : decode cX3_whereIs 230 = .ok (.getfield 89, 3) := by decide +kernel
theorem dX3_whereIs_233 : decode cX3_whereIs 233 = .ok (.iload 12, 2) := by decide +kernel
theorem dX3_whereIs_235 : decode cX3_whereIs 235 = .ok (.iaload, 1) := by decide +kernel
theorem dX3_whereIs_236 : decode cX3_whereIs 236 = .ok (.aload_n 0, 1) := by decide +kernel
theorem dX3_whereIs_237 : decode cX3_whereIs 237 = .ok (.getfield 92, 3) := by decide +kernel
theorem dX3_whereIs_240 : decode cX3_whereIs 240 = .ok (.iload 12, 2) := by decide +kernel
theorem dX3_whereIs_242 : decode cX3_whereIs 242 = .ok (.iaload, 1) := by decide +kernel
theorem dX3_whereIs_243 : decode cX3_whereIs 243 = .ok (.iload_n 1, 1) := by decide +kernel
theorem dX3_whereIs_244 : decode cX3_whereIs 244 = .ok (.iload_n 2, 1) := by decide +kernel
theorem dX3_whereIs_245 : decode cX3_whereIs 245 = .ok (.invokestatic 99, 3) := by decide +kernel
theorem dX3_whereIs_248 : decode cX3_whereIs 248 = .ok (.ifCond .eq 15, 3) := by decide +kernel
theorem dX3_whereIs_251 : decode cX3_whereIs 251 = .ok (.iload 6, 2) := by decide +kernel
theorem dX3_whereIs_253 : decode cX3_whereIs 253 = .ok (.ifCond .ne 7, 3) := by decide +kernel
theorem dX3_whereIs_256 : decode cX3_whereIs 256 = .ok (.iconst 1, 1) := by decide +kernel
theorem dX3_whereIs_257 : decode cX3_whereIs 257 = .ok (.goto 4, 3) := by decide +kernel
theorem dX3_whereIs_260 : decode cX3_whereIs 260 = .ok (.iconst 0, 1) := by decide +kernel
theorem dX3_whereIs_261 : decode cX3_whereIs 261 = .ok (.istore 6, 2) := by decide +kernel
theorem dX3_whereIs_263 : decode cX3_whereIs 263 = .ok (.iinc 11 1, 3) := by decide +kernel
theorem dX3_whereIs_266 : decode cX3_whereIs 266 = .ok (.goto (-142), 3) := by decide +kernel
theorem dX3_whereIs_269 : decode cX3_whereIs 269 = .ok (.iload 10, 2) := by decide +kernel
theorem dX3_whereIs_271 : decode cX3_whereIs 271 = .ok (.istore 7, 2) := by decide +kernel
theorem dX3_whereIs_273 : decode cX3_whereIs 273 = .ok (.iinc 9 1, 3) := by decide +kernel
theorem dX3_whereIs_276 : decode cX3_whereIs 276 = .ok (.goto (-220), 3) := by decide +kernel
theorem dX3_whereIs_279 : decode cX3_whereIs 279 = .ok (.aload_n 0, 1) := by decide +kernel
theorem dX3_whereIs_280 : decode cX3_whereIs 280 = .ok (.iload 8, 2) := by decide +kernel
theorem dX3_whereIs_282 : decode cX3_whereIs 282 = .ok (.invokevirtual 67, 3) := by decide +kernel
theorem dX3_whereIs_285 : decode cX3_whereIs 285 = .ok (.istore 8, 2) := by decide +kernel
theorem dX3_whereIs_287 : decode cX3_whereIs 287 = .ok (.goto (-245), 3) := by decide +kernel
theorem dX3_whereIs_290 : decode cX3_whereIs 290 = .ok (.iload_n 3, 1) := by decide +kernel
theorem dX3_whereIs_291 : decode cX3_whereIs 291 = .ok (.ifCond .eq 23, 3) := by decide +kernel
theorem dX3_whereIs_294 : decode cX3_whereIs 294 = .ok (.iload 5, 2) := by decide +kernel
theorem dX3_whereIs_296 : decode cX3_whereIs 296 = .ok (.ifCond .eq 7, 3) := by decide +kernel
theorem dX3_whereIs_299 : decode cX3_whereIs 299 = .ok (.iconst 1, 1) := by decide +kernel
theorem dX3_whereIs_300 : decode cX3_whereIs 300 = .ok (.goto 13, 3) := by decide +kernel
theorem dX3_whereIs_303 : decode cX3_whereIs 303 = .ok (.iload 6, 2) := by decide +kernel
theorem dX3_whereIs_305 : decode cX3_whereIs 305 = .ok (.ifCond .eq 7, 3) := by decide +kernel
theorem dX3_whereIs_308 : decode cX3_whereIs 308 = .ok (.iconst 0, 1) := by decide +kernel
theorem dX3_whereIs_309 : decode cX3_whereIs 309 = .ok (.goto 4, 3) := by decide +kernel
theorem dX3_whereIs_312 : decode cX3_whereIs 312 = .ok (.iconst 2, 1) := by decide +kernel
theorem dX3_whereIs_313 : decode cX3_whereIs 313 = .ok (.ireturn, 1) := by decide +kernel
theorem dX3_whereIs_314 : decode cX3_whereIs 314 = .ok (.iload 4, 2) := by decide +kernel
theorem dX3_whereIs_316 : decode cX3_whereIs 316 = .ok (.ifCond .eq 7, 3) := by decide +kernel
theorem dX3_whereIs_319 : decode cX3_whereIs 319 = .ok (.iconst 1, 1) := by decide +kernel
theorem dX3_whereIs_320 : decode cX3_whereIs 320 = .ok (.goto 13, 3) := by decide +kernel
theorem dX3_whereIs_323 : decode cX3_whereIs 323 = .ok (.iload 5, 2) := by decide +kernel
theorem dX3_whereIs_325 : decode cX3_whereIs 325 = .ok (.ifCond .eq 7, 3) := by decide +kernel
theorem dX3_whereIs_328 : decode cX3_whereIs 328 = .ok (.iconst 0, 1) := by decide +kernel
theorem dX3_whereIs_329 : decode cX3_whereIs 329 = .ok (.goto 4, 3) := by decide +kernel
theorem dX3_whereIs_332 : decode cX3_whereIs 332 = .ok (.iconst 2, 1) := by decide +kernel
theorem dX3_whereIs_333 : decode cX3_whereIs 333 = .ok (.ireturn, 1) := by decide +kernel
theorem dX3_hasPoint_0 : decode cX3_hasPoint 0 = .ok (.iconst 0, 1) := by decide +kernel
theorem dX3_hasPoint_1 : decode cX3_hasPoint 1 = .ok (.istore_n 3, 1) := by decide +kernel
theorem dX3_hasPoint_2 : decode cX3_hasPoint 2 = .ok (.iload_n 3, 1) := by decide +kernel
theorem dX3_hasPoint_3 : decode cX3_hasPoint 3 = .ok (.aload_n 0, 1) := by decide +kernel
theorem dX3_hasPoint_4 : decode cX3_hasPoint 4 = .ok (.getfield 102, 3) := by decide +kernel
theorem dX3_hasPoint_7 : decode cX3_hasPoint 7 = .ok (.if_icmp .ge 21, 3) := by decide +kernel
theorem dX3_hasPoint_10 : decode cX3_hasPoint 10 = .ok (.aload_n 0, 1) := by decide +kernel
theorem dX3_hasPoint_11 : decode cX3_hasPoint 11 = .ok (.iload_n 3, 1) := by decide +kernel
theorem dX3_hasPoint_12 : decode cX3_hasPoint 12 = .ok (.iload_n 1, 1) := by decide +kernel
theorem dX3_hasPoint_13 : decode cX3_hasPoint 13 = .ok (.iload_n 2, 1) := by decide +kernel
theorem dX3_hasPoint_14 : decode cX3_hasPoint 14 = .ok (.invokevirtual 81, 3) := by decide +kernel
theorem dX3_hasPoint_17 : decode cX3_hasPoint 17 = .ok (.ifCond .eq 5, 3) := by decide +kernel
theorem dX3_hasPoint_20 : decode cX3_hasPoint 20 = .ok (.iconst 1, 1) := by decide +kernel
theorem dX3_hasPoint_21 : decode cX3_hasPoint 21 = .ok (.ireturn, 1) := by decide +kernel
theorem dX3_hasPoint_22 : decode cX3_hasPoint 22 = .ok (.iinc 3 1, 3) := by decide +kernel
theorem dX3_hasPoint_25 : decode cX3_hasPoint 25 = .ok (.goto (-23), 3) := by decide +kernel
theorem dX3_hasPoint_28 : decode cX3_hasPoint 28 = .ok (.iconst 0, 1) := by decide +kernel
theorem dX3_hasPoint_29 : decode cX3_hasPoint 29 = .ok (.ireturn, 1) := by decide +kernel
theorem dX3_fillMatrix_0 : decode cX3_fillMatrix 0 = .ok (.aload_n 0, 1) := by decide +kernel
theorem dX3_fillMatrix_1 : decode cX3_fillMatrix 1 = .ok (.getfield 16, 3) := by decide +kernel
theorem dX3_fillMatrix_4 : decode cX3_fillMatrix 4 = .ok (.iconst 0, 1) := by decide +kernel
theorem dX3_fillMatrix_5 : decode cX3_fillMatrix 5 = .ok (.putfield 105, 3) := by decide +kernel
theorem dX3_fillMatrix_8 : decode cX3_fillMatrix 8 = .ok (.aload_n 1, 1) := by decide +kernel
theorem dX3_fillMatrix_9 : decode cX3_fillMatrix 9 = .ok (.invokestatic 108, 3) := by decide +kernel
theorem dX3_fillMatrix_12 : decode cX3_fillMatrix 12 = .ok (.ifCond .ne 35, 3) := by decide +kernel
theorem dX3_fillMatrix_15 : decode cX3_fillMatrix 15 = .ok (.aload_n 2, 1) := by decide +kernel
theorem dX3_fillMatrix_16 : decode cX3_fillMatrix 16 = .ok (.invokestatic 108, 3) := by decide +kernel
theorem dX3_fillMatrix_19 : decode cX3_fillMatrix 19 = .ok (.ifCond .ne 28, 3) := by decide +kernel
theorem dX3_fillMatrix_22 : decode cX3_fillMatrix 22 = .ok (.aload_n 0, 1) := by decide +kernel
theorem dX3_fillMatrix_23 : decode cX3_fillMatrix 23 = .ok (.aload_n 1, 1) := by decide +kernel
theorem dX3_fillMatrix_24 : decode cX3_fillMatrix 24 = .ok (.iconst 0, 1) := by decide +kernel
theorem dX3_fillMatrix_25 : decode cX3_fillMatrix 25 = .ok (.invokevirtual 111, 3) := by decide +kernel
theorem dX3_fillMatrix_28 : decode cX3_fillMatrix 28 = .ok (.ifCond .eq 19, 3) := by decide +kernel
theorem dX3_fillMatrix_31 : decode cX3_fillMatrix 31 = .ok (.aload_n 0, 1) := by decide +kernel
theorem dX3_fillMatrix_32 : decode cX3_fillMatrix 32 = .ok (.aload_n 2, 1) := by decide +kernel
theorem dX3_fillMatrix_33 : decode cX3_fillMatrix 33 = .ok (.iconst 1, 1) := by decide +kernel
theorem dX3_fillMatrix_34 : decode cX3_fillMatrix 34 = .ok (.invokevirtual 111, 3) := by decide +kernel
theorem dX3_fillMatrix_37 : decode cX3_fillMatrix 37 = .ok (.ifCond .eq 10, 3) := by decide +kernel
theorem dX3_fillMatrix_40 : decode cX3_fillMatrix 40 = .ok (.aload_n 0, 1) := by decide +kernel
theorem dX3_fillMatrix_41 : decode cX3_fillMatrix 41 = .ok (.invokevirtual 115, 3) := by decide +kernel
theorem dX3_fillMatrix_44 : decode cX3_fillMatrix 44 = .ok (.ifCond .eq 5, 3) := by decide +kernel
theorem dX3_fillMatrix_47 : decode cX3_fillMatrix 47 = .ok (.iconst 0, 1) := by decide +kernel
theorem dX3_fillMatrix_48 : decode cX3_fillMatrix 48 = .ok (.ireturn, 1) := by decide +kernel
theorem dX3_fillMatrix_49 : decode cX3_fillMatrix 49 = .ok (.getstatic 119, 3) := by decide +kernel
theorem dX3_fillMatrix_52 : decode cX3_fillMatrix 52 = .ok (.iconst 0, 1) := by decide +kernel
theorem dX3_fillMatrix_53 : decode cX3_fillMatrix 53 = .ok (.aload_n 0, 1) := by decide +kernel
theorem dX3_fillMatrix_54 : decode cX3_fillMatrix 54 = .ok (.getfield 20, 3) := by decide +kernel
theorem dX3_fillMatrix_57 : decode cX3_fillMatrix 57 = .ok (.iconst 0, 1) := by decide +kernel
theorem dX3_fillMatrix_58 : decode cX3_fillMatrix 58 = .ok (.aload_n 0, 1) := by decide +kernel
theorem dX3_fillMatrix_59 : decode cX3_fillMatrix 59 = .ok (.getfield 20, 3) := by decide +kernel
theorem dX3_fillMatrix_62 : decode cX3_fillMatrix 62 = .ok (.arraylength, 1) := by decide +kernel
theorem dX3_fillMatrix_63 : decode cX3_fillMatrix 63 = .ok (.invokestatic 122, 3) := by decide +kernel
theorem dX3_fillMatrix_66 : decode cX3_fillMatrix 66 = .ok (.aload_n 0, 1) := by decide +kernel
theorem dX3_fillMatrix_67 : decode cX3_fillMatrix 67 = .ok (.iconst 0, 1) := by decide +kernel
theorem dX3_fillMatrix_68 : decode cX3_fillMatrix 68 = .ok (.putfield 128, 3) := by decide +kernel
theorem dX3_fillMatrix_71 : decode cX3_fillMatrix 71 = .ok (.aload_n 0, 1) := by decide +kernel
theorem dX3_fillMatrix_72 : decode cX3_fillMatrix 72 = .ok (.aload_n 1, 1) := by decide +kernel
theorem dX3_fillMatrix_73 : decode cX3_fillMatrix 73 = .ok (.iconst 0, 1) := by decide +kernel
theorem dX3_fillMatrix_74 : decode cX3_fillMatrix 74 = .ok (.invokevirtual 131, 3) := by decide +kernel
theorem dX3_fillMatrix_77 : decode cX3_fillMatrix 77 = .ok (.aload_n 0, 1) := by decide +kernel
theorem dX3_fillMatrix_78 : decode cX3_fillMatrix 78 = .ok (.aload_n 2, 1) := by decide +kernel
theorem dX3_fillMatrix_79 : decode cX3_fillMatrix 79 = .ok (.iconst 1, 1) := by decide +kernel
theorem dX3_fillMatrix_80 : decode cX3_fillMatrix 80 = .ok (.invokevirtual 131, 3) := by decide +kernel
theorem dX3_fillMatrix_83 : decode cX3_fillMatrix 83 = .ok (.iconst 0, 1) := by decide +kernel
theorem dX3_fillMatrix_84 : decode cX3_fillMatrix 84 = .ok (.istore_n 3, 1) := by decide +kernel
theorem dX3_fillMatrix_85 : decode cX3_fillMatrix 85 = .ok (.iload_n 3, 1) := by decide +kernel
theorem dX3_fillMatrix_86 : decode cX3_fillMatrix 86 = .ok (.aload_n 0, 1) := by decide +kernel
theorem dX3_fillMatrix_87 : decode cX3_fillMatrix 87 = .ok (.getfield 16, 3) := by decide +kernel
theorem dX3_fillMatrix_90 : decode cX3_fillMatrix 90 = .ok (.getfield 105, 3) := by decide +kernel
theorem dX3_fillMatrix_93 : decode cX3_fillMatrix 93 = .ok (.if_icmp .ge 16, 3) := by decide +kernel
theorem dX3_fillMatrix_96 : decode cX3_fillMatrix 96 = .ok (.aload_n 0, 1) := by decide +kernel
theorem dX3_fillMatrix_97 : decode cX3_fillMatrix 97 = .ok (.aload_n 1, 1) := by decide +kernel
theorem dX3_fillMatrix_98 : decode cX3_fillMatrix 98 = .ok (.aload_n 2, 1) := by decide +kernel
theorem dX3_fillMatrix_99 : decode cX3_fillMatrix 99 = .ok (.iload_n 3, 1) := by decide +kernel
theorem dX3_fillMatrix_100 : decode cX3_fillMatrix 100 = .ok (.invokevirtual 135, 3) := by decide +kernel
theorem dX3_fillMatrix_103 : decode cX3_fillMatrix 103 = .ok (.iinc 3 1, 3) := by decide +kernel
theorem dX3_fillMatrix_106 : decode cX3_fillMatrix 106 = .ok (.goto (-21), 3) := by decide +kernel
theorem dX3_fillMatrix_109 : decode cX3_fillMatrix 109 = .ok (.aload_n 0, 1) := by decide +kernel
theorem dX3_fillMatrix_110 : decode cX3_fillMatrix 110 = .ok (.aload_n 1, 1) := by decide +kernel
theorem dX3_fillMatrix_111 : decode cX3_fillMatrix 111 = .ok (.aload_n 2, 1) := by decide +kernel
theorem dX3_fillMatrix_112 : decode cX3_fillMatrix 112 = .ok (.invokevirtual 139, 3) := by decide +kernel
theorem dX3_fillMatrix_115 : decode cX3_fillMatrix 115 = .ok (.iconst 0, 1) := by decide +kernel
theorem dX3_fillMatrix_116 : decode cX3_fillMatrix 116 = .ok (.istore_n 3, 1) := by decide +kernel
theorem dX3_fillMatrix_117 : decode cX3_fillMatrix 117 = .ok (.iload_n 3, 1) := by decide +kernel
theorem dX3_fillMatrix_118 : decode cX3_fillMatrix 118 = .ok (.aload_n 0, 1) := by decide +kernel
theorem dX3_fillMatrix_119 : decode cX3_fillMatrix 119 = .ok (.getfield 128, 3) := by decide +kernel
theorem dX3_fillMatrix_122 : decode cX3_fillMatrix 122 = .ok (.if_icmp .ge 80, 3) := by decide +kernel
theorem dX3_fillMatrix_125 : decode cX3_fillMatrix 125 = .ok (.aload_n 0, 1) := by decide +kernel
theorem dX3_fillMatrix_126 : decode cX3_fillMatrix 126 = .ok (.getfield 34, 3) := by decide +kernel
theorem dX3_fillMatrix_129 : decode cX3_fillMatrix 129 = .ok (.iload_n 3, 1) := by decide +kernel
theorem dX3_fillMatrix_130 : decode cX3_fillMatrix 130 = .ok (.iaload, 1) := by decide +kernel
theorem dX3_fillMatrix_131 : decode cX3_fillMatrix 131 = .ok (.ifCond .ne 7, 3) := by decide +kernel
theorem dX3_fillMatrix_134 : decode cX3_fillMatrix 134 = .ok (.iconst 1, 1) := by decide +kernel
theorem dX3_fillMatrix_135 : decode cX3_fillMatrix 135 = .ok (.goto 4, 3) := by decide +kernel
theorem dX3_fillMatrix_138 : decode cX3_fillMatrix 138 = .ok (.iconst 0, 1) := by decide +kernel
theorem dX3_fillMatrix_139 : decode cX3_fillMatrix 139 = .ok (.istore 4, 2) := by decide +kernel
theorem dX3_fillMatrix_141 : decode cX3_fillMatrix 141 = .ok (.aload_n 0, 1) := by decide +kernel
theorem dX3_fillMatrix_142 : decode cX3_fillMatrix 142 = .ok (.iload 4, 2) := by decide +kernel
theorem dX3_fillMatrix_144 : decode cX3_fillMatrix 144 = .ok (.ifCond .eq 7, 3) := by decide +kernel
theorem dX3_fillMatrix_147 : decode cX3_fillMatrix 147 = .ok (.iconst 1, 1) := by decide +kernel
theorem dX3_fillMatrix_148 : decode cX3_fillMatrix 148 = .ok (.goto 19, 3) := by decide +kernel
theorem dX3_fillMatrix_151 : decode cX3_fillMatrix 151 = .ok (.aload_n 1, 1) := by decide +kernel
theorem dX3_fillMatrix_152 : decode cX3_fillMatrix 152 = .ok (.aload_n 0, 1) := by decide +kernel
theorem dX3_fillMatrix_153 : decode cX3_fillMatrix 153 = .ok (.getfield 28, 3) := by decide +kernel
theorem dX3_fillMatrix_156 : decode cX3_fillMatrix 156 = .ok (.iload_n 3, 1) := by decide +kernel
theorem dX3_fillMatrix_157 : decode cX3_fillMatrix 157 = .ok (.iaload, 1) := by decide +kernel
theorem dX3_fillMatrix_158 : decode cX3_fillMatrix 158 = .ok (.aload_n 0, 1) := by decide +kernel
theorem dX3_fillMatrix_159 : decode cX3_fillMatrix 159 = .ok (.getfield 31, 3) := by decide +kernel
theorem dX3_fillMatrix_162 : decode cX3_fillMatrix 162 = .ok (.iload_n 3, 1) := by decide +kernel
theorem dX3_fillMatrix_163 : decode cX3_fillMatrix 163 = .ok (.iaload, 1) := by decide +kernel
theorem dX3_fillMatrix_164 : decode cX3_fillMatrix 164 = .ok (.invokestatic 143, 3) := by decide +kernel
theorem dX3_fillMatrix_167 : decode cX3_fillMatrix 167 = .ok (.iload 4, 2) := by decide +kernel
theorem dX3_fillMatrix_169 : decode cX3_fillMatrix 169 = .ok (.ifCond .eq 22, 3) := by decide +kernel
theorem dX3_fillMatrix_172 : decode cX3_fillMatrix 172 = .ok (.aload_n 2, 1) := by decide +kernel
theorem dX3_fillMatrix_173 : decode cX3_fillMatrix 173 = .ok (.aload_n 0, 1) := by decide +kernel
theorem dX3_fillMatrix_174 : decode cX3_fillMatrix 174 = .ok (.getfield 28, 3) := by decide +kernel
theorem dX3_fillMatrix_177 : decode cX3_fillMatrix 177 = .ok (.iload_n 3, 1) := by decide +kernel
theorem dX3_fillMatrix_178 : decode cX3_fillMatrix 178 = .ok (.iaload, 1) := by decide +kernel
theorem dX3_fillMatrix_179 : decode cX3_fillMatrix 179 = .ok (.aload_n 0, 1) := by decide +kernel
theorem dX3_fillMatrix_180 : decode cX3_fillMatrix 180 = .ok (.getfield 31, 3) := by decide +kernel
theorem dX3_fillMatrix_183 : decode cX3_fillMatrix 183 = .ok (.iload_n 3, 1) := by decide +kernel
theorem dX3_fillMatrix_184 : decode cX3_fillMatrix 184 = .ok (.iaload, 1) := by decide +kernel
theorem dX3_fillMatrix_185 : decode cX3_fillMatrix 185 = .ok (.invokestatic 143, 3) := by decide +kernel
theorem dX3_fillMatrix_188 : decode cX3_fillMatrix 188 = .ok (.goto 4, 3) := by decide +kernel
theorem dX3_fillMatrix_191 : decode cX3_fillMatrix 191 = .ok (.iconst 1, 1) := by decide +kernel
theorem dX3_fillMatrix_192 : decode cX3_fillMatrix 192 = .ok (.iconst 0, 1) := by decide +kernel
theorem dX3_fillMatrix_193 : decode cX3_fillMatrix 193 = .ok (.invokevirtual 147, 3) := by decide +kernel
theorem dX3_fillMatrix_196 : decode cX3_fillMatrix 196 = .ok (.iinc 3 1, 3) := by decide +kernel
theorem dX3_fillMatrix_199 : decode cX3_fillMatrix 199 = .ok (.goto (-82), 3) := by decide +kernel
theorem dX3_fillMatrix_202 : decode cX3_fillMatrix 202 = .ok (.aload_n 0, 1) := by decide +kernel
theorem dX3_fillMatrix_203 : decode cX3_fillMatrix 203 = .ok (.aload_n 1, 1) := by decide +kernel
theorem dX3_fillMatrix_204 : decode cX3_fillMatrix 204 = .ok (.aload_n 2, 1) := by decide +kernel
theorem dX3_fillMatrix_205 : decode cX3_fillMatrix 205 = .ok (.invokevirtual 151, 3) := by decide +kernel
theorem dX3_fillMatrix_208 : decode cX3_fillMatrix 208 = .ok (.iconst 1, 1) := by decide +kernel
theorem dX3_fillMatrix_209 : decode cX3_fillMatrix 209 = .ok (.ireturn, 1) := by decide +kernel
theorem dX3_raise_0 : decode cX3_raise 0 = .ok (.iconst 3, 1) := by decide +kernel
theorem dX3_raise_1 : decode cX3_raise 1 = .ok (.iload_n 1, 1) := by decide +kernel
theorem dX3_raise_2 : decode cX3_raise 2 = .ok (.imul, 1) := by decide +kernel
theorem dX3_raise_3 : decode cX3_raise 3 = .ok (.iload_n 2, 1) := by decide +kernel
theorem dX3_raise_4 : decode cX3_raise 4 = .ok (.iadd, 1) := by decide +kernel
theorem dX3_raise_5 : decode cX3_raise 5 = .ok (.istore 4, 2) := by decide +kernel
theorem dX3_raise_7 : decode cX3_raise 7 = .ok (.aload_n 0, 1) := by decide +kernel
theorem dX3_raise_8 : decode cX3_raise 8 = .ok (.getfield 20, 3) := by decide +kernel
theorem dX3_raise_11 : decode cX3_raise 11 = .ok (.iload 4, 2) := by decide +kernel
theorem dX3_raise_13 : decode cX3_raise 13 = .ok (.aload_n 0, 1) := by decide +kernel
theorem dX3_raise_14 : decode cX3_raise 14 = .ok (.getfield 20, 3) := by decide +kernel
theorem dX3_raise_17 : decode cX3_raise 17 = .ok (.iload 4, 2) := by decide +kernel
theorem dX3_raise_19 : decode cX3_raise 19 = .ok (.iaload, 1) := by decide +kernel
theorem dX3_raise_20 : decode cX3_raise 20 = .ok (.iload_n 3, 1) := by decide +kernel
theorem dX3_raise_21 : decode cX3_raise 21 = .ok (.invokestatic 154, 3) := by decide +kernel
theorem dX3_raise_24 : decode cX3_raise 24 = .ok (.iastore, 1) := by decide +kernel
theorem dX3_raise_25 : decode cX3_raise 25 = .ok (.return_, 1) := by decide +kernel
theorem dX3_collect_0 : decode cX3_collect 0 = .ok (.aload_n 1, 1) := by decide +kernel
theorem dX3_collect_1 : decode cX3_collect 1 = .ok (.invokestatic 55, 3) := by decide +kernel
theorem dX3_collect_4 : decode cX3_collect 4 = .ok (.ifCond .eq 5, 3) := by decide +kernel
theorem dX3_collect_7 : decode cX3_collect 7 = .ok (.iconst 1, 1) := by decide +kernel
theorem dX3_collect_8 : decode cX3_collect 8 = .ok (.ireturn, 1) := by decide +kernel
theorem dX3_collect_9 : decode cX3_collect 9 = .ok (.iconst 0, 1) := by decide +kernel
theorem dX3_collect_10 : decode cX3_collect 10 = .ok (.istore_n 3, 1) := by decide +kernel
theorem dX3_collect_11 : decode cX3_collect 11 = .ok (.iconst 0, 1) := by decide +kernel
theorem dX3_collect_12 : decode cX3_collect 12 = .ok (.istore 4, 2) := by decide +kernel
theorem dX3_collect_14 : decode cX3_collect 14 = .ok (.iload 4, 2) := by decide +kernel
theorem dX3_collect_16 : decode cX3_collect 16 = .ok (.iconst 1, 1) := by decide +kernel
theorem dX3_collect_17 : decode cX3_collect 17 = .ok (.iadd, 1) := by decide +kernel
theorem dX3_collect_18 : decode cX3_collect 18 = .ok (.aload_n 1, 1) := by decide +kernel
theorem dX3_collect_19 : decode cX3_collect 19 = .ok (.getfield 59, 3) := by decide +kernel
theorem dX3_collect_22 : decode cX3_collect 22 = .ok (.if_icmp .ge 129, 3) := by decide +kernel
theorem dX3_collect_25 : decode cX3_collect 25 = .ok (.iconst 0, 1) := by decide +kernel
theorem dX3_collect_26 : decode cX3_collect 26 = .ok (.istore 5, 2) := by decide +kernel
theorem dX3_collect_28 : decode cX3_collect 28 = .ok (.iload 5, 2) := by decide +kernel
theorem dX3_collect_30 : decode cX3_collect 30 = .ok (.aload_n 1, 1) := by decide +kernel
theorem dX3_collect_31 : decode cX3_collect 31 = .ok (.iload 4, 2) := by decide +kernel
theorem dX3_collect_33 : decode cX3_collect 33 = .ok (.invokevirtual 63, 3) := by decide +kernel
theorem dX3_collect_36 : decode cX3_collect 36 = .ok (.if_icmp .ge 104, 3) := by decide +kernel
theorem dX3_collect_39 : decode cX3_collect 39 = .ok (.iload_n 3, 1) := by decide +kernel
theorem dX3_collect_40 : decode cX3_collect 40 = .ok (.aload_n 1, 1) := by decide +kernel
theorem dX3_collect_41 : decode cX3_collect 41 = .ok (.iload 4, 2) := by decide +kernel
theorem dX3_collect_43 : decode cX3_collect 43 = .ok (.iload 5, 2) := by decide +kernel
theorem dX3_collect_45 : decode cX3_collect 45 = .ok (.invokevirtual 77, 3) := by decide +kernel
theorem dX3_collect_48 : decode cX3_collect 48 = .ok (.iadd, 1) := by decide +kernel
theorem dX3_collect_49 : decode cX3_collect 49 = .ok (.istore 6, 2) := by decide +kernel
theorem dX3_collect_51 : decode cX3_collect 51 = .ok (.iload_n 3, 1) := by decide +kernel
theorem dX3_collect_52 : decode cX3_collect 52 = .ok (.istore 7, 2) := by decide +kernel
theorem dX3_collect_54 : decode cX3_collect 54 = .ok (.iload 7, 2) := by decide +kernel
theorem dX3_collect_56 : decode cX3_collect 56 = .ok (.iload 6, 2) := by decide +kernel
theorem dX3_collect_58 : decode cX3_collect 58 = .ok (.if_icmp .ge 73, 3) := by decide +kernel
theorem dX3_collect_61 : decode cX3_collect 61 = .ok (.iload 7, 2) := by decide +kernel
theorem dX3_collect_63 : decode cX3_collect 63 = .ok (.iconst 1, 1) := by decide +kernel
theorem dX3_collect_64 : decode cX3_collect 64 = .ok (.iadd, 1) := by decide +kernel
theorem dX3_collect_65 : decode cX3_collect 65 = .ok (.iload 6, 2) := by decide +kernel
theorem dX3_collect_67 : decode cX3_collect 67 = .ok (.if_icmp .ge 10, 3) := by decide +kernel
theorem dX3_collect_70 : decode cX3_collect 70 = .ok (.iload 7, 2) := by decide +kernel
theorem dX3_collect_72 : decode cX3_collect 72 = .ok (.iconst 1, 1) := by decide +kernel
theorem dX3_collect_73 : decode cX3_collect 73 = .ok (.iadd, 1) := by decide +kernel
theorem dX3_collect_74 : decode cX3_collect 74 = .ok (.goto 4, 3) := by decide +kernel
theorem dX3_collect_77 : decode cX3_collect 77 = .ok (.iload_n 3, 1) := by decide +kernel
theorem dX3_collect_78 : decode cX3_collect 78 = .ok (.istore 8, 2) := by decide +kernel
theorem dX3_collect_80 : decode cX3_collect 80 = .ok (.aload_n 1, 1) := by decide +kernel
theorem dX3_collect_81 : decode cX3_collect 81 = .ok (.iload 7, 2) := by decide +kernel
theorem dX3_collect_83 : decode cX3_collect 83 = .ok (.iload 8, 2) := by decide +kernel
theorem dX3_collect_85 : decode cX3_collect 85 = .ok (.invokevirtual 85, 3) := by decide +kernel
theorem dX3_collect_88 : decode cX3_collect 88 = .ok (.ifCond .ne 37, 3) := by decide +kernel
theorem dX3_collect_91 : decode cX3_collect 91 = .ok (.iload 8, 2) := by decide +kernel
theorem dX3_collect_93 : decode cX3_collect 93 = .ok (.iload_n 3, 1) := by decide +kernel
theorem dX3_collect_94 : decode cX3_collect 94 = .ok (.if_icmp .ne 13, 3) := by decide +kernel
theorem dX3_collect_97 : decode cX3_collect 97 = .ok (.aload_n 1, 1) := by decide +kernel
theorem dX3_collect_98 : decode cX3_collect 98 = .ok (.invokestatic 74, 3) := by decide +kernel
theorem dX3_collect_101 : decode cX3_collect 101 = .ok (.ifCond .ne 6, 3) := by decide +kernel
theorem dX3_collect_104 : decode cX3_collect 104 = .ok (.goto 21, 3) := by decide +kernel
theorem dX3_collect_107 : decode cX3_collect 107 = .ok (.aload_n 0, 1) := by decide +kernel
theorem dX3_collect_108 : decode cX3_collect 108 = .ok (.getfield 16, 3) := by decide +kernel
theorem dX3_collect_111 : decode cX3_collect 111 = .ok (.aload_n 1, 1) := by decide +kernel
theorem dX3_collect_112 : decode cX3_collect 112 = .ok (.iload 7, 2) := by decide +kernel
theorem dX3_collect_114 : decode cX3_collect 114 = .ok (.iload 8, 2) := by decide +kernel
theorem dX3_collect_116 : decode cX3_collect 116 = .ok (.iload_n 2, 1) := by decide +kernel
theorem dX3_collect_117 : decode cX3_collect 117 = .ok (.invokevirtual 159, 3) := by decide +kernel
theorem dX3_collect_120 : decode cX3_collect 120 = .ok (.ifCond .ne 5, 3) := by decide +kernel
theorem dX3_collect_123 : decode cX3_collect 123 = .ok (.iconst 0, 1) := by decide +kernel
theorem dX3_collect_124 : decode cX3_collect 124 = .ok (.ireturn, 1) := by decide +kernel
theorem dX3_collect_125 : decode cX3_collect 125 = .ok (.iinc 7 1, 3) := by decide +kernel
theorem dX3_collect_128 : decode cX3_collect 128 = .ok (.goto (-74), 3) := by decide +kernel
theorem dX3_collect_131 : decode cX3_collect 131 = .ok (.iload 6, 2) := by decide +kernel
theorem dX3_collect_133 : decode cX3_collect 133 = .ok (.istore_n 3, 1) := by decide +kernel
theorem dX3_collect_134 : decode cX3_collect 134 = .ok (.iinc 5 1, 3) := by decide +kernel
theorem dX3_collect_137 : decode cX3_collect 137 = .ok (.goto (-109), 3) := by decide +kernel
theorem dX3_collect_140 : decode cX3_collect 140 = .ok (.aload_n 1, 1) := by decide +kernel
theorem dX3_collect_141 : decode cX3_collect 141 = .ok (.iload 4, 2) := by decide +kernel
theorem dX3_collect_143 : decode cX3_collect 143 = .ok (.invokevirtual 67, 3) := by decide +kernel
theorem dX3_collect_146 : decode cX3_collect 146 = .ok (.istore 4, 2) := by decide +kernel
theorem dX3_collect_148 : decode cX3_collect 148 = .ok (.goto (-134), 3) := by decide +kernel
theorem dX3_collect_151 : decode cX3_collect 151 = .ok (.iconst 1, 1) := by decide +kernel
theorem dX3_collect_152 : decode cX3_collect 152 = .ok (.ireturn, 1) := by decide +kernel
theorem dX3_hasTooManyMeetings_0 : decode cX3_hasTooManyMeetings 0 = .ok (.iconst 0, 1) := by decide +kernel
theorem dX3_hasTooManyMeetings_1 : decode cX3_hasTooManyMeetings 1 = .ok (.istore_n 1, 1) := by decide +kernel
theorem dX3_hasTooManyMeetings_2 : decode cX3_hasTooManyMeetings 2 = .ok (.iconst 0, 1) := by decide +kernel
theorem dX3_hasTooManyMeetings_3 : decode cX3_hasTooManyMeetings 3 = .ok (.istore_n 2, 1) := by decide +kernel
theorem dX3_hasTooManyMeetings_4 : decode cX3_hasTooManyMeetings 4 = .ok (.iload_n 2, 1) := by decide +kernel
theorem dX3_hasTooManyMeetings_5 : decode cX3_hasTooManyMeetings 5 = .ok (.aload_n 0, 1) := by decide +kernel
theorem dX3_hasTooManyMeetings_6 : decode cX3_hasTooManyMeetings 6 = .ok (.getfield 16, 3) := by decide +kernel
theorem dX3_hasTooManyMeetings_9 : decode cX3_hasTooManyMeetings 9 = .ok (.getfield 105, 3) := by decide +kernel
theorem dX3_hasTooManyMeetings_12 : decode cX3_hasTooManyMeetings 12 = .ok (.if_icmp .ge 45, 3) := by decide +kernel
theorem dX3_hasTooManyMeetings_15 : decode cX3_hasTooManyMeetings 15 = .ok (.iload_n 2, 1) := by decide +kernel
theorem dX3_hasTooManyMeetings_16 : decode cX3_hasTooManyMeetings 16 = .ok (.iconst 1, 1) := by decide +kernel
theorem dX3_hasTooManyMeetings_17 : decode cX3_hasTooManyMeetings 17 = .ok (.iadd, 1) := by decide +kernel
theorem dX3_hasTooManyMeetings_18 : decode cX3_hasTooManyMeetings 18 = .ok (.istore_n 3, 1) := by decide +kernel
theorem dX3_hasTooManyMeetings_19 : decode cX3_hasTooManyMeetings 19 = .ok (.iload_n 3, 1) := by decide +kernel
theorem dX3_hasTooManyMeetings_20 : decode cX3_hasTooManyMeetings 20 = .ok (.aload_n 0, 1) := by decide +kernel
theorem dX3_hasTooManyMeetings_21 : decode cX3_hasTooManyMeetings 21 = .ok (.getfield 16, 3) := by decide +kernel
theorem dX3_hasTooManyMeetings_24 : decode cX3_hasTooManyMeetings 24 = .ok (.getfield 105, 3) := by decide +kernel
theorem dX3_hasTooManyMeetings_27 : decode cX3_hasTooManyMeetings 27 = .ok (.if_icmp .ge 24, 3) := by decide +kernel
theorem dX3_hasTooManyMeetings_30 : decode cX3_hasTooManyMeetings 30 = .ok (.aload_n 0, 1) := by decide +kernel
theorem dX3_hasTooManyMeetings_31 : decode cX3_hasTooManyMeetings 31 = .ok (.getfield 16, 3) := by decide +kernel
theorem dX3_hasTooManyMeetings_34 : decode cX3_hasTooManyMeetings 34 = .ok (.iload_n 2, 1) := by decide +kernel
theorem dX3_hasTooManyMeetings_35 : decode cX3_hasTooManyMeetings 35 = .ok (.iload_n 3, 1) := by decide +kernel
theorem dX3_hasTooManyMeetings_36 : decode cX3_hasTooManyMeetings 36 = .ok (.invokevirtual 163, 3) := by decide +kernel
theorem dX3_hasTooManyMeetings_39 : decode cX3_hasTooManyMeetings 39 = .ok (.ifCond .eq 6, 3) := by decide +kernel
theorem dX3_hasTooManyMeetings_42 : decode cX3_hasTooManyMeetings 42 = .ok (.iinc 1 1, 3) := by decide +kernel
theorem dX3_hasTooManyMeetings_45 : decode cX3_hasTooManyMeetings 45 = .ok (.iinc 3 1, 3) := by decide +kernel
theorem dX3_hasTooManyMeetings_48 : decode cX3_hasTooManyMeetings 48 = .ok (.goto (-29), 3) := by decide +kernel
theorem dX3_hasTooManyMeetings_51 : decode cX3_hasTooManyMeetings 51 = .ok (.iinc 2 1, 3) := by decide +kernel
theorem dX3_hasTooManyMeetings_54 : decode cX3_hasTooManyMeetings 54 = .ok (.goto (-50), 3) := by decide +kernel
theorem dX3_hasTooManyMeetings_57 : decode cX3_hasTooManyMeetings 57 = .ok (.iload_n 1, 1) := by decide +kernel
theorem dX3_hasTooManyMeetings_58 : decode cX3_hasTooManyMeetings 58 = .ok (.sipush 1024, 3) := by decide +kernel
theorem dX3_hasTooManyMeetings_61 : decode cX3_hasTooManyMeetings 61 = .ok (.if_icmp .le 7, 3) := by decide +kernel
theorem dX3_hasTooManyMeetings_64 : decode cX3_hasTooManyMeetings 64 = .ok (.iconst 1, 1) := by decide +kernel
theorem dX3_hasTooManyMeetings_65 : decode cX3_hasTooManyMeetings 65 = .ok (.goto 4, 3) := by decide +kernel
theorem dX3_hasTooManyMeetings_68 : decode cX3_hasTooManyMeetings 68 = .ok (.iconst 0, 1) := by decide +kernel
theorem dX3_hasTooManyMeetings_69 : decode cX3_hasTooManyMeetings 69 = .ok (.ireturn, 1) := by decide +kernel
theorem dX3_listRims_0 : decode cX3_listRims 0 = .ok (.aload_n 1, 1) := by decide +kernel
theorem dX3_listRims_1 : decode cX3_listRims 1 = .ok (.invokestatic 166, 3) := by decide +kernel
theorem dX3_listRims_4 : decode cX3_listRims 4 = .ok (.ifCond .ne 4, 3) := by decide +kernel
theorem dX3_listRims_7 : decode cX3_listRims 7 = .ok (.return_, 1) := by decide +kernel
theorem dX3_listRims_8 : decode cX3_listRims 8 = .ok (.iconst 0, 1) := by decide +kernel
theorem dX3_listRims_9 : decode cX3_listRims 9 = .ok (.istore_n 3, 1) := by decide +kernel
theorem dX3_listRims_10 : decode cX3_listRims 10 = .ok (.iconst 0, 1) := by decide +kernel
theorem dX3_listRims_11 : decode cX3_listRims 11 = .ok (.istore 4, 2) := by decide +kernel
theorem dX3_listRims_13 : decode cX3_listRims 13 = .ok (.iconst 0, 1) := by decide +kernel
theorem dX3_listRims_14 : decode cX3_listRims 14 = .ok (.istore 5, 2) := by decide +kernel
theorem dX3_listRims_16 : decode cX3_listRims 16 = .ok (.iload 5, 2) := by decide +kernel
theorem dX3_listRims_18 : decode cX3_listRims 18 = .ok (.iconst 1, 1) := by decide +kernel
theorem dX3_listRims_19 : decode cX3_listRims 19 = .ok (.iadd, 1) := by decide +kernel
theorem dX3_listRims_20 : decode cX3_listRims 20 = .ok (.aload_n 1, 1) := by decide +kernel
theorem dX3_listRims_21 : decode cX3_listRims 21 = .ok (.getfield 59, 3) := by decide +kernel
theorem dX3_listRims_24 : decode cX3_listRims 24 = .ok (.if_icmp .ge 113, 3) := by decide +kernel
theorem dX3_listRims_27 : decode cX3_listRims 27 = .ok (.iload 4, 2) := by decide +kernel
theorem dX3_listRims_29 : decode cX3_listRims 29 = .ok (.aload_n 1, 1) := by decide +kernel
theorem dX3_listRims_30 : decode cX3_listRims 30 = .ok (.iload 5, 2) := by decide +kernel
theorem dX3_listRims_32 : decode cX3_listRims 32 = .ok (.invokevirtual 169, 3) := by decide +kernel
theorem dX3_listRims_35 : decode cX3_listRims 35 = .ok (.iadd, 1) := by decide +kernel
theorem dX3_listRims_36 : decode cX3_listRims 36 = .ok (.iconst 1, 1) := by decide +kernel
theorem dX3_listRims_37 : decode cX3_listRims 37 = .ok (.isub, 1) := by decide +kernel
theorem dX3_listRims_38 : decode cX3_listRims 38 = .ok (.istore 6, 2) := by decide +kernel
theorem dX3_listRims_40 : decode cX3_listRims 40 = .ok (.iload 6, 2) := by decide +kernel
theorem dX3_listRims_42 : decode cX3_listRims 42 = .ok (.iload 4, 2) := by decide +kernel
theorem dX3_listRims_44 : decode cX3_listRims 44 = .ok (.if_icmp .le 76, 3) := by decide +kernel
theorem dX3_listRims_47 : decode cX3_listRims 47 = .ok (.aload_n 1, 1) := by decide +kernel
theorem dX3_listRims_48 : decode cX3_listRims 48 = .ok (.iload 4, 2) := by decide +kernel
theorem dX3_listRims_50 : decode cX3_listRims 50 = .ok (.iload 6, 2) := by decide +kernel
theorem dX3_listRims_52 : decode cX3_listRims 52 = .ok (.invokevirtual 85, 3) := by decide +kernel
theorem dX3_listRims_55 : decode cX3_listRims 55 = .ok (.ifCond .ne 65, 3) := by decide +kernel
theorem dX3_listRims_58 : decode cX3_listRims 58 = .ok (.iload_n 3, 1) := by decide +kernel
theorem dX3_listRims_59 : decode cX3_listRims 59 = .ok (.iconst 1, 1) := by decide +kernel
theorem dX3_listRims_60 : decode cX3_listRims 60 = .ok (.iadd, 1) := by decide +kernel
theorem dX3_listRims_61 : decode cX3_listRims 61 = .ok (.aload_n 0, 1) := by decide +kernel
theorem dX3_listRims_62 : decode cX3_listRims 62 = .ok (.getfield 24, 3) := by decide +kernel
theorem dX3_listRims_65 : decode cX3_listRims 65 = .ok (.arraylength, 1) := by decide +kernel
theorem dX3_listRims_66 : decode cX3_listRims 66 = .ok (.if_icmp .ge 54, 3) := by decide +kernel
theorem dX3_listRims_69 : decode cX3_listRims 69 = .ok (.aload_n 0, 1) := by decide +kernel
theorem dX3_listRims_70 : decode cX3_listRims 70 = .ok (.getfield 24, 3) := by decide +kernel
theorem dX3_listRims_73 : decode cX3_listRims 73 = .ok (.iload_n 3, 1) := by decide +kernel
theorem dX3_listRims_74 : decode cX3_listRims 74 = .ok (.aload_n 1, 1) := by decide +kernel
theorem dX3_listRims_75 : decode cX3_listRims 75 = .ok (.getfield 89, 3) := by decide +kernel
theorem dX3_listRims_78 : decode cX3_listRims 78 = .ok (.iload 4, 2) := by decide +kernel
theorem dX3_listRims_80 : decode cX3_listRims 80 = .ok (.iaload, 1) := by decide +kernel
theorem dX3_listRims_81 : decode cX3_listRims 81 = .ok (.aload_n 1, 1) := by decide +kernel
theorem dX3_listRims_82 : decode cX3_listRims 82 = .ok (.getfield 92, 3) := by decide +kernel
theorem dX3_listRims_85 : decode cX3_listRims 85 = .ok (.iload 4, 2) := by decide +kernel
theorem dX3_listRims_87 : decode cX3_listRims 87 = .ok (.iaload, 1) := by decide +kernel
theorem dX3_listRims_88 : decode cX3_listRims 88 = .ok (.invokestatic 172, 3) := by decide +kernel
theorem dX3_listRims_91 : decode cX3_listRims 91 = .ok (.lastore, 1) := by decide +kernel
theorem dX3_listRims_92 : decode cX3_listRims 92 = .ok (.aload_n 0, 1) := by decide +kernel
theorem dX3_listRims_93 : decode cX3_listRims 93 = .ok (.getfield 24, 3) := by decide +kernel
theorem dX3_listRims_96 : decode cX3_listRims 96 = .ok (.iload_n 3, 1) := by decide +kernel
theorem dX3_listRims_97 : decode cX3_listRims 97 = .ok (.iconst 1, 1) := by decide +kernel
theorem dX3_listRims_98 : decode cX3_listRims 98 = .ok (.iadd, 1) := by decide +kernel
theorem dX3_listRims_99 : decode cX3_listRims 99 = .ok (.aload_n 1, 1) := by decide +kernel
theorem dX3_listRims_100 : decode cX3_listRims 100 = .ok (.getfield 89, 3) := by decide +kernel
theorem dX3_listRims_103 : decode cX3_listRims 103 = .ok (.iload 6, 2) := by decide +kernel
theorem dX3_listRims_105 : decode cX3_listRims 105 = .ok (.iaload, 1) := by decide +kernel
theorem dX3_listRims_106 : decode cX3_listRims 106 = .ok (.aload_n 1, 1) := by decide +kernel
theorem dX3_listRims_107 : decode cX3_listRims 107 = .ok (.getfield 92, 3) := by decide +kernel
theorem dX3_listRims_110 : decode cX3_listRims 110 = .ok (.iload 6, 2) := by decide +kernel
theorem dX3_listRims_112 : decode cX3_listRims 112 = .ok (.iaload, 1) := by decide +kernel
theorem dX3_listRims_113 : decode cX3_listRims 113 = .ok (.invokestatic 172, 3) := by decide +kernel
theorem dX3_listRims_116 : decode cX3_listRims 116 = .ok (.lastore, 1) := by decide +kernel
theorem dX3_listRims_117 : decode cX3_listRims 117 = .ok (.iinc 3 2, 3) := by decide +kernel
theorem dX3_listRims_120 : decode cX3_listRims 120 = .ok (.iload 6, 2) := by decide +kernel
theorem dX3_listRims_122 : decode cX3_listRims 122 = .ok (.iconst 1, 1) := by decide +kernel
theorem dX3_listRims_123 : decode cX3_listRims 123 = .ok (.iadd, 1) := by decide +kernel
theorem dX3_listRims_124 : decode cX3_listRims 124 = .ok (.istore 4, 2) := by decide +kernel
theorem dX3_listRims_126 : decode cX3_listRims 126 = .ok (.aload_n 1, 1) := by decide +kernel
theorem dX3_listRims_127 : decode cX3_listRims 127 = .ok (.iload 5, 2) := by decide +kernel
theorem dX3_listRims_129 : decode cX3_listRims 129 = .ok (.invokevirtual 67, 3) := by decide +kernel
theorem dX3_listRims_132 : decode cX3_listRims 132 = .ok (.istore 5, 2) := by decide +kernel
theorem dX3_listRims_134 : decode cX3_listRims 134 = .ok (.goto (-118), 3) := by decide +kernel
theorem dX3_listRims_137 : decode cX3_listRims 137 = .ok (.aload_n 0, 1) := by decide +kernel
theorem dX3_listRims_138 : decode cX3_listRims 138 = .ok (.getfield 24, 3) := by decide +kernel
theorem dX3_listRims_141 : decode cX3_listRims 141 = .ok (.iload_n 3, 1) := by decide +kernel
theorem dX3_listRims_142 : decode cX3_listRims 142 = .ok (.invokestatic 176, 3) := by decide +kernel
theorem dX3_listRims_145 : decode cX3_listRims 145 = .ok (.iconst 0, 1) := by decide +kernel
theorem dX3_listRims_146 : decode cX3_listRims 146 = .ok (.istore 5, 2) := by decide +kernel
theorem dX3_listRims_148 : decode cX3_listRims 148 = .ok (.iconst 0, 1) := by decide +kernel
theorem dX3_listRims_149 : decode cX3_listRims 149 = .ok (.istore 6, 2) := by decide +kernel
theorem dX3_listRims_151 : decode cX3_listRims 151 = .ok (.iload 6, 2) := by decide +kernel
theorem dX3_listRims_153 : decode cX3_listRims 153 = .ok (.iload_n 3, 1) := by decide +kernel
theorem dX3_listRims_154 : decode cX3_listRims 154 = .ok (.if_icmp .ge 130, 3) := by decide +kernel
theorem dX3_listRims_157 : decode cX3_listRims 157 = .ok (.iload 5, 2) := by decide +kernel
theorem dX3_listRims_159 : decode cX3_listRims 159 = .ok (.ifCond .ne 7, 3) := by decide +kernel
theorem dX3_listRims_162 : decode cX3_listRims 162 = .ok (.iconst 1, 1) := by decide +kernel
theorem dX3_listRims_163 : decode cX3_listRims 163 = .ok (.goto 4, 3) := by decide +kernel
theorem dX3_listRims_166 : decode cX3_listRims 166 = .ok (.iconst 0, 1) := by decide +kernel
theorem dX3_listRims_167 : decode cX3_listRims 167 = .ok (.istore 5, 2) := by decide +kernel
theorem dX3_listRims_169 : decode cX3_listRims 169 = .ok (.iload 6, 2) := by decide +kernel
theorem dX3_listRims_171 : decode cX3_listRims 171 = .ok (.iconst 1, 1) := by decide +kernel
theorem dX3_listRims_172 : decode cX3_listRims 172 = .ok (.iadd, 1) := by decide +kernel
theorem dX3_listRims_173 : decode cX3_listRims 173 = .ok (.iload_n 3, 1) := by decide +kernel
theorem dX3_listRims_174 : decode cX3_listRims 174 = .ok (.if_icmp .ge 26, 3) := by decide +kernel
theorem dX3_listRims_177 : decode cX3_listRims 177 = .ok (.aload_n 0, 1) := by decide +kernel
theorem dX3_listRims_178 : decode cX3_listRims 178 = .ok (.getfield 24, 3) := by decide +kernel
theorem dX3_listRims_181 : decode cX3_listRims 181 = .ok (.iload 6, 2) := by decide +kernel
theorem dX3_listRims_183 : decode cX3_listRims 183 = .ok (.iconst 1, 1) := by decide +kernel
theorem dX3_listRims_184 : decode cX3_listRims 184 = .ok (.iadd, 1) := by decide +kernel
theorem dX3_listRims_185 : decode cX3_listRims 185 = .ok (.laload, 1) := by decide +kernel
theorem dX3_listRims_186 : decode cX3_listRims 186 = .ok (.aload_n 0, 1) := by decide +kernel
theorem dX3_listRims_187 : decode cX3_listRims 187 = .ok (.getfield 24, 3) := by decide +kernel
theorem dX3_listRims_190 : decode cX3_listRims 190 = .ok (.iload 6, 2) := by decide +kernel
theorem dX3_listRims_192 : decode cX3_listRims 192 = .ok (.laload, 1) := by decide +kernel
theorem dX3_listRims_193 : decode cX3_listRims 193 = .ok (.lcmp, 1) := by decide +kernel
theorem dX3_listRims_194 : decode cX3_listRims 194 = .ok (.ifCond .ne 6, 3) := by decide +kernel
theorem dX3_listRims_197 : decode cX3_listRims 197 = .ok (.goto 81, 3) := by decide +kernel
theorem dX3_listRims_200 : decode cX3_listRims 200 = .ok (.iload 5, 2) := by decide +kernel
theorem dX3_listRims_202 : decode cX3_listRims 202 = .ok (.ifCond .eq 73, 3) := by decide +kernel
theorem dX3_listRims_205 : decode cX3_listRims 205 = .ok (.aload_n 0, 1) := by decide +kernel
theorem dX3_listRims_206 : decode cX3_listRims 206 = .ok (.getfield 128, 3) := by decide +kernel
theorem dX3_listRims_209 : decode cX3_listRims 209 = .ok (.aload_n 0, 1) := by decide +kernel
theorem dX3_listRims_210 : decode cX3_listRims 210 = .ok (.getfield 28, 3) := by decide +kernel
theorem dX3_listRims_213 : decode cX3_listRims 213 = .ok (.arraylength, 1) := by decide +kernel
theorem dX3_listRims_214 : decode cX3_listRims 214 = .ok (.if_icmp .ge 61, 3) := by decide +kernel
theorem dX3_listRims_217 : decode cX3_listRims 217 = .ok (.aload_n 0, 1) := by decide +kernel
theorem dX3_listRims_218 : decode cX3_listRims 218 = .ok (.getfield 28, 3) := by decide +kernel
theorem dX3_listRims_221 : decode cX3_listRims 221 = .ok (.aload_n 0, 1) := by decide +kernel
theorem dX3_listRims_222 : decode cX3_listRims 222 = .ok (.getfield 128, 3) := by decide +kernel
theorem dX3_listRims_225 : decode cX3_listRims 225 = .ok (.aload_n 0, 1) := by decide +kernel
theorem dX3_listRims_226 : decode cX3_listRims 226 = .ok (.getfield 24, 3) := by decide +kernel
theorem dX3_listRims_229 : decode cX3_listRims 229 = .ok (.iload 6, 2) := by decide +kernel
theorem dX3_listRims_231 : decode cX3_listRims 231 = .ok (.laload, 1) := by decide +kernel
theorem dX3_listRims_232 : decode cX3_listRims 232 = .ok (.invokestatic 180, 3) := by decide +kernel
theorem dX3_listRims_235 : decode cX3_listRims 235 = .ok (.iastore, 1) := by decide +kernel
theorem dX3_listRims_236 : decode cX3_listRims 236 = .ok (.aload_n 0, 1) := by decide +kernel
theorem dX3_listRims_237 : decode cX3_listRims 237 = .ok (.getfield 31, 3) := by decide +kernel
theorem dX3_listRims_240 : decode cX3_listRims 240 = .ok (.aload_n 0, 1) := by decide +kernel
theorem dX3_listRims_241 : decode cX3_listRims 241 = .ok (.getfield 128, 3) := by decide +kernel
theorem dX3_listRims_244 : decode cX3_listRims 244 = .ok (.aload_n 0, 1) := by decide +kernel
theorem dX3_listRims_245 : decode cX3_listRims 245 = .ok (.getfield 24, 3) := by decide +kernel
theorem dX3_listRims_248 : decode cX3_listRims 248 = .ok (.iload 6, 2) := by decide +kernel
theorem dX3_listRims_250 : decode cX3_listRims 250 = .ok (.laload, 1) := by decide +kernel
theorem dX3_listRims_251 : decode cX3_listRims 251 = .ok (.invokestatic 184, 3) := by decide +kernel
theorem dX3_listRims_254 : decode cX3_listRims 254 = .ok (.iastore, 1) := by decide +kernel
theorem dX3_listRims_255 : decode cX3_listRims 255 = .ok (.aload_n 0, 1) := by decide +kernel
theorem dX3_listRims_256 : decode cX3_listRims 256 = .ok (.getfield 34, 3) := by decide +kernel
theorem dX3_listRims_259 : decode cX3_listRims 259 = .ok (.aload_n 0, 1) := by decide +kernel
theorem dX3_listRims_260 : decode cX3_listRims 260 = .ok (.getfield 128, 3) := by decide +kernel
theorem dX3_listRims_263 : decode cX3_listRims 263 = .ok (.iload_n 2, 1) := by decide +kernel
theorem dX3_listRims_264 : decode cX3_listRims 264 = .ok (.iastore, 1) := by decide +kernel
theorem dX3_listRims_265 : decode cX3_listRims 265 = .ok (.aload_n 0, 1) := by decide +kernel
theorem dX3_listRims_266 : decode cX3_listRims 266 = .ok (.dup, 1) := by decide +kernel
theorem dX3_listRims_267 : decode cX3_listRims 267 = .ok (.getfield 128, 3) := by decide +kernel
theorem dX3_listRims_270 : decode cX3_listRims 270 = .ok (.iconst 1, 1) := by decide +kernel
theorem dX3_listRims_271 : decode cX3_listRims 271 = .ok (.iadd, 1) := by decide +kernel
theorem dX3_listRims_272 : decode cX3_listRims 272 = .ok (.putfield 128, 3) := by decide +kernel
theorem dX3_listRims_275 : decode cX3_listRims 275 = .ok (.iconst 0, 1) := by decide +kernel
theorem dX3_listRims_276 : decode cX3_listRims 276 = .ok (.istore 5, 2) := by decide +kernel
theorem dX3_listRims_278 : decode cX3_listRims 278 = .ok (.iinc 6 1, 3) := by decide +kernel
theorem dX3_listRims_281 : decode cX3_listRims 281 = .ok (.goto (-130), 3) := by decide +kernel
theorem dX3_listRims_284 : decode cX3_listRims 284 = .ok (.return_, 1) := by decide +kernel
theorem dX3_addEdges_0 : decode cX3_addEdges 0 = .ok (.aload_n 0, 1) := by decide +kernel
theorem dX3_addEdges_1 : decode cX3_addEdges 1 = .ok (.iconst 0, 1) := by decide +kernel
theorem dX3_addEdges_2 : decode cX3_addEdges 2 = .ok (.putfield 187, 3) := by decide +kernel
theorem dX3_addEdges_5 : decode cX3_addEdges 5 = .ok (.aload_n 0, 1) := by decide +kernel
theorem dX3_addEdges_6 : decode cX3_addEdges 6 = .ok (.lconst 0, 1) := by decide +kernel
theorem dX3_addEdges_7 : decode cX3_addEdges 7 = .ok (.lconst 1, 1) := by decide +kernel
theorem dX3_addEdges_8 : decode cX3_addEdges 8 = .ok (.invokevirtual 190, 3) := by decide +kernel
theorem dX3_addEdges_11 : decode cX3_addEdges 11 = .ok (.iconst 0, 1) := by decide +kernel
theorem dX3_addEdges_12 : decode cX3_addEdges 12 = .ok (.istore 4, 2) := by decide +kernel
theorem dX3_addEdges_14 : decode cX3_addEdges 14 = .ok (.iload 4, 2) := by decide +kernel
theorem dX3_addEdges_16 : decode cX3_addEdges 16 = .ok (.aload_n 0, 1) := by decide +kernel
theorem dX3_addEdges_17 : decode cX3_addEdges 17 = .ok (.getfield 16, 3) := by decide +kernel
theorem dX3_addEdges_20 : decode cX3_addEdges 20 = .ok (.getfield 105, 3) := by decide +kernel
theorem dX3_addEdges_23 : decode cX3_addEdges 23 = .ok (.if_icmp .ge 22, 3) := by decide +kernel
theorem dX3_addEdges_26 : decode cX3_addEdges 26 = .ok (.iload 4, 2) := by decide +kernel
theorem dX3_addEdges_28 : decode cX3_addEdges 28 = .ok (.iload_n 3, 1) := by decide +kernel
theorem dX3_addEdges_29 : decode cX3_addEdges 29 = .ok (.if_icmp .eq 10, 3) := by decide +kernel
theorem dX3_addEdges_32 : decode cX3_addEdges 32 = .ok (.aload_n 0, 1) := by decide +kernel
theorem dX3_addEdges_33 : decode cX3_addEdges 33 = .ok (.iload_n 3, 1) := by decide +kernel
theorem dX3_addEdges_34 : decode cX3_addEdges 34 = .ok (.iload 4, 2) := by decide +kernel
theorem dX3_addEdges_36 : decode cX3_addEdges 36 = .ok (.invokevirtual 194, 3) := by decide +kernel
theorem dX3_addEdges_39 : decode cX3_addEdges 39 = .ok (.iinc 4 1, 3) := by decide +kernel
theorem dX3_addEdges_42 : decode cX3_addEdges 42 = .ok (.goto (-28), 3) := by decide +kernel
theorem dX3_addEdges_45 : decode cX3_addEdges 45 = .ok (.iconst 0, 1) := by decide +kernel
theorem dX3_addEdges_46 : decode cX3_addEdges 46 = .ok (.istore 4, 2) := by decide +kernel
theorem dX3_addEdges_48 : decode cX3_addEdges 48 = .ok (.iload 4, 2) := by decide +kernel
theorem dX3_addEdges_50 : decode cX3_addEdges 50 = .ok (.aload_n 0, 1) := by decide +kernel
theorem dX3_addEdges_51 : decode cX3_addEdges 51 = .ok (.getfield 187, 3) := by decide +kernel
theorem dX3_addEdges_54 : decode cX3_addEdges 54 = .ok (.if_icmp .ge 64, 3) := by decide +kernel
theorem dX3_addEdges_57 : decode cX3_addEdges 57 = .ok (.iload 4, 2) := by decide +kernel
theorem dX3_addEdges_59 : decode cX3_addEdges 59 = .ok (.ifCond .eq 44, 3) := by decide +kernel
theorem dX3_addEdges_62 : decode cX3_addEdges 62 = .ok (.aload_n 0, 1) := by decide +kernel
theorem dX3_addEdges_63 : decode cX3_addEdges 63 = .ok (.getfield 37, 3) := by decide +kernel
theorem dX3_addEdges_66 : decode cX3_addEdges 66 = .ok (.iload 4, 2) := by decide +kernel
theorem dX3_addEdges_68 : decode cX3_addEdges 68 = .ok (.iconst 1, 1) := by decide +kernel
theorem dX3_addEdges_69 : decode cX3_addEdges 69 = .ok (.isub, 1) := by decide +kernel
theorem dX3_addEdges_70 : decode cX3_addEdges 70 = .ok (.laload, 1) := by decide +kernel
theorem dX3_addEdges_71 : decode cX3_addEdges 71 = .ok (.aload_n 0, 1) := by decide +kernel
theorem dX3_addEdges_72 : decode cX3_addEdges 72 = .ok (.getfield 40, 3) := by decide +kernel
theorem dX3_addEdges_75 : decode cX3_addEdges 75 = .ok (.iload 4, 2) := by decide +kernel
theorem dX3_addEdges_77 : decode cX3_addEdges 77 = .ok (.laload, 1) := by decide +kernel
theorem dX3_addEdges_78 : decode cX3_addEdges 78 = .ok (.aload_n 0, 1) := by decide +kernel
theorem dX3_addEdges_79 : decode cX3_addEdges 79 = .ok (.getfield 37, 3) := by decide +kernel
theorem dX3_addEdges_82 : decode cX3_addEdges 82 = .ok (.iload 4, 2) := by decide +kernel
theorem dX3_addEdges_84 : decode cX3_addEdges 84 = .ok (.laload, 1) := by decide +kernel
theorem dX3_addEdges_85 : decode cX3_addEdges 85 = .ok (.lneg, 1) := by decide +kernel
theorem dX3_addEdges_86 : decode cX3_addEdges 86 = .ok (.aload_n 0, 1) := by decide +kernel
theorem dX3_addEdges_87 : decode cX3_addEdges 87 = .ok (.getfield 40, 3) := by decide +kernel
theorem dX3_addEdges_90 : decode cX3_addEdges 90 = .ok (.iload 4, 2) := by decide +kernel
theorem dX3_addEdges_92 : decode cX3_addEdges 92 = .ok (.iconst 1, 1) := by decide +kernel
theorem dX3_addEdges_93 : decode cX3_addEdges 93 = .ok (.isub, 1) := by decide +kernel
theorem dX3_addEdges_94 : decode cX3_addEdges 94 = .ok (.laload, 1) := by decide +kernel
theorem dX3_addEdges_95 : decode cX3_addEdges 95 = .ok (.lconst 0, 1) := by decide +kernel
theorem dX3_addEdges_96 : decode cX3_addEdges 96 = .ok (.lconst 0, 1) := by decide +kernel
theorem dX3_addEdges_97 : decode cX3_addEdges 97 = .ok (.invokestatic 198, 3) := by decide +kernel
theorem dX3_addEdges_100 : decode cX3_addEdges 100 = .ok (.ifCond .eq 12, 3) := by decide +kernel
theorem dX3_addEdges_103 : decode cX3_addEdges 103 = .ok (.aload_n 0, 1) := by decide +kernel
theorem dX3_addEdges_104 : decode cX3_addEdges 104 = .ok (.aload_n 1, 1) := by decide +kernel
theorem dX3_addEdges_105 : decode cX3_addEdges 105 = .ok (.aload_n 2, 1) := by decide +kernel
theorem dX3_addEdges_106 : decode cX3_addEdges 106 = .ok (.iload_n 3, 1) := by decide +kernel
theorem dX3_addEdges_107 : decode cX3_addEdges 107 = .ok (.iload 4, 2) := by decide +kernel
theorem dX3_addEdges_109 : decode cX3_addEdges 109 = .ok (.invokevirtual 202, 3) := by decide +kernel
theorem dX3_addEdges_112 : decode cX3_addEdges 112 = .ok (.iinc 4 1, 3) := by decide +kernel
theorem dX3_addEdges_115 : decode cX3_addEdges 115 = .ok (.goto (-67), 3) := by decide +kernel
theorem dX3_addEdges_118 : decode cX3_addEdges 118 = .ok (.return_, 1) := by decide +kernel
theorem dX3_cut_0 : decode cX3_cut 0 = .ok (.aload_n 0, 1) := by decide +kernel
theorem dX3_cut_1 : decode cX3_cut 1 = .ok (.getfield 16, 3) := by decide +kernel
theorem dX3_cut_4 : decode cX3_cut 4 = .ok (.iload_n 1, 1) := by decide +kernel
theorem dX3_cut_5 : decode cX3_cut 5 = .ok (.iload_n 2, 1) := by decide +kernel
theorem dX3_cut_6 : decode cX3_cut 6 = .ok (.invokevirtual 163, 3) := by decide +kernel
theorem dX3_cut_9 : decode cX3_cut 9 = .ok (.istore_n 3, 1) := by decide +kernel
theorem dX3_cut_10 : decode cX3_cut 10 = .ok (.iload_n 3, 1) := by decide +kernel
theorem dX3_cut_11 : decode cX3_cut 11 = .ok (.iconst 2, 1) := by decide +kernel
theorem dX3_cut_12 : decode cX3_cut 12 = .ok (.if_icmp .ne 25, 3) := by decide +kernel
theorem dX3_cut_15 : decode cX3_cut 15 = .ok (.aload_n 0, 1) := by decide +kernel
theorem dX3_cut_16 : decode cX3_cut 16 = .ok (.iload_n 1, 1) := by decide +kernel
theorem dX3_cut_17 : decode cX3_cut 17 = .ok (.aload_n 0, 1) := by decide +kernel
theorem dX3_cut_18 : decode cX3_cut 18 = .ok (.getfield 16, 3) := by decide +kernel
theorem dX3_cut_21 : decode cX3_cut 21 = .ok (.getfield 206, 3) := by decide +kernel
theorem dX3_cut_24 : decode cX3_cut 24 = .ok (.aload_n 0, 1) := by decide +kernel
theorem dX3_cut_25 : decode cX3_cut 25 = .ok (.getfield 16, 3) := by decide +kernel
theorem dX3_cut_28 : decode cX3_cut 28 = .ok (.getfield 209, 3) := by decide +kernel
theorem dX3_cut_31 : decode cX3_cut 31 = .ok (.invokevirtual 212, 3) := by decide +kernel
theorem dX3_cut_34 : decode cX3_cut 34 = .ok (.goto 160, 3) := by decide +kernel
theorem dX3_cut_37 : decode cX3_cut 37 = .ok (.iload_n 3, 1) := by decide +kernel
theorem dX3_cut_38 : decode cX3_cut 38 = .ok (.iconst 3, 1) := by decide +kernel
theorem dX3_cut_39 : decode cX3_cut 39 = .ok (.if_icmp .ne 52, 3) := by decide +kernel
theorem dX3_cut_42 : decode cX3_cut 42 = .ok (.aload_n 0, 1) := by decide +kernel
theorem dX3_cut_43 : decode cX3_cut 43 = .ok (.iload_n 1, 1) := by decide +kernel
theorem dX3_cut_44 : decode cX3_cut 44 = .ok (.aload_n 0, 1) := by decide +kernel
theorem dX3_cut_45 : decode cX3_cut 45 = .ok (.getfield 16, 3) := by decide +kernel
theorem dX3_cut_48 : decode cX3_cut 48 = .ok (.getfield 215, 3) := by decide +kernel
theorem dX3_cut_51 : decode cX3_cut 51 = .ok (.iload_n 2, 1) := by decide +kernel
theorem dX3_cut_52 : decode cX3_cut 52 = .ok (.iaload, 1) := by decide +kernel
theorem dX3_cut_53 : decode cX3_cut 53 = .ok (.aload_n 0, 1) := by decide +kernel
theorem dX3_cut_54 : decode cX3_cut 54 = .ok (.getfield 16, 3) := by decide +kernel
theorem dX3_cut_57 : decode cX3_cut 57 = .ok (.getfield 218, 3) := by decide +kernel
theorem dX3_cut_60 : decode cX3_cut 60 = .ok (.iload_n 2, 1) := by decide +kernel
theorem dX3_cut_61 : decode cX3_cut 61 = .ok (.iaload, 1) := by decide +kernel
theorem dX3_cut_62 : decode cX3_cut 62 = .ok (.invokevirtual 212, 3) := by decide +kernel
theorem dX3_cut_65 : decode cX3_cut 65 = .ok (.aload_n 0, 1) := by decide +kernel
theorem dX3_cut_66 : decode cX3_cut 66 = .ok (.iload_n 1, 1) := by decide +kernel
theorem dX3_cut_67 : decode cX3_cut 67 = .ok (.aload_n 0, 1) := by decide +kernel
theorem dX3_cut_68 : decode cX3_cut 68 = .ok (.getfield 16, 3) := by decide +kernel
theorem dX3_cut_71 : decode cX3_cut 71 = .ok (.getfield 221, 3) := by decide +kernel
theorem dX3_cut_74 : decode cX3_cut 74 = .ok (.iload_n 2, 1) := by decide +kernel
theorem dX3_cut_75 : decode cX3_cut 75 = .ok (.iaload, 1) := by decide +kernel
theorem dX3_cut_76 : decode cX3_cut 76 = .ok (.aload_n 0, 1) := by decide +kernel
theorem dX3_cut_77 : decode cX3_cut 77 = .ok (.getfield 16, 3) := by decide +kernel
theorem dX3_cut_80 : decode cX3_cut 80 = .ok (.getfield 224, 3) := by decide +kernel
theorem dX3_cut_83 : decode cX3_cut 83 = .ok (.iload_n 2, 1) := by decide +kernel
theorem dX3_cut_84 : decode cX3_cut 84 = .ok (.iaload, 1) := by decide +kernel
theorem dX3_cut_85 : decode cX3_cut 85 = .ok (.invokevirtual 212, 3) := by decide +kernel
theorem dX3_cut_88 : decode cX3_cut 88 = .ok (.goto 106, 3) := by decide +kernel
theorem dX3_cut_91 : decode cX3_cut 91 = .ok (.iload_n 3, 1) := by decide +kernel
theorem dX3_cut_92 : decode cX3_cut 92 = .ok (.iconst 1, 1) := by decide +kernel
theorem dX3_cut_93 : decode cX3_cut 93 = .ok (.if_icmp .ne 101, 3) := by decide +kernel
theorem dX3_cut_96 : decode cX3_cut 96 = .ok (.aload_n 0, 1) := by decide +kernel
theorem dX3_cut_97 : decode cX3_cut 97 = .ok (.iload_n 2, 1) := by decide +kernel
theorem dX3_cut_98 : decode cX3_cut 98 = .ok (.invokevirtual 227, 3) := by decide +kernel
theorem dX3_cut_101 : decode cX3_cut 101 = .ok (.lstore 4, 2) := by decide +kernel
theorem dX3_cut_103 : decode cX3_cut 103 = .ok (.aload_n 0, 1) := by decide +kernel
theorem dX3_cut_104 : decode cX3_cut 104 = .ok (.iload_n 2, 1) := by decide +kernel
theorem dX3_cut_105 : decode cX3_cut 105 = .ok (.invokevirtual 231, 3) := by decide +kernel
theorem dX3_cut_108 : decode cX3_cut 108 = .ok (.lstore 6, 2) := by decide +kernel
theorem dX3_cut_110 : decode cX3_cut 110 = .ok (.aload_n 0, 1) := by decide +kernel
theorem dX3_cut_111 : decode cX3_cut 111 = .ok (.getfield 16, 3) := by decide +kernel
theorem dX3_cut_114 : decode cX3_cut 114 = .ok (.getfield 215, 3) := by decide +kernel
theorem dX3_cut_117 : decode cX3_cut 117 = .ok (.iload_n 2, 1) := by decide +kernel
theorem dX3_cut_118 : decode cX3_cut 118 = .ok (.iaload, 1) := by decide +kernel
theorem dX3_cut_119 : decode cX3_cut 119 = .ok (.i2l, 1) := by decide +kernel
theorem dX3_cut_120 : decode cX3_cut 120 = .ok (.aload_n 0, 1) := by decide +kernel
theorem dX3_cut_121 : decode cX3_cut 121 = .ok (.getfield 16, 3) := by decide +kernel
theorem dX3_cut_124 : decode cX3_cut 124 = .ok (.getfield 215, 3) := by decide +kernel
theorem dX3_cut_127 : decode cX3_cut 127 = .ok (.iload_n 1, 1) := by decide +kernel
theorem dX3_cut_128 : decode cX3_cut 128 = .ok (.iaload, 1) := by decide +kernel
theorem dX3_cut_129 : decode cX3_cut 129 = .ok (.i2l, 1) := by decide +kernel
theorem dX3_cut_130 : decode cX3_cut 130 = .ok (.lsub, 1) := by decide +kernel
theorem dX3_cut_131 : decode cX3_cut 131 = .ok (.lstore 8, 2) := by decide +kernel
theorem dX3_cut_133 : decode cX3_cut 133 = .ok (.aload_n 0, 1) := by decide +kernel
theorem dX3_cut_134 : decode cX3_cut 134 = .ok (.getfield 16, 3) := by decide +kernel
theorem dX3_cut_137 : decode cX3_cut 137 = .ok (.getfield 218, 3) := by decide +kernel
theorem dX3_cut_140 : decode cX3_cut 140 = .ok (.iload_n 2, 1) := by decide +kernel
theorem dX3_cut_141 : decode cX3_cut 141 = .ok (.iaload, 1) := by decide +kernel
theorem dX3_cut_142 : decode cX3_cut 142 = .ok (.i2l, 1) := by decide +kernel
theorem dX3_cut_143 : decode cX3_cut 143 = .ok (.aload_n 0, 1) := by decide +kernel
theorem dX3_cut_144 : decode cX3_cut 144 = .ok (.getfield 16, 3) := by decide +kernel
theorem dX3_cut_147 : decode cX3_cut 147 = .ok (.getfield 218, 3) := by decide +kernel
theorem dX3_cut_150 : decode cX3_cut 150 = .ok (.iload_n 1, 1) := by decide +kernel
theorem dX3_cut_151 : decode cX3_cut 151 = .ok (.iaload, 1) := by decide +kernel
theorem dX3_cut_152 : decode cX3_cut 152 = .ok (.i2l, 1) := by decide +kernel
theorem dX3_cut_153 : decode cX3_cut 153 = .ok (.lsub, 1) := by decide +kernel
theorem dX3_cut_154 : decode cX3_cut 154 = .ok (.lstore 10, 2) := by decide +kernel
theorem dX3_cut_156 : decode cX3_cut 156 = .ok (.aload_n 0, 1) := by decide +kernel
theorem dX3_cut_157 : decode cX3_cut 157 = .ok (.lload 8, 2) := by decide +kernel
theorem dX3_cut_159 : decode cX3_cut 159 = .ok (.lload 6, 2) := by decide +kernel
theorem dX3_cut_161 : decode cX3_cut 161 = .ok (.lmul, 1) := by decide +kernel
theorem dX3_cut_162 : decode cX3_cut 162 = .ok (.lload 10, 2) := by decide +kernel
theorem dX3_cut_164 : decode cX3_cut 164 = .ok (.lload 4, 2) := by decide +kernel
theorem dX3_cut_166 : decode cX3_cut 166 = .ok (.lmul, 1) := by decide +kernel
theorem dX3_cut_167 : decode cX3_cut 167 = .ok (.lsub, 1) := by decide +kernel
theorem dX3_cut_168 : decode cX3_cut 168 = .ok (.invokestatic 234, 3) := by decide +kernel
theorem dX3_cut_171 : decode cX3_cut 171 = .ok (.aload_n 0, 1) := by decide +kernel
theorem dX3_cut_172 : decode cX3_cut 172 = .ok (.iload_n 1, 1) := by decide +kernel
theorem dX3_cut_173 : decode cX3_cut 173 = .ok (.invokevirtual 227, 3) := by decide +kernel
theorem dX3_cut_176 : decode cX3_cut 176 = .ok (.lload 6, 2) := by decide +kernel
theorem dX3_cut_178 : decode cX3_cut 178 = .ok (.lmul, 1) := by decide +kernel
theorem dX3_cut_179 : decode cX3_cut 179 = .ok (.aload_n 0, 1) := by decide +kernel
theorem dX3_cut_180 : decode cX3_cut 180 = .ok (.iload_n 1, 1) := by decide +kernel
theorem dX3_cut_181 : decode cX3_cut 181 = .ok (.invokevirtual 231, 3) := by decide +kernel
theorem dX3_cut_184 : decode cX3_cut 184 = .ok (.lload 4, 2) := by decide +kernel
theorem dX3_cut_186 : decode cX3_cut 186 = .ok (.lmul, 1) := by decide +kernel
theorem dX3_cut_187 : decode cX3_cut 187 = .ok (.lsub, 1) := by decide +kernel
theorem dX3_cut_188 : decode cX3_cut 188 = .ok (.invokestatic 234, 3) := by decide +kernel
theorem dX3_cut_191 : decode cX3_cut 191 = .ok (.invokevirtual 190, 3) := by decide +kernel
theorem dX3_cut_194 : decode cX3_cut 194 = .ok (.return_, 1) := by decide +kernel
theorem dX3_wayX_0 : decode cX3_wayX 0 = .ok (.aload_n 0, 1) := by decide +kernel
theorem dX3_wayX_1 : decode cX3_wayX 1 = .ok (.getfield 16, 3) := by decide +kernel
theorem dX3_wayX_4 : decode cX3_wayX 4 = .ok (.getfield 221, 3) := by decide +kernel
theorem dX3_wayX_7 : decode cX3_wayX 7 = .ok (.iload_n 1, 1) := by decide +kernel
theorem dX3_wayX_8 : decode cX3_wayX 8 = .ok (.iaload, 1) := by decide +kernel
theorem dX3_wayX_9 : decode cX3_wayX 9 = .ok (.i2l, 1) := by decide +kernel
theorem dX3_wayX_10 : decode cX3_wayX 10 = .ok (.aload_n 0, 1) := by decide +kernel
theorem dX3_wayX_11 : decode cX3_wayX 11 = .ok (.getfield 16, 3) := by decide +kernel
theorem dX3_wayX_14 : decode cX3_wayX 14 = .ok (.getfield 215, 3) := by decide +kernel
theorem dX3_wayX_17 : decode cX3_wayX 17 = .ok (.iload_n 1, 1) := by decide +kernel
theorem dX3_wayX_18 : decode cX3_wayX 18 = .ok (.iaload, 1) := by decide +kernel
theorem dX3_wayX_19 : decode cX3_wayX 19 = .ok (.i2l, 1) := by decide +kernel
theorem dX3_wayX_20 : decode cX3_wayX 20 = .ok (.lsub, 1) := by decide +kernel
theorem dX3_wayX_21 : decode cX3_wayX 21 = .ok (.lreturn, 1) := by decide +kernel
theorem dX3_wayY_0 : decode cX3_wayY 0 = .ok (.aload_n 0, 1) := by decide +kernel
theorem dX3_wayY_1 : decode cX3_wayY 1 = .ok (.getfield 16, 3) := by decide +kernel
theorem dX3_wayY_4 : decode cX3_wayY 4 = .ok (.getfield 224, 3) := by decide +kernel
theorem dX3_wayY_7 : decode cX3_wayY 7 = .ok (.iload_n 1, 1) := by decide +kernel
theorem dX3_wayY_8 : decode cX3_wayY 8 = .ok (.iaload, 1) := by decide +kernel
theorem dX3_wayY_9 : decode cX3_wayY 9 = .ok (.i2l, 1) := by decide +kernel
theorem dX3_wayY_10 : decode cX3_wayY 10 = .ok (.aload_n 0, 1) := by decide +kernel
theorem dX3_wayY_11 : decode cX3_wayY 11 = .ok (.getfield 16, 3) := by decide +kernel
theorem dX3_wayY_14 : decode cX3_wayY 14 = .ok (.getfield 218, 3) := by decide +kernel
theorem dX3_wayY_17 : decode cX3_wayY 17 = .ok (.iload_n 1, 1) := by decide +kernel
theorem dX3_wayY_18 : decode cX3_wayY 18 = .ok (.iaload, 1) := by decide +kernel
theorem dX3_wayY_19 : decode cX3_wayY 19 = .ok (.i2l, 1) := by decide +kernel
theorem dX3_wayY_20 : decode cX3_wayY 20 = .ok (.lsub, 1) := by decide +kernel
theorem dX3_wayY_21 : decode cX3_wayY 21 = .ok (.lreturn, 1) := by decide +kernel
theorem dX3_cutAt_0 : decode cX3_cutAt 0 = .ok (.aload_n 0, 1) := by decide +kernel
theorem dX3_cutAt_1 : decode cX3_cutAt 1 = .ok (.getfield 16, 3) := by decide +kernel
theorem dX3_cutAt_4 : decode cX3_cutAt 4 = .ok (.iload_n 1, 1) := by decide +kernel
theorem dX3_cutAt_5 : decode cX3_cutAt 5 = .ok (.iload_n 2, 1) := by decide +kernel
theorem dX3_cutAt_6 : decode cX3_cutAt 6 = .ok (.iload_n 3, 1) := by decide +kernel
theorem dX3_cutAt_7 : decode cX3_cutAt 7 = .ok (.invokevirtual 238, 3) := by decide +kernel
theorem dX3_cutAt_10 : decode cX3_cutAt 10 = .ok (.ifCond .ne 4, 3) := by decide +kernel
theorem dX3_cutAt_13 : decode cX3_cutAt 13 = .ok (.return_, 1) := by decide +kernel
theorem dX3_cutAt_14 : decode cX3_cutAt 14 = .ok (.aload_n 0, 1) := by decide +kernel
theorem dX3_cutAt_15 : decode cX3_cutAt 15 = .ok (.iload_n 1, 1) := by decide +kernel
theorem dX3_cutAt_16 : decode cX3_cutAt 16 = .ok (.invokevirtual 227, 3) := by decide +kernel
theorem dX3_cutAt_19 : decode cX3_cutAt 19 = .ok (.lconst 0, 1) := by decide +kernel
theorem dX3_cutAt_20 : decode cX3_cutAt 20 = .ok (.lcmp, 1) := by decide +kernel
theorem dX3_cutAt_21 : decode cX3_cutAt 21 = .ok (.ifCond .eq 34, 3) := by decide +kernel
theorem dX3_cutAt_24 : decode cX3_cutAt 24 = .ok (.aload_n 0, 1) := by decide +kernel
theorem dX3_cutAt_25 : decode cX3_cutAt 25 = .ok (.iload_n 2, 1) := by decide +kernel
theorem dX3_cutAt_26 : decode cX3_cutAt 26 = .ok (.i2l, 1) := by decide +kernel
theorem dX3_cutAt_27 : decode cX3_cutAt 27 = .ok (.aload_n 0, 1) := by decide +kernel
theorem dX3_cutAt_28 : decode cX3_cutAt 28 = .ok (.getfield 16, 3) := by decide +kernel
theorem dX3_cutAt_31 : decode cX3_cutAt 31 = .ok (.getfield 215, 3) := by decide +kernel
theorem dX3_cutAt_34 : decode cX3_cutAt 34 = .ok (.iload_n 1, 1) := by decide +kernel
theorem dX3_cutAt_35 : decode cX3_cutAt 35 = .ok (.iaload, 1) := by decide +kernel
theorem dX3_cutAt_36 : decode cX3_cutAt 36 = .ok (.i2l, 1) := by decide +kernel
theorem dX3_cutAt_37 : decode cX3_cutAt 37 = .ok (.lsub, 1) := by decide +kernel
theorem dX3_cutAt_38 : decode cX3_cutAt 38 = .ok (.invokestatic 234, 3) := by decide +kernel
theorem dX3_cutAt_41 : decode cX3_cutAt 41 = .ok (.aload_n 0, 1) := by decide +kernel
theorem dX3_cutAt_42 : decode cX3_cutAt 42 = .ok (.iload_n 1, 1) := by decide +kernel
theorem dX3_cutAt_43 : decode cX3_cutAt 43 = .ok (.invokevirtual 227, 3) := by decide +kernel
theorem dX3_cutAt_46 : decode cX3_cutAt 46 = .ok (.invokestatic 234, 3) := by decide +kernel
theorem dX3_cutAt_49 : decode cX3_cutAt 49 = .ok (.invokevirtual 190, 3) := by decide +kernel
theorem dX3_cutAt_52 : decode cX3_cutAt 52 = .ok (.goto 31, 3) := by decide +kernel
theorem dX3_cutAt_55 : decode cX3_cutAt 55 = .ok (.aload_n 0, 1) := by decide +kernel
theorem dX3_cutAt_56 : decode cX3_cutAt 56 = .ok (.iload_n 3, 1) := by decide +kernel
theorem dX3_cutAt_57 : decode cX3_cutAt 57 = .ok (.i2l, 1) := by decide +kernel
theorem dX3_cutAt_58 : decode cX3_cutAt 58 = .ok (.aload_n 0, 1) := by decide +kernel
theorem dX3_cutAt_59 : decode cX3_cutAt 59 = .ok (.getfield 16, 3) := by decide +kernel
theorem dX3_cutAt_62 : decode cX3_cutAt 62 = .ok (.getfield 218, 3) := by decide +kernel
theorem dX3_cutAt_65 : decode cX3_cutAt 65 = .ok (.iload_n 1, 1) := by decide +kernel
theorem dX3_cutAt_66 : decode cX3_cutAt 66 = .ok (.iaload, 1) := by decide +kernel
theorem dX3_cutAt_67 : decode cX3_cutAt 67 = .ok (.i2l, 1) := by decide +kernel
theorem dX3_cutAt_68 : decode cX3_cutAt 68 = .ok (.lsub, 1) := by decide +kernel
theorem dX3_cutAt_69 : decode cX3_cutAt 69 = .ok (.invokestatic 234, 3) := by decide +kernel
theorem dX3_cutAt_72 : decode cX3_cutAt 72 = .ok (.aload_n 0, 1) := by decide +kernel
theorem dX3_cutAt_73 : decode cX3_cutAt 73 = .ok (.iload_n 1, 1) := by decide +kernel
theorem dX3_cutAt_74 : decode cX3_cutAt 74 = .ok (.invokevirtual 231, 3) := by decide +kernel
theorem dX3_cutAt_77 : decode cX3_cutAt 77 = .ok (.invokestatic 234, 3) := by decide +kernel
theorem dX3_cutAt_80 : decode cX3_cutAt 80 = .ok (.invokevirtual 190, 3) := by decide +kernel
theorem dX3_cutAt_83 : decode cX3_cutAt 83 = .ok (.return_, 1) := by decide +kernel
theorem dX3_addCut_0 : decode cX3_addCut 0 = .ok (.lload_n 1, 1) := by decide +kernel
theorem dX3_addCut_1 : decode cX3_addCut 1 = .ok (.lload_n 3, 1) := by decide +kernel
theorem dX3_addCut_2 : decode cX3_addCut 2 = .ok (.lcmp, 1) := by decide +kernel
theorem dX3_addCut_3 : decode cX3_addCut 3 = .ok (.ifCond .ge 15, 3) := by decide +kernel
theorem dX3_addCut_6 : decode cX3_addCut 6 = .ok (.aload_n 0, 1) := by decide +kernel
theorem dX3_addCut_7 : decode cX3_addCut 7 = .ok (.getfield 187, 3) := by decide +kernel
theorem dX3_addCut_10 : decode cX3_addCut 10 = .ok (.aload_n 0, 1) := by decide +kernel
theorem dX3_addCut_11 : decode cX3_addCut 11 = .ok (.getfield 37, 3) := by decide +kernel
theorem dX3_addCut_14 : decode cX3_addCut 14 = .ok (.arraylength, 1) := by decide +kernel
theorem dX3_addCut_15 : decode cX3_addCut 15 = .ok (.if_icmp .lt 4, 3) := by decide +kernel
theorem dX3_addCut_18 : decode cX3_addCut 18 = .ok (.return_, 1) := by decide +kernel
theorem dX3_addCut_19 : decode cX3_addCut 19 = .ok (.aload_n 0, 1) := by decide +kernel
theorem dX3_addCut_20 : decode cX3_addCut 20 = .ok (.getfield 187, 3) := by decide +kernel
theorem dX3_addCut_23 : decode cX3_addCut 23 = .ok (.istore 5, 2) := by decide +kernel
theorem dX3_addCut_25 : decode cX3_addCut 25 = .ok (.iload 5, 2) := by decide +kernel
theorem dX3_addCut_27 : decode cX3_addCut 27 = .ok (.ifCond .le 70, 3) := by decide +kernel
theorem dX3_addCut_30 : decode cX3_addCut 30 = .ok (.aload_n 0, 1) := by decide +kernel
theorem dX3_addCut_31 : decode cX3_addCut 31 = .ok (.getfield 37, 3) := by decide +kernel
theorem dX3_addCut_34 : decode cX3_addCut 34 = .ok (.iload 5, 2) := by decide +kernel
theorem dX3_addCut_36 : decode cX3_addCut 36 = .ok (.iconst 1, 1) := by decide +kernel
theorem dX3_addCut_37 : decode cX3_addCut 37 = .ok (.isub, 1) := by decide +kernel
theorem dX3_addCut_38 : decode cX3_addCut 38 = .ok (.laload, 1) := by decide +kernel
theorem dX3_addCut_39 : decode cX3_addCut 39 = .ok (.lload_n 3, 1) := by decide +kernel
theorem dX3_addCut_40 : decode cX3_addCut 40 = .ok (.lload_n 1, 1) := by decide +kernel
theorem dX3_addCut_41 : decode cX3_addCut 41 = .ok (.lneg, 1) := by decide +kernel
theorem dX3_addCut_42 : decode cX3_addCut 42 = .ok (.aload_n 0, 1) := by decide +kernel
theorem dX3_addCut_43 : decode cX3_addCut 43 = .ok (.getfield 40, 3) := by decide +kernel
theorem dX3_addCut_46 : decode cX3_addCut 46 = .ok (.iload 5, 2) := by decide +kernel
theorem dX3_addCut_48 : decode cX3_addCut 48 = .ok (.iconst 1, 1) := by decide +kernel
theorem dX3_addCut_49 : decode cX3_addCut 49 = .ok (.isub, 1) := by decide +kernel
theorem dX3_addCut_50 : decode cX3_addCut 50 = .ok (.laload, 1) := by decide +kernel
theorem dX3_addCut_51 : decode cX3_addCut 51 = .ok (.lconst 0, 1) := by decide +kernel
theorem dX3_addCut_52 : decode cX3_addCut 52 = .ok (.lconst 0, 1) := by decide +kernel
theorem dX3_addCut_53 : decode cX3_addCut 53 = .ok (.invokestatic 198, 3) := by decide +kernel
theorem dX3_addCut_56 : decode cX3_addCut 56 = .ok (.ifCond .le 41, 3) := by decide +kernel
theorem dX3_addCut_59 : decode cX3_addCut 59 = .ok (.aload_n 0, 1) := by decide +kernel
theorem dX3_addCut_60 : decode cX3_addCut 60 = .ok (.getfield 37, 3) := by decide +kernel
theorem dX3_addCut_63 : decode cX3_addCut 63 = .ok (.iload 5, 2) := by decide +kernel
theorem dX3_addCut_65 : decode cX3_addCut 65 = .ok (.aload_n 0, 1) := by decide +kernel
theorem dX3_addCut_66 : decode cX3_addCut 66 = .ok (.getfield 37, 3) := by decide +kernel
theorem dX3_addCut_69 : decode cX3_addCut 69 = .ok (.iload 5, 2) := by decide +kernel
theorem dX3_addCut_71 : decode cX3_addCut 71 = .ok (.iconst 1, 1) := by decide +kernel
theorem dX3_addCut_72 : decode cX3_addCut 72 = .ok (.isub, 1) := by decide +kernel
theorem dX3_addCut_73 : decode cX3_addCut 73 = .ok (.laload, 1) := by decide +kernel
theorem dX3_addCut_74 : decode cX3_addCut 74 = .ok (.lastore, 1) := by decide +kernel
theorem dX3_addCut_75 : decode cX3_addCut 75 = .ok (.aload_n 0, 1) := by decide +kernel
theorem dX3_addCut_76 : decode cX3_addCut 76 = .ok (.getfield 40, 3) := by decide +kernel
theorem dX3_addCut_79 : decode cX3_addCut 79 = .ok (.iload 5, 2) := by decide +kernel
theorem dX3_addCut_81 : decode cX3_addCut 81 = .ok (.aload_n 0, 1) := by decide +kernel
theorem dX3_addCut_82 : decode cX3_addCut 82 = .ok (.getfield 40, 3) := by decide +kernel
theorem dX3_addCut_85 : decode cX3_addCut 85 = .ok (.iload 5, 2) := by decide +kernel
theorem dX3_addCut_87 : decode cX3_addCut 87 = .ok (.iconst 1, 1) := by decide +kernel
theorem dX3_addCut_88 : decode cX3_addCut 88 = .ok (.isub, 1) := by decide +kernel
theorem dX3_addCut_89 : decode cX3_addCut 89 = .ok (.laload, 1) := by decide +kernel
theorem dX3_addCut_90 : decode cX3_addCut 90 = .ok (.lastore, 1) := by decide +kernel
theorem dX3_addCut_91 : decode cX3_addCut 91 = .ok (.iinc 5 (-1), 3) := by decide +kernel
theorem dX3_addCut_94 : decode cX3_addCut 94 = .ok (.goto (-69), 3) := by decide +kernel
theorem dX3_addCut_97 : decode cX3_addCut 97 = .ok (.aload_n 0, 1) := by decide +kernel
theorem dX3_addCut_98 : decode cX3_addCut 98 = .ok (.getfield 37, 3) := by decide +kernel
theorem dX3_addCut_101 : decode cX3_addCut 101 = .ok (.iload 5, 2) := by decide +kernel
theorem dX3_addCut_103 : decode cX3_addCut 103 = .ok (.lload_n 1, 1) := by decide +kernel
theorem dX3_addCut_104 : decode cX3_addCut 104 = .ok (.lastore, 1) := by decide +kernel
theorem dX3_addCut_105 : decode cX3_addCut 105 = .ok (.aload_n 0, 1) := by decide +kernel
theorem dX3_addCut_106 : decode cX3_addCut 106 = .ok (.getfield 40, 3) := by decide +kernel
theorem dX3_addCut_109 : decode cX3_addCut 109 = .ok (.iload 5, 2) := by decide +kernel
theorem dX3_addCut_111 : decode cX3_addCut 111 = .ok (.lload_n 3, 1) := by decide +kernel
theorem dX3_addCut_112 : decode cX3_addCut 112 = .ok (.lastore, 1) := by decide +kernel
theorem dX3_addCut_113 : decode cX3_addCut 113 = .ok (.aload_n 0, 1) := by decide +kernel
theorem dX3_addCut_114 : decode cX3_addCut 114 = .ok (.dup, 1) := by decide +kernel
theorem dX3_addCut_115 : decode cX3_addCut 115 = .ok (.getfield 187, 3) := by decide +kernel
theorem dX3_addCut_118 : decode cX3_addCut 118 = .ok (.iconst 1, 1) := by decide +kernel
theorem dX3_addCut_119 : decode cX3_addCut 119 = .ok (.iadd, 1) := by decide +kernel
theorem dX3_addCut_120 : decode cX3_addCut 120 = .ok (.putfield 187, 3) := by decide +kernel
theorem dX3_addCut_123 : decode cX3_addCut 123 = .ok (.return_, 1) := by decide +kernel
theorem dX3_addEdge_0 : decode cX3_addEdge 0 = .ok (.aload_n 0, 1) := by decide +kernel
theorem dX3_addEdge_1 : decode cX3_addEdge 1 = .ok (.getfield 43, 3) := by decide +kernel
theorem dX3_addEdge_4 : decode cX3_addEdge 4 = .ok (.iconst 0, 1) := by decide +kernel
theorem dX3_addEdge_5 : decode cX3_addEdge 5 = .ok (.invokestatic 241, 3) := by decide +kernel
theorem dX3_addEdge_8 : decode cX3_addEdge 8 = .ok (.aload_n 0, 1) := by decide +kernel
theorem dX3_addEdge_9 : decode cX3_addEdge 9 = .ok (.getfield 46, 3) := by decide +kernel
theorem dX3_addEdge_12 : decode cX3_addEdge 12 = .ok (.iconst 0, 1) := by decide +kernel
theorem dX3_addEdge_13 : decode cX3_addEdge 13 = .ok (.invokestatic 241, 3) := by decide +kernel
theorem dX3_addEdge_16 : decode cX3_addEdge 16 = .ok (.iconst 0, 1) := by decide +kernel
theorem dX3_addEdge_17 : decode cX3_addEdge 17 = .ok (.istore 5, 2) := by decide +kernel
theorem dX3_addEdge_19 : decode cX3_addEdge 19 = .ok (.iload 5, 2) := by decide +kernel
theorem dX3_addEdge_21 : decode cX3_addEdge 21 = .ok (.aload_n 0, 1) := by decide +kernel
theorem dX3_addEdge_22 : decode cX3_addEdge 22 = .ok (.getfield 16, 3) := by decide +kernel
theorem dX3_addEdge_25 : decode cX3_addEdge 25 = .ok (.getfield 105, 3) := by decide +kernel
theorem dX3_addEdge_28 : decode cX3_addEdge 28 = .ok (.if_icmp .ge 90, 3) := by decide +kernel
theorem dX3_addEdge_31 : decode cX3_addEdge 31 = .ok (.aload_n 0, 1) := by decide +kernel
theorem dX3_addEdge_32 : decode cX3_addEdge 32 = .ok (.getfield 16, 3) := by decide +kernel
theorem dX3_addEdge_35 : decode cX3_addEdge 35 = .ok (.iload 5, 2) := by decide +kernel
theorem dX3_addEdge_37 : decode cX3_addEdge 37 = .ok (.invokevirtual 247, 3) := by decide +kernel
theorem dX3_addEdge_40 : decode cX3_addEdge 40 = .ok (.aload_n 0, 1) := by decide +kernel
theorem dX3_addEdge_41 : decode cX3_addEdge 41 = .ok (.getfield 16, 3) := by decide +kernel
theorem dX3_addEdge_44 : decode cX3_addEdge 44 = .ok (.iload_n 3, 1) := by decide +kernel
theorem dX3_addEdge_45 : decode cX3_addEdge 45 = .ok (.invokevirtual 250, 3) := by decide +kernel
theorem dX3_addEdge_48 : decode cX3_addEdge 48 = .ok (.if_icmp .gt 64, 3) := by decide +kernel
theorem dX3_addEdge_51 : decode cX3_addEdge 51 = .ok (.aload_n 0, 1) := by decide +kernel
theorem dX3_addEdge_52 : decode cX3_addEdge 52 = .ok (.getfield 16, 3) := by decide +kernel
theorem dX3_addEdge_55 : decode cX3_addEdge 55 = .ok (.iload 5, 2) := by decide +kernel
theorem dX3_addEdge_57 : decode cX3_addEdge 57 = .ok (.invokevirtual 250, 3) := by decide +kernel
theorem dX3_addEdge_60 : decode cX3_addEdge 60 = .ok (.aload_n 0, 1) := by decide +kernel
theorem dX3_addEdge_61 : decode cX3_addEdge 61 = .ok (.getfield 16, 3) := by decide +kernel
theorem dX3_addEdge_64 : decode cX3_addEdge 64 = .ok (.iload_n 3, 1) := by decide +kernel
theorem dX3_addEdge_65 : decode cX3_addEdge 65 = .ok (.invokevirtual 247, 3) := by decide +kernel
theorem dX3_addEdge_68 : decode cX3_addEdge 68 = .ok (.if_icmp .lt 44, 3) := by decide +kernel
theorem dX3_addEdge_71 : decode cX3_addEdge 71 = .ok (.aload_n 0, 1) := by decide +kernel
theorem dX3_addEdge_72 : decode cX3_addEdge 72 = .ok (.getfield 16, 3) := by decide +kernel
theorem dX3_addEdge_75 : decode cX3_addEdge 75 = .ok (.iload 5, 2) := by decide +kernel
theorem dX3_addEdge_77 : decode cX3_addEdge 77 = .ok (.invokevirtual 253, 3) := by decide +kernel
theorem dX3_addEdge_80 : decode cX3_addEdge 80 = .ok (.aload_n 0, 1) := by decide +kernel
theorem dX3_addEdge_81 : decode cX3_addEdge 81 = .ok (.getfield 16, 3) := by decide +kernel
theorem dX3_addEdge_84 : decode cX3_addEdge 84 = .ok (.iload_n 3, 1) := by decide +kernel
theorem dX3_addEdge_85 : decode cX3_addEdge 85 = .ok (.invokevirtual 256, 3) := by decide +kernel
theorem dX3_addEdge_88 : decode cX3_addEdge 88 = .ok (.if_icmp .lt 24, 3) := by decide +kernel
theorem dX3_addEdge_91 : decode cX3_addEdge 91 = .ok (.aload_n 0, 1) := by decide +kernel
theorem dX3_addEdge_92 : decode cX3_addEdge 92 = .ok (.iload_n 3, 1) := by decide +kernel
theorem dX3_addEdge_93 : decode cX3_addEdge 93 = .ok (.aload_n 0, 1) := by decide +kernel
theorem dX3_addEdge_94 : decode cX3_addEdge 94 = .ok (.getfield 37, 3) := by decide +kernel
theorem dX3_addEdge_97 : decode cX3_addEdge 97 = .ok (.iload 4, 2) := by decide +kernel
theorem dX3_addEdge_99 : decode cX3_addEdge 99 = .ok (.laload, 1) := by decide +kernel
theorem dX3_addEdge_100 : decode cX3_addEdge 100 = .ok (.aload_n 0, 1) := by decide +kernel
theorem dX3_addEdge_101 : decode cX3_addEdge 101 = .ok (.getfield 40, 3) := by decide +kernel
theorem dX3_addEdge_104 : decode cX3_addEdge 104 = .ok (.iload 4, 2) := by decide +kernel
theorem dX3_addEdge_106 : decode cX3_addEdge 106 = .ok (.laload, 1) := by decide +kernel
theorem dX3_addEdge_107 : decode cX3_addEdge 107 = .ok (.iload 5, 2) := by decide +kernel
theorem dX3_addEdge_109 : decode cX3_addEdge 109 = .ok (.invokevirtual 259, 3) := by decide +kernel
theorem dX3_addEdge_112 : decode cX3_addEdge 112 = .ok (.iinc 5 1, 3) := by decide +kernel
theorem dX3_addEdge_115 : decode cX3_addEdge 115 = .ok (.goto (-96), 3) := by decide +kernel
theorem dX3_addEdge_118 : decode cX3_addEdge 118 = .ok (.aload_n 0, 1) := by decide +kernel
theorem dX3_addEdge_119 : decode cX3_addEdge 119 = .ok (.aload_n 1, 1) := by decide +kernel
theorem dX3_addEdge_120 : decode cX3_addEdge 120 = .ok (.aload_n 0, 1) := by decide +kernel
theorem dX3_addEdge_121 : decode cX3_addEdge 121 = .ok (.getfield 46, 3) := by decide +kernel
theorem dX3_addEdge_124 : decode cX3_addEdge 124 = .ok (.iconst 0, 1) := by decide +kernel
theorem dX3_addEdge_125 : decode cX3_addEdge 125 = .ok (.iaload, 1) := by decide +kernel
theorem dX3_addEdge_126 : decode cX3_addEdge 126 = .ok (.invokestatic 263, 3) := by decide +kernel
theorem dX3_addEdge_129 : decode cX3_addEdge 129 = .ok (.aload_n 2, 1) := by decide +kernel
theorem dX3_addEdge_130 : decode cX3_addEdge 130 = .ok (.aload_n 0, 1) := by decide +kernel
theorem dX3_addEdge_131 : decode cX3_addEdge 131 = .ok (.getfield 46, 3) := by decide +kernel
theorem dX3_addEdge_134 : decode cX3_addEdge 134 = .ok (.iconst 1, 1) := by decide +kernel
theorem dX3_addEdge_135 : decode cX3_addEdge 135 = .ok (.iaload, 1) := by decide +kernel
theorem dX3_addEdge_136 : decode cX3_addEdge 136 = .ok (.invokestatic 263, 3) := by decide +kernel
theorem dX3_addEdge_139 : decode cX3_addEdge 139 = .ok (.iconst 2, 1) := by decide +kernel
theorem dX3_addEdge_140 : decode cX3_addEdge 140 = .ok (.invokevirtual 147, 3) := by decide +kernel
theorem dX3_addEdge_143 : decode cX3_addEdge 143 = .ok (.aload_n 0, 1) := by decide +kernel
theorem dX3_addEdge_144 : decode cX3_addEdge 144 = .ok (.aload_n 1, 1) := by decide +kernel
theorem dX3_addEdge_145 : decode cX3_addEdge 145 = .ok (.aload_n 0, 1) := by decide +kernel
theorem dX3_addEdge_146 : decode cX3_addEdge 146 = .ok (.getfield 46, 3) := by decide +kernel
theorem dX3_addEdge_149 : decode cX3_addEdge 149 = .ok (.iconst 0, 1) := by decide +kernel
theorem dX3_addEdge_150 : decode cX3_addEdge 150 = .ok (.iaload, 1) := by decide +kernel
theorem dX3_addEdge_151 : decode cX3_addEdge 151 = .ok (.aload_n 0, 1) := by decide +kernel
theorem dX3_addEdge_152 : decode cX3_addEdge 152 = .ok (.getfield 43, 3) := by decide +kernel
theorem dX3_addEdge_155 : decode cX3_addEdge 155 = .ok (.iconst 0, 1) := by decide +kernel
theorem dX3_addEdge_156 : decode cX3_addEdge 156 = .ok (.iaload, 1) := by decide +kernel
theorem dX3_addEdge_157 : decode cX3_addEdge 157 = .ok (.iadd, 1) := by decide +kernel
theorem dX3_addEdge_158 : decode cX3_addEdge 158 = .ok (.invokestatic 263, 3) := by decide +kernel
theorem dX3_addEdge_161 : decode cX3_addEdge 161 = .ok (.aload_n 2, 1) := by decide +kernel
theorem dX3_addEdge_162 : decode cX3_addEdge 162 = .ok (.aload_n 0, 1) := by decide +kernel
theorem dX3_addEdge_163 : decode cX3_addEdge 163 = .ok (.getfield 46, 3) := by decide +kernel
theorem dX3_addEdge_166 : decode cX3_addEdge 166 = .ok (.iconst 1, 1) := by decide +kernel
theorem dX3_addEdge_167 : decode cX3_addEdge 167 = .ok (.iaload, 1) := by decide +kernel
theorem dX3_addEdge_168 : decode cX3_addEdge 168 = .ok (.aload_n 0, 1) := by decide +kernel
theorem dX3_addEdge_169 : decode cX3_addEdge 169 = .ok (.getfield 43, 3) := by decide +kernel
theorem dX3_addEdge_172 : decode cX3_addEdge 172 = .ok (.iconst 1, 1) := by decide +kernel
theorem dX3_addEdge_173 : decode cX3_addEdge 173 = .ok (.iaload, 1) := by decide +kernel
theorem dX3_addEdge_174 : decode cX3_addEdge 174 = .ok (.iadd, 1) := by decide +kernel
theorem dX3_addEdge_175 : decode cX3_addEdge 175 = .ok (.invokestatic 263, 3) := by decide +kernel
theorem dX3_addEdge_178 : decode cX3_addEdge 178 = .ok (.iconst 2, 1) := by decide +kernel
theorem dX3_addEdge_179 : decode cX3_addEdge 179 = .ok (.invokevirtual 147, 3) := by decide +kernel
theorem dX3_addEdge_182 : decode cX3_addEdge 182 = .ok (.aload_n 0, 1) := by decide +kernel
theorem dX3_addEdge_183 : decode cX3_addEdge 183 = .ok (.aload_n 0, 1) := by decide +kernel
theorem dX3_addEdge_184 : decode cX3_addEdge 184 = .ok (.aload_n 1, 1) := by decide +kernel
theorem dX3_addEdge_185 : decode cX3_addEdge 185 = .ok (.iconst 0, 1) := by decide +kernel
theorem dX3_addEdge_186 : decode cX3_addEdge 186 = .ok (.invokevirtual 267, 3) := by decide +kernel
theorem dX3_addEdge_189 : decode cX3_addEdge 189 = .ok (.aload_n 0, 1) := by decide +kernel
theorem dX3_addEdge_190 : decode cX3_addEdge 190 = .ok (.aload_n 2, 1) := by decide +kernel
theorem dX3_addEdge_191 : decode cX3_addEdge 191 = .ok (.iconst 1, 1) := by decide +kernel
theorem dX3_addEdge_192 : decode cX3_addEdge 192 = .ok (.invokevirtual 267, 3) := by decide +kernel
theorem dX3_addEdge_195 : decode cX3_addEdge 195 = .ok (.iconst 1, 1) := by decide +kernel
theorem dX3_addEdge_196 : decode cX3_addEdge 196 = .ok (.invokevirtual 147, 3) := by decide +kernel
theorem dX3_addEdge_199 : decode cX3_addEdge 199 = .ok (.return_, 1) := by decide +kernel
theorem dX3_faceOf_0 : decode cX3_faceOf 0 = .ok (.aload_n 0, 1) := by decide +kernel
theorem dX3_faceOf_1 : decode cX3_faceOf 1 = .ok (.invokestatic 74, 3) := by decide +kernel
theorem dX3_faceOf_4 : decode cX3_faceOf 4 = .ok (.ifCond .eq 14, 3) := by decide +kernel
theorem dX3_faceOf_7 : decode cX3_faceOf 7 = .ok (.iload_n 1, 1) := by decide +kernel
theorem dX3_faceOf_8 : decode cX3_faceOf 8 = .ok (.iconst 1, 1) := by decide +kernel
theorem dX3_faceOf_9 : decode cX3_faceOf 9 = .ok (.iand, 1) := by decide +kernel
theorem dX3_faceOf_10 : decode cX3_faceOf 10 = .ok (.iconst 1, 1) := by decide +kernel
theorem dX3_faceOf_11 : decode cX3_faceOf 11 = .ok (.if_icmp .ne 7, 3) := by decide +kernel
theorem dX3_faceOf_14 : decode cX3_faceOf 14 = .ok (.iconst 0, 1) := by decide +kernel
theorem dX3_faceOf_15 : decode cX3_faceOf 15 = .ok (.goto 4, 3) := by decide +kernel
theorem dX3_faceOf_18 : decode cX3_faceOf 18 = .ok (.iconst 2, 1) := by decide +kernel
theorem dX3_faceOf_19 : decode cX3_faceOf 19 = .ok (.ireturn, 1) := by decide +kernel
theorem dX3_edgeOf_0 : decode cX3_edgeOf 0 = .ok (.aload_n 0, 1) := by decide +kernel
theorem dX3_edgeOf_1 : decode cX3_edgeOf 1 = .ok (.getfield 43, 3) := by decide +kernel
theorem dX3_edgeOf_4 : decode cX3_edgeOf 4 = .ok (.iload_n 2, 1) := by decide +kernel
theorem dX3_edgeOf_5 : decode cX3_edgeOf 5 = .ok (.iaload, 1) := by decide +kernel
theorem dX3_edgeOf_6 : decode cX3_edgeOf 6 = .ok (.ifCond .le 16, 3) := by decide +kernel
theorem dX3_edgeOf_9 : decode cX3_edgeOf 9 = .ok (.aload_n 1, 1) := by decide +kernel
theorem dX3_edgeOf_10 : decode cX3_edgeOf 10 = .ok (.invokestatic 74, 3) := by decide +kernel
theorem dX3_edgeOf_13 : decode cX3_edgeOf 13 = .ok (.ifCond .eq 7, 3) := by decide +kernel
theorem dX3_edgeOf_16 : decode cX3_edgeOf 16 = .ok (.iconst 1, 1) := by decide +kernel
theorem dX3_edgeOf_17 : decode cX3_edgeOf 17 = .ok (.goto 4, 3) := by decide +kernel
theorem dX3_edgeOf_20 : decode cX3_edgeOf 20 = .ok (.iconst 0, 1) := by decide +kernel
theorem dX3_edgeOf_21 : decode cX3_edgeOf 21 = .ok (.ireturn, 1) := by decide +kernel
theorem dX3_edgeOf_22 : decode cX3_edgeOf 22 = .ok (.aload_n 1, 1) := by decide +kernel
theorem dX3_edgeOf_23 : decode cX3_edgeOf 23 = .ok (.aload_n 0, 1) := by decide +kernel
theorem dX3_edgeOf_24 : decode cX3_edgeOf 24 = .ok (.getfield 46, 3) := by decide +kernel
theorem dX3_edgeOf_27 : decode cX3_edgeOf 27 = .ok (.iload_n 2, 1) := by decide +kernel
theorem dX3_edgeOf_28 : decode cX3_edgeOf 28 = .ok (.iaload, 1) := by decide +kernel
theorem dX3_edgeOf_29 : decode cX3_edgeOf 29 = .ok (.invokestatic 263, 3) := by decide +kernel
theorem dX3_edgeOf_32 : decode cX3_edgeOf 32 = .ok (.ireturn, 1) := by decide +kernel
theorem dX3_countSegment_0 : decode cX3_countSegment 0 = .ok (.aload_n 0, 1) := by decide +kernel
theorem dX3_countSegment_1 : decode cX3_countSegment 1 = .ok (.getfield 16, 3) := by decide +kernel
theorem dX3_countSegment_4 : decode cX3_countSegment 4 = .ok (.getfield 270, 3) := by decide +kernel
theorem dX3_countSegment_7 : decode cX3_countSegment 7 = .ok (.iload 6, 2) := by decide +kernel
theorem dX3_countSegment_9 : decode cX3_countSegment 9 = .ok (.iaload, 1) := by decide +kernel
theorem dX3_countSegment_10 : decode cX3_countSegment 10 = .ok (.istore 7, 2) := by decide +kernel
theorem dX3_countSegment_12 : decode cX3_countSegment 12 = .ok (.aload_n 0, 1) := by decide +kernel
theorem dX3_countSegment_13 : decode cX3_countSegment 13 = .ok (.aload_n 0, 1) := by decide +kernel
theorem dX3_countSegment_14 : decode cX3_countSegment 14 = .ok (.getfield 16, 3) := by decide +kernel
theorem dX3_countSegment_17 : decode cX3_countSegment 17 = .ok (.getfield 218, 3) := by decide +kernel
theorem dX3_countSegment_20 : decode cX3_countSegment 20 = .ok (.iload 6, 2) := by decide +kernel
theorem dX3_countSegment_22 : decode cX3_countSegment 22 = .ok (.iaload, 1) := by decide +kernel
theorem dX3_countSegment_23 : decode cX3_countSegment 23 = .ok (.iload_n 1, 1) := by decide +kernel
theorem dX3_countSegment_24 : decode cX3_countSegment 24 = .ok (.lload_n 2, 1) := by decide +kernel
theorem dX3_countSegment_25 : decode cX3_countSegment 25 = .ok (.lload 4, 2) := by decide +kernel
theorem dX3_countSegment_27 : decode cX3_countSegment 27 = .ok (.invokevirtual 273, 3) := by decide +kernel
theorem dX3_countSegment_30 : decode cX3_countSegment 30 = .ok (.istore 8, 2) := by decide +kernel
theorem dX3_countSegment_32 : decode cX3_countSegment 32 = .ok (.aload_n 0, 1) := by decide +kernel
theorem dX3_countSegment_33 : decode cX3_countSegment 33 = .ok (.aload_n 0, 1) := by decide +kernel
theorem dX3_countSegment_34 : decode cX3_countSegment 34 = .ok (.getfield 16, 3) := by decide +kernel
theorem dX3_countSegment_37 : decode cX3_countSegment 37 = .ok (.getfield 224, 3) := by decide +kernel
theorem dX3_countSegment_40 : decode cX3_countSegment 40 = .ok (.iload 6, 2) := by decide +kernel
theorem dX3_countSegment_42 : decode cX3_countSegment 42 = .ok (.iaload, 1) := by decide +kernel
theorem dX3_countSegment_43 : decode cX3_countSegment 43 = .ok (.iload_n 1, 1) := by decide +kernel
theorem dX3_countSegment_44 : decode cX3_countSegment 44 = .ok (.lload_n 2, 1) := by decide +kernel
theorem dX3_countSegment_45 : decode cX3_countSegment 45 = .ok (.lload 4, 2) := by decide +kernel
theorem dX3_countSegment_47 : decode cX3_countSegment 47 = .ok (.invokevirtual 273, 3) := by decide +kernel
theorem dX3_countSegment_50 : decode cX3_countSegment 50 = .ok (.istore 9, 2) := by decide +kernel
theorem dX3_countSegment_52 : decode cX3_countSegment 52 = .ok (.aload_n 0, 1) := by decide +kernel
theorem dX3_countSegment_53 : decode cX3_countSegment 53 = .ok (.iload 6, 2) := by decide +kernel
theorem dX3_countSegment_55 : decode cX3_countSegment 55 = .ok (.invokevirtual 227, 3) := by decide +kernel
theorem dX3_countSegment_58 : decode cX3_countSegment 58 = .ok (.aload_n 0, 1) := by decide +kernel
theorem dX3_countSegment_59 : decode cX3_countSegment 59 = .ok (.iload_n 1, 1) := by decide +kernel
theorem dX3_countSegment_60 : decode cX3_countSegment 60 = .ok (.invokevirtual 231, 3) := by decide +kernel
theorem dX3_countSegment_63 : decode cX3_countSegment 63 = .ok (.lmul, 1) := by decide +kernel
theorem dX3_countSegment_64 : decode cX3_countSegment 64 = .ok (.aload_n 0, 1) := by decide +kernel
theorem dX3_countSegment_65 : decode cX3_countSegment 65 = .ok (.iload 6, 2) := by decide +kernel
theorem dX3_countSegment_67 : decode cX3_countSegment 67 = .ok (.invokevirtual 231, 3) := by decide +kernel
theorem dX3_countSegment_70 : decode cX3_countSegment 70 = .ok (.aload_n 0, 1) := by decide +kernel
theorem dX3_countSegment_71 : decode cX3_countSegment 71 = .ok (.iload_n 1, 1) := by decide +kernel
theorem dX3_countSegment_72 : decode cX3_countSegment 72 = .ok (.invokevirtual 227, 3) := by decide +kernel
theorem dX3_countSegment_75 : decode cX3_countSegment 75 = .ok (.lmul, 1) := by decide +kernel
theorem dX3_countSegment_76 : decode cX3_countSegment 76 = .ok (.lsub, 1) := by decide +kernel
theorem dX3_countSegment_77 : decode cX3_countSegment 77 = .ok (.lstore 10, 2) := by decide +kernel
theorem dX3_countSegment_79 : decode cX3_countSegment 79 = .ok (.aload_n 0, 1) := by decide +kernel
theorem dX3_countSegment_80 : decode cX3_countSegment 80 = .ok (.iload 6, 2) := by decide +kernel
theorem dX3_countSegment_82 : decode cX3_countSegment 82 = .ok (.invokevirtual 227, 3) := by decide +kernel
theorem dX3_countSegment_85 : decode cX3_countSegment 85 = .ok (.aload_n 0, 1) := by decide +kernel
theorem dX3_countSegment_86 : decode cX3_countSegment 86 = .ok (.getfield 16, 3) := by decide +kernel
theorem dX3_countSegment_89 : decode cX3_countSegment 89 = .ok (.getfield 218, 3) := by decide +kernel
theorem dX3_countSegment_92 : decode cX3_countSegment 92 = .ok (.iload_n 1, 1) := by decide +kernel
theorem dX3_countSegment_93 : decode cX3_countSegment 93 = .ok (.iaload, 1) := by decide +kernel
theorem dX3_countSegment_94 : decode cX3_countSegment 94 = .ok (.i2l, 1) := by decide +kernel
theorem dX3_countSegment_95 : decode cX3_countSegment 95 = .ok (.aload_n 0, 1) := by decide +kernel
theorem dX3_countSegment_96 : decode cX3_countSegment 96 = .ok (.getfield 16, 3) := by decide +kernel
theorem dX3_countSegment_99 : decode cX3_countSegment 99 = .ok (.getfield 218, 3) := by decide +kernel
theorem dX3_countSegment_102 : decode cX3_countSegment 102 = .ok (.iload 6, 2) := by decide +kernel
theorem dX3_countSegment_104 : decode cX3_countSegment 104 = .ok (.iaload, 1) := by decide +kernel
theorem dX3_countSegment_105 : decode cX3_countSegment 105 = .ok (.i2l, 1) := by decide +kernel
theorem dX3_countSegment_106 : decode cX3_countSegment 106 = .ok (.lsub, 1) := by decide +kernel
theorem dX3_countSegment_107 : decode cX3_countSegment 107 = .ok (.lmul, 1) := by decide +kernel
theorem dX3_countSegment_108 : decode cX3_countSegment 108 = .ok (.aload_n 0, 1) := by decide +kernel
theorem dX3_countSegment_109 : decode cX3_countSegment 109 = .ok (.iload 6, 2) := by decide +kernel
theorem dX3_countSegment_111 : decode cX3_countSegment 111 = .ok (.invokevirtual 231, 3) := by decide +kernel
theorem dX3_countSegment_114 : decode cX3_countSegment 114 = .ok (.aload_n 0, 1) := by decide +kernel
theorem dX3_countSegment_115 : decode cX3_countSegment 115 = .ok (.getfield 16, 3) := by decide +kernel
theorem dX3_countSegment_118 : decode cX3_countSegment 118 = .ok (.getfield 215, 3) := by decide +kernel
theorem dX3_countSegment_121 : decode cX3_countSegment 121 = .ok (.iload_n 1, 1) := by decide +kernel
theorem dX3_countSegment_122 : decode cX3_countSegment 122 = .ok (.iaload, 1) := by decide +kernel
theorem dX3_countSegment_123 : decode cX3_countSegment 123 = .ok (.i2l, 1) := by decide +kernel
theorem dX3_countSegment_124 : decode cX3_countSegment 124 = .ok (.aload_n 0, 1) := by decide +kernel
theorem dX3_countSegment_125 : decode cX3_countSegment 125 = .ok (.getfield 16, 3) := by decide +kernel
theorem dX3_countSegment_128 : decode cX3_countSegment 128 = .ok (.getfield 215, 3) := by decide +kernel
theorem dX3_countSegment_131 : decode cX3_countSegment 131 = .ok (.iload 6, 2) := by decide +kernel
theorem dX3_countSegment_133 : decode cX3_countSegment 133 = .ok (.iaload, 1) := by decide +kernel
theorem dX3_countSegment_134 : decode cX3_countSegment 134 = .ok (.i2l, 1) := by decide +kernel
theorem dX3_countSegment_135 : decode cX3_countSegment 135 = .ok (.lsub, 1) := by decide +kernel
theorem dX3_countSegment_136 : decode cX3_countSegment 136 = .ok (.lmul, 1) := by decide +kernel
theorem dX3_countSegment_137 : decode cX3_countSegment 137 = .ok (.lsub, 1) := by decide +kernel
theorem dX3_countSegment_138 : decode cX3_countSegment 138 = .ok (.lstore 12, 2) := by decide +kernel
theorem dX3_countSegment_140 : decode cX3_countSegment 140 = .ok (.lload 10, 2) := by decide +kernel
theorem dX3_countSegment_142 : decode cX3_countSegment 142 = .ok (.lconst 0, 1) := by decide +kernel
theorem dX3_countSegment_143 : decode cX3_countSegment 143 = .ok (.lcmp, 1) := by decide +kernel
theorem dX3_countSegment_144 : decode cX3_countSegment 144 = .ok (.ifCond .ne 38, 3) := by decide +kernel
theorem dX3_countSegment_147 : decode cX3_countSegment 147 = .ok (.lload 12, 2) := by decide +kernel
theorem dX3_countSegment_149 : decode cX3_countSegment 149 = .ok (.lconst 0, 1) := by decide +kernel
theorem dX3_countSegment_150 : decode cX3_countSegment 150 = .ok (.lcmp, 1) := by decide +kernel
theorem dX3_countSegment_151 : decode cX3_countSegment 151 = .ok (.ifCond .ne 31, 3) := by decide +kernel
theorem dX3_countSegment_154 : decode cX3_countSegment 154 = .ok (.aload_n 0, 1) := by decide +kernel
theorem dX3_countSegment_155 : decode cX3_countSegment 155 = .ok (.getfield 43, 3) := by decide +kernel
theorem dX3_countSegment_158 : decode cX3_countSegment 158 = .ok (.iload 7, 2) := by decide +kernel
theorem dX3_countSegment_160 : decode cX3_countSegment 160 = .ok (.dup2, 1) := by decide +kernel
theorem dX3_countSegment_161 : decode cX3_countSegment 161 = .ok (.iaload, 1) := by decide +kernel
theorem dX3_countSegment_162 : decode cX3_countSegment 162 = .ok (.aload_n 0, 1) := by decide +kernel
theorem dX3_countSegment_163 : decode cX3_countSegment 163 = .ok (.iload_n 1, 1) := by decide +kernel
theorem dX3_countSegment_164 : decode cX3_countSegment 164 = .ok (.lload_n 2, 1) := by decide +kernel
theorem dX3_countSegment_165 : decode cX3_countSegment 165 = .ok (.lload 4, 2) := by decide +kernel
theorem dX3_countSegment_167 : decode cX3_countSegment 167 = .ok (.iload 6, 2) := by decide +kernel
theorem dX3_countSegment_169 : decode cX3_countSegment 169 = .ok (.invokevirtual 277, 3) := by decide +kernel
theorem dX3_countSegment_172 : decode cX3_countSegment 172 = .ok (.ifCond .eq 7, 3) := by decide +kernel
theorem dX3_countSegment_175 : decode cX3_countSegment 175 = .ok (.iconst 1, 1) := by decide +kernel
theorem dX3_countSegment_176 : decode cX3_countSegment 176 = .ok (.goto 4, 3) := by decide +kernel
theorem dX3_countSegment_179 : decode cX3_countSegment 179 = .ok (.iconst 0, 1) := by decide +kernel
theorem dX3_countSegment_180 : decode cX3_countSegment 180 = .ok (.iadd, 1) := by decide +kernel
theorem dX3_countSegment_181 : decode cX3_countSegment 181 = .ok (.iastore, 1) := by decide +kernel
theorem dX3_countSegment_182 : decode cX3_countSegment 182 = .ok (.iload 8, 2) := by decide +kernel
theorem dX3_countSegment_184 : decode cX3_countSegment 184 = .ok (.iload 9, 2) := by decide +kernel
theorem dX3_countSegment_186 : decode cX3_countSegment 186 = .ok (.if_icmp .ne 4, 3) := by decide +kernel
theorem dX3_countSegment_189 : decode cX3_countSegment 189 = .ok (.return_, 1) := by decide +kernel
theorem dX3_countSegment_190 : decode cX3_countSegment 190 = .ok (.lload 12, 2) := by decide +kernel
theorem dX3_countSegment_192 : decode cX3_countSegment 192 = .ok (.lload 4, 2) := by decide +kernel
theorem dX3_countSegment_194 : decode cX3_countSegment 194 = .ok (.lload 10, 2) := by decide +kernel
theorem dX3_countSegment_196 : decode cX3_countSegment 196 = .ok (.lload_n 2, 1) := by decide +kernel
theorem dX3_countSegment_197 : decode cX3_countSegment 197 = .ok (.lconst 0, 1) := by decide +kernel
theorem dX3_countSegment_198 : decode cX3_countSegment 198 = .ok (.lconst 0, 1) := by decide +kernel
theorem dX3_countSegment_199 : decode cX3_countSegment 199 = .ok (.invokestatic 198, 3) := by decide +kernel
theorem dX3_countSegment_202 : decode cX3_countSegment 202 = .ok (.istore 14, 2) := by decide +kernel
theorem dX3_countSegment_204 : decode cX3_countSegment 204 = .ok (.iload 14, 2) := by decide +kernel
theorem dX3_countSegment_206 : decode cX3_countSegment 206 = .ok (.ifCond .ne 11, 3) := by decide +kernel
theorem dX3_countSegment_209 : decode cX3_countSegment 209 = .ok (.lload 10, 2) := by decide +kernel
theorem dX3_countSegment_211 : decode cX3_countSegment 211 = .ok (.lconst 0, 1) := by decide +kernel
theorem dX3_countSegment_212 : decode cX3_countSegment 212 = .ok (.invokestatic 281, 3) := by decide +kernel
theorem dX3_countSegment_215 : decode cX3_countSegment 215 = .ok (.istore 14, 2) := by decide +kernel
theorem dX3_countSegment_217 : decode cX3_countSegment 217 = .ok (.iload 14, 2) := by decide +kernel
theorem dX3_countSegment_219 : decode cX3_countSegment 219 = .ok (.ifCond .ne 34, 3) := by decide +kernel
theorem dX3_countSegment_222 : decode cX3_countSegment 222 = .ok (.aload_n 0, 1) := by decide +kernel
theorem dX3_countSegment_223 : decode cX3_countSegment 223 = .ok (.iload 6, 2) := by decide +kernel
theorem dX3_countSegment_225 : decode cX3_countSegment 225 = .ok (.invokevirtual 227, 3) := by decide +kernel
theorem dX3_countSegment_228 : decode cX3_countSegment 228 = .ok (.aload_n 0, 1) := by decide +kernel
theorem dX3_countSegment_229 : decode cX3_countSegment 229 = .ok (.iload_n 1, 1) := by decide +kernel
theorem dX3_countSegment_230 : decode cX3_countSegment 230 = .ok (.invokevirtual 227, 3) := by decide +kernel
theorem dX3_countSegment_233 : decode cX3_countSegment 233 = .ok (.lmul, 1) := by decide +kernel
theorem dX3_countSegment_234 : decode cX3_countSegment 234 = .ok (.aload_n 0, 1) := by decide +kernel
theorem dX3_countSegment_235 : decode cX3_countSegment 235 = .ok (.iload 6, 2) := by decide +kernel
theorem dX3_countSegment_237 : decode cX3_countSegment 237 = .ok (.invokevirtual 231, 3) := by decide +kernel
theorem dX3_countSegment_240 : decode cX3_countSegment 240 = .ok (.aload_n 0, 1) := by decide +kernel
theorem dX3_countSegment_241 : decode cX3_countSegment 241 = .ok (.iload_n 1, 1) := by decide +kernel
theorem dX3_countSegment_242 : decode cX3_countSegment 242 = .ok (.invokevirtual 231, 3) := by decide +kernel
theorem dX3_countSegment_245 : decode cX3_countSegment 245 = .ok (.lmul, 1) := by decide +kernel
theorem dX3_countSegment_246 : decode cX3_countSegment 246 = .ok (.ladd, 1) := by decide +kernel
theorem dX3_countSegment_247 : decode cX3_countSegment 247 = .ok (.lconst 0, 1) := by decide +kernel
theorem dX3_countSegment_248 : decode cX3_countSegment 248 = .ok (.invokestatic 281, 3) := by decide +kernel
theorem dX3_countSegment_251 : decode cX3_countSegment 251 = .ok (.istore 14, 2) := by decide +kernel
theorem dX3_countSegment_253 : decode cX3_countSegment 253 = .ok (.aload_n 0, 1) := by decide +kernel
theorem dX3_countSegment_254 : decode cX3_countSegment 254 = .ok (.getfield 46, 3) := by decide +kernel
theorem dX3_countSegment_257 : decode cX3_countSegment 257 = .ok (.iload 7, 2) := by decide +kernel
theorem dX3_countSegment_259 : decode cX3_countSegment 259 = .ok (.dup2, 1) := by decide +kernel
theorem dX3_countSegment_260 : decode cX3_countSegment 260 = .ok (.iaload, 1) := by decide +kernel
theorem dX3_countSegment_261 : decode cX3_countSegment 261 = .ok (.iload 9, 2) := by decide +kernel
theorem dX3_countSegment_263 : decode cX3_countSegment 263 = .ok (.ifCond .eq 11, 3) := by decide +kernel
theorem dX3_countSegment_266 : decode cX3_countSegment 266 = .ok (.iload 14, 2) := by decide +kernel
theorem dX3_countSegment_268 : decode cX3_countSegment 268 = .ok (.ifCond .le 15, 3) := by decide +kernel
theorem dX3_countSegment_271 : decode cX3_countSegment 271 = .ok (.goto 8, 3) := by decide +kernel
theorem dX3_countSegment_274 : decode cX3_countSegment 274 = .ok (.iload 14, 2) := by decide +kernel
theorem dX3_countSegment_276 : decode cX3_countSegment 276 = .ok (.ifCond .ge 7, 3) := by decide +kernel
theorem dX3_countSegment_279 : decode cX3_countSegment 279 = .ok (.iconst 1, 1) := by decide +kernel
theorem dX3_countSegment_280 : decode cX3_countSegment 280 = .ok (.goto 4, 3) := by decide +kernel
theorem dX3_countSegment_283 : decode cX3_countSegment 283 = .ok (.iconst 0, 1) := by decide +kernel
theorem dX3_countSegment_284 : decode cX3_countSegment 284 = .ok (.iadd, 1) := by decide +kernel
theorem dX3_countSegment_285 : decode cX3_countSegment 285 = .ok (.iastore, 1) := by decide +kernel
theorem dX3_countSegment_286 : decode cX3_countSegment 286 = .ok (.return_, 1) := by decide +kernel
theorem dX3_isAbove_0 : decode cX3_isAbove 0 = .ok (.iload_n 1, 1) := by decide +kernel
theorem dX3_isAbove_1 : decode cX3_isAbove 1 = .ok (.i2l, 1) := by decide +kernel
theorem dX3_isAbove_2 : decode cX3_isAbove 2 = .ok (.aload_n 0, 1) := by decide +kernel
theorem dX3_isAbove_3 : decode cX3_isAbove 3 = .ok (.getfield 16, 3) := by decide +kernel
theorem dX3_isAbove_6 : decode cX3_isAbove 6 = .ok (.getfield 218, 3) := by decide +kernel
theorem dX3_isAbove_9 : decode cX3_isAbove 9 = .ok (.iload_n 2, 1) := by decide +kernel
theorem dX3_isAbove_10 : decode cX3_isAbove 10 = .ok (.iaload, 1) := by decide +kernel
theorem dX3_isAbove_11 : decode cX3_isAbove 11 = .ok (.i2l, 1) := by decide +kernel
theorem dX3_isAbove_12 : decode cX3_isAbove 12 = .ok (.lsub, 1) := by decide +kernel
theorem dX3_isAbove_13 : decode cX3_isAbove 13 = .ok (.lload 5, 2) := by decide +kernel
theorem dX3_isAbove_15 : decode cX3_isAbove 15 = .ok (.aload_n 0, 1) := by decide +kernel
theorem dX3_isAbove_16 : decode cX3_isAbove 16 = .ok (.iload_n 2, 1) := by decide +kernel
theorem dX3_isAbove_17 : decode cX3_isAbove 17 = .ok (.invokevirtual 231, 3) := by decide +kernel
theorem dX3_isAbove_20 : decode cX3_isAbove 20 = .ok (.lneg, 1) := by decide +kernel
theorem dX3_isAbove_21 : decode cX3_isAbove 21 = .ok (.lload_n 3, 1) := by decide +kernel
theorem dX3_isAbove_22 : decode cX3_isAbove 22 = .ok (.lconst 0, 1) := by decide +kernel
theorem dX3_isAbove_23 : decode cX3_isAbove 23 = .ok (.lconst 0, 1) := by decide +kernel
theorem dX3_isAbove_24 : decode cX3_isAbove 24 = .ok (.invokestatic 198, 3) := by decide +kernel
theorem dX3_isAbove_27 : decode cX3_isAbove 27 = .ok (.istore 7, 2) := by decide +kernel
theorem dX3_isAbove_29 : decode cX3_isAbove 29 = .ok (.iload 7, 2) := by decide +kernel
theorem dX3_isAbove_31 : decode cX3_isAbove 31 = .ok (.ifCond .ne 14, 3) := by decide +kernel
theorem dX3_isAbove_34 : decode cX3_isAbove 34 = .ok (.lconst 0, 1) := by decide +kernel
theorem dX3_isAbove_35 : decode cX3_isAbove 35 = .ok (.aload_n 0, 1) := by decide +kernel
theorem dX3_isAbove_36 : decode cX3_isAbove 36 = .ok (.iload_n 2, 1) := by decide +kernel
theorem dX3_isAbove_37 : decode cX3_isAbove 37 = .ok (.invokevirtual 231, 3) := by decide +kernel
theorem dX3_isAbove_40 : decode cX3_isAbove 40 = .ok (.invokestatic 281, 3) := by decide +kernel
theorem dX3_isAbove_43 : decode cX3_isAbove 43 = .ok (.istore 7, 2) := by decide +kernel
theorem dX3_isAbove_45 : decode cX3_isAbove 45 = .ok (.iload 7, 2) := by decide +kernel
theorem dX3_isAbove_47 : decode cX3_isAbove 47 = .ok (.ifCond .eq 16, 3) := by decide +kernel
theorem dX3_isAbove_50 : decode cX3_isAbove 50 = .ok (.iload 7, 2) := by decide +kernel
theorem dX3_isAbove_52 : decode cX3_isAbove 52 = .ok (.ifCond .le 7, 3) := by decide +kernel
theorem dX3_isAbove_55 : decode cX3_isAbove 55 = .ok (.iconst 1, 1) := by decide +kernel
theorem dX3_isAbove_56 : decode cX3_isAbove 56 = .ok (.goto 22, 3) := by decide +kernel
theorem dX3_isAbove_59 : decode cX3_isAbove 59 = .ok (.iconst 0, 1) := by decide +kernel
theorem dX3_isAbove_60 : decode cX3_isAbove 60 = .ok (.goto 18, 3) := by decide +kernel
theorem dX3_isAbove_63 : decode cX3_isAbove 63 = .ok (.aload_n 0, 1) := by decide +kernel
theorem dX3_isAbove_64 : decode cX3_isAbove 64 = .ok (.iload_n 2, 1) := by decide +kernel
theorem dX3_isAbove_65 : decode cX3_isAbove 65 = .ok (.invokevirtual 227, 3) := by decide +kernel
theorem dX3_isAbove_68 : decode cX3_isAbove 68 = .ok (.lconst 0, 1) := by decide +kernel
theorem dX3_isAbove_69 : decode cX3_isAbove 69 = .ok (.lcmp, 1) := by decide +kernel
theorem dX3_isAbove_70 : decode cX3_isAbove 70 = .ok (.ifCond .ge 7, 3) := by decide +kernel
theorem dX3_isAbove_73 : decode cX3_isAbove 73 = .ok (.iconst 1, 1) := by decide +kernel
theorem dX3_isAbove_74 : decode cX3_isAbove 74 = .ok (.goto 4, 3) := by decide +kernel
theorem dX3_isAbove_77 : decode cX3_isAbove 77 = .ok (.iconst 0, 1) := by decide +kernel
theorem dX3_isAbove_78 : decode cX3_isAbove 78 = .ok (.ireturn, 1) := by decide +kernel
