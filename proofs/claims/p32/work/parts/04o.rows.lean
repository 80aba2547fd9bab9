theorem dX12_isLaid_0 : decode cX12_isLaid 0 = .ok (.aload_n 0, 1) := by decide +kernel
theorem dX12_isLaid_1 : decode cX12_isLaid 1 = .ok (.getfield 23, 3) := by decide +kernel
theorem dX12_isLaid_4 : decode cX12_isLaid 4 = .ok (.sipush 2048, 3) := by decide +kernel
theorem dX12_isLaid_7 : decode cX12_isLaid 7 = .ok (.iload_n 1, 1) := by decide +kernel
theorem dX12_isLaid_8 : decode cX12_isLaid 8 = .ok (.imul, 1) := by decide +kernel
theorem dX12_isLaid_9 : decode cX12_isLaid 9 = .ok (.iaload, 1) := by decide +kernel
theorem dX12_isLaid_10 : decode cX12_isLaid 10 = .ok (.istore_n 2, 1) := by decide +kernel
theorem dX12_isLaid_11 : decode cX12_isLaid 11 = .ok (.iload_n 2, 1) := by decide +kernel
theorem dX12_isLaid_12 : decode cX12_isLaid 12 = .ok (.iconst 3, 1) := by decide +kernel
theorem dX12_isLaid_13 : decode cX12_isLaid 13 = .ok (.if_icmp .eq 9, 3) := by decide +kernel
theorem dX12_isLaid_16 : decode cX12_isLaid 16 = .ok (.iload_n 2, 1) := by decide +kernel
theorem dX12_isLaid_17 : decode cX12_isLaid 17 = .ok (.bipush 6, 2) := by decide +kernel
theorem dX12_isLaid_19 : decode cX12_isLaid 19 = .ok (.if_icmp .ne 15, 3) := by decide +kernel
theorem dX12_isLaid_22 : decode cX12_isLaid 22 = .ok (.aload_n 0, 1) := by decide +kernel
theorem dX12_isLaid_23 : decode cX12_isLaid 23 = .ok (.iload_n 1, 1) := by decide +kernel
theorem dX12_isLaid_24 : decode cX12_isLaid 24 = .ok (.invokevirtual 777, 3) := by decide +kernel
theorem dX12_isLaid_27 : decode cX12_isLaid 27 = .ok (.ifCond .eq 7, 3) := by decide +kernel
theorem dX12_isLaid_30 : decode cX12_isLaid 30 = .ok (.iconst 1, 1) := by decide +kernel
theorem dX12_isLaid_31 : decode cX12_isLaid 31 = .ok (.goto 4, 3) := by decide +kernel
theorem dX12_isLaid_34 : decode cX12_isLaid 34 = .ok (.iconst 0, 1) := by decide +kernel
theorem dX12_isLaid_35 : decode cX12_isLaid 35 = .ok (.ireturn, 1) := by decide +kernel
theorem dX12_isNear_0 : decode cX12_isNear 0 = .ok (.iconst 1, 1) := by decide +kernel
theorem dX12_isNear_1 : decode cX12_isNear 1 = .ok (.istore_n 2, 1) := by decide +kernel
theorem dX12_isNear_2 : decode cX12_isNear 2 = .ok (.sipush 2048, 3) := by decide +kernel
theorem dX12_isNear_5 : decode cX12_isNear 5 = .ok (.iload_n 1, 1) := by decide +kernel
theorem dX12_isNear_6 : decode cX12_isNear 6 = .ok (.imul, 1) := by decide +kernel
theorem dX12_isNear_7 : decode cX12_isNear 7 = .ok (.istore_n 3, 1) := by decide +kernel
theorem dX12_isNear_8 : decode cX12_isNear 8 = .ok (.iload_n 3, 1) := by decide +kernel
theorem dX12_isNear_9 : decode cX12_isNear 9 = .ok (.sipush 2048, 3) := by decide +kernel
theorem dX12_isNear_12 : decode cX12_isNear 12 = .ok (.iload_n 1, 1) := by decide +kernel
theorem dX12_isNear_13 : decode cX12_isNear 13 = .ok (.imul, 1) := by decide +kernel
theorem dX12_isNear_14 : decode cX12_isNear 14 = .ok (.aload_n 0, 1) := by decide +kernel
theorem dX12_isNear_15 : decode cX12_isNear 15 = .ok (.getfield 26, 3) := by decide +kernel
theorem dX12_isNear_18 : decode cX12_isNear 18 = .ok (.iload_n 1, 1) := by decide +kernel
theorem dX12_isNear_19 : decode cX12_isNear 19 = .ok (.iaload, 1) := by decide +kernel
theorem dX12_isNear_20 : decode cX12_isNear 20 = .ok (.iadd, 1) := by decide +kernel
theorem dX12_isNear_21 : decode cX12_isNear 21 = .ok (.if_icmp .ge 57, 3) := by decide +kernel
theorem dX12_isNear_24 : decode cX12_isNear 24 = .ok (.iload_n 2, 1) := by decide +kernel
theorem dX12_isNear_25 : decode cX12_isNear 25 = .ok (.ifCond .eq 45, 3) := by decide +kernel
theorem dX12_isNear_28 : decode cX12_isNear 28 = .ok (.aload_n 0, 1) := by decide +kernel
theorem dX12_isNear_29 : decode cX12_isNear 29 = .ok (.getfield 29, 3) := by decide +kernel
theorem dX12_isNear_32 : decode cX12_isNear 32 = .ok (.iload_n 3, 1) := by decide +kernel
theorem dX12_isNear_33 : decode cX12_isNear 33 = .ok (.iaload, 1) := by decide +kernel
theorem dX12_isNear_34 : decode cX12_isNear 34 = .ok (.i2l, 1) := by decide +kernel
theorem dX12_isNear_35 : decode cX12_isNear 35 = .ok (.ldc2_w 780, 3) := by decide +kernel
theorem dX12_isNear_38 : decode cX12_isNear 38 = .ok (.ldc2_w 782, 3) := by decide +kernel
theorem dX12_isNear_41 : decode cX12_isNear 41 = .ok (.invokestatic 287, 3) := by decide +kernel
theorem dX12_isNear_44 : decode cX12_isNear 44 = .ok (.ifCond .eq 26, 3) := by decide +kernel
theorem dX12_isNear_47 : decode cX12_isNear 47 = .ok (.aload_n 0, 1) := by decide +kernel
theorem dX12_isNear_48 : decode cX12_isNear 48 = .ok (.getfield 32, 3) := by decide +kernel
theorem dX12_isNear_51 : decode cX12_isNear 51 = .ok (.iload_n 3, 1) := by decide +kernel
theorem dX12_isNear_52 : decode cX12_isNear 52 = .ok (.iaload, 1) := by decide +kernel
theorem dX12_isNear_53 : decode cX12_isNear 53 = .ok (.i2l, 1) := by decide +kernel
theorem dX12_isNear_54 : decode cX12_isNear 54 = .ok (.ldc2_w 780, 3) := by decide +kernel
theorem dX12_isNear_57 : decode cX12_isNear 57 = .ok (.ldc2_w 782, 3) := by decide +kernel
theorem dX12_isNear_60 : decode cX12_isNear 60 = .ok (.invokestatic 287, 3) := by decide +kernel
theorem dX12_isNear_63 : decode cX12_isNear 63 = .ok (.ifCond .eq 7, 3) := by decide +kernel
theorem dX12_isNear_66 : decode cX12_isNear 66 = .ok (.iconst 1, 1) := by decide +kernel
theorem dX12_isNear_67 : decode cX12_isNear 67 = .ok (.goto 4, 3) := by decide +kernel
theorem dX12_isNear_70 : decode cX12_isNear 70 = .ok (.iconst 0, 1) := by decide +kernel
theorem dX12_isNear_71 : decode cX12_isNear 71 = .ok (.istore_n 2, 1) := by decide +kernel
theorem dX12_isNear_72 : decode cX12_isNear 72 = .ok (.iinc 3 1, 3) := by decide +kernel
theorem dX12_isNear_75 : decode cX12_isNear 75 = .ok (.goto (-67), 3) := by decide +kernel
theorem dX12_isNear_78 : decode cX12_isNear 78 = .ok (.iload_n 2, 1) := by decide +kernel
theorem dX12_isNear_79 : decode cX12_isNear 79 = .ok (.ireturn, 1) := by decide +kernel
theorem dX12_layRings_0 : decode cX12_layRings 0 = .ok (.sipush 2048, 3) := by decide +kernel
theorem dX12_layRings_3 : decode cX12_layRings 3 = .ok (.iload_n 1, 1) := by decide +kernel
theorem dX12_layRings_4 : decode cX12_layRings 4 = .ok (.imul, 1) := by decide +kernel
theorem dX12_layRings_5 : decode cX12_layRings 5 = .ok (.istore_n 3, 1) := by decide +kernel
theorem dX12_layRings_6 : decode cX12_layRings 6 = .ok (.iload_n 3, 1) := by decide +kernel
theorem dX12_layRings_7 : decode cX12_layRings 7 = .ok (.aload_n 0, 1) := by decide +kernel
theorem dX12_layRings_8 : decode cX12_layRings 8 = .ok (.getfield 18, 3) := by decide +kernel
theorem dX12_layRings_11 : decode cX12_layRings 11 = .ok (.iload_n 1, 1) := by decide +kernel
theorem dX12_layRings_12 : decode cX12_layRings 12 = .ok (.iaload, 1) := by decide +kernel
theorem dX12_layRings_13 : decode cX12_layRings 13 = .ok (.iadd, 1) := by decide +kernel
theorem dX12_layRings_14 : decode cX12_layRings 14 = .ok (.istore 4, 2) := by decide +kernel
theorem dX12_layRings_16 : decode cX12_layRings 16 = .ok (.sipush 2048, 3) := by decide +kernel
theorem dX12_layRings_19 : decode cX12_layRings 19 = .ok (.iload_n 1, 1) := by decide +kernel
theorem dX12_layRings_20 : decode cX12_layRings 20 = .ok (.imul, 1) := by decide +kernel
theorem dX12_layRings_21 : decode cX12_layRings 21 = .ok (.istore 5, 2) := by decide +kernel
theorem dX12_layRings_23 : decode cX12_layRings 23 = .ok (.iconst 1, 1) := by decide +kernel
theorem dX12_layRings_24 : decode cX12_layRings 24 = .ok (.istore 6, 2) := by decide +kernel
theorem dX12_layRings_26 : decode cX12_layRings 26 = .ok (.iload_n 3, 1) := by decide +kernel
theorem dX12_layRings_27 : decode cX12_layRings 27 = .ok (.iload 4, 2) := by decide +kernel
theorem dX12_layRings_29 : decode cX12_layRings 29 = .ok (.if_icmp .ge 139, 3) := by decide +kernel
theorem dX12_layRings_32 : decode cX12_layRings 32 = .ok (.aload_n 0, 1) := by decide +kernel
theorem dX12_layRings_33 : decode cX12_layRings 33 = .ok (.getfield 23, 3) := by decide +kernel
theorem dX12_layRings_36 : decode cX12_layRings 36 = .ok (.iload_n 3, 1) := by decide +kernel
theorem dX12_layRings_37 : decode cX12_layRings 37 = .ok (.iaload, 1) := by decide +kernel
theorem dX12_layRings_38 : decode cX12_layRings 38 = .ok (.istore 7, 2) := by decide +kernel
theorem dX12_layRings_40 : decode cX12_layRings 40 = .ok (.aload_n 0, 1) := by decide +kernel
theorem dX12_layRings_41 : decode cX12_layRings 41 = .ok (.getfield 23, 3) := by decide +kernel
theorem dX12_layRings_44 : decode cX12_layRings 44 = .ok (.iload_n 3, 1) := by decide +kernel
theorem dX12_layRings_45 : decode cX12_layRings 45 = .ok (.iconst 1, 1) := by decide +kernel
theorem dX12_layRings_46 : decode cX12_layRings 46 = .ok (.iadd, 1) := by decide +kernel
theorem dX12_layRings_47 : decode cX12_layRings 47 = .ok (.iaload, 1) := by decide +kernel
theorem dX12_layRings_48 : decode cX12_layRings 48 = .ok (.istore 8, 2) := by decide +kernel
theorem dX12_layRings_50 : decode cX12_layRings 50 = .ok (.iinc 3 2, 3) := by decide +kernel
theorem dX12_layRings_53 : decode cX12_layRings 53 = .ok (.iconst 0, 1) := by decide +kernel
theorem dX12_layRings_54 : decode cX12_layRings 54 = .ok (.istore 9, 2) := by decide +kernel
theorem dX12_layRings_56 : decode cX12_layRings 56 = .ok (.iload 7, 2) := by decide +kernel
theorem dX12_layRings_58 : decode cX12_layRings 58 = .ok (.iconst 3, 1) := by decide +kernel
theorem dX12_layRings_59 : decode cX12_layRings 59 = .ok (.if_icmp .ne 106, 3) := by decide +kernel
theorem dX12_layRings_62 : decode cX12_layRings 62 = .ok (.iload 9, 2) := by decide +kernel
theorem dX12_layRings_64 : decode cX12_layRings 64 = .ok (.iload 8, 2) := by decide +kernel
theorem dX12_layRings_66 : decode cX12_layRings 66 = .ok (.if_icmp .ge 99, 3) := by decide +kernel
theorem dX12_layRings_69 : decode cX12_layRings 69 = .ok (.aload_n 0, 1) := by decide +kernel
theorem dX12_layRings_70 : decode cX12_layRings 70 = .ok (.getfield 23, 3) := by decide +kernel
theorem dX12_layRings_73 : decode cX12_layRings 73 = .ok (.iload_n 3, 1) := by decide +kernel
theorem dX12_layRings_74 : decode cX12_layRings 74 = .ok (.iaload, 1) := by decide +kernel
theorem dX12_layRings_75 : decode cX12_layRings 75 = .ok (.istore 10, 2) := by decide +kernel
theorem dX12_layRings_77 : decode cX12_layRings 77 = .ok (.iload 6, 2) := by decide +kernel
theorem dX12_layRings_79 : decode cX12_layRings 79 = .ok (.ifCond .eq 28, 3) := by decide +kernel
theorem dX12_layRings_82 : decode cX12_layRings 82 = .ok (.iload 10, 2) := by decide +kernel
theorem dX12_layRings_84 : decode cX12_layRings 84 = .ok (.ifCond .le 23, 3) := by decide +kernel
theorem dX12_layRings_87 : decode cX12_layRings 87 = .ok (.aload_n 0, 1) := by decide +kernel
theorem dX12_layRings_88 : decode cX12_layRings 88 = .ok (.iload 5, 2) := by decide +kernel
theorem dX12_layRings_90 : decode cX12_layRings 90 = .ok (.iload 5, 2) := by decide +kernel
theorem dX12_layRings_92 : decode cX12_layRings 92 = .ok (.iload 10, 2) := by decide +kernel
theorem dX12_layRings_94 : decode cX12_layRings 94 = .ok (.iadd, 1) := by decide +kernel
theorem dX12_layRings_95 : decode cX12_layRings 95 = .ok (.iconst 1, 1) := by decide +kernel
theorem dX12_layRings_96 : decode cX12_layRings 96 = .ok (.isub, 1) := by decide +kernel
theorem dX12_layRings_97 : decode cX12_layRings 97 = .ok (.invokevirtual 688, 3) := by decide +kernel
theorem dX12_layRings_100 : decode cX12_layRings 100 = .ok (.ifCond .eq 7, 3) := by decide +kernel
theorem dX12_layRings_103 : decode cX12_layRings 103 = .ok (.iconst 1, 1) := by decide +kernel
theorem dX12_layRings_104 : decode cX12_layRings 104 = .ok (.goto 4, 3) := by decide +kernel
theorem dX12_layRings_107 : decode cX12_layRings 107 = .ok (.iconst 0, 1) := by decide +kernel
theorem dX12_layRings_108 : decode cX12_layRings 108 = .ok (.istore 6, 2) := by decide +kernel
theorem dX12_layRings_110 : decode cX12_layRings 110 = .ok (.iconst 0, 1) := by decide +kernel
theorem dX12_layRings_111 : decode cX12_layRings 111 = .ok (.istore 11, 2) := by decide +kernel
theorem dX12_layRings_113 : decode cX12_layRings 113 = .ok (.iload 11, 2) := by decide +kernel
theorem dX12_layRings_115 : decode cX12_layRings 115 = .ok (.iconst 1, 1) := by decide +kernel
theorem dX12_layRings_116 : decode cX12_layRings 116 = .ok (.iadd, 1) := by decide +kernel
theorem dX12_layRings_117 : decode cX12_layRings 117 = .ok (.iload 10, 2) := by decide +kernel
theorem dX12_layRings_119 : decode cX12_layRings 119 = .ok (.if_icmp .ge 30, 3) := by decide +kernel
theorem dX12_layRings_122 : decode cX12_layRings 122 = .ok (.aload_n 0, 1) := by decide +kernel
theorem dX12_layRings_123 : decode cX12_layRings 123 = .ok (.iload 5, 2) := by decide +kernel
theorem dX12_layRings_125 : decode cX12_layRings 125 = .ok (.iload 11, 2) := by decide +kernel
theorem dX12_layRings_127 : decode cX12_layRings 127 = .ok (.iadd, 1) := by decide +kernel
theorem dX12_layRings_128 : decode cX12_layRings 128 = .ok (.iload 5, 2) := by decide +kernel
theorem dX12_layRings_130 : decode cX12_layRings 130 = .ok (.iload 11, 2) := by decide +kernel
theorem dX12_layRings_132 : decode cX12_layRings 132 = .ok (.iadd, 1) := by decide +kernel
theorem dX12_layRings_133 : decode cX12_layRings 133 = .ok (.iconst 1, 1) := by decide +kernel
theorem dX12_layRings_134 : decode cX12_layRings 134 = .ok (.iadd, 1) := by decide +kernel
theorem dX12_layRings_135 : decode cX12_layRings 135 = .ok (.iload 9, 2) := by decide +kernel
theorem dX12_layRings_137 : decode cX12_layRings 137 = .ok (.iload 11, 2) := by decide +kernel
theorem dX12_layRings_139 : decode cX12_layRings 139 = .ok (.iload_n 2, 1) := by decide +kernel
theorem dX12_layRings_140 : decode cX12_layRings 140 = .ok (.invokevirtual 684, 3) := by decide +kernel
theorem dX12_layRings_143 : decode cX12_layRings 143 = .ok (.iinc 11 1, 3) := by decide +kernel
theorem dX12_layRings_146 : decode cX12_layRings 146 = .ok (.goto (-33), 3) := by decide +kernel
theorem dX12_layRings_149 : decode cX12_layRings 149 = .ok (.iload 5, 2) := by decide +kernel
theorem dX12_layRings_151 : decode cX12_layRings 151 = .ok (.iload 10, 2) := by decide +kernel
theorem dX12_layRings_153 : decode cX12_layRings 153 = .ok (.iadd, 1) := by decide +kernel
theorem dX12_layRings_154 : decode cX12_layRings 154 = .ok (.istore 5, 2) := by decide +kernel
theorem dX12_layRings_156 : decode cX12_layRings 156 = .ok (.iinc 3 1, 3) := by decide +kernel
theorem dX12_layRings_159 : decode cX12_layRings 159 = .ok (.iinc 9 1, 3) := by decide +kernel
theorem dX12_layRings_162 : decode cX12_layRings 162 = .ok (.goto (-106), 3) := by decide +kernel
theorem dX12_layRings_165 : decode cX12_layRings 165 = .ok (.goto (-139), 3) := by decide +kernel
theorem dX12_layRings_168 : decode cX12_layRings 168 = .ok (.iload 6, 2) := by decide +kernel
theorem dX12_layRings_170 : decode cX12_layRings 170 = .ok (.ireturn, 1) := by decide +kernel
theorem dX12_hotAt_0 : decode cX12_hotAt 0 = .ok (.iconst 0, 1) := by decide +kernel
theorem dX12_hotAt_1 : decode cX12_hotAt 1 = .ok (.istore 5, 2) := by decide +kernel
theorem dX12_hotAt_3 : decode cX12_hotAt 3 = .ok (.aload_n 0, 1) := by decide +kernel
theorem dX12_hotAt_4 : decode cX12_hotAt 4 = .ok (.getfield 784, 3) := by decide +kernel
theorem dX12_hotAt_7 : decode cX12_hotAt 7 = .ok (.istore 6, 2) := by decide +kernel
theorem dX12_hotAt_9 : decode cX12_hotAt 9 = .ok (.iload 5, 2) := by decide +kernel
theorem dX12_hotAt_11 : decode cX12_hotAt 11 = .ok (.iload 6, 2) := by decide +kernel
theorem dX12_hotAt_13 : decode cX12_hotAt 13 = .ok (.if_icmp .ge 50, 3) := by decide +kernel
theorem dX12_hotAt_16 : decode cX12_hotAt 16 = .ok (.iload 5, 2) := by decide +kernel
theorem dX12_hotAt_18 : decode cX12_hotAt 18 = .ok (.iload 6, 2) := by decide +kernel
theorem dX12_hotAt_20 : decode cX12_hotAt 20 = .ok (.iadd, 1) := by decide +kernel
theorem dX12_hotAt_21 : decode cX12_hotAt 21 = .ok (.iconst 2, 1) := by decide +kernel
theorem dX12_hotAt_22 : decode cX12_hotAt 22 = .ok (.idiv, 1) := by decide +kernel
theorem dX12_hotAt_23 : decode cX12_hotAt 23 = .ok (.istore 7, 2) := by decide +kernel
theorem dX12_hotAt_25 : decode cX12_hotAt 25 = .ok (.aload_n 0, 1) := by decide +kernel
theorem dX12_hotAt_26 : decode cX12_hotAt 26 = .ok (.getfield 132, 3) := by decide +kernel
theorem dX12_hotAt_29 : decode cX12_hotAt 29 = .ok (.iload 7, 2) := by decide +kernel
theorem dX12_hotAt_31 : decode cX12_hotAt 31 = .ok (.laload, 1) := by decide +kernel
theorem dX12_hotAt_32 : decode cX12_hotAt 32 = .ok (.aload_n 0, 1) := by decide +kernel
theorem dX12_hotAt_33 : decode cX12_hotAt 33 = .ok (.getfield 135, 3) := by decide +kernel
theorem dX12_hotAt_36 : decode cX12_hotAt 36 = .ok (.iload 7, 2) := by decide +kernel
theorem dX12_hotAt_38 : decode cX12_hotAt 38 = .ok (.laload, 1) := by decide +kernel
theorem dX12_hotAt_39 : decode cX12_hotAt 39 = .ok (.lload_n 1, 1) := by decide +kernel
theorem dX12_hotAt_40 : decode cX12_hotAt 40 = .ok (.lload_n 3, 1) := by decide +kernel
theorem dX12_hotAt_41 : decode cX12_hotAt 41 = .ok (.invokestatic 674, 3) := by decide +kernel
theorem dX12_hotAt_44 : decode cX12_hotAt 44 = .ok (.ifCond .eq 12, 3) := by decide +kernel
theorem dX12_hotAt_47 : decode cX12_hotAt 47 = .ok (.iload 7, 2) := by decide +kernel
theorem dX12_hotAt_49 : decode cX12_hotAt 49 = .ok (.iconst 1, 1) := by decide +kernel
theorem dX12_hotAt_50 : decode cX12_hotAt 50 = .ok (.iadd, 1) := by decide +kernel
theorem dX12_hotAt_51 : decode cX12_hotAt 51 = .ok (.istore 5, 2) := by decide +kernel
theorem dX12_hotAt_53 : decode cX12_hotAt 53 = .ok (.goto 7, 3) := by decide +kernel
theorem dX12_hotAt_56 : decode cX12_hotAt 56 = .ok (.iload 7, 2) := by decide +kernel
theorem dX12_hotAt_58 : decode cX12_hotAt 58 = .ok (.istore 6, 2) := by decide +kernel
theorem dX12_hotAt_60 : decode cX12_hotAt 60 = .ok (.goto (-51), 3) := by decide +kernel
theorem dX12_hotAt_63 : decode cX12_hotAt 63 = .ok (.iload 5, 2) := by decide +kernel
theorem dX12_hotAt_65 : decode cX12_hotAt 65 = .ok (.ireturn, 1) := by decide +kernel
theorem dX12_addHot_0 : decode cX12_addHot 0 = .ok (.aload_n 0, 1) := by decide +kernel
theorem dX12_addHot_1 : decode cX12_addHot 1 = .ok (.lload_n 1, 1) := by decide +kernel
theorem dX12_addHot_2 : decode cX12_addHot 2 = .ok (.lload_n 3, 1) := by decide +kernel
theorem dX12_addHot_3 : decode cX12_addHot 3 = .ok (.invokevirtual 787, 3) := by decide +kernel
theorem dX12_addHot_6 : decode cX12_addHot 6 = .ok (.istore 5, 2) := by decide +kernel
theorem dX12_addHot_8 : decode cX12_addHot 8 = .ok (.iload 5, 2) := by decide +kernel
theorem dX12_addHot_10 : decode cX12_addHot 10 = .ok (.aload_n 0, 1) := by decide +kernel
theorem dX12_addHot_11 : decode cX12_addHot 11 = .ok (.getfield 784, 3) := by decide +kernel
theorem dX12_addHot_14 : decode cX12_addHot 14 = .ok (.if_icmp .ge 29, 3) := by decide +kernel
theorem dX12_addHot_17 : decode cX12_addHot 17 = .ok (.aload_n 0, 1) := by decide +kernel
theorem dX12_addHot_18 : decode cX12_addHot 18 = .ok (.getfield 132, 3) := by decide +kernel
theorem dX12_addHot_21 : decode cX12_addHot 21 = .ok (.iload 5, 2) := by decide +kernel
theorem dX12_addHot_23 : decode cX12_addHot 23 = .ok (.laload, 1) := by decide +kernel
theorem dX12_addHot_24 : decode cX12_addHot 24 = .ok (.lload_n 1, 1) := by decide +kernel
theorem dX12_addHot_25 : decode cX12_addHot 25 = .ok (.lcmp, 1) := by decide +kernel
theorem dX12_addHot_26 : decode cX12_addHot 26 = .ok (.ifCond .ne 17, 3) := by decide +kernel
theorem dX12_addHot_29 : decode cX12_addHot 29 = .ok (.aload_n 0, 1) := by decide +kernel
theorem dX12_addHot_30 : decode cX12_addHot 30 = .ok (.getfield 135, 3) := by decide +kernel
theorem dX12_addHot_33 : decode cX12_addHot 33 = .ok (.iload 5, 2) := by decide +kernel
theorem dX12_addHot_35 : decode cX12_addHot 35 = .ok (.laload, 1) := by decide +kernel
theorem dX12_addHot_36 : decode cX12_addHot 36 = .ok (.lload_n 3, 1) := by decide +kernel
theorem dX12_addHot_37 : decode cX12_addHot 37 = .ok (.lcmp, 1) := by decide +kernel
theorem dX12_addHot_38 : decode cX12_addHot 38 = .ok (.ifCond .ne 5, 3) := by decide +kernel
theorem dX12_addHot_41 : decode cX12_addHot 41 = .ok (.iconst 1, 1) := by decide +kernel
theorem dX12_addHot_42 : decode cX12_addHot 42 = .ok (.ireturn, 1) := by decide +kernel
theorem dX12_addHot_43 : decode cX12_addHot 43 = .ok (.aload_n 0, 1) := by decide +kernel
theorem dX12_addHot_44 : decode cX12_addHot 44 = .ok (.getfield 784, 3) := by decide +kernel
theorem dX12_addHot_47 : decode cX12_addHot 47 = .ok (.sipush 8192, 3) := by decide +kernel
theorem dX12_addHot_50 : decode cX12_addHot 50 = .ok (.if_icmp .ne 5, 3) := by decide +kernel
theorem dX12_addHot_53 : decode cX12_addHot 53 = .ok (.iconst 0, 1) := by decide +kernel
theorem dX12_addHot_54 : decode cX12_addHot 54 = .ok (.ireturn, 1) := by decide +kernel
theorem dX12_addHot_55 : decode cX12_addHot 55 = .ok (.aload_n 0, 1) := by decide +kernel
theorem dX12_addHot_56 : decode cX12_addHot 56 = .ok (.getfield 784, 3) := by decide +kernel
theorem dX12_addHot_59 : decode cX12_addHot 59 = .ok (.istore 6, 2) := by decide +kernel
theorem dX12_addHot_61 : decode cX12_addHot 61 = .ok (.iload 6, 2) := by decide +kernel
theorem dX12_addHot_63 : decode cX12_addHot 63 = .ok (.iload 5, 2) := by decide +kernel
theorem dX12_addHot_65 : decode cX12_addHot 65 = .ok (.if_icmp .le 41, 3) := by decide +kernel
theorem dX12_addHot_68 : decode cX12_addHot 68 = .ok (.aload_n 0, 1) := by decide +kernel
theorem dX12_addHot_69 : decode cX12_addHot 69 = .ok (.getfield 132, 3) := by decide +kernel
theorem dX12_addHot_72 : decode cX12_addHot 72 = .ok (.iload 6, 2) := by decide +kernel
theorem dX12_addHot_74 : decode cX12_addHot 74 = .ok (.aload_n 0, 1) := by decide +kernel
theorem dX12_addHot_75 : decode cX12_addHot 75 = .ok (.getfield 132, 3) := by decide +kernel
theorem dX12_addHot_78 : decode cX12_addHot 78 = .ok (.iload 6, 2) := by decide +kernel
theorem dX12_addHot_80 : decode cX12_addHot 80 = .ok (.iconst 1, 1) := by decide +kernel
theorem dX12_addHot_81 : decode cX12_addHot 81 = .ok (.isub, 1) := by decide +kernel
theorem dX12_addHot_82 : decode cX12_addHot 82 = .ok (.laload, 1) := by decide +kernel
theorem dX12_addHot_83 : decode cX12_addHot 83 = .ok (.lastore, 1) := by decide +kernel
theorem dX12_addHot_84 : decode cX12_addHot 84 = .ok (.aload_n 0, 1) := by decide +kernel
theorem dX12_addHot_85 : decode cX12_addHot 85 = .ok (.getfield 135, 3) := by decide +kernel
theorem dX12_addHot_88 : decode cX12_addHot 88 = .ok (.iload 6, 2) := by decide +kernel
theorem dX12_addHot_90 : decode cX12_addHot 90 = .ok (.aload_n 0, 1) := by decide +kernel
theorem dX12_addHot_91 : decode cX12_addHot 91 = .ok (.getfield 135, 3) := by decide +kernel
theorem dX12_addHot_94 : decode cX12_addHot 94 = .ok (.iload 6, 2) := by decide +kernel
theorem dX12_addHot_96 : decode cX12_addHot 96 = .ok (.iconst 1, 1) := by decide +kernel
theorem dX12_addHot_97 : decode cX12_addHot 97 = .ok (.isub, 1) := by decide +kernel
theorem dX12_addHot_98 : decode cX12_addHot 98 = .ok (.laload, 1) := by decide +kernel
theorem dX12_addHot_99 : decode cX12_addHot 99 = .ok (.lastore, 1) := by decide +kernel
theorem dX12_addHot_100 : decode cX12_addHot 100 = .ok (.iinc 6 (-1), 3) := by decide +kernel
theorem dX12_addHot_103 : decode cX12_addHot 103 = .ok (.goto (-42), 3) := by decide +kernel
theorem dX12_addHot_106 : decode cX12_addHot 106 = .ok (.aload_n 0, 1) := by decide +kernel
theorem dX12_addHot_107 : decode cX12_addHot 107 = .ok (.getfield 132, 3) := by decide +kernel
theorem dX12_addHot_110 : decode cX12_addHot 110 = .ok (.iload 5, 2) := by decide +kernel
theorem dX12_addHot_112 : decode cX12_addHot 112 = .ok (.lload_n 1, 1) := by decide +kernel
theorem dX12_addHot_113 : decode cX12_addHot 113 = .ok (.lastore, 1) := by decide +kernel
theorem dX12_addHot_114 : decode cX12_addHot 114 = .ok (.aload_n 0, 1) := by decide +kernel
theorem dX12_addHot_115 : decode cX12_addHot 115 = .ok (.getfield 135, 3) := by decide +kernel
theorem dX12_addHot_118 : decode cX12_addHot 118 = .ok (.iload 5, 2) := by decide +kernel
theorem dX12_addHot_120 : decode cX12_addHot 120 = .ok (.lload_n 3, 1) := by decide +kernel
theorem dX12_addHot_121 : decode cX12_addHot 121 = .ok (.lastore, 1) := by decide +kernel
theorem dX12_addHot_122 : decode cX12_addHot 122 = .ok (.aload_n 0, 1) := by decide +kernel
theorem dX12_addHot_123 : decode cX12_addHot 123 = .ok (.dup, 1) := by decide +kernel
theorem dX12_addHot_124 : decode cX12_addHot 124 = .ok (.getfield 784, 3) := by decide +kernel
theorem dX12_addHot_127 : decode cX12_addHot 127 = .ok (.iconst 1, 1) := by decide +kernel
theorem dX12_addHot_128 : decode cX12_addHot 128 = .ok (.iadd, 1) := by decide +kernel
theorem dX12_addHot_129 : decode cX12_addHot 129 = .ok (.putfield 784, 3) := by decide +kernel
theorem dX12_addHot_132 : decode cX12_addHot 132 = .ok (.iconst 1, 1) := by decide +kernel
theorem dX12_addHot_133 : decode cX12_addHot 133 = .ok (.ireturn, 1) := by decide +kernel
theorem dX12_rounded_0 : decode cX12_rounded 0 = .ok (.lload_n 2, 1) := by decide +kernel
theorem dX12_rounded_1 : decode cX12_rounded 1 = .ok (.lconst 0, 1) := by decide +kernel
theorem dX12_rounded_2 : decode cX12_rounded 2 = .ok (.lcmp, 1) := by decide +kernel
theorem dX12_rounded_3 : decode cX12_rounded 3 = .ok (.ifCond .ge 8, 3) := by decide +kernel
theorem dX12_rounded_6 : decode cX12_rounded 6 = .ok (.lload_n 2, 1) := by decide +kernel
theorem dX12_rounded_7 : decode cX12_rounded 7 = .ok (.lneg, 1) := by decide +kernel
theorem dX12_rounded_8 : decode cX12_rounded 8 = .ok (.goto 4, 3) := by decide +kernel
theorem dX12_rounded_11 : decode cX12_rounded 11 = .ok (.lload_n 2, 1) := by decide +kernel
theorem dX12_rounded_12 : decode cX12_rounded 12 = .ok (.lstore 8, 2) := by decide +kernel
theorem dX12_rounded_14 : decode cX12_rounded 14 = .ok (.lconst 0, 1) := by decide +kernel
theorem dX12_rounded_15 : decode cX12_rounded 15 = .ok (.lstore 10, 2) := by decide +kernel
theorem dX12_rounded_17 : decode cX12_rounded 17 = .ok (.lconst 0, 1) := by decide +kernel
theorem dX12_rounded_18 : decode cX12_rounded 18 = .ok (.lstore 12, 2) := by decide +kernel
theorem dX12_rounded_20 : decode cX12_rounded 20 = .ok (.bipush 30, 2) := by decide +kernel
theorem dX12_rounded_22 : decode cX12_rounded 22 = .ok (.istore 14, 2) := by decide +kernel
theorem dX12_rounded_24 : decode cX12_rounded 24 = .ok (.iload 14, 2) := by decide +kernel
theorem dX12_rounded_26 : decode cX12_rounded 26 = .ok (.ifCond .lt 89, 3) := by decide +kernel
theorem dX12_rounded_29 : decode cX12_rounded 29 = .ok (.ldc2_w 554, 3) := by decide +kernel
theorem dX12_rounded_32 : decode cX12_rounded 32 = .ok (.lload 10, 2) := by decide +kernel
theorem dX12_rounded_34 : decode cX12_rounded 34 = .ok (.lmul, 1) := by decide +kernel
theorem dX12_rounded_35 : decode cX12_rounded 35 = .ok (.lstore 10, 2) := by decide +kernel
theorem dX12_rounded_37 : decode cX12_rounded 37 = .ok (.ldc2_w 554, 3) := by decide +kernel
theorem dX12_rounded_40 : decode cX12_rounded 40 = .ok (.lload 12, 2) := by decide +kernel
theorem dX12_rounded_42 : decode cX12_rounded 42 = .ok (.lmul, 1) := by decide +kernel
theorem dX12_rounded_43 : decode cX12_rounded 43 = .ok (.lstore 12, 2) := by decide +kernel
theorem dX12_rounded_45 : decode cX12_rounded 45 = .ok (.lload 12, 2) := by decide +kernel
theorem dX12_rounded_47 : decode cX12_rounded 47 = .ok (.lload 6, 2) := by decide +kernel
theorem dX12_rounded_49 : decode cX12_rounded 49 = .ok (.lcmp, 1) := by decide +kernel
theorem dX12_rounded_50 : decode cX12_rounded 50 = .ok (.ifCond .lt 16, 3) := by decide +kernel
theorem dX12_rounded_53 : decode cX12_rounded 53 = .ok (.lload 12, 2) := by decide +kernel
theorem dX12_rounded_55 : decode cX12_rounded 55 = .ok (.lload 6, 2) := by decide +kernel
theorem dX12_rounded_57 : decode cX12_rounded 57 = .ok (.lsub, 1) := by decide +kernel
theorem dX12_rounded_58 : decode cX12_rounded 58 = .ok (.lstore 12, 2) := by decide +kernel
theorem dX12_rounded_60 : decode cX12_rounded 60 = .ok (.lload 10, 2) := by decide +kernel
theorem dX12_rounded_62 : decode cX12_rounded 62 = .ok (.lconst 1, 1) := by decide +kernel
theorem dX12_rounded_63 : decode cX12_rounded 63 = .ok (.ladd, 1) := by decide +kernel
theorem dX12_rounded_64 : decode cX12_rounded 64 = .ok (.lstore 10, 2) := by decide +kernel
theorem dX12_rounded_66 : decode cX12_rounded 66 = .ok (.lload 8, 2) := by decide +kernel
theorem dX12_rounded_68 : decode cX12_rounded 68 = .ok (.iload 14, 2) := by decide +kernel
theorem dX12_rounded_70 : decode cX12_rounded 70 = .ok (.lshr, 1) := by decide +kernel
theorem dX12_rounded_71 : decode cX12_rounded 71 = .ok (.lconst 1, 1) := by decide +kernel
theorem dX12_rounded_72 : decode cX12_rounded 72 = .ok (.land, 1) := by decide +kernel
theorem dX12_rounded_73 : decode cX12_rounded 73 = .ok (.lconst 0, 1) := by decide +kernel
theorem dX12_rounded_74 : decode cX12_rounded 74 = .ok (.lcmp, 1) := by decide +kernel
theorem dX12_rounded_75 : decode cX12_rounded 75 = .ok (.ifCond .ne 6, 3) := by decide +kernel
theorem dX12_rounded_78 : decode cX12_rounded 78 = .ok (.goto 31, 3) := by decide +kernel
theorem dX12_rounded_81 : decode cX12_rounded 81 = .ok (.lload 12, 2) := by decide +kernel
theorem dX12_rounded_83 : decode cX12_rounded 83 = .ok (.lload 4, 2) := by decide +kernel
theorem dX12_rounded_85 : decode cX12_rounded 85 = .ok (.ladd, 1) := by decide +kernel
theorem dX12_rounded_86 : decode cX12_rounded 86 = .ok (.lstore 12, 2) := by decide +kernel
theorem dX12_rounded_88 : decode cX12_rounded 88 = .ok (.lload 12, 2) := by decide +kernel
theorem dX12_rounded_90 : decode cX12_rounded 90 = .ok (.lload 6, 2) := by decide +kernel
theorem dX12_rounded_92 : decode cX12_rounded 92 = .ok (.lcmp, 1) := by decide +kernel
theorem dX12_rounded_93 : decode cX12_rounded 93 = .ok (.ifCond .lt 16, 3) := by decide +kernel
theorem dX12_rounded_96 : decode cX12_rounded 96 = .ok (.lload 12, 2) := by decide +kernel
theorem dX12_rounded_98 : decode cX12_rounded 98 = .ok (.lload 6, 2) := by decide +kernel
theorem dX12_rounded_100 : decode cX12_rounded 100 = .ok (.lsub, 1) := by decide +kernel
theorem dX12_rounded_101 : decode cX12_rounded 101 = .ok (.lstore 12, 2) := by decide +kernel
theorem dX12_rounded_103 : decode cX12_rounded 103 = .ok (.lload 10, 2) := by decide +kernel
theorem dX12_rounded_105 : decode cX12_rounded 105 = .ok (.lconst 1, 1) := by decide +kernel
theorem dX12_rounded_106 : decode cX12_rounded 106 = .ok (.ladd, 1) := by decide +kernel
theorem dX12_rounded_107 : decode cX12_rounded 107 = .ok (.lstore 10, 2) := by decide +kernel
theorem dX12_rounded_109 : decode cX12_rounded 109 = .ok (.iinc 14 (-1), 3) := by decide +kernel
theorem dX12_rounded_112 : decode cX12_rounded 112 = .ok (.goto (-88), 3) := by decide +kernel
theorem dX12_rounded_115 : decode cX12_rounded 115 = .ok (.lload_n 2, 1) := by decide +kernel
theorem dX12_rounded_116 : decode cX12_rounded 116 = .ok (.lconst 0, 1) := by decide +kernel
theorem dX12_rounded_117 : decode cX12_rounded 117 = .ok (.lcmp, 1) := by decide +kernel
theorem dX12_rounded_118 : decode cX12_rounded 118 = .ok (.ifCond .lt 29, 3) := by decide +kernel
theorem dX12_rounded_121 : decode cX12_rounded 121 = .ok (.ldc2_w 554, 3) := by decide +kernel
theorem dX12_rounded_124 : decode cX12_rounded 124 = .ok (.lload 12, 2) := by decide +kernel
theorem dX12_rounded_126 : decode cX12_rounded 126 = .ok (.lmul, 1) := by decide +kernel
theorem dX12_rounded_127 : decode cX12_rounded 127 = .ok (.lload 6, 2) := by decide +kernel
theorem dX12_rounded_129 : decode cX12_rounded 129 = .ok (.lcmp, 1) := by decide +kernel
theorem dX12_rounded_130 : decode cX12_rounded 130 = .ok (.ifCond .lt 12, 3) := by decide +kernel
theorem dX12_rounded_133 : decode cX12_rounded 133 = .ok (.lload_n 0, 1) := by decide +kernel
theorem dX12_rounded_134 : decode cX12_rounded 134 = .ok (.lload 10, 2) := by decide +kernel
theorem dX12_rounded_136 : decode cX12_rounded 136 = .ok (.ladd, 1) := by decide +kernel
theorem dX12_rounded_137 : decode cX12_rounded 137 = .ok (.lconst 1, 1) := by decide +kernel
theorem dX12_rounded_138 : decode cX12_rounded 138 = .ok (.ladd, 1) := by decide +kernel
theorem dX12_rounded_139 : decode cX12_rounded 139 = .ok (.goto 7, 3) := by decide +kernel
theorem dX12_rounded_142 : decode cX12_rounded 142 = .ok (.lload_n 0, 1) := by decide +kernel
theorem dX12_rounded_143 : decode cX12_rounded 143 = .ok (.lload 10, 2) := by decide +kernel
theorem dX12_rounded_145 : decode cX12_rounded 145 = .ok (.ladd, 1) := by decide +kernel
theorem dX12_rounded_146 : decode cX12_rounded 146 = .ok (.lreturn, 1) := by decide +kernel
theorem dX12_rounded_147 : decode cX12_rounded 147 = .ok (.ldc2_w 554, 3) := by decide +kernel
theorem dX12_rounded_150 : decode cX12_rounded 150 = .ok (.lload 12, 2) := by decide +kernel
theorem dX12_rounded_152 : decode cX12_rounded 152 = .ok (.lmul, 1) := by decide +kernel
theorem dX12_rounded_153 : decode cX12_rounded 153 = .ok (.lload 6, 2) := by decide +kernel
theorem dX12_rounded_155 : decode cX12_rounded 155 = .ok (.lcmp, 1) := by decide +kernel
theorem dX12_rounded_156 : decode cX12_rounded 156 = .ok (.ifCond .gt 10, 3) := by decide +kernel
theorem dX12_rounded_159 : decode cX12_rounded 159 = .ok (.lload_n 0, 1) := by decide +kernel
theorem dX12_rounded_160 : decode cX12_rounded 160 = .ok (.lload 10, 2) := by decide +kernel
theorem dX12_rounded_162 : decode cX12_rounded 162 = .ok (.lsub, 1) := by decide +kernel
theorem dX12_rounded_163 : decode cX12_rounded 163 = .ok (.goto 9, 3) := by decide +kernel
theorem dX12_rounded_166 : decode cX12_rounded 166 = .ok (.lload_n 0, 1) := by decide +kernel
theorem dX12_rounded_167 : decode cX12_rounded 167 = .ok (.lload 10, 2) := by decide +kernel
theorem dX12_rounded_169 : decode cX12_rounded 169 = .ok (.lsub, 1) := by decide +kernel
theorem dX12_rounded_170 : decode cX12_rounded 170 = .ok (.lconst 1, 1) := by decide +kernel
theorem dX12_rounded_171 : decode cX12_rounded 171 = .ok (.lsub, 1) := by decide +kernel
theorem dX12_rounded_172 : decode cX12_rounded 172 = .ok (.lreturn, 1) := by decide +kernel
theorem dX12_addCrossing_0 : decode cX12_addCrossing 0 = .ok (.aload_n 0, 1) := by decide +kernel
theorem dX12_addCrossing_1 : decode cX12_addCrossing 1 = .ok (.getfield 84, 3) := by decide +kernel
theorem dX12_addCrossing_4 : decode cX12_addCrossing 4 = .ok (.iload_n 1, 1) := by decide +kernel
theorem dX12_addCrossing_5 : decode cX12_addCrossing 5 = .ok (.laload, 1) := by decide +kernel
theorem dX12_addCrossing_6 : decode cX12_addCrossing 6 = .ok (.aload_n 0, 1) := by decide +kernel
theorem dX12_addCrossing_7 : decode cX12_addCrossing 7 = .ok (.getfield 78, 3) := by decide +kernel
theorem dX12_addCrossing_10 : decode cX12_addCrossing 10 = .ok (.iload_n 1, 1) := by decide +kernel
theorem dX12_addCrossing_11 : decode cX12_addCrossing 11 = .ok (.laload, 1) := by decide +kernel
theorem dX12_addCrossing_12 : decode cX12_addCrossing 12 = .ok (.lsub, 1) := by decide +kernel
theorem dX12_addCrossing_13 : decode cX12_addCrossing 13 = .ok (.lstore_n 3, 1) := by decide +kernel
theorem dX12_addCrossing_14 : decode cX12_addCrossing 14 = .ok (.aload_n 0, 1) := by decide +kernel
theorem dX12_addCrossing_15 : decode cX12_addCrossing 15 = .ok (.getfield 87, 3) := by decide +kernel
theorem dX12_addCrossing_18 : decode cX12_addCrossing 18 = .ok (.iload_n 1, 1) := by decide +kernel
theorem dX12_addCrossing_19 : decode cX12_addCrossing 19 = .ok (.laload, 1) := by decide +kernel
theorem dX12_addCrossing_20 : decode cX12_addCrossing 20 = .ok (.aload_n 0, 1) := by decide +kernel
theorem dX12_addCrossing_21 : decode cX12_addCrossing 21 = .ok (.getfield 81, 3) := by decide +kernel
theorem dX12_addCrossing_24 : decode cX12_addCrossing 24 = .ok (.iload_n 1, 1) := by decide +kernel
theorem dX12_addCrossing_25 : decode cX12_addCrossing 25 = .ok (.laload, 1) := by decide +kernel
theorem dX12_addCrossing_26 : decode cX12_addCrossing 26 = .ok (.lsub, 1) := by decide +kernel
theorem dX12_addCrossing_27 : decode cX12_addCrossing 27 = .ok (.lstore 5, 2) := by decide +kernel
theorem dX12_addCrossing_29 : decode cX12_addCrossing 29 = .ok (.aload_n 0, 1) := by decide +kernel
theorem dX12_addCrossing_30 : decode cX12_addCrossing 30 = .ok (.getfield 84, 3) := by decide +kernel
theorem dX12_addCrossing_33 : decode cX12_addCrossing 33 = .ok (.iload_n 2, 1) := by decide +kernel
theorem dX12_addCrossing_34 : decode cX12_addCrossing 34 = .ok (.laload, 1) := by decide +kernel
theorem dX12_addCrossing_35 : decode cX12_addCrossing 35 = .ok (.aload_n 0, 1) := by decide +kernel
theorem dX12_addCrossing_36 : decode cX12_addCrossing 36 = .ok (.getfield 78, 3) := by decide +kernel
theorem dX12_addCrossing_39 : decode cX12_addCrossing 39 = .ok (.iload_n 2, 1) := by decide +kernel
theorem dX12_addCrossing_40 : decode cX12_addCrossing 40 = .ok (.laload, 1) := by decide +kernel
theorem dX12_addCrossing_41 : decode cX12_addCrossing 41 = .ok (.lsub, 1) := by decide +kernel
theorem dX12_addCrossing_42 : decode cX12_addCrossing 42 = .ok (.lstore 7, 2) := by decide +kernel
theorem dX12_addCrossing_44 : decode cX12_addCrossing 44 = .ok (.aload_n 0, 1) := by decide +kernel
theorem dX12_addCrossing_45 : decode cX12_addCrossing 45 = .ok (.getfield 87, 3) := by decide +kernel
theorem dX12_addCrossing_48 : decode cX12_addCrossing 48 = .ok (.iload_n 2, 1) := by decide +kernel
theorem dX12_addCrossing_49 : decode cX12_addCrossing 49 = .ok (.laload, 1) := by decide +kernel
theorem dX12_addCrossing_50 : decode cX12_addCrossing 50 = .ok (.aload_n 0, 1) := by decide +kernel
theorem dX12_addCrossing_51 : decode cX12_addCrossing 51 = .ok (.getfield 81, 3) := by decide +kernel
theorem dX12_addCrossing_54 : decode cX12_addCrossing 54 = .ok (.iload_n 2, 1) := by decide +kernel
theorem dX12_addCrossing_55 : decode cX12_addCrossing 55 = .ok (.laload, 1) := by decide +kernel
theorem dX12_addCrossing_56 : decode cX12_addCrossing 56 = .ok (.lsub, 1) := by decide +kernel
theorem dX12_addCrossing_57 : decode cX12_addCrossing 57 = .ok (.lstore 9, 2) := by decide +kernel
theorem dX12_addCrossing_59 : decode cX12_addCrossing 59 = .ok (.lload_n 3, 1) := by decide +kernel
theorem dX12_addCrossing_60 : decode cX12_addCrossing 60 = .ok (.lload 5, 2) := by decide +kernel
theorem dX12_addCrossing_62 : decode cX12_addCrossing 62 = .ok (.lload 7, 2) := by decide +kernel
theorem dX12_addCrossing_64 : decode cX12_addCrossing 64 = .ok (.lload 9, 2) := by decide +kernel
theorem dX12_addCrossing_66 : decode cX12_addCrossing 66 = .ok (.invokestatic 644, 3) := by decide +kernel
theorem dX12_addCrossing_69 : decode cX12_addCrossing 69 = .ok (.lstore 11, 2) := by decide +kernel
theorem dX12_addCrossing_71 : decode cX12_addCrossing 71 = .ok (.aload_n 0, 1) := by decide +kernel
theorem dX12_addCrossing_72 : decode cX12_addCrossing 72 = .ok (.getfield 78, 3) := by decide +kernel
theorem dX12_addCrossing_75 : decode cX12_addCrossing 75 = .ok (.iload_n 2, 1) := by decide +kernel
theorem dX12_addCrossing_76 : decode cX12_addCrossing 76 = .ok (.laload, 1) := by decide +kernel
theorem dX12_addCrossing_77 : decode cX12_addCrossing 77 = .ok (.aload_n 0, 1) := by decide +kernel
theorem dX12_addCrossing_78 : decode cX12_addCrossing 78 = .ok (.getfield 78, 3) := by decide +kernel
theorem dX12_addCrossing_81 : decode cX12_addCrossing 81 = .ok (.iload_n 1, 1) := by decide +kernel
theorem dX12_addCrossing_82 : decode cX12_addCrossing 82 = .ok (.laload, 1) := by decide +kernel
theorem dX12_addCrossing_83 : decode cX12_addCrossing 83 = .ok (.lsub, 1) := by decide +kernel
theorem dX12_addCrossing_84 : decode cX12_addCrossing 84 = .ok (.aload_n 0, 1) := by decide +kernel
theorem dX12_addCrossing_85 : decode cX12_addCrossing 85 = .ok (.getfield 81, 3) := by decide +kernel
theorem dX12_addCrossing_88 : decode cX12_addCrossing 88 = .ok (.iload_n 2, 1) := by decide +kernel
theorem dX12_addCrossing_89 : decode cX12_addCrossing 89 = .ok (.laload, 1) := by decide +kernel
theorem dX12_addCrossing_90 : decode cX12_addCrossing 90 = .ok (.aload_n 0, 1) := by decide +kernel
theorem dX12_addCrossing_91 : decode cX12_addCrossing 91 = .ok (.getfield 81, 3) := by decide +kernel
theorem dX12_addCrossing_94 : decode cX12_addCrossing 94 = .ok (.iload_n 1, 1) := by decide +kernel
theorem dX12_addCrossing_95 : decode cX12_addCrossing 95 = .ok (.laload, 1) := by decide +kernel
theorem dX12_addCrossing_96 : decode cX12_addCrossing 96 = .ok (.lsub, 1) := by decide +kernel
theorem dX12_addCrossing_97 : decode cX12_addCrossing 97 = .ok (.lload 7, 2) := by decide +kernel
theorem dX12_addCrossing_99 : decode cX12_addCrossing 99 = .ok (.lload 9, 2) := by decide +kernel
theorem dX12_addCrossing_101 : decode cX12_addCrossing 101 = .ok (.invokestatic 644, 3) := by decide +kernel
theorem dX12_addCrossing_104 : decode cX12_addCrossing 104 = .ok (.lstore 13, 2) := by decide +kernel
theorem dX12_addCrossing_106 : decode cX12_addCrossing 106 = .ok (.lload 11, 2) := by decide +kernel
theorem dX12_addCrossing_108 : decode cX12_addCrossing 108 = .ok (.lconst 0, 1) := by decide +kernel
theorem dX12_addCrossing_109 : decode cX12_addCrossing 109 = .ok (.lcmp, 1) := by decide +kernel
theorem dX12_addCrossing_110 : decode cX12_addCrossing 110 = .ok (.ifCond .ge 9, 3) := by decide +kernel
theorem dX12_addCrossing_113 : decode cX12_addCrossing 113 = .ok (.lload 13, 2) := by decide +kernel
theorem dX12_addCrossing_115 : decode cX12_addCrossing 115 = .ok (.lneg, 1) := by decide +kernel
theorem dX12_addCrossing_116 : decode cX12_addCrossing 116 = .ok (.goto 5, 3) := by decide +kernel
theorem dX12_addCrossing_119 : decode cX12_addCrossing 119 = .ok (.lload 13, 2) := by decide +kernel
theorem dX12_addCrossing_121 : decode cX12_addCrossing 121 = .ok (.lstore 13, 2) := by decide +kernel
theorem dX12_addCrossing_123 : decode cX12_addCrossing 123 = .ok (.lload 11, 2) := by decide +kernel
theorem dX12_addCrossing_125 : decode cX12_addCrossing 125 = .ok (.lconst 0, 1) := by decide +kernel
theorem dX12_addCrossing_126 : decode cX12_addCrossing 126 = .ok (.lcmp, 1) := by decide +kernel
theorem dX12_addCrossing_127 : decode cX12_addCrossing 127 = .ok (.ifCond .ge 9, 3) := by decide +kernel
theorem dX12_addCrossing_130 : decode cX12_addCrossing 130 = .ok (.lload 11, 2) := by decide +kernel
theorem dX12_addCrossing_132 : decode cX12_addCrossing 132 = .ok (.lneg, 1) := by decide +kernel
theorem dX12_addCrossing_133 : decode cX12_addCrossing 133 = .ok (.goto 5, 3) := by decide +kernel
theorem dX12_addCrossing_136 : decode cX12_addCrossing 136 = .ok (.lload 11, 2) := by decide +kernel
theorem dX12_addCrossing_138 : decode cX12_addCrossing 138 = .ok (.lstore 11, 2) := by decide +kernel
theorem dX12_addCrossing_140 : decode cX12_addCrossing 140 = .ok (.aload_n 0, 1) := by decide +kernel
theorem dX12_addCrossing_141 : decode cX12_addCrossing 141 = .ok (.aload_n 0, 1) := by decide +kernel
theorem dX12_addCrossing_142 : decode cX12_addCrossing 142 = .ok (.getfield 78, 3) := by decide +kernel
theorem dX12_addCrossing_145 : decode cX12_addCrossing 145 = .ok (.iload_n 1, 1) := by decide +kernel
theorem dX12_addCrossing_146 : decode cX12_addCrossing 146 = .ok (.laload, 1) := by decide +kernel
theorem dX12_addCrossing_147 : decode cX12_addCrossing 147 = .ok (.lload_n 3, 1) := by decide +kernel
theorem dX12_addCrossing_148 : decode cX12_addCrossing 148 = .ok (.lload 13, 2) := by decide +kernel
theorem dX12_addCrossing_150 : decode cX12_addCrossing 150 = .ok (.lload 11, 2) := by decide +kernel
theorem dX12_addCrossing_152 : decode cX12_addCrossing 152 = .ok (.invokestatic 791, 3) := by decide +kernel
theorem dX12_addCrossing_155 : decode cX12_addCrossing 155 = .ok (.aload_n 0, 1) := by decide +kernel
theorem dX12_addCrossing_156 : decode cX12_addCrossing 156 = .ok (.getfield 81, 3) := by decide +kernel
theorem dX12_addCrossing_159 : decode cX12_addCrossing 159 = .ok (.iload_n 1, 1) := by decide +kernel
theorem dX12_addCrossing_160 : decode cX12_addCrossing 160 = .ok (.laload, 1) := by decide +kernel
theorem dX12_addCrossing_161 : decode cX12_addCrossing 161 = .ok (.lload 5, 2) := by decide +kernel
theorem dX12_addCrossing_163 : decode cX12_addCrossing 163 = .ok (.lload 13, 2) := by decide +kernel
theorem dX12_addCrossing_165 : decode cX12_addCrossing 165 = .ok (.lload 11, 2) := by decide +kernel
theorem dX12_addCrossing_167 : decode cX12_addCrossing 167 = .ok (.invokestatic 791, 3) := by decide +kernel
theorem dX12_addCrossing_170 : decode cX12_addCrossing 170 = .ok (.invokevirtual 794, 3) := by decide +kernel
theorem dX12_addCrossing_173 : decode cX12_addCrossing 173 = .ok (.ireturn, 1) := by decide +kernel
theorem dX12_heats_0 : decode cX12_heats 0 = .ok (.aload_n 0, 1) := by decide +kernel
theorem dX12_heats_1 : decode cX12_heats 1 = .ok (.iconst 0, 1) := by decide +kernel
theorem dX12_heats_2 : decode cX12_heats 2 = .ok (.putfield 784, 3) := by decide +kernel
theorem dX12_heats_5 : decode cX12_heats 5 = .ok (.iconst 0, 1) := by decide +kernel
theorem dX12_heats_6 : decode cX12_heats 6 = .ok (.istore_n 1, 1) := by decide +kernel
theorem dX12_heats_7 : decode cX12_heats 7 = .ok (.iload_n 1, 1) := by decide +kernel
theorem dX12_heats_8 : decode cX12_heats 8 = .ok (.aload_n 0, 1) := by decide +kernel
theorem dX12_heats_9 : decode cX12_heats 9 = .ok (.getfield 652, 3) := by decide +kernel
theorem dX12_heats_12 : decode cX12_heats 12 = .ok (.if_icmp .ge 49, 3) := by decide +kernel
theorem dX12_heats_15 : decode cX12_heats 15 = .ok (.aload_n 0, 1) := by decide +kernel
theorem dX12_heats_16 : decode cX12_heats 16 = .ok (.aload_n 0, 1) := by decide +kernel
theorem dX12_heats_17 : decode cX12_heats 17 = .ok (.getfield 78, 3) := by decide +kernel
theorem dX12_heats_20 : decode cX12_heats 20 = .ok (.iload_n 1, 1) := by decide +kernel
theorem dX12_heats_21 : decode cX12_heats 21 = .ok (.laload, 1) := by decide +kernel
theorem dX12_heats_22 : decode cX12_heats 22 = .ok (.aload_n 0, 1) := by decide +kernel
theorem dX12_heats_23 : decode cX12_heats 23 = .ok (.getfield 81, 3) := by decide +kernel
theorem dX12_heats_26 : decode cX12_heats 26 = .ok (.iload_n 1, 1) := by decide +kernel
theorem dX12_heats_27 : decode cX12_heats 27 = .ok (.laload, 1) := by decide +kernel
theorem dX12_heats_28 : decode cX12_heats 28 = .ok (.invokevirtual 794, 3) := by decide +kernel
theorem dX12_heats_31 : decode cX12_heats 31 = .ok (.ifCond .eq 22, 3) := by decide +kernel
theorem dX12_heats_34 : decode cX12_heats 34 = .ok (.aload_n 0, 1) := by decide +kernel
theorem dX12_heats_35 : decode cX12_heats 35 = .ok (.aload_n 0, 1) := by decide +kernel
theorem dX12_heats_36 : decode cX12_heats 36 = .ok (.getfield 84, 3) := by decide +kernel
theorem dX12_heats_39 : decode cX12_heats 39 = .ok (.iload_n 1, 1) := by decide +kernel
theorem dX12_heats_40 : decode cX12_heats 40 = .ok (.laload, 1) := by decide +kernel
theorem dX12_heats_41 : decode cX12_heats 41 = .ok (.aload_n 0, 1) := by decide +kernel
theorem dX12_heats_42 : decode cX12_heats 42 = .ok (.getfield 87, 3) := by decide +kernel
theorem dX12_heats_45 : decode cX12_heats 45 = .ok (.iload_n 1, 1) := by decide +kernel
theorem dX12_heats_46 : decode cX12_heats 46 = .ok (.laload, 1) := by decide +kernel
theorem dX12_heats_47 : decode cX12_heats 47 = .ok (.invokevirtual 794, 3) := by decide +kernel
theorem dX12_heats_50 : decode cX12_heats 50 = .ok (.ifCond .ne 5, 3) := by decide +kernel
theorem dX12_heats_53 : decode cX12_heats 53 = .ok (.iconst 0, 1) := by decide +kernel
theorem dX12_heats_54 : decode cX12_heats 54 = .ok (.ireturn, 1) := by decide +kernel
theorem dX12_heats_55 : decode cX12_heats 55 = .ok (.iinc 1 1, 3) := by decide +kernel
theorem dX12_heats_58 : decode cX12_heats 58 = .ok (.goto (-51), 3) := by decide +kernel
theorem dX12_heats_61 : decode cX12_heats 61 = .ok (.iconst 0, 1) := by decide +kernel
theorem dX12_heats_62 : decode cX12_heats 62 = .ok (.istore_n 1, 1) := by decide +kernel
theorem dX12_heats_63 : decode cX12_heats 63 = .ok (.iload_n 1, 1) := by decide +kernel
theorem dX12_heats_64 : decode cX12_heats 64 = .ok (.aload_n 0, 1) := by decide +kernel
theorem dX12_heats_65 : decode cX12_heats 65 = .ok (.getfield 652, 3) := by decide +kernel
theorem dX12_heats_68 : decode cX12_heats 68 = .ok (.if_icmp .ge 77, 3) := by decide +kernel
theorem dX12_heats_71 : decode cX12_heats 71 = .ok (.aload_n 0, 1) := by decide +kernel
theorem dX12_heats_72 : decode cX12_heats 72 = .ok (.iload_n 1, 1) := by decide +kernel
theorem dX12_heats_73 : decode cX12_heats 73 = .ok (.invokevirtual 798, 3) := by decide +kernel
theorem dX12_heats_76 : decode cX12_heats 76 = .ok (.ifCond .eq 6, 3) := by decide +kernel
theorem dX12_heats_79 : decode cX12_heats 79 = .ok (.goto 60, 3) := by decide +kernel
theorem dX12_heats_82 : decode cX12_heats 82 = .ok (.iload_n 1, 1) := by decide +kernel
theorem dX12_heats_83 : decode cX12_heats 83 = .ok (.iconst 1, 1) := by decide +kernel
theorem dX12_heats_84 : decode cX12_heats 84 = .ok (.iadd, 1) := by decide +kernel
theorem dX12_heats_85 : decode cX12_heats 85 = .ok (.istore_n 2, 1) := by decide +kernel
theorem dX12_heats_86 : decode cX12_heats 86 = .ok (.iload_n 2, 1) := by decide +kernel
theorem dX12_heats_87 : decode cX12_heats 87 = .ok (.aload_n 0, 1) := by decide +kernel
theorem dX12_heats_88 : decode cX12_heats 88 = .ok (.getfield 652, 3) := by decide +kernel
theorem dX12_heats_91 : decode cX12_heats 91 = .ok (.if_icmp .ge 48, 3) := by decide +kernel
theorem dX12_heats_94 : decode cX12_heats 94 = .ok (.aload_n 0, 1) := by decide +kernel
theorem dX12_heats_95 : decode cX12_heats 95 = .ok (.iload_n 2, 1) := by decide +kernel
theorem dX12_heats_96 : decode cX12_heats 96 = .ok (.invokevirtual 798, 3) := by decide +kernel
theorem dX12_heats_99 : decode cX12_heats 99 = .ok (.ifCond .ne 34, 3) := by decide +kernel
theorem dX12_heats_102 : decode cX12_heats 102 = .ok (.aload_n 0, 1) := by decide +kernel
theorem dX12_heats_103 : decode cX12_heats 103 = .ok (.iload_n 1, 1) := by decide +kernel
theorem dX12_heats_104 : decode cX12_heats 104 = .ok (.iload_n 2, 1) := by decide +kernel
theorem dX12_heats_105 : decode cX12_heats 105 = .ok (.invokevirtual 698, 3) := by decide +kernel
theorem dX12_heats_108 : decode cX12_heats 108 = .ok (.iconst 1, 1) := by decide +kernel
theorem dX12_heats_109 : decode cX12_heats 109 = .ok (.if_icmp .ne 24, 3) := by decide +kernel
theorem dX12_heats_112 : decode cX12_heats 112 = .ok (.aload_n 0, 1) := by decide +kernel
theorem dX12_heats_113 : decode cX12_heats 113 = .ok (.getfield 655, 3) := by decide +kernel
theorem dX12_heats_116 : decode cX12_heats 116 = .ok (.ifCond .ne 6, 3) := by decide +kernel
theorem dX12_heats_119 : decode cX12_heats 119 = .ok (.goto 14, 3) := by decide +kernel
theorem dX12_heats_122 : decode cX12_heats 122 = .ok (.aload_n 0, 1) := by decide +kernel
theorem dX12_heats_123 : decode cX12_heats 123 = .ok (.iload_n 1, 1) := by decide +kernel
theorem dX12_heats_124 : decode cX12_heats 124 = .ok (.iload_n 2, 1) := by decide +kernel
theorem dX12_heats_125 : decode cX12_heats 125 = .ok (.invokevirtual 801, 3) := by decide +kernel
theorem dX12_heats_128 : decode cX12_heats 128 = .ok (.ifCond .ne 5, 3) := by decide +kernel
theorem dX12_heats_131 : decode cX12_heats 131 = .ok (.iconst 0, 1) := by decide +kernel
theorem dX12_heats_132 : decode cX12_heats 132 = .ok (.ireturn, 1) := by decide +kernel
theorem dX12_heats_133 : decode cX12_heats 133 = .ok (.iinc 2 1, 3) := by decide +kernel
theorem dX12_heats_136 : decode cX12_heats 136 = .ok (.goto (-50), 3) := by decide +kernel
theorem dX12_heats_139 : decode cX12_heats 139 = .ok (.iinc 1 1, 3) := by decide +kernel
theorem dX12_heats_142 : decode cX12_heats 142 = .ok (.goto (-79), 3) := by decide +kernel
theorem dX12_heats_145 : decode cX12_heats 145 = .ok (.iconst 1, 1) := by decide +kernel
theorem dX12_heats_146 : decode cX12_heats 146 = .ok (.ireturn, 1) := by decide +kernel
theorem dX12_cuts_0 : decode cX12_cuts 0 = .ok (.lload_n 3, 1) := by decide +kernel
theorem dX12_cuts_1 : decode cX12_cuts 1 = .ok (.lconst 0, 1) := by decide +kernel
theorem dX12_cuts_2 : decode cX12_cuts 2 = .ok (.lcmp, 1) := by decide +kernel
theorem dX12_cuts_3 : decode cX12_cuts 3 = .ok (.ifCond .ne 23, 3) := by decide +kernel
theorem dX12_cuts_6 : decode cX12_cuts 6 = .ok (.lload 5, 2) := by decide +kernel
theorem dX12_cuts_8 : decode cX12_cuts 8 = .ok (.lload_n 1, 1) := by decide +kernel
theorem dX12_cuts_9 : decode cX12_cuts 9 = .ok (.lcmp, 1) := by decide +kernel
theorem dX12_cuts_10 : decode cX12_cuts 10 = .ok (.ifCond .gt 14, 3) := by decide +kernel
theorem dX12_cuts_13 : decode cX12_cuts 13 = .ok (.lload_n 1, 1) := by decide +kernel
theorem dX12_cuts_14 : decode cX12_cuts 14 = .ok (.lload 7, 2) := by decide +kernel
theorem dX12_cuts_16 : decode cX12_cuts 16 = .ok (.lcmp, 1) := by decide +kernel
theorem dX12_cuts_17 : decode cX12_cuts 17 = .ok (.ifCond .ge 7, 3) := by decide +kernel
theorem dX12_cuts_20 : decode cX12_cuts 20 = .ok (.iconst 1, 1) := by decide +kernel
theorem dX12_cuts_21 : decode cX12_cuts 21 = .ok (.goto 4, 3) := by decide +kernel
theorem dX12_cuts_24 : decode cX12_cuts 24 = .ok (.iconst 0, 1) := by decide +kernel
theorem dX12_cuts_25 : decode cX12_cuts 25 = .ok (.ireturn, 1) := by decide +kernel
theorem dX12_cuts_26 : decode cX12_cuts 26 = .ok (.lload_n 3, 1) := by decide +kernel
theorem dX12_cuts_27 : decode cX12_cuts 27 = .ok (.lconst 0, 1) := by decide +kernel
theorem dX12_cuts_28 : decode cX12_cuts 28 = .ok (.lcmp, 1) := by decide +kernel
theorem dX12_cuts_29 : decode cX12_cuts 29 = .ok (.ifCond .ge 8, 3) := by decide +kernel
theorem dX12_cuts_32 : decode cX12_cuts 32 = .ok (.lload_n 3, 1) := by decide +kernel
theorem dX12_cuts_33 : decode cX12_cuts 33 = .ok (.lneg, 1) := by decide +kernel
theorem dX12_cuts_34 : decode cX12_cuts 34 = .ok (.goto 4, 3) := by decide +kernel
theorem dX12_cuts_37 : decode cX12_cuts 37 = .ok (.lload_n 3, 1) := by decide +kernel
theorem dX12_cuts_38 : decode cX12_cuts 38 = .ok (.lstore 9, 2) := by decide +kernel
theorem dX12_cuts_40 : decode cX12_cuts 40 = .ok (.lload_n 3, 1) := by decide +kernel
theorem dX12_cuts_41 : decode cX12_cuts 41 = .ok (.lconst 0, 1) := by decide +kernel
theorem dX12_cuts_42 : decode cX12_cuts 42 = .ok (.lcmp, 1) := by decide +kernel
theorem dX12_cuts_43 : decode cX12_cuts 43 = .ok (.ifCond .le 10, 3) := by decide +kernel
theorem dX12_cuts_46 : decode cX12_cuts 46 = .ok (.lload 5, 2) := by decide +kernel
theorem dX12_cuts_48 : decode cX12_cuts 48 = .ok (.lload_n 1, 1) := by decide +kernel
theorem dX12_cuts_49 : decode cX12_cuts 49 = .ok (.lsub, 1) := by decide +kernel
theorem dX12_cuts_50 : decode cX12_cuts 50 = .ok (.goto 7, 3) := by decide +kernel
theorem dX12_cuts_53 : decode cX12_cuts 53 = .ok (.lload_n 1, 1) := by decide +kernel
theorem dX12_cuts_54 : decode cX12_cuts 54 = .ok (.lload 7, 2) := by decide +kernel
theorem dX12_cuts_56 : decode cX12_cuts 56 = .ok (.lsub, 1) := by decide +kernel
theorem dX12_cuts_57 : decode cX12_cuts 57 = .ok (.lstore 11, 2) := by decide +kernel
theorem dX12_cuts_59 : decode cX12_cuts 59 = .ok (.lload_n 3, 1) := by decide +kernel
theorem dX12_cuts_60 : decode cX12_cuts 60 = .ok (.lconst 0, 1) := by decide +kernel
theorem dX12_cuts_61 : decode cX12_cuts 61 = .ok (.lcmp, 1) := by decide +kernel
theorem dX12_cuts_62 : decode cX12_cuts 62 = .ok (.ifCond .le 10, 3) := by decide +kernel
theorem dX12_cuts_65 : decode cX12_cuts 65 = .ok (.lload 7, 2) := by decide +kernel
theorem dX12_cuts_67 : decode cX12_cuts 67 = .ok (.lload_n 1, 1) := by decide +kernel
theorem dX12_cuts_68 : decode cX12_cuts 68 = .ok (.lsub, 1) := by decide +kernel
theorem dX12_cuts_69 : decode cX12_cuts 69 = .ok (.goto 7, 3) := by decide +kernel
theorem dX12_cuts_72 : decode cX12_cuts 72 = .ok (.lload_n 1, 1) := by decide +kernel
theorem dX12_cuts_73 : decode cX12_cuts 73 = .ok (.lload 5, 2) := by decide +kernel
theorem dX12_cuts_75 : decode cX12_cuts 75 = .ok (.lsub, 1) := by decide +kernel
theorem dX12_cuts_76 : decode cX12_cuts 76 = .ok (.lstore 13, 2) := by decide +kernel
theorem dX12_cuts_78 : decode cX12_cuts 78 = .ok (.lload_n 3, 1) := by decide +kernel
theorem dX12_cuts_79 : decode cX12_cuts 79 = .ok (.lconst 0, 1) := by decide +kernel
theorem dX12_cuts_80 : decode cX12_cuts 80 = .ok (.lcmp, 1) := by decide +kernel
theorem dX12_cuts_81 : decode cX12_cuts 81 = .ok (.ifCond .ge 7, 3) := by decide +kernel
theorem dX12_cuts_84 : decode cX12_cuts 84 = .ok (.iconst 1, 1) := by decide +kernel
theorem dX12_cuts_85 : decode cX12_cuts 85 = .ok (.goto 4, 3) := by decide +kernel
theorem dX12_cuts_88 : decode cX12_cuts 88 = .ok (.iconst 0, 1) := by decide +kernel
theorem dX12_cuts_89 : decode cX12_cuts 89 = .ok (.istore 15, 2) := by decide +kernel
theorem dX12_cuts_91 : decode cX12_cuts 91 = .ok (.lload 11, 2) := by decide +kernel
theorem dX12_cuts_93 : decode cX12_cuts 93 = .ok (.aload_n 0, 1) := by decide +kernel
theorem dX12_cuts_94 : decode cX12_cuts 94 = .ok (.getfield 804, 3) := by decide +kernel
theorem dX12_cuts_97 : decode cX12_cuts 97 = .ok (.lmul, 1) := by decide +kernel
theorem dX12_cuts_98 : decode cX12_cuts 98 = .ok (.aload_n 0, 1) := by decide +kernel
theorem dX12_cuts_99 : decode cX12_cuts 99 = .ok (.getfield 807, 3) := by decide +kernel
theorem dX12_cuts_102 : decode cX12_cuts 102 = .ok (.lload 9, 2) := by decide +kernel
theorem dX12_cuts_104 : decode cX12_cuts 104 = .ok (.lmul, 1) := by decide +kernel
theorem dX12_cuts_105 : decode cX12_cuts 105 = .ok (.lsub, 1) := by decide +kernel
theorem dX12_cuts_106 : decode cX12_cuts 106 = .ok (.lstore 16, 2) := by decide +kernel
theorem dX12_cuts_108 : decode cX12_cuts 108 = .ok (.lload 16, 2) := by decide +kernel
theorem dX12_cuts_110 : decode cX12_cuts 110 = .ok (.lconst 0, 1) := by decide +kernel
theorem dX12_cuts_111 : decode cX12_cuts 111 = .ok (.lcmp, 1) := by decide +kernel
theorem dX12_cuts_112 : decode cX12_cuts 112 = .ok (.ifCond .le 24, 3) := by decide +kernel
theorem dX12_cuts_115 : decode cX12_cuts 115 = .ok (.aload_n 0, 1) := by decide +kernel
theorem dX12_cuts_116 : decode cX12_cuts 116 = .ok (.lload 11, 2) := by decide +kernel
theorem dX12_cuts_118 : decode cX12_cuts 118 = .ok (.putfield 807, 3) := by decide +kernel
theorem dX12_cuts_121 : decode cX12_cuts 121 = .ok (.aload_n 0, 1) := by decide +kernel
theorem dX12_cuts_122 : decode cX12_cuts 122 = .ok (.lload 9, 2) := by decide +kernel
theorem dX12_cuts_124 : decode cX12_cuts 124 = .ok (.putfield 804, 3) := by decide +kernel
theorem dX12_cuts_127 : decode cX12_cuts 127 = .ok (.aload_n 0, 1) := by decide +kernel
theorem dX12_cuts_128 : decode cX12_cuts 128 = .ok (.iload 15, 2) := by decide +kernel
theorem dX12_cuts_130 : decode cX12_cuts 130 = .ok (.putfield 810, 3) := by decide +kernel
theorem dX12_cuts_133 : decode cX12_cuts 133 = .ok (.goto 31, 3) := by decide +kernel
theorem dX12_cuts_136 : decode cX12_cuts 136 = .ok (.lload 16, 2) := by decide +kernel
theorem dX12_cuts_138 : decode cX12_cuts 138 = .ok (.lconst 0, 1) := by decide +kernel
theorem dX12_cuts_139 : decode cX12_cuts 139 = .ok (.lcmp, 1) := by decide +kernel
theorem dX12_cuts_140 : decode cX12_cuts 140 = .ok (.ifCond .ne 24, 3) := by decide +kernel
theorem dX12_cuts_143 : decode cX12_cuts 143 = .ok (.aload_n 0, 1) := by decide +kernel
theorem dX12_cuts_144 : decode cX12_cuts 144 = .ok (.aload_n 0, 1) := by decide +kernel
theorem dX12_cuts_145 : decode cX12_cuts 145 = .ok (.getfield 810, 3) := by decide +kernel
theorem dX12_cuts_148 : decode cX12_cuts 148 = .ok (.ifCond .ne 8, 3) := by decide +kernel
theorem dX12_cuts_151 : decode cX12_cuts 151 = .ok (.iload 15, 2) := by decide +kernel
theorem dX12_cuts_153 : decode cX12_cuts 153 = .ok (.ifCond .eq 7, 3) := by decide +kernel
theorem dX12_cuts_156 : decode cX12_cuts 156 = .ok (.iconst 1, 1) := by decide +kernel
theorem dX12_cuts_157 : decode cX12_cuts 157 = .ok (.goto 4, 3) := by decide +kernel
theorem dX12_cuts_160 : decode cX12_cuts 160 = .ok (.iconst 0, 1) := by decide +kernel
theorem dX12_cuts_161 : decode cX12_cuts 161 = .ok (.putfield 810, 3) := by decide +kernel
theorem dX12_cuts_164 : decode cX12_cuts 164 = .ok (.lload 13, 2) := by decide +kernel
theorem dX12_cuts_166 : decode cX12_cuts 166 = .ok (.aload_n 0, 1) := by decide +kernel
theorem dX12_cuts_167 : decode cX12_cuts 167 = .ok (.getfield 813, 3) := by decide +kernel
theorem dX12_cuts_170 : decode cX12_cuts 170 = .ok (.lmul, 1) := by decide +kernel
theorem dX12_cuts_171 : decode cX12_cuts 171 = .ok (.aload_n 0, 1) := by decide +kernel
theorem dX12_cuts_172 : decode cX12_cuts 172 = .ok (.getfield 816, 3) := by decide +kernel
theorem dX12_cuts_175 : decode cX12_cuts 175 = .ok (.lload 9, 2) := by decide +kernel
theorem dX12_cuts_177 : decode cX12_cuts 177 = .ok (.lmul, 1) := by decide +kernel
theorem dX12_cuts_178 : decode cX12_cuts 178 = .ok (.lsub, 1) := by decide +kernel
theorem dX12_cuts_179 : decode cX12_cuts 179 = .ok (.lstore 16, 2) := by decide +kernel
theorem dX12_cuts_181 : decode cX12_cuts 181 = .ok (.lload 16, 2) := by decide +kernel
theorem dX12_cuts_183 : decode cX12_cuts 183 = .ok (.lconst 0, 1) := by decide +kernel
theorem dX12_cuts_184 : decode cX12_cuts 184 = .ok (.lcmp, 1) := by decide +kernel
theorem dX12_cuts_185 : decode cX12_cuts 185 = .ok (.ifCond .ge 32, 3) := by decide +kernel
theorem dX12_cuts_188 : decode cX12_cuts 188 = .ok (.aload_n 0, 1) := by decide +kernel
theorem dX12_cuts_189 : decode cX12_cuts 189 = .ok (.lload 13, 2) := by decide +kernel
theorem dX12_cuts_191 : decode cX12_cuts 191 = .ok (.putfield 816, 3) := by decide +kernel
theorem dX12_cuts_194 : decode cX12_cuts 194 = .ok (.aload_n 0, 1) := by decide +kernel
theorem dX12_cuts_195 : decode cX12_cuts 195 = .ok (.lload 9, 2) := by decide +kernel
theorem dX12_cuts_197 : decode cX12_cuts 197 = .ok (.putfield 813, 3) := by decide +kernel
theorem dX12_cuts_200 : decode cX12_cuts 200 = .ok (.aload_n 0, 1) := by decide +kernel
theorem dX12_cuts_201 : decode cX12_cuts 201 = .ok (.iload 15, 2) := by decide +kernel
theorem dX12_cuts_203 : decode cX12_cuts 203 = .ok (.ifCond .ne 7, 3) := by decide +kernel
theorem dX12_cuts_206 : decode cX12_cuts 206 = .ok (.iconst 1, 1) := by decide +kernel
theorem dX12_cuts_207 : decode cX12_cuts 207 = .ok (.goto 4, 3) := by decide +kernel
theorem dX12_cuts_210 : decode cX12_cuts 210 = .ok (.iconst 0, 1) := by decide +kernel
theorem dX12_cuts_211 : decode cX12_cuts 211 = .ok (.putfield 819, 3) := by decide +kernel
theorem dX12_cuts_214 : decode cX12_cuts 214 = .ok (.goto 31, 3) := by decide +kernel
theorem dX12_cuts_217 : decode cX12_cuts 217 = .ok (.lload 16, 2) := by decide +kernel
theorem dX12_cuts_219 : decode cX12_cuts 219 = .ok (.lconst 0, 1) := by decide +kernel
theorem dX12_cuts_220 : decode cX12_cuts 220 = .ok (.lcmp, 1) := by decide +kernel
theorem dX12_cuts_221 : decode cX12_cuts 221 = .ok (.ifCond .ne 24, 3) := by decide +kernel
theorem dX12_cuts_224 : decode cX12_cuts 224 = .ok (.aload_n 0, 1) := by decide +kernel
theorem dX12_cuts_225 : decode cX12_cuts 225 = .ok (.aload_n 0, 1) := by decide +kernel
theorem dX12_cuts_226 : decode cX12_cuts 226 = .ok (.getfield 819, 3) := by decide +kernel
theorem dX12_cuts_229 : decode cX12_cuts 229 = .ok (.ifCond .ne 8, 3) := by decide +kernel
theorem dX12_cuts_232 : decode cX12_cuts 232 = .ok (.iload 15, 2) := by decide +kernel
theorem dX12_cuts_234 : decode cX12_cuts 234 = .ok (.ifCond .ne 7, 3) := by decide +kernel
theorem dX12_cuts_237 : decode cX12_cuts 237 = .ok (.iconst 1, 1) := by decide +kernel
theorem dX12_cuts_238 : decode cX12_cuts 238 = .ok (.goto 4, 3) := by decide +kernel
theorem dX12_cuts_241 : decode cX12_cuts 241 = .ok (.iconst 0, 1) := by decide +kernel
theorem dX12_cuts_242 : decode cX12_cuts 242 = .ok (.putfield 819, 3) := by decide +kernel
theorem dX12_cuts_245 : decode cX12_cuts 245 = .ok (.aload_n 0, 1) := by decide +kernel
theorem dX12_cuts_246 : decode cX12_cuts 246 = .ok (.getfield 807, 3) := by decide +kernel
theorem dX12_cuts_249 : decode cX12_cuts 249 = .ok (.aload_n 0, 1) := by decide +kernel
theorem dX12_cuts_250 : decode cX12_cuts 250 = .ok (.getfield 813, 3) := by decide +kernel
theorem dX12_cuts_253 : decode cX12_cuts 253 = .ok (.lmul, 1) := by decide +kernel
theorem dX12_cuts_254 : decode cX12_cuts 254 = .ok (.aload_n 0, 1) := by decide +kernel
theorem dX12_cuts_255 : decode cX12_cuts 255 = .ok (.getfield 816, 3) := by decide +kernel
theorem dX12_cuts_258 : decode cX12_cuts 258 = .ok (.aload_n 0, 1) := by decide +kernel
theorem dX12_cuts_259 : decode cX12_cuts 259 = .ok (.getfield 804, 3) := by decide +kernel
theorem dX12_cuts_262 : decode cX12_cuts 262 = .ok (.lmul, 1) := by decide +kernel
theorem dX12_cuts_263 : decode cX12_cuts 263 = .ok (.lsub, 1) := by decide +kernel
theorem dX12_cuts_264 : decode cX12_cuts 264 = .ok (.lstore 18, 2) := by decide +kernel
theorem dX12_cuts_266 : decode cX12_cuts 266 = .ok (.lload 18, 2) := by decide +kernel
theorem dX12_cuts_268 : decode cX12_cuts 268 = .ok (.lconst 0, 1) := by decide +kernel
theorem dX12_cuts_269 : decode cX12_cuts 269 = .ok (.lcmp, 1) := by decide +kernel
theorem dX12_cuts_270 : decode cX12_cuts 270 = .ok (.ifCond .lt 24, 3) := by decide +kernel
theorem dX12_cuts_273 : decode cX12_cuts 273 = .ok (.lload 18, 2) := by decide +kernel
theorem dX12_cuts_275 : decode cX12_cuts 275 = .ok (.lconst 0, 1) := by decide +kernel
theorem dX12_cuts_276 : decode cX12_cuts 276 = .ok (.lcmp, 1) := by decide +kernel
theorem dX12_cuts_277 : decode cX12_cuts 277 = .ok (.ifCond .ne 21, 3) := by decide +kernel
theorem dX12_cuts_280 : decode cX12_cuts 280 = .ok (.aload_n 0, 1) := by decide +kernel
theorem dX12_cuts_281 : decode cX12_cuts 281 = .ok (.getfield 810, 3) := by decide +kernel
theorem dX12_cuts_284 : decode cX12_cuts 284 = .ok (.ifCond .ne 14, 3) := by decide +kernel
theorem dX12_cuts_287 : decode cX12_cuts 287 = .ok (.aload_n 0, 1) := by decide +kernel
theorem dX12_cuts_288 : decode cX12_cuts 288 = .ok (.getfield 819, 3) := by decide +kernel
theorem dX12_cuts_291 : decode cX12_cuts 291 = .ok (.ifCond .ne 7, 3) := by decide +kernel
theorem dX12_cuts_294 : decode cX12_cuts 294 = .ok (.iconst 1, 1) := by decide +kernel
theorem dX12_cuts_295 : decode cX12_cuts 295 = .ok (.goto 4, 3) := by decide +kernel
theorem dX12_cuts_298 : decode cX12_cuts 298 = .ok (.iconst 0, 1) := by decide +kernel
theorem dX12_cuts_299 : decode cX12_cuts 299 = .ok (.ireturn, 1) := by decide +kernel
theorem dX12_meetsPixel_0 : decode cX12_meetsPixel 0 = .ok (.aload_n 0, 1) := by decide +kernel
theorem dX12_meetsPixel_1 : decode cX12_meetsPixel 1 = .ok (.lconst 0, 1) := by decide +kernel
theorem dX12_meetsPixel_2 : decode cX12_meetsPixel 2 = .ok (.putfield 807, 3) := by decide +kernel
theorem dX12_meetsPixel_5 : decode cX12_meetsPixel 5 = .ok (.aload_n 0, 1) := by decide +kernel
theorem dX12_meetsPixel_6 : decode cX12_meetsPixel 6 = .ok (.lconst 1, 1) := by decide +kernel
theorem dX12_meetsPixel_7 : decode cX12_meetsPixel 7 = .ok (.putfield 804, 3) := by decide +kernel
theorem dX12_meetsPixel_10 : decode cX12_meetsPixel 10 = .ok (.aload_n 0, 1) := by decide +kernel
theorem dX12_meetsPixel_11 : decode cX12_meetsPixel 11 = .ok (.iconst 0, 1) := by decide +kernel
theorem dX12_meetsPixel_12 : decode cX12_meetsPixel 12 = .ok (.putfield 810, 3) := by decide +kernel
theorem dX12_meetsPixel_15 : decode cX12_meetsPixel 15 = .ok (.aload_n 0, 1) := by decide +kernel
theorem dX12_meetsPixel_16 : decode cX12_meetsPixel 16 = .ok (.lconst 1, 1) := by decide +kernel
theorem dX12_meetsPixel_17 : decode cX12_meetsPixel 17 = .ok (.putfield 816, 3) := by decide +kernel
theorem dX12_meetsPixel_20 : decode cX12_meetsPixel 20 = .ok (.aload_n 0, 1) := by decide +kernel
theorem dX12_meetsPixel_21 : decode cX12_meetsPixel 21 = .ok (.lconst 1, 1) := by decide +kernel
theorem dX12_meetsPixel_22 : decode cX12_meetsPixel 22 = .ok (.putfield 813, 3) := by decide +kernel
theorem dX12_meetsPixel_25 : decode cX12_meetsPixel 25 = .ok (.aload_n 0, 1) := by decide +kernel
theorem dX12_meetsPixel_26 : decode cX12_meetsPixel 26 = .ok (.iconst 0, 1) := by decide +kernel
theorem dX12_meetsPixel_27 : decode cX12_meetsPixel 27 = .ok (.putfield 819, 3) := by decide +kernel
theorem dX12_meetsPixel_30 : decode cX12_meetsPixel 30 = .ok (.ldc2_w 554, 3) := by decide +kernel
theorem dX12_meetsPixel_33 : decode cX12_meetsPixel 33 = .ok (.aload_n 0, 1) := by decide +kernel
theorem dX12_meetsPixel_34 : decode cX12_meetsPixel 34 = .ok (.getfield 132, 3) := by decide +kernel
theorem dX12_meetsPixel_37 : decode cX12_meetsPixel 37 = .ok (.iload_n 2, 1) := by decide +kernel
theorem dX12_meetsPixel_38 : decode cX12_meetsPixel 38 = .ok (.laload, 1) := by decide +kernel
theorem dX12_meetsPixel_39 : decode cX12_meetsPixel 39 = .ok (.lmul, 1) := by decide +kernel
theorem dX12_meetsPixel_40 : decode cX12_meetsPixel 40 = .ok (.lstore_n 3, 1) := by decide +kernel
theorem dX12_meetsPixel_41 : decode cX12_meetsPixel 41 = .ok (.ldc2_w 554, 3) := by decide +kernel
theorem dX12_meetsPixel_44 : decode cX12_meetsPixel 44 = .ok (.aload_n 0, 1) := by decide +kernel
theorem dX12_meetsPixel_45 : decode cX12_meetsPixel 45 = .ok (.getfield 135, 3) := by decide +kernel
theorem dX12_meetsPixel_48 : decode cX12_meetsPixel 48 = .ok (.iload_n 2, 1) := by decide +kernel
theorem dX12_meetsPixel_49 : decode cX12_meetsPixel 49 = .ok (.laload, 1) := by decide +kernel
theorem dX12_meetsPixel_50 : decode cX12_meetsPixel 50 = .ok (.lmul, 1) := by decide +kernel
theorem dX12_meetsPixel_51 : decode cX12_meetsPixel 51 = .ok (.lstore 5, 2) := by decide +kernel
theorem dX12_meetsPixel_53 : decode cX12_meetsPixel 53 = .ok (.aload_n 0, 1) := by decide +kernel
theorem dX12_meetsPixel_54 : decode cX12_meetsPixel 54 = .ok (.ldc2_w 554, 3) := by decide +kernel
theorem dX12_meetsPixel_57 : decode cX12_meetsPixel 57 = .ok (.aload_n 0, 1) := by decide +kernel
theorem dX12_meetsPixel_58 : decode cX12_meetsPixel 58 = .ok (.getfield 78, 3) := by decide +kernel
theorem dX12_meetsPixel_61 : decode cX12_meetsPixel 61 = .ok (.iload_n 1, 1) := by decide +kernel
theorem dX12_meetsPixel_62 : decode cX12_meetsPixel 62 = .ok (.laload, 1) := by decide +kernel
theorem dX12_meetsPixel_63 : decode cX12_meetsPixel 63 = .ok (.lmul, 1) := by decide +kernel
theorem dX12_meetsPixel_64 : decode cX12_meetsPixel 64 = .ok (.ldc2_w 554, 3) := by decide +kernel
theorem dX12_meetsPixel_67 : decode cX12_meetsPixel 67 = .ok (.aload_n 0, 1) := by decide +kernel
theorem dX12_meetsPixel_68 : decode cX12_meetsPixel 68 = .ok (.getfield 84, 3) := by decide +kernel
theorem dX12_meetsPixel_71 : decode cX12_meetsPixel 71 = .ok (.iload_n 1, 1) := by decide +kernel
theorem dX12_meetsPixel_72 : decode cX12_meetsPixel 72 = .ok (.laload, 1) := by decide +kernel
theorem dX12_meetsPixel_73 : decode cX12_meetsPixel 73 = .ok (.aload_n 0, 1) := by decide +kernel
theorem dX12_meetsPixel_74 : decode cX12_meetsPixel 74 = .ok (.getfield 78, 3) := by decide +kernel
theorem dX12_meetsPixel_77 : decode cX12_meetsPixel 77 = .ok (.iload_n 1, 1) := by decide +kernel
theorem dX12_meetsPixel_78 : decode cX12_meetsPixel 78 = .ok (.laload, 1) := by decide +kernel
theorem dX12_meetsPixel_79 : decode cX12_meetsPixel 79 = .ok (.lsub, 1) := by decide +kernel
theorem dX12_meetsPixel_80 : decode cX12_meetsPixel 80 = .ok (.lmul, 1) := by decide +kernel
theorem dX12_meetsPixel_81 : decode cX12_meetsPixel 81 = .ok (.lload_n 3, 1) := by decide +kernel
theorem dX12_meetsPixel_82 : decode cX12_meetsPixel 82 = .ok (.lconst 1, 1) := by decide +kernel
theorem dX12_meetsPixel_83 : decode cX12_meetsPixel 83 = .ok (.lsub, 1) := by decide +kernel
theorem dX12_meetsPixel_84 : decode cX12_meetsPixel 84 = .ok (.lload_n 3, 1) := by decide +kernel
theorem dX12_meetsPixel_85 : decode cX12_meetsPixel 85 = .ok (.lconst 1, 1) := by decide +kernel
theorem dX12_meetsPixel_86 : decode cX12_meetsPixel 86 = .ok (.ladd, 1) := by decide +kernel
theorem dX12_meetsPixel_87 : decode cX12_meetsPixel 87 = .ok (.invokevirtual 822, 3) := by decide +kernel
theorem dX12_meetsPixel_90 : decode cX12_meetsPixel 90 = .ok (.ifCond .eq 49, 3) := by decide +kernel
theorem dX12_meetsPixel_93 : decode cX12_meetsPixel 93 = .ok (.aload_n 0, 1) := by decide +kernel
theorem dX12_meetsPixel_94 : decode cX12_meetsPixel 94 = .ok (.ldc2_w 554, 3) := by decide +kernel
theorem dX12_meetsPixel_97 : decode cX12_meetsPixel 97 = .ok (.aload_n 0, 1) := by decide +kernel
theorem dX12_meetsPixel_98 : decode cX12_meetsPixel 98 = .ok (.getfield 81, 3) := by decide +kernel
theorem dX12_meetsPixel_101 : decode cX12_meetsPixel 101 = .ok (.iload_n 1, 1) := by decide +kernel
theorem dX12_meetsPixel_102 : decode cX12_meetsPixel 102 = .ok (.laload, 1) := by decide +kernel
theorem dX12_meetsPixel_103 : decode cX12_meetsPixel 103 = .ok (.lmul, 1) := by decide +kernel
theorem dX12_meetsPixel_104 : decode cX12_meetsPixel 104 = .ok (.ldc2_w 554, 3) := by decide +kernel
theorem dX12_meetsPixel_107 : decode cX12_meetsPixel 107 = .ok (.aload_n 0, 1) := by decide +kernel
theorem dX12_meetsPixel_108 : decode cX12_meetsPixel 108 = .ok (.getfield 87, 3) := by decide +kernel
theorem dX12_meetsPixel_111 : decode cX12_meetsPixel 111 = .ok (.iload_n 1, 1) := by decide +kernel
theorem dX12_meetsPixel_112 : decode cX12_meetsPixel 112 = .ok (.laload, 1) := by decide +kernel
theorem dX12_meetsPixel_113 : decode cX12_meetsPixel 113 = .ok (.aload_n 0, 1) := by decide +kernel
theorem dX12_meetsPixel_114 : decode cX12_meetsPixel 114 = .ok (.getfield 81, 3) := by decide +kernel
theorem dX12_meetsPixel_117 : decode cX12_meetsPixel 117 = .ok (.iload_n 1, 1) := by decide +kernel
theorem dX12_meetsPixel_118 : decode cX12_meetsPixel 118 = .ok (.laload, 1) := by decide +kernel
theorem dX12_meetsPixel_119 : decode cX12_meetsPixel 119 = .ok (.lsub, 1) := by decide +kernel
theorem dX12_meetsPixel_120 : decode cX12_meetsPixel 120 = .ok (.lmul, 1) := by decide +kernel
theorem dX12_meetsPixel_121 : decode cX12_meetsPixel 121 = .ok (.lload 5, 2) := by decide +kernel
theorem dX12_meetsPixel_123 : decode cX12_meetsPixel 123 = .ok (.lconst 1, 1) := by decide +kernel
theorem dX12_meetsPixel_124 : decode cX12_meetsPixel 124 = .ok (.lsub, 1) := by decide +kernel
theorem dX12_meetsPixel_125 : decode cX12_meetsPixel 125 = .ok (.lload 5, 2) := by decide +kernel
theorem dX12_meetsPixel_127 : decode cX12_meetsPixel 127 = .ok (.lconst 1, 1) := by decide +kernel
theorem dX12_meetsPixel_128 : decode cX12_meetsPixel 128 = .ok (.ladd, 1) := by decide +kernel
theorem dX12_meetsPixel_129 : decode cX12_meetsPixel 129 = .ok (.invokevirtual 822, 3) := by decide +kernel
theorem dX12_meetsPixel_132 : decode cX12_meetsPixel 132 = .ok (.ifCond .eq 7, 3) := by decide +kernel
theorem dX12_meetsPixel_135 : decode cX12_meetsPixel 135 = .ok (.iconst 1, 1) := by decide +kernel
theorem dX12_meetsPixel_136 : decode cX12_meetsPixel 136 = .ok (.goto 4, 3) := by decide +kernel
theorem dX12_meetsPixel_139 : decode cX12_meetsPixel 139 = .ok (.iconst 0, 1) := by decide +kernel
theorem dX12_meetsPixel_140 : decode cX12_meetsPixel 140 = .ok (.ireturn, 1) := by decide +kernel
theorem dX12_link_0 : decode cX12_link 0 = .ok (.aload_n 0, 1) := by decide +kernel
theorem dX12_link_1 : decode cX12_link 1 = .ok (.getfield 825, 3) := by decide +kernel
theorem dX12_link_4 : decode cX12_link 4 = .ok (.istore_n 2, 1) := by decide +kernel
theorem dX12_link_5 : decode cX12_link 5 = .ok (.iload_n 2, 1) := by decide +kernel
theorem dX12_link_6 : decode cX12_link 6 = .ok (.ifCond .le 75, 3) := by decide +kernel
theorem dX12_link_9 : decode cX12_link 9 = .ok (.aload_n 0, 1) := by decide +kernel
theorem dX12_link_10 : decode cX12_link 10 = .ok (.iload_n 2, 1) := by decide +kernel
theorem dX12_link_11 : decode cX12_link 11 = .ok (.iconst 1, 1) := by decide +kernel
theorem dX12_link_12 : decode cX12_link 12 = .ok (.isub, 1) := by decide +kernel
theorem dX12_link_13 : decode cX12_link 13 = .ok (.invokevirtual 828, 3) := by decide +kernel
theorem dX12_link_16 : decode cX12_link 16 = .ok (.ifCond .eq 65, 3) := by decide +kernel
theorem dX12_link_19 : decode cX12_link 19 = .ok (.aload_n 0, 1) := by decide +kernel
theorem dX12_link_20 : decode cX12_link 20 = .ok (.getfield 138, 3) := by decide +kernel
theorem dX12_link_23 : decode cX12_link 23 = .ok (.iload_n 2, 1) := by decide +kernel
theorem dX12_link_24 : decode cX12_link 24 = .ok (.aload_n 0, 1) := by decide +kernel
theorem dX12_link_25 : decode cX12_link 25 = .ok (.getfield 138, 3) := by decide +kernel
theorem dX12_link_28 : decode cX12_link 28 = .ok (.iload_n 2, 1) := by decide +kernel
theorem dX12_link_29 : decode cX12_link 29 = .ok (.iconst 1, 1) := by decide +kernel
theorem dX12_link_30 : decode cX12_link 30 = .ok (.isub, 1) := by decide +kernel
theorem dX12_link_31 : decode cX12_link 31 = .ok (.iaload, 1) := by decide +kernel
theorem dX12_link_32 : decode cX12_link 32 = .ok (.iastore, 1) := by decide +kernel
theorem dX12_link_33 : decode cX12_link 33 = .ok (.aload_n 0, 1) := by decide +kernel
theorem dX12_link_34 : decode cX12_link 34 = .ok (.getfield 141, 3) := by decide +kernel
theorem dX12_link_37 : decode cX12_link 37 = .ok (.iload_n 2, 1) := by decide +kernel
theorem dX12_link_38 : decode cX12_link 38 = .ok (.aload_n 0, 1) := by decide +kernel
theorem dX12_link_39 : decode cX12_link 39 = .ok (.getfield 141, 3) := by decide +kernel
theorem dX12_link_42 : decode cX12_link 42 = .ok (.iload_n 2, 1) := by decide +kernel
theorem dX12_link_43 : decode cX12_link 43 = .ok (.iconst 1, 1) := by decide +kernel
theorem dX12_link_44 : decode cX12_link 44 = .ok (.isub, 1) := by decide +kernel
theorem dX12_link_45 : decode cX12_link 45 = .ok (.laload, 1) := by decide +kernel
theorem dX12_link_46 : decode cX12_link 46 = .ok (.lastore, 1) := by decide +kernel
theorem dX12_link_47 : decode cX12_link 47 = .ok (.aload_n 0, 1) := by decide +kernel
theorem dX12_link_48 : decode cX12_link 48 = .ok (.getfield 144, 3) := by decide +kernel
theorem dX12_link_51 : decode cX12_link 51 = .ok (.iload_n 2, 1) := by decide +kernel
theorem dX12_link_52 : decode cX12_link 52 = .ok (.aload_n 0, 1) := by decide +kernel
theorem dX12_link_53 : decode cX12_link 53 = .ok (.getfield 144, 3) := by decide +kernel
theorem dX12_link_56 : decode cX12_link 56 = .ok (.iload_n 2, 1) := by decide +kernel
theorem dX12_link_57 : decode cX12_link 57 = .ok (.iconst 1, 1) := by decide +kernel
theorem dX12_link_58 : decode cX12_link 58 = .ok (.isub, 1) := by decide +kernel
theorem dX12_link_59 : decode cX12_link 59 = .ok (.laload, 1) := by decide +kernel
theorem dX12_link_60 : decode cX12_link 60 = .ok (.lastore, 1) := by decide +kernel
theorem dX12_link_61 : decode cX12_link 61 = .ok (.aload_n 0, 1) := by decide +kernel
theorem dX12_link_62 : decode cX12_link 62 = .ok (.getfield 147, 3) := by decide +kernel
theorem dX12_link_65 : decode cX12_link 65 = .ok (.iload_n 2, 1) := by decide +kernel
theorem dX12_link_66 : decode cX12_link 66 = .ok (.aload_n 0, 1) := by decide +kernel
theorem dX12_link_67 : decode cX12_link 67 = .ok (.getfield 147, 3) := by decide +kernel
theorem dX12_link_70 : decode cX12_link 70 = .ok (.iload_n 2, 1) := by decide +kernel
theorem dX12_link_71 : decode cX12_link 71 = .ok (.iconst 1, 1) := by decide +kernel
theorem dX12_link_72 : decode cX12_link 72 = .ok (.isub, 1) := by decide +kernel
theorem dX12_link_73 : decode cX12_link 73 = .ok (.baload, 1) := by decide +kernel
theorem dX12_link_74 : decode cX12_link 74 = .ok (.bastore, 1) := by decide +kernel
theorem dX12_link_75 : decode cX12_link 75 = .ok (.iinc 2 (-1), 3) := by decide +kernel
theorem dX12_link_78 : decode cX12_link 78 = .ok (.goto (-73), 3) := by decide +kernel
theorem dX12_link_81 : decode cX12_link 81 = .ok (.aload_n 0, 1) := by decide +kernel
theorem dX12_link_82 : decode cX12_link 82 = .ok (.getfield 138, 3) := by decide +kernel
theorem dX12_link_85 : decode cX12_link 85 = .ok (.iload_n 2, 1) := by decide +kernel
theorem dX12_link_86 : decode cX12_link 86 = .ok (.iload_n 1, 1) := by decide +kernel
theorem dX12_link_87 : decode cX12_link 87 = .ok (.iastore, 1) := by decide +kernel
theorem dX12_link_88 : decode cX12_link 88 = .ok (.aload_n 0, 1) := by decide +kernel
theorem dX12_link_89 : decode cX12_link 89 = .ok (.getfield 141, 3) := by decide +kernel
theorem dX12_link_92 : decode cX12_link 92 = .ok (.iload_n 2, 1) := by decide +kernel
theorem dX12_link_93 : decode cX12_link 93 = .ok (.aload_n 0, 1) := by decide +kernel
theorem dX12_link_94 : decode cX12_link 94 = .ok (.getfield 807, 3) := by decide +kernel
theorem dX12_link_97 : decode cX12_link 97 = .ok (.lastore, 1) := by decide +kernel
theorem dX12_link_98 : decode cX12_link 98 = .ok (.aload_n 0, 1) := by decide +kernel
theorem dX12_link_99 : decode cX12_link 99 = .ok (.getfield 144, 3) := by decide +kernel
theorem dX12_link_102 : decode cX12_link 102 = .ok (.iload_n 2, 1) := by decide +kernel
theorem dX12_link_103 : decode cX12_link 103 = .ok (.aload_n 0, 1) := by decide +kernel
theorem dX12_link_104 : decode cX12_link 104 = .ok (.getfield 804, 3) := by decide +kernel
theorem dX12_link_107 : decode cX12_link 107 = .ok (.lastore, 1) := by decide +kernel
theorem dX12_link_108 : decode cX12_link 108 = .ok (.aload_n 0, 1) := by decide +kernel
theorem dX12_link_109 : decode cX12_link 109 = .ok (.getfield 147, 3) := by decide +kernel
theorem dX12_link_112 : decode cX12_link 112 = .ok (.iload_n 2, 1) := by decide +kernel
theorem dX12_link_113 : decode cX12_link 113 = .ok (.aload_n 0, 1) := by decide +kernel
theorem dX12_link_114 : decode cX12_link 114 = .ok (.getfield 810, 3) := by decide +kernel
theorem dX12_link_117 : decode cX12_link 117 = .ok (.bastore, 1) := by decide +kernel
theorem dX12_link_118 : decode cX12_link 118 = .ok (.aload_n 0, 1) := by decide +kernel
theorem dX12_link_119 : decode cX12_link 119 = .ok (.dup, 1) := by decide +kernel
theorem dX12_link_120 : decode cX12_link 120 = .ok (.getfield 825, 3) := by decide +kernel
theorem dX12_link_123 : decode cX12_link 123 = .ok (.iconst 1, 1) := by decide +kernel
theorem dX12_link_124 : decode cX12_link 124 = .ok (.iadd, 1) := by decide +kernel
theorem dX12_link_125 : decode cX12_link 125 = .ok (.putfield 825, 3) := by decide +kernel
theorem dX12_link_128 : decode cX12_link 128 = .ok (.return_, 1) := by decide +kernel
theorem dX12_isSooner_0 : decode cX12_isSooner 0 = .ok (.aload_n 0, 1) := by decide +kernel
theorem dX12_isSooner_1 : decode cX12_isSooner 1 = .ok (.getfield 807, 3) := by decide +kernel
theorem dX12_isSooner_4 : decode cX12_isSooner 4 = .ok (.aload_n 0, 1) := by decide +kernel
theorem dX12_isSooner_5 : decode cX12_isSooner 5 = .ok (.getfield 144, 3) := by decide +kernel
theorem dX12_isSooner_8 : decode cX12_isSooner 8 = .ok (.iload_n 1, 1) := by decide +kernel
theorem dX12_isSooner_9 : decode cX12_isSooner 9 = .ok (.laload, 1) := by decide +kernel
theorem dX12_isSooner_10 : decode cX12_isSooner 10 = .ok (.lmul, 1) := by decide +kernel
theorem dX12_isSooner_11 : decode cX12_isSooner 11 = .ok (.aload_n 0, 1) := by decide +kernel
theorem dX12_isSooner_12 : decode cX12_isSooner 12 = .ok (.getfield 141, 3) := by decide +kernel
theorem dX12_isSooner_15 : decode cX12_isSooner 15 = .ok (.iload_n 1, 1) := by decide +kernel
theorem dX12_isSooner_16 : decode cX12_isSooner 16 = .ok (.laload, 1) := by decide +kernel
theorem dX12_isSooner_17 : decode cX12_isSooner 17 = .ok (.aload_n 0, 1) := by decide +kernel
theorem dX12_isSooner_18 : decode cX12_isSooner 18 = .ok (.getfield 804, 3) := by decide +kernel
theorem dX12_isSooner_21 : decode cX12_isSooner 21 = .ok (.lmul, 1) := by decide +kernel
theorem dX12_isSooner_22 : decode cX12_isSooner 22 = .ok (.lsub, 1) := by decide +kernel
theorem dX12_isSooner_23 : decode cX12_isSooner 23 = .ok (.lstore_n 2, 1) := by decide +kernel
theorem dX12_isSooner_24 : decode cX12_isSooner 24 = .ok (.lload_n 2, 1) := by decide +kernel
theorem dX12_isSooner_25 : decode cX12_isSooner 25 = .ok (.lconst 0, 1) := by decide +kernel
theorem dX12_isSooner_26 : decode cX12_isSooner 26 = .ok (.lcmp, 1) := by decide +kernel
theorem dX12_isSooner_27 : decode cX12_isSooner 27 = .ok (.ifCond .lt 25, 3) := by decide +kernel
theorem dX12_isSooner_30 : decode cX12_isSooner 30 = .ok (.lload_n 2, 1) := by decide +kernel
theorem dX12_isSooner_31 : decode cX12_isSooner 31 = .ok (.lconst 0, 1) := by decide +kernel
theorem dX12_isSooner_32 : decode cX12_isSooner 32 = .ok (.lcmp, 1) := by decide +kernel
theorem dX12_isSooner_33 : decode cX12_isSooner 33 = .ok (.ifCond .ne 23, 3) := by decide +kernel
theorem dX12_isSooner_36 : decode cX12_isSooner 36 = .ok (.aload_n 0, 1) := by decide +kernel
theorem dX12_isSooner_37 : decode cX12_isSooner 37 = .ok (.getfield 810, 3) := by decide +kernel
theorem dX12_isSooner_40 : decode cX12_isSooner 40 = .ok (.ifCond .ne 16, 3) := by decide +kernel
theorem dX12_isSooner_43 : decode cX12_isSooner 43 = .ok (.aload_n 0, 1) := by decide +kernel
theorem dX12_isSooner_44 : decode cX12_isSooner 44 = .ok (.getfield 147, 3) := by decide +kernel
theorem dX12_isSooner_47 : decode cX12_isSooner 47 = .ok (.iload_n 1, 1) := by decide +kernel
theorem dX12_isSooner_48 : decode cX12_isSooner 48 = .ok (.baload, 1) := by decide +kernel
theorem dX12_isSooner_49 : decode cX12_isSooner 49 = .ok (.ifCond .eq 7, 3) := by decide +kernel
theorem dX12_isSooner_52 : decode cX12_isSooner 52 = .ok (.iconst 1, 1) := by decide +kernel
theorem dX12_isSooner_53 : decode cX12_isSooner 53 = .ok (.goto 4, 3) := by decide +kernel
theorem dX12_isSooner_56 : decode cX12_isSooner 56 = .ok (.iconst 0, 1) := by decide +kernel
theorem dX12_isSooner_57 : decode cX12_isSooner 57 = .ok (.ireturn, 1) := by decide +kernel
theorem dX12_chains_0 : decode cX12_chains 0 = .ok (.aload_n 0, 1) := by decide +kernel
theorem dX12_chains_1 : decode cX12_chains 1 = .ok (.iconst 0, 1) := by decide +kernel
theorem dX12_chains_2 : decode cX12_chains 2 = .ok (.putfield 831, 3) := by decide +kernel
theorem dX12_chains_5 : decode cX12_chains 5 = .ok (.aload_n 0, 1) := by decide +kernel
theorem dX12_chains_6 : decode cX12_chains 6 = .ok (.iconst 0, 1) := by decide +kernel
theorem dX12_chains_7 : decode cX12_chains 7 = .ok (.putfield 834, 3) := by decide +kernel
theorem dX12_chains_10 : decode cX12_chains 10 = .ok (.iconst 0, 1) := by decide +kernel
theorem dX12_chains_11 : decode cX12_chains 11 = .ok (.istore_n 1, 1) := by decide +kernel
theorem dX12_chains_12 : decode cX12_chains 12 = .ok (.iload_n 1, 1) := by decide +kernel
theorem dX12_chains_13 : decode cX12_chains 13 = .ok (.aload_n 0, 1) := by decide +kernel
theorem dX12_chains_14 : decode cX12_chains 14 = .ok (.getfield 652, 3) := by decide +kernel
theorem dX12_chains_17 : decode cX12_chains 17 = .ok (.if_icmp .ge 206, 3) := by decide +kernel
theorem dX12_chains_20 : decode cX12_chains 20 = .ok (.aload_n 0, 1) := by decide +kernel
theorem dX12_chains_21 : decode cX12_chains 21 = .ok (.iconst 0, 1) := by decide +kernel
theorem dX12_chains_22 : decode cX12_chains 22 = .ok (.putfield 825, 3) := by decide +kernel
theorem dX12_chains_25 : decode cX12_chains 25 = .ok (.aload_n 0, 1) := by decide +kernel
theorem dX12_chains_26 : decode cX12_chains 26 = .ok (.getfield 78, 3) := by decide +kernel
theorem dX12_chains_29 : decode cX12_chains 29 = .ok (.iload_n 1, 1) := by decide +kernel
theorem dX12_chains_30 : decode cX12_chains 30 = .ok (.laload, 1) := by decide +kernel
theorem dX12_chains_31 : decode cX12_chains 31 = .ok (.aload_n 0, 1) := by decide +kernel
theorem dX12_chains_32 : decode cX12_chains 32 = .ok (.getfield 84, 3) := by decide +kernel
theorem dX12_chains_35 : decode cX12_chains 35 = .ok (.iload_n 1, 1) := by decide +kernel
theorem dX12_chains_36 : decode cX12_chains 36 = .ok (.laload, 1) := by decide +kernel
theorem dX12_chains_37 : decode cX12_chains 37 = .ok (.lcmp, 1) := by decide +kernel
theorem dX12_chains_38 : decode cX12_chains 38 = .ok (.ifCond .ge 12, 3) := by decide +kernel
theorem dX12_chains_41 : decode cX12_chains 41 = .ok (.aload_n 0, 1) := by decide +kernel
theorem dX12_chains_42 : decode cX12_chains 42 = .ok (.getfield 78, 3) := by decide +kernel
theorem dX12_chains_45 : decode cX12_chains 45 = .ok (.iload_n 1, 1) := by decide +kernel
theorem dX12_chains_46 : decode cX12_chains 46 = .ok (.laload, 1) := by decide +kernel
theorem dX12_chains_47 : decode cX12_chains 47 = .ok (.goto 9, 3) := by decide +kernel
theorem dX12_chains_50 : decode cX12_chains 50 = .ok (.aload_n 0, 1) := by decide +kernel
theorem dX12_chains_51 : decode cX12_chains 51 = .ok (.getfield 84, 3) := by decide +kernel
theorem dX12_chains_54 : decode cX12_chains 54 = .ok (.iload_n 1, 1) := by decide +kernel
theorem dX12_chains_55 : decode cX12_chains 55 = .ok (.laload, 1) := by decide +kernel
theorem dX12_chains_56 : decode cX12_chains 56 = .ok (.lstore_n 2, 1) := by decide +kernel
theorem dX12_chains_57 : decode cX12_chains 57 = .ok (.aload_n 0, 1) := by decide +kernel
theorem dX12_chains_58 : decode cX12_chains 58 = .ok (.getfield 78, 3) := by decide +kernel
theorem dX12_chains_61 : decode cX12_chains 61 = .ok (.iload_n 1, 1) := by decide +kernel
theorem dX12_chains_62 : decode cX12_chains 62 = .ok (.laload, 1) := by decide +kernel
theorem dX12_chains_63 : decode cX12_chains 63 = .ok (.aload_n 0, 1) := by decide +kernel
theorem dX12_chains_64 : decode cX12_chains 64 = .ok (.getfield 84, 3) := by decide +kernel
theorem dX12_chains_67 : decode cX12_chains 67 = .ok (.iload_n 1, 1) := by decide +kernel
theorem dX12_chains_68 : decode cX12_chains 68 = .ok (.laload, 1) := by decide +kernel
theorem dX12_chains_69 : decode cX12_chains 69 = .ok (.lcmp, 1) := by decide +kernel
theorem dX12_chains_70 : decode cX12_chains 70 = .ok (.ifCond .ge 12, 3) := by decide +kernel
theorem dX12_chains_73 : decode cX12_chains 73 = .ok (.aload_n 0, 1) := by decide +kernel
theorem dX12_chains_74 : decode cX12_chains 74 = .ok (.getfield 84, 3) := by decide +kernel
theorem dX12_chains_77 : decode cX12_chains 77 = .ok (.iload_n 1, 1) := by decide +kernel
theorem dX12_chains_78 : decode cX12_chains 78 = .ok (.laload, 1) := by decide +kernel
theorem dX12_chains_79 : decode cX12_chains 79 = .ok (.goto 9, 3) := by decide +kernel
theorem dX12_chains_82 : decode cX12_chains 82 = .ok (.aload_n 0, 1) := by decide +kernel
theorem dX12_chains_83 : decode cX12_chains 83 = .ok (.getfield 78, 3) := by decide +kernel
theorem dX12_chains_86 : decode cX12_chains 86 = .ok (.iload_n 1, 1) := by decide +kernel
theorem dX12_chains_87 : decode cX12_chains 87 = .ok (.laload, 1) := by decide +kernel
theorem dX12_chains_88 : decode cX12_chains 88 = .ok (.lstore 4, 2) := by decide +kernel
theorem dX12_chains_90 : decode cX12_chains 90 = .ok (.aload_n 0, 1) := by decide +kernel
theorem dX12_chains_91 : decode cX12_chains 91 = .ok (.lload 4, 2) := by decide +kernel
theorem dX12_chains_93 : decode cX12_chains 93 = .ok (.ldc2_w 554, 3) := by decide +kernel
theorem dX12_chains_96 : decode cX12_chains 96 = .ok (.ladd, 1) := by decide +kernel
theorem dX12_chains_97 : decode cX12_chains 97 = .ok (.ldc2_w 578, 3) := by decide +kernel
theorem dX12_chains_100 : decode cX12_chains 100 = .ok (.invokevirtual 787, 3) := by decide +kernel
theorem dX12_chains_103 : decode cX12_chains 103 = .ok (.istore 6, 2) := by decide +kernel
theorem dX12_chains_105 : decode cX12_chains 105 = .ok (.aload_n 0, 1) := by decide +kernel
theorem dX12_chains_106 : decode cX12_chains 106 = .ok (.lload_n 2, 1) := by decide +kernel
theorem dX12_chains_107 : decode cX12_chains 107 = .ok (.lconst 1, 1) := by decide +kernel
theorem dX12_chains_108 : decode cX12_chains 108 = .ok (.lsub, 1) := by decide +kernel
theorem dX12_chains_109 : decode cX12_chains 109 = .ok (.ldc2_w 578, 3) := by decide +kernel
theorem dX12_chains_112 : decode cX12_chains 112 = .ok (.invokevirtual 787, 3) := by decide +kernel
theorem dX12_chains_115 : decode cX12_chains 115 = .ok (.istore 7, 2) := by decide +kernel
theorem dX12_chains_117 : decode cX12_chains 117 = .ok (.iload 7, 2) := by decide +kernel
theorem dX12_chains_119 : decode cX12_chains 119 = .ok (.iload 6, 2) := by decide +kernel
theorem dX12_chains_121 : decode cX12_chains 121 = .ok (.if_icmp .ge 25, 3) := by decide +kernel
theorem dX12_chains_124 : decode cX12_chains 124 = .ok (.aload_n 0, 1) := by decide +kernel
theorem dX12_chains_125 : decode cX12_chains 125 = .ok (.iload_n 1, 1) := by decide +kernel
theorem dX12_chains_126 : decode cX12_chains 126 = .ok (.iload 7, 2) := by decide +kernel
theorem dX12_chains_128 : decode cX12_chains 128 = .ok (.invokevirtual 837, 3) := by decide +kernel
theorem dX12_chains_131 : decode cX12_chains 131 = .ok (.ifCond .eq 9, 3) := by decide +kernel
theorem dX12_chains_134 : decode cX12_chains 134 = .ok (.aload_n 0, 1) := by decide +kernel
theorem dX12_chains_135 : decode cX12_chains 135 = .ok (.iload 7, 2) := by decide +kernel
theorem dX12_chains_137 : decode cX12_chains 137 = .ok (.invokevirtual 840, 3) := by decide +kernel
theorem dX12_chains_140 : decode cX12_chains 140 = .ok (.iinc 7 1, 3) := by decide +kernel
theorem dX12_chains_143 : decode cX12_chains 143 = .ok (.goto (-26), 3) := by decide +kernel
theorem dX12_chains_146 : decode cX12_chains 146 = .ok (.aload_n 0, 1) := by decide +kernel
theorem dX12_chains_147 : decode cX12_chains 147 = .ok (.dup, 1) := by decide +kernel
theorem dX12_chains_148 : decode cX12_chains 148 = .ok (.getfield 831, 3) := by decide +kernel
theorem dX12_chains_151 : decode cX12_chains 151 = .ok (.aload_n 0, 1) := by decide +kernel
theorem dX12_chains_152 : decode cX12_chains 152 = .ok (.getfield 825, 3) := by decide +kernel
theorem dX12_chains_155 : decode cX12_chains 155 = .ok (.iadd, 1) := by decide +kernel
theorem dX12_chains_156 : decode cX12_chains 156 = .ok (.putfield 831, 3) := by decide +kernel
theorem dX12_chains_159 : decode cX12_chains 159 = .ok (.aload_n 0, 1) := by decide +kernel
theorem dX12_chains_160 : decode cX12_chains 160 = .ok (.getfield 831, 3) := by decide +kernel
theorem dX12_chains_163 : decode cX12_chains 163 = .ok (.sipush 16384, 3) := by decide +kernel
theorem dX12_chains_166 : decode cX12_chains 166 = .ok (.if_icmp .le 5, 3) := by decide +kernel
theorem dX12_chains_169 : decode cX12_chains 169 = .ok (.iconst 0, 1) := by decide +kernel
theorem dX12_chains_170 : decode cX12_chains 170 = .ok (.ireturn, 1) := by decide +kernel
theorem dX12_chains_171 : decode cX12_chains 171 = .ok (.iconst 1, 1) := by decide +kernel
theorem dX12_chains_172 : decode cX12_chains 172 = .ok (.istore 7, 2) := by decide +kernel
theorem dX12_chains_174 : decode cX12_chains 174 = .ok (.iload 7, 2) := by decide +kernel
theorem dX12_chains_176 : decode cX12_chains 176 = .ok (.aload_n 0, 1) := by decide +kernel
theorem dX12_chains_177 : decode cX12_chains 177 = .ok (.getfield 825, 3) := by decide +kernel
theorem dX12_chains_180 : decode cX12_chains 180 = .ok (.if_icmp .ge 37, 3) := by decide +kernel
theorem dX12_chains_183 : decode cX12_chains 183 = .ok (.aload_n 0, 1) := by decide +kernel
theorem dX12_chains_184 : decode cX12_chains 184 = .ok (.aload_n 0, 1) := by decide +kernel
theorem dX12_chains_185 : decode cX12_chains 185 = .ok (.getfield 138, 3) := by decide +kernel
theorem dX12_chains_188 : decode cX12_chains 188 = .ok (.iload 7, 2) := by decide +kernel
theorem dX12_chains_190 : decode cX12_chains 190 = .ok (.iconst 1, 1) := by decide +kernel
theorem dX12_chains_191 : decode cX12_chains 191 = .ok (.isub, 1) := by decide +kernel
theorem dX12_chains_192 : decode cX12_chains 192 = .ok (.iaload, 1) := by decide +kernel
theorem dX12_chains_193 : decode cX12_chains 193 = .ok (.aload_n 0, 1) := by decide +kernel
theorem dX12_chains_194 : decode cX12_chains 194 = .ok (.getfield 138, 3) := by decide +kernel
theorem dX12_chains_197 : decode cX12_chains 197 = .ok (.iload 7, 2) := by decide +kernel
theorem dX12_chains_199 : decode cX12_chains 199 = .ok (.iaload, 1) := by decide +kernel
theorem dX12_chains_200 : decode cX12_chains 200 = .ok (.iconst 1, 1) := by decide +kernel
theorem dX12_chains_201 : decode cX12_chains 201 = .ok (.aload_n 0, 1) := by decide +kernel
theorem dX12_chains_202 : decode cX12_chains 202 = .ok (.getfield 96, 3) := by decide +kernel
theorem dX12_chains_205 : decode cX12_chains 205 = .ok (.iload_n 1, 1) := by decide +kernel
theorem dX12_chains_206 : decode cX12_chains 206 = .ok (.iaload, 1) := by decide +kernel
theorem dX12_chains_207 : decode cX12_chains 207 = .ok (.ishl, 1) := by decide +kernel
theorem dX12_chains_208 : decode cX12_chains 208 = .ok (.invokevirtual 843, 3) := by decide +kernel
theorem dX12_chains_211 : decode cX12_chains 211 = .ok (.iinc 7 1, 3) := by decide +kernel
theorem dX12_chains_214 : decode cX12_chains 214 = .ok (.goto (-40), 3) := by decide +kernel
theorem dX12_chains_217 : decode cX12_chains 217 = .ok (.iinc 1 1, 3) := by decide +kernel
theorem dX12_chains_220 : decode cX12_chains 220 = .ok (.goto (-208), 3) := by decide +kernel
theorem dX12_chains_223 : decode cX12_chains 223 = .ok (.iconst 1, 1) := by decide +kernel
theorem dX12_chains_224 : decode cX12_chains 224 = .ok (.ireturn, 1) := by decide +kernel
theorem dX12_addPiece_0 : decode cX12_addPiece 0 = .ok (.iload_n 1, 1) := by decide +kernel
theorem dX12_addPiece_1 : decode cX12_addPiece 1 = .ok (.iload_n 2, 1) := by decide +kernel
theorem dX12_addPiece_2 : decode cX12_addPiece 2 = .ok (.if_icmp .ge 7, 3) := by decide +kernel
theorem dX12_addPiece_5 : decode cX12_addPiece 5 = .ok (.iload_n 1, 1) := by decide +kernel
theorem dX12_addPiece_6 : decode cX12_addPiece 6 = .ok (.goto 4, 3) := by decide +kernel
theorem dX12_addPiece_9 : decode cX12_addPiece 9 = .ok (.iload_n 2, 1) := by decide +kernel
theorem dX12_addPiece_10 : decode cX12_addPiece 10 = .ok (.istore 4, 2) := by decide +kernel
theorem dX12_addPiece_12 : decode cX12_addPiece 12 = .ok (.iload_n 1, 1) := by decide +kernel
theorem dX12_addPiece_13 : decode cX12_addPiece 13 = .ok (.iload_n 2, 1) := by decide +kernel
theorem dX12_addPiece_14 : decode cX12_addPiece 14 = .ok (.if_icmp .ge 7, 3) := by decide +kernel
theorem dX12_addPiece_17 : decode cX12_addPiece 17 = .ok (.iload_n 2, 1) := by decide +kernel
theorem dX12_addPiece_18 : decode cX12_addPiece 18 = .ok (.goto 4, 3) := by decide +kernel
theorem dX12_addPiece_21 : decode cX12_addPiece 21 = .ok (.iload_n 1, 1) := by decide +kernel
theorem dX12_addPiece_22 : decode cX12_addPiece 22 = .ok (.istore 5, 2) := by decide +kernel
theorem dX12_addPiece_24 : decode cX12_addPiece 24 = .ok (.iconst 0, 1) := by decide +kernel
theorem dX12_addPiece_25 : decode cX12_addPiece 25 = .ok (.istore 6, 2) := by decide +kernel
theorem dX12_addPiece_27 : decode cX12_addPiece 27 = .ok (.aload_n 0, 1) := by decide +kernel
theorem dX12_addPiece_28 : decode cX12_addPiece 28 = .ok (.getfield 834, 3) := by decide +kernel
theorem dX12_addPiece_31 : decode cX12_addPiece 31 = .ok (.istore 7, 2) := by decide +kernel
theorem dX12_addPiece_33 : decode cX12_addPiece 33 = .ok (.iload 6, 2) := by decide +kernel
theorem dX12_addPiece_35 : decode cX12_addPiece 35 = .ok (.iload 7, 2) := by decide +kernel
theorem dX12_addPiece_37 : decode cX12_addPiece 37 = .ok (.if_icmp .ge 56, 3) := by decide +kernel
theorem dX12_addPiece_40 : decode cX12_addPiece 40 = .ok (.iload 6, 2) := by decide +kernel
theorem dX12_addPiece_42 : decode cX12_addPiece 42 = .ok (.iload 7, 2) := by decide +kernel
theorem dX12_addPiece_44 : decode cX12_addPiece 44 = .ok (.iadd, 1) := by decide +kernel
theorem dX12_addPiece_45 : decode cX12_addPiece 45 = .ok (.iconst 2, 1) := by decide +kernel
theorem dX12_addPiece_46 : decode cX12_addPiece 46 = .ok (.idiv, 1) := by decide +kernel
theorem dX12_addPiece_47 : decode cX12_addPiece 47 = .ok (.istore 8, 2) := by decide +kernel
theorem dX12_addPiece_49 : decode cX12_addPiece 49 = .ok (.aload_n 0, 1) := by decide +kernel
theorem dX12_addPiece_50 : decode cX12_addPiece 50 = .ok (.getfield 151, 3) := by decide +kernel
theorem dX12_addPiece_53 : decode cX12_addPiece 53 = .ok (.iload 8, 2) := by decide +kernel
theorem dX12_addPiece_55 : decode cX12_addPiece 55 = .ok (.iaload, 1) := by decide +kernel
theorem dX12_addPiece_56 : decode cX12_addPiece 56 = .ok (.i2l, 1) := by decide +kernel
theorem dX12_addPiece_57 : decode cX12_addPiece 57 = .ok (.aload_n 0, 1) := by decide +kernel
theorem dX12_addPiece_58 : decode cX12_addPiece 58 = .ok (.getfield 154, 3) := by decide +kernel
theorem dX12_addPiece_61 : decode cX12_addPiece 61 = .ok (.iload 8, 2) := by decide +kernel
theorem dX12_addPiece_63 : decode cX12_addPiece 63 = .ok (.iaload, 1) := by decide +kernel
theorem dX12_addPiece_64 : decode cX12_addPiece 64 = .ok (.i2l, 1) := by decide +kernel
theorem dX12_addPiece_65 : decode cX12_addPiece 65 = .ok (.iload 4, 2) := by decide +kernel
theorem dX12_addPiece_67 : decode cX12_addPiece 67 = .ok (.i2l, 1) := by decide +kernel
theorem dX12_addPiece_68 : decode cX12_addPiece 68 = .ok (.iload 5, 2) := by decide +kernel
theorem dX12_addPiece_70 : decode cX12_addPiece 70 = .ok (.i2l, 1) := by decide +kernel
theorem dX12_addPiece_71 : decode cX12_addPiece 71 = .ok (.invokestatic 674, 3) := by decide +kernel
theorem dX12_addPiece_74 : decode cX12_addPiece 74 = .ok (.ifCond .eq 12, 3) := by decide +kernel
theorem dX12_addPiece_77 : decode cX12_addPiece 77 = .ok (.iload 8, 2) := by decide +kernel
theorem dX12_addPiece_79 : decode cX12_addPiece 79 = .ok (.iconst 1, 1) := by decide +kernel
theorem dX12_addPiece_80 : decode cX12_addPiece 80 = .ok (.iadd, 1) := by decide +kernel
theorem dX12_addPiece_81 : decode cX12_addPiece 81 = .ok (.istore 6, 2) := by decide +kernel
theorem dX12_addPiece_83 : decode cX12_addPiece 83 = .ok (.goto 7, 3) := by decide +kernel
theorem dX12_addPiece_86 : decode cX12_addPiece 86 = .ok (.iload 8, 2) := by decide +kernel
theorem dX12_addPiece_88 : decode cX12_addPiece 88 = .ok (.istore 7, 2) := by decide +kernel
theorem dX12_addPiece_90 : decode cX12_addPiece 90 = .ok (.goto (-57), 3) := by decide +kernel
theorem dX12_addPiece_93 : decode cX12_addPiece 93 = .ok (.iload 6, 2) := by decide +kernel
theorem dX12_addPiece_95 : decode cX12_addPiece 95 = .ok (.aload_n 0, 1) := by decide +kernel
theorem dX12_addPiece_96 : decode cX12_addPiece 96 = .ok (.getfield 834, 3) := by decide +kernel
theorem dX12_addPiece_99 : decode cX12_addPiece 99 = .ok (.if_icmp .eq 27, 3) := by decide +kernel
theorem dX12_addPiece_102 : decode cX12_addPiece 102 = .ok (.aload_n 0, 1) := by decide +kernel
theorem dX12_addPiece_103 : decode cX12_addPiece 103 = .ok (.getfield 151, 3) := by decide +kernel
theorem dX12_addPiece_106 : decode cX12_addPiece 106 = .ok (.iload 6, 2) := by decide +kernel
theorem dX12_addPiece_108 : decode cX12_addPiece 108 = .ok (.iaload, 1) := by decide +kernel
theorem dX12_addPiece_109 : decode cX12_addPiece 109 = .ok (.iload 4, 2) := by decide +kernel
theorem dX12_addPiece_111 : decode cX12_addPiece 111 = .ok (.if_icmp .ne 15, 3) := by decide +kernel
theorem dX12_addPiece_114 : decode cX12_addPiece 114 = .ok (.aload_n 0, 1) := by decide +kernel
theorem dX12_addPiece_115 : decode cX12_addPiece 115 = .ok (.getfield 154, 3) := by decide +kernel
theorem dX12_addPiece_118 : decode cX12_addPiece 118 = .ok (.iload 6, 2) := by decide +kernel
theorem dX12_addPiece_120 : decode cX12_addPiece 120 = .ok (.iaload, 1) := by decide +kernel
theorem dX12_addPiece_121 : decode cX12_addPiece 121 = .ok (.iload 5, 2) := by decide +kernel
theorem dX12_addPiece_123 : decode cX12_addPiece 123 = .ok (.if_icmp .eq 106, 3) := by decide +kernel
theorem dX12_addPiece_126 : decode cX12_addPiece 126 = .ok (.aload_n 0, 1) := by decide +kernel
theorem dX12_addPiece_127 : decode cX12_addPiece 127 = .ok (.getfield 834, 3) := by decide +kernel
theorem dX12_addPiece_130 : decode cX12_addPiece 130 = .ok (.istore 8, 2) := by decide +kernel
theorem dX12_addPiece_132 : decode cX12_addPiece 132 = .ok (.iload 8, 2) := by decide +kernel
theorem dX12_addPiece_134 : decode cX12_addPiece 134 = .ok (.iload 6, 2) := by decide +kernel
theorem dX12_addPiece_136 : decode cX12_addPiece 136 = .ok (.if_icmp .le 57, 3) := by decide +kernel
theorem dX12_addPiece_139 : decode cX12_addPiece 139 = .ok (.aload_n 0, 1) := by decide +kernel
theorem dX12_addPiece_140 : decode cX12_addPiece 140 = .ok (.getfield 151, 3) := by decide +kernel
theorem dX12_addPiece_143 : decode cX12_addPiece 143 = .ok (.iload 8, 2) := by decide +kernel
theorem dX12_addPiece_145 : decode cX12_addPiece 145 = .ok (.aload_n 0, 1) := by decide +kernel
theorem dX12_addPiece_146 : decode cX12_addPiece 146 = .ok (.getfield 151, 3) := by decide +kernel
theorem dX12_addPiece_149 : decode cX12_addPiece 149 = .ok (.iload 8, 2) := by decide +kernel
theorem dX12_addPiece_151 : decode cX12_addPiece 151 = .ok (.iconst 1, 1) := by decide +kernel
theorem dX12_addPiece_152 : decode cX12_addPiece 152 = .ok (.isub, 1) := by decide +kernel
theorem dX12_addPiece_153 : decode cX12_addPiece 153 = .ok (.iaload, 1) := by decide +kernel
theorem dX12_addPiece_154 : decode cX12_addPiece 154 = .ok (.iastore, 1) := by decide +kernel
theorem dX12_addPiece_155 : decode cX12_addPiece 155 = .ok (.aload_n 0, 1) := by decide +kernel
theorem dX12_addPiece_156 : decode cX12_addPiece 156 = .ok (.getfield 154, 3) := by decide +kernel
theorem dX12_addPiece_159 : decode cX12_addPiece 159 = .ok (.iload 8, 2) := by decide +kernel
theorem dX12_addPiece_161 : decode cX12_addPiece 161 = .ok (.aload_n 0, 1) := by decide +kernel
theorem dX12_addPiece_162 : decode cX12_addPiece 162 = .ok (.getfield 154, 3) := by decide +kernel
theorem dX12_addPiece_165 : decode cX12_addPiece 165 = .ok (.iload 8, 2) := by decide +kernel
theorem dX12_addPiece_167 : decode cX12_addPiece 167 = .ok (.iconst 1, 1) := by decide +kernel
theorem dX12_addPiece_168 : decode cX12_addPiece 168 = .ok (.isub, 1) := by decide +kernel
theorem dX12_addPiece_169 : decode cX12_addPiece 169 = .ok (.iaload, 1) := by decide +kernel
theorem dX12_addPiece_170 : decode cX12_addPiece 170 = .ok (.iastore, 1) := by decide +kernel
theorem dX12_addPiece_171 : decode cX12_addPiece 171 = .ok (.aload_n 0, 1) := by decide +kernel
theorem dX12_addPiece_172 : decode cX12_addPiece 172 = .ok (.getfield 157, 3) := by decide +kernel
theorem dX12_addPiece_175 : decode cX12_addPiece 175 = .ok (.iload 8, 2) := by decide +kernel
theorem dX12_addPiece_177 : decode cX12_addPiece 177 = .ok (.aload_n 0, 1) := by decide +kernel
theorem dX12_addPiece_178 : decode cX12_addPiece 178 = .ok (.getfield 157, 3) := by decide +kernel
theorem dX12_addPiece_181 : decode cX12_addPiece 181 = .ok (.iload 8, 2) := by decide +kernel
theorem dX12_addPiece_183 : decode cX12_addPiece 183 = .ok (.iconst 1, 1) := by decide +kernel
theorem dX12_addPiece_184 : decode cX12_addPiece 184 = .ok (.isub, 1) := by decide +kernel
theorem dX12_addPiece_185 : decode cX12_addPiece 185 = .ok (.iaload, 1) := by decide +kernel
theorem dX12_addPiece_186 : decode cX12_addPiece 186 = .ok (.iastore, 1) := by decide +kernel
theorem dX12_addPiece_187 : decode cX12_addPiece 187 = .ok (.iinc 8 (-1), 3) := by decide +kernel
theorem dX12_addPiece_190 : decode cX12_addPiece 190 = .ok (.goto (-58), 3) := by decide +kernel
theorem dX12_addPiece_193 : decode cX12_addPiece 193 = .ok (.aload_n 0, 1) := by decide +kernel
theorem dX12_addPiece_194 : decode cX12_addPiece 194 = .ok (.getfield 151, 3) := by decide +kernel
theorem dX12_addPiece_197 : decode cX12_addPiece 197 = .ok (.iload 6, 2) := by decide +kernel
theorem dX12_addPiece_199 : decode cX12_addPiece 199 = .ok (.iload 4, 2) := by decide +kernel
theorem dX12_addPiece_201 : decode cX12_addPiece 201 = .ok (.iastore, 1) := by decide +kernel
theorem dX12_addPiece_202 : decode cX12_addPiece 202 = .ok (.aload_n 0, 1) := by decide +kernel
theorem dX12_addPiece_203 : decode cX12_addPiece 203 = .ok (.getfield 154, 3) := by decide +kernel
theorem dX12_addPiece_206 : decode cX12_addPiece 206 = .ok (.iload 6, 2) := by decide +kernel
theorem dX12_addPiece_208 : decode cX12_addPiece 208 = .ok (.iload 5, 2) := by decide +kernel
theorem dX12_addPiece_210 : decode cX12_addPiece 210 = .ok (.iastore, 1) := by decide +kernel
theorem dX12_addPiece_211 : decode cX12_addPiece 211 = .ok (.aload_n 0, 1) := by decide +kernel
theorem dX12_addPiece_212 : decode cX12_addPiece 212 = .ok (.getfield 157, 3) := by decide +kernel
theorem dX12_addPiece_215 : decode cX12_addPiece 215 = .ok (.iload 6, 2) := by decide +kernel
theorem dX12_addPiece_217 : decode cX12_addPiece 217 = .ok (.iconst 0, 1) := by decide +kernel
theorem dX12_addPiece_218 : decode cX12_addPiece 218 = .ok (.iastore, 1) := by decide +kernel
theorem dX12_addPiece_219 : decode cX12_addPiece 219 = .ok (.aload_n 0, 1) := by decide +kernel
theorem dX12_addPiece_220 : decode cX12_addPiece 220 = .ok (.dup, 1) := by decide +kernel
theorem dX12_addPiece_221 : decode cX12_addPiece 221 = .ok (.getfield 834, 3) := by decide +kernel
theorem dX12_addPiece_224 : decode cX12_addPiece 224 = .ok (.iconst 1, 1) := by decide +kernel
theorem dX12_addPiece_225 : decode cX12_addPiece 225 = .ok (.iadd, 1) := by decide +kernel
theorem dX12_addPiece_226 : decode cX12_addPiece 226 = .ok (.putfield 834, 3) := by decide +kernel
theorem dX12_addPiece_229 : decode cX12_addPiece 229 = .ok (.aload_n 0, 1) := by decide +kernel
theorem dX12_addPiece_230 : decode cX12_addPiece 230 = .ok (.getfield 157, 3) := by decide +kernel
theorem dX12_addPiece_233 : decode cX12_addPiece 233 = .ok (.iload 6, 2) := by decide +kernel
theorem dX12_addPiece_235 : decode cX12_addPiece 235 = .ok (.dup2, 1) := by decide +kernel
theorem dX12_addPiece_236 : decode cX12_addPiece 236 = .ok (.iaload, 1) := by decide +kernel
theorem dX12_addPiece_237 : decode cX12_addPiece 237 = .ok (.iload_n 3, 1) := by decide +kernel
theorem dX12_addPiece_238 : decode cX12_addPiece 238 = .ok (.ixor, 1) := by decide +kernel
theorem dX12_addPiece_239 : decode cX12_addPiece 239 = .ok (.iastore, 1) := by decide +kernel
theorem dX12_addPiece_240 : decode cX12_addPiece 240 = .ok (.return_, 1) := by decide +kernel
theorem dX12_insideOf_0 : decode cX12_insideOf 0 = .ok (.aload_n 0, 1) := by decide +kernel
theorem dX12_insideOf_1 : decode cX12_insideOf 1 = .ok (.getfield 132, 3) := by decide +kernel
theorem dX12_insideOf_4 : decode cX12_insideOf 4 = .ok (.aload_n 0, 1) := by decide +kernel
theorem dX12_insideOf_5 : decode cX12_insideOf 5 = .ok (.getfield 151, 3) := by decide +kernel
theorem dX12_insideOf_8 : decode cX12_insideOf 8 = .ok (.iload_n 1, 1) := by decide +kernel
theorem dX12_insideOf_9 : decode cX12_insideOf 9 = .ok (.iaload, 1) := by decide +kernel
theorem dX12_insideOf_10 : decode cX12_insideOf 10 = .ok (.laload, 1) := by decide +kernel
theorem dX12_insideOf_11 : decode cX12_insideOf 11 = .ok (.aload_n 0, 1) := by decide +kernel
theorem dX12_insideOf_12 : decode cX12_insideOf 12 = .ok (.getfield 132, 3) := by decide +kernel
theorem dX12_insideOf_15 : decode cX12_insideOf 15 = .ok (.aload_n 0, 1) := by decide +kernel
theorem dX12_insideOf_16 : decode cX12_insideOf 16 = .ok (.getfield 154, 3) := by decide +kernel
theorem dX12_insideOf_19 : decode cX12_insideOf 19 = .ok (.iload_n 1, 1) := by decide +kernel
theorem dX12_insideOf_20 : decode cX12_insideOf 20 = .ok (.iaload, 1) := by decide +kernel
theorem dX12_insideOf_21 : decode cX12_insideOf 21 = .ok (.laload, 1) := by decide +kernel
theorem dX12_insideOf_22 : decode cX12_insideOf 22 = .ok (.ladd, 1) := by decide +kernel
theorem dX12_insideOf_23 : decode cX12_insideOf 23 = .ok (.lstore_n 3, 1) := by decide +kernel
theorem dX12_insideOf_24 : decode cX12_insideOf 24 = .ok (.aload_n 0, 1) := by decide +kernel
theorem dX12_insideOf_25 : decode cX12_insideOf 25 = .ok (.getfield 135, 3) := by decide +kernel
theorem dX12_insideOf_28 : decode cX12_insideOf 28 = .ok (.aload_n 0, 1) := by decide +kernel
theorem dX12_insideOf_29 : decode cX12_insideOf 29 = .ok (.getfield 151, 3) := by decide +kernel
theorem dX12_insideOf_32 : decode cX12_insideOf 32 = .ok (.iload_n 1, 1) := by decide +kernel
theorem dX12_insideOf_33 : decode cX12_insideOf 33 = .ok (.iaload, 1) := by decide +kernel
theorem dX12_insideOf_34 : decode cX12_insideOf 34 = .ok (.laload, 1) := by decide +kernel
theorem dX12_insideOf_35 : decode cX12_insideOf 35 = .ok (.aload_n 0, 1) := by decide +kernel
theorem dX12_insideOf_36 : decode cX12_insideOf 36 = .ok (.getfield 135, 3) := by decide +kernel
theorem dX12_insideOf_39 : decode cX12_insideOf 39 = .ok (.aload_n 0, 1) := by decide +kernel
theorem dX12_insideOf_40 : decode cX12_insideOf 40 = .ok (.getfield 154, 3) := by decide +kernel
theorem dX12_insideOf_43 : decode cX12_insideOf 43 = .ok (.iload_n 1, 1) := by decide +kernel
theorem dX12_insideOf_44 : decode cX12_insideOf 44 = .ok (.iaload, 1) := by decide +kernel
theorem dX12_insideOf_45 : decode cX12_insideOf 45 = .ok (.laload, 1) := by decide +kernel
theorem dX12_insideOf_46 : decode cX12_insideOf 46 = .ok (.ladd, 1) := by decide +kernel
theorem dX12_insideOf_47 : decode cX12_insideOf 47 = .ok (.lstore 5, 2) := by decide +kernel
theorem dX12_insideOf_49 : decode cX12_insideOf 49 = .ok (.iconst 0, 1) := by decide +kernel
theorem dX12_insideOf_50 : decode cX12_insideOf 50 = .ok (.istore 7, 2) := by decide +kernel
theorem dX12_insideOf_52 : decode cX12_insideOf 52 = .ok (.iconst 0, 1) := by decide +kernel
theorem dX12_insideOf_53 : decode cX12_insideOf 53 = .ok (.istore 8, 2) := by decide +kernel
theorem dX12_insideOf_55 : decode cX12_insideOf 55 = .ok (.iload 8, 2) := by decide +kernel
theorem dX12_insideOf_57 : decode cX12_insideOf 57 = .ok (.aload_n 0, 1) := by decide +kernel
theorem dX12_insideOf_58 : decode cX12_insideOf 58 = .ok (.getfield 834, 3) := by decide +kernel
theorem dX12_insideOf_61 : decode cX12_insideOf 61 = .ok (.if_icmp .ge 235, 3) := by decide +kernel
theorem dX12_insideOf_64 : decode cX12_insideOf 64 = .ok (.iload 8, 2) := by decide +kernel
theorem dX12_insideOf_66 : decode cX12_insideOf 66 = .ok (.iload_n 1, 1) := by decide +kernel
theorem dX12_insideOf_67 : decode cX12_insideOf 67 = .ok (.if_icmp .eq 223, 3) := by decide +kernel
theorem dX12_insideOf_70 : decode cX12_insideOf 70 = .ok (.aload_n 0, 1) := by decide +kernel
theorem dX12_insideOf_71 : decode cX12_insideOf 71 = .ok (.getfield 157, 3) := by decide +kernel
theorem dX12_insideOf_74 : decode cX12_insideOf 74 = .ok (.iload 8, 2) := by decide +kernel
theorem dX12_insideOf_76 : decode cX12_insideOf 76 = .ok (.iaload, 1) := by decide +kernel
theorem dX12_insideOf_77 : decode cX12_insideOf 77 = .ok (.ifCond .ne 6, 3) := by decide +kernel
theorem dX12_insideOf_80 : decode cX12_insideOf 80 = .ok (.goto 210, 3) := by decide +kernel
theorem dX12_insideOf_83 : decode cX12_insideOf 83 = .ok (.aload_n 0, 1) := by decide +kernel
theorem dX12_insideOf_84 : decode cX12_insideOf 84 = .ok (.getfield 135, 3) := by decide +kernel
theorem dX12_insideOf_87 : decode cX12_insideOf 87 = .ok (.aload_n 0, 1) := by decide +kernel
theorem dX12_insideOf_88 : decode cX12_insideOf 88 = .ok (.getfield 151, 3) := by decide +kernel
theorem dX12_insideOf_91 : decode cX12_insideOf 91 = .ok (.iload 8, 2) := by decide +kernel
theorem dX12_insideOf_93 : decode cX12_insideOf 93 = .ok (.iaload, 1) := by decide +kernel
theorem dX12_insideOf_94 : decode cX12_insideOf 94 = .ok (.laload, 1) := by decide +kernel
theorem dX12_insideOf_95 : decode cX12_insideOf 95 = .ok (.aload_n 0, 1) := by decide +kernel
theorem dX12_insideOf_96 : decode cX12_insideOf 96 = .ok (.getfield 135, 3) := by decide +kernel
theorem dX12_insideOf_99 : decode cX12_insideOf 99 = .ok (.aload_n 0, 1) := by decide +kernel
theorem dX12_insideOf_100 : decode cX12_insideOf 100 = .ok (.getfield 154, 3) := by decide +kernel
theorem dX12_insideOf_103 : decode cX12_insideOf 103 = .ok (.iload 8, 2) := by decide +kernel
theorem dX12_insideOf_105 : decode cX12_insideOf 105 = .ok (.iaload, 1) := by decide +kernel
theorem dX12_insideOf_106 : decode cX12_insideOf 106 = .ok (.laload, 1) := by decide +kernel
theorem dX12_insideOf_107 : decode cX12_insideOf 107 = .ok (.lcmp, 1) := by decide +kernel
theorem dX12_insideOf_108 : decode cX12_insideOf 108 = .ok (.ifCond .ge 13, 3) := by decide +kernel
theorem dX12_insideOf_111 : decode cX12_insideOf 111 = .ok (.aload_n 0, 1) := by decide +kernel
theorem dX12_insideOf_112 : decode cX12_insideOf 112 = .ok (.getfield 151, 3) := by decide +kernel
theorem dX12_insideOf_115 : decode cX12_insideOf 115 = .ok (.iload 8, 2) := by decide +kernel
theorem dX12_insideOf_117 : decode cX12_insideOf 117 = .ok (.iaload, 1) := by decide +kernel
theorem dX12_insideOf_118 : decode cX12_insideOf 118 = .ok (.goto 10, 3) := by decide +kernel
theorem dX12_insideOf_121 : decode cX12_insideOf 121 = .ok (.aload_n 0, 1) := by decide +kernel
theorem dX12_insideOf_122 : decode cX12_insideOf 122 = .ok (.getfield 154, 3) := by decide +kernel
theorem dX12_insideOf_125 : decode cX12_insideOf 125 = .ok (.iload 8, 2) := by decide +kernel
theorem dX12_insideOf_127 : decode cX12_insideOf 127 = .ok (.iaload, 1) := by decide +kernel
theorem dX12_insideOf_128 : decode cX12_insideOf 128 = .ok (.istore 9, 2) := by decide +kernel
theorem dX12_insideOf_130 : decode cX12_insideOf 130 = .ok (.iload 9, 2) := by decide +kernel
theorem dX12_insideOf_132 : decode cX12_insideOf 132 = .ok (.aload_n 0, 1) := by decide +kernel
theorem dX12_insideOf_133 : decode cX12_insideOf 133 = .ok (.getfield 151, 3) := by decide +kernel
theorem dX12_insideOf_136 : decode cX12_insideOf 136 = .ok (.iload 8, 2) := by decide +kernel
theorem dX12_insideOf_138 : decode cX12_insideOf 138 = .ok (.iaload, 1) := by decide +kernel
theorem dX12_insideOf_139 : decode cX12_insideOf 139 = .ok (.if_icmp .ne 13, 3) := by decide +kernel
theorem dX12_insideOf_142 : decode cX12_insideOf 142 = .ok (.aload_n 0, 1) := by decide +kernel
theorem dX12_insideOf_143 : decode cX12_insideOf 143 = .ok (.getfield 154, 3) := by decide +kernel
theorem dX12_insideOf_146 : decode cX12_insideOf 146 = .ok (.iload 8, 2) := by decide +kernel
theorem dX12_insideOf_148 : decode cX12_insideOf 148 = .ok (.iaload, 1) := by decide +kernel
theorem dX12_insideOf_149 : decode cX12_insideOf 149 = .ok (.goto 10, 3) := by decide +kernel
theorem dX12_insideOf_152 : decode cX12_insideOf 152 = .ok (.aload_n 0, 1) := by decide +kernel
theorem dX12_insideOf_153 : decode cX12_insideOf 153 = .ok (.getfield 151, 3) := by decide +kernel
theorem dX12_insideOf_156 : decode cX12_insideOf 156 = .ok (.iload 8, 2) := by decide +kernel
theorem dX12_insideOf_158 : decode cX12_insideOf 158 = .ok (.iaload, 1) := by decide +kernel
theorem dX12_insideOf_159 : decode cX12_insideOf 159 = .ok (.istore 10, 2) := by decide +kernel
theorem dX12_insideOf_161 : decode cX12_insideOf 161 = .ok (.ldc2_w 554, 3) := by decide +kernel
theorem dX12_insideOf_164 : decode cX12_insideOf 164 = .ok (.aload_n 0, 1) := by decide +kernel
theorem dX12_insideOf_165 : decode cX12_insideOf 165 = .ok (.getfield 135, 3) := by decide +kernel
theorem dX12_insideOf_168 : decode cX12_insideOf 168 = .ok (.iload 9, 2) := by decide +kernel
theorem dX12_insideOf_170 : decode cX12_insideOf 170 = .ok (.laload, 1) := by decide +kernel
theorem dX12_insideOf_171 : decode cX12_insideOf 171 = .ok (.lmul, 1) := by decide +kernel
theorem dX12_insideOf_172 : decode cX12_insideOf 172 = .ok (.lstore 11, 2) := by decide +kernel
theorem dX12_insideOf_174 : decode cX12_insideOf 174 = .ok (.ldc2_w 554, 3) := by decide +kernel
theorem dX12_insideOf_177 : decode cX12_insideOf 177 = .ok (.aload_n 0, 1) := by decide +kernel
theorem dX12_insideOf_178 : decode cX12_insideOf 178 = .ok (.getfield 135, 3) := by decide +kernel
theorem dX12_insideOf_181 : decode cX12_insideOf 181 = .ok (.iload 10, 2) := by decide +kernel
theorem dX12_insideOf_183 : decode cX12_insideOf 183 = .ok (.laload, 1) := by decide +kernel
theorem dX12_insideOf_184 : decode cX12_insideOf 184 = .ok (.lmul, 1) := by decide +kernel
theorem dX12_insideOf_185 : decode cX12_insideOf 185 = .ok (.lstore 13, 2) := by decide +kernel
theorem dX12_insideOf_187 : decode cX12_insideOf 187 = .ok (.iload_n 2, 1) := by decide +kernel
theorem dX12_insideOf_188 : decode cX12_insideOf 188 = .ok (.ifCond .eq 27, 3) := by decide +kernel
theorem dX12_insideOf_191 : decode cX12_insideOf 191 = .ok (.lload 11, 2) := by decide +kernel
theorem dX12_insideOf_193 : decode cX12_insideOf 193 = .ok (.lload 5, 2) := by decide +kernel
theorem dX12_insideOf_195 : decode cX12_insideOf 195 = .ok (.lcmp, 1) := by decide +kernel
theorem dX12_insideOf_196 : decode cX12_insideOf 196 = .ok (.ifCond .ge 15, 3) := by decide +kernel
theorem dX12_insideOf_199 : decode cX12_insideOf 199 = .ok (.lload 5, 2) := by decide +kernel
theorem dX12_insideOf_201 : decode cX12_insideOf 201 = .ok (.lload 13, 2) := by decide +kernel
theorem dX12_insideOf_203 : decode cX12_insideOf 203 = .ok (.lcmp, 1) := by decide +kernel
theorem dX12_insideOf_204 : decode cX12_insideOf 204 = .ok (.ifCond .gt 7, 3) := by decide +kernel
theorem dX12_insideOf_207 : decode cX12_insideOf 207 = .ok (.iconst 1, 1) := by decide +kernel
theorem dX12_insideOf_208 : decode cX12_insideOf 208 = .ok (.goto 28, 3) := by decide +kernel
theorem dX12_insideOf_211 : decode cX12_insideOf 211 = .ok (.iconst 0, 1) := by decide +kernel
theorem dX12_insideOf_212 : decode cX12_insideOf 212 = .ok (.goto 24, 3) := by decide +kernel
theorem dX12_insideOf_215 : decode cX12_insideOf 215 = .ok (.lload 11, 2) := by decide +kernel
theorem dX12_insideOf_217 : decode cX12_insideOf 217 = .ok (.lload 5, 2) := by decide +kernel
theorem dX12_insideOf_219 : decode cX12_insideOf 219 = .ok (.lcmp, 1) := by decide +kernel
theorem dX12_insideOf_220 : decode cX12_insideOf 220 = .ok (.ifCond .gt 15, 3) := by decide +kernel
theorem dX12_insideOf_223 : decode cX12_insideOf 223 = .ok (.lload 5, 2) := by decide +kernel
theorem dX12_insideOf_225 : decode cX12_insideOf 225 = .ok (.lload 13, 2) := by decide +kernel
theorem dX12_insideOf_227 : decode cX12_insideOf 227 = .ok (.lcmp, 1) := by decide +kernel
theorem dX12_insideOf_228 : decode cX12_insideOf 228 = .ok (.ifCond .ge 7, 3) := by decide +kernel
theorem dX12_insideOf_231 : decode cX12_insideOf 231 = .ok (.iconst 1, 1) := by decide +kernel
theorem dX12_insideOf_232 : decode cX12_insideOf 232 = .ok (.goto 4, 3) := by decide +kernel
theorem dX12_insideOf_235 : decode cX12_insideOf 235 = .ok (.iconst 0, 1) := by decide +kernel
theorem dX12_insideOf_236 : decode cX12_insideOf 236 = .ok (.istore 15, 2) := by decide +kernel
theorem dX12_insideOf_238 : decode cX12_insideOf 238 = .ok (.iload 15, 2) := by decide +kernel
theorem dX12_insideOf_240 : decode cX12_insideOf 240 = .ok (.ifCond .eq 50, 3) := by decide +kernel
theorem dX12_insideOf_243 : decode cX12_insideOf 243 = .ok (.ldc2_w 554, 3) := by decide +kernel
theorem dX12_insideOf_246 : decode cX12_insideOf 246 = .ok (.aload_n 0, 1) := by decide +kernel
theorem dX12_insideOf_247 : decode cX12_insideOf 247 = .ok (.getfield 132, 3) := by decide +kernel
theorem dX12_insideOf_250 : decode cX12_insideOf 250 = .ok (.iload 9, 2) := by decide +kernel
theorem dX12_insideOf_252 : decode cX12_insideOf 252 = .ok (.laload, 1) := by decide +kernel
theorem dX12_insideOf_253 : decode cX12_insideOf 253 = .ok (.lmul, 1) := by decide +kernel
theorem dX12_insideOf_254 : decode cX12_insideOf 254 = .ok (.lload 11, 2) := by decide +kernel
theorem dX12_insideOf_256 : decode cX12_insideOf 256 = .ok (.ldc2_w 554, 3) := by decide +kernel
theorem dX12_insideOf_259 : decode cX12_insideOf 259 = .ok (.aload_n 0, 1) := by decide +kernel
theorem dX12_insideOf_260 : decode cX12_insideOf 260 = .ok (.getfield 132, 3) := by decide +kernel
theorem dX12_insideOf_263 : decode cX12_insideOf 263 = .ok (.iload 10, 2) := by decide +kernel
theorem dX12_insideOf_265 : decode cX12_insideOf 265 = .ok (.laload, 1) := by decide +kernel
theorem dX12_insideOf_266 : decode cX12_insideOf 266 = .ok (.lmul, 1) := by decide +kernel
theorem dX12_insideOf_267 : decode cX12_insideOf 267 = .ok (.lload 13, 2) := by decide +kernel
theorem dX12_insideOf_269 : decode cX12_insideOf 269 = .ok (.lload_n 3, 1) := by decide +kernel
theorem dX12_insideOf_270 : decode cX12_insideOf 270 = .ok (.lload 5, 2) := by decide +kernel
theorem dX12_insideOf_272 : decode cX12_insideOf 272 = .ok (.invokestatic 664, 3) := by decide +kernel
theorem dX12_insideOf_275 : decode cX12_insideOf 275 = .ok (.ifCond .le 15, 3) := by decide +kernel
theorem dX12_insideOf_278 : decode cX12_insideOf 278 = .ok (.iload 7, 2) := by decide +kernel
theorem dX12_insideOf_280 : decode cX12_insideOf 280 = .ok (.aload_n 0, 1) := by decide +kernel
theorem dX12_insideOf_281 : decode cX12_insideOf 281 = .ok (.getfield 157, 3) := by decide +kernel
theorem dX12_insideOf_284 : decode cX12_insideOf 284 = .ok (.iload 8, 2) := by decide +kernel
theorem dX12_insideOf_286 : decode cX12_insideOf 286 = .ok (.iaload, 1) := by decide +kernel
theorem dX12_insideOf_287 : decode cX12_insideOf 287 = .ok (.ixor, 1) := by decide +kernel
theorem dX12_insideOf_288 : decode cX12_insideOf 288 = .ok (.istore 7, 2) := by decide +kernel
theorem dX12_insideOf_290 : decode cX12_insideOf 290 = .ok (.iinc 8 1, 3) := by decide +kernel
theorem dX12_insideOf_293 : decode cX12_insideOf 293 = .ok (.goto (-238), 3) := by decide +kernel
theorem dX12_insideOf_296 : decode cX12_insideOf 296 = .ok (.iload 7, 2) := by decide +kernel
theorem dX12_insideOf_298 : decode cX12_insideOf 298 = .ok (.ireturn, 1) := by decide +kernel
theorem dX12_isResult_0 : decode cX12_isResult 0 = .ok (.iload_n 0, 1) := by decide +kernel
theorem dX12_isResult_1 : decode cX12_isResult 1 = .ok (.tableswitch 79 0 3 #[31, 42, 52, 63], 31) := by decide +kernel
theorem dX12_isResult_32 : decode cX12_isResult 32 = .ok (.iload_n 1, 1) := by decide +kernel
theorem dX12_isResult_33 : decode cX12_isResult 33 = .ok (.iconst 3, 1) := by decide +kernel
theorem dX12_isResult_34 : decode cX12_isResult 34 = .ok (.if_icmp .ne 7, 3) := by decide +kernel
theorem dX12_isResult_37 : decode cX12_isResult 37 = .ok (.iconst 1, 1) := by decide +kernel
theorem dX12_isResult_38 : decode cX12_isResult 38 = .ok (.goto 4, 3) := by decide +kernel
theorem dX12_isResult_41 : decode cX12_isResult 41 = .ok (.iconst 0, 1) := by decide +kernel
theorem dX12_isResult_42 : decode cX12_isResult 42 = .ok (.ireturn, 1) := by decide +kernel
theorem dX12_isResult_43 : decode cX12_isResult 43 = .ok (.iload_n 1, 1) := by decide +kernel
theorem dX12_isResult_44 : decode cX12_isResult 44 = .ok (.ifCond .eq 7, 3) := by decide +kernel
theorem dX12_isResult_47 : decode cX12_isResult 47 = .ok (.iconst 1, 1) := by decide +kernel
theorem dX12_isResult_48 : decode cX12_isResult 48 = .ok (.goto 4, 3) := by decide +kernel
theorem dX12_isResult_51 : decode cX12_isResult 51 = .ok (.iconst 0, 1) := by decide +kernel
theorem dX12_isResult_52 : decode cX12_isResult 52 = .ok (.ireturn, 1) := by decide +kernel
theorem dX12_isResult_53 : decode cX12_isResult 53 = .ok (.iload_n 1, 1) := by decide +kernel
theorem dX12_isResult_54 : decode cX12_isResult 54 = .ok (.iconst 1, 1) := by decide +kernel
theorem dX12_isResult_55 : decode cX12_isResult 55 = .ok (.if_icmp .ne 7, 3) := by decide +kernel
theorem dX12_isResult_58 : decode cX12_isResult 58 = .ok (.iconst 1, 1) := by decide +kernel
theorem dX12_isResult_59 : decode cX12_isResult 59 = .ok (.goto 4, 3) := by decide +kernel
theorem dX12_isResult_62 : decode cX12_isResult 62 = .ok (.iconst 0, 1) := by decide +kernel
theorem dX12_isResult_63 : decode cX12_isResult 63 = .ok (.ireturn, 1) := by decide +kernel
theorem dX12_isResult_64 : decode cX12_isResult 64 = .ok (.iload_n 1, 1) := by decide +kernel
theorem dX12_isResult_65 : decode cX12_isResult 65 = .ok (.iconst 1, 1) := by decide +kernel
theorem dX12_isResult_66 : decode cX12_isResult 66 = .ok (.if_icmp .eq 8, 3) := by decide +kernel
theorem dX12_isResult_69 : decode cX12_isResult 69 = .ok (.iload_n 1, 1) := by decide +kernel
theorem dX12_isResult_70 : decode cX12_isResult 70 = .ok (.iconst 2, 1) := by decide +kernel
theorem dX12_isResult_71 : decode cX12_isResult 71 = .ok (.if_icmp .ne 7, 3) := by decide +kernel
theorem dX12_isResult_74 : decode cX12_isResult 74 = .ok (.iconst 1, 1) := by decide +kernel
theorem dX12_isResult_75 : decode cX12_isResult 75 = .ok (.goto 4, 3) := by decide +kernel
theorem dX12_isResult_78 : decode cX12_isResult 78 = .ok (.iconst 0, 1) := by decide +kernel
theorem dX12_isResult_79 : decode cX12_isResult 79 = .ok (.ireturn, 1) := by decide +kernel
theorem dX12_isResult_80 : decode cX12_isResult 80 = .ok (.iload_n 1, 1) := by decide +kernel
theorem dX12_isResult_81 : decode cX12_isResult 81 = .ok (.iconst 2, 1) := by decide +kernel
theorem dX12_isResult_82 : decode cX12_isResult 82 = .ok (.if_icmp .ne 7, 3) := by decide +kernel
theorem dX12_isResult_85 : decode cX12_isResult 85 = .ok (.iconst 1, 1) := by decide +kernel
theorem dX12_isResult_86 : decode cX12_isResult 86 = .ok (.goto 4, 3) := by decide +kernel
theorem dX12_isResult_89 : decode cX12_isResult 89 = .ok (.iconst 0, 1) := by decide +kernel
theorem dX12_isResult_90 : decode cX12_isResult 90 = .ok (.ireturn, 1) := by decide +kernel
